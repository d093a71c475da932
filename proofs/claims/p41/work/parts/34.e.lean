set_option maxRecDepth 100000 in
noncomputable def Fx_W_copyK_98_15X (u : Nat → Nat → Int32) (g : Nat → Nat → Int64) : (Nat → Nat → Int32) := xq_lt (ms u 98 0 (u 15 0)) fun u1 => xq_lt (mr u1 99 (va_cpy (u1 16) (u1 99) 0 0 12)) fun u3 => xq_lt (mr u3 100 (va_cpy (u3 17) (u3 100) 0 0 12)) fun u5 => xq_lt (mr u5 101 (va_cpy (u5 18) (u5 101) 0 0 12)) fun u7 => u7
set_option maxHeartbeats 4000000 in
set_option maxRecDepth 100000 in
theorem c_W_copyK_98_15X {d : Nat} {u : Nat → Nat → Int32} {g : Nat → Nat → Int64} {ex : List MC}  (hd : 1 ≤ d) (hp0 : Bd 0 12 (u 15 0)) (hp1 : (KM u 15)) (hp2 : (KM u 98)) : CT con0 d 0 0 yX8_copy cX8_copy 2 none [.ref 98, .ref 15] (Wd u g ex) (fun r h2 => ∃ (u2 : Nat → Nat → Int32), r = none ∧ h2 = Wd u2 g ex ∧ Bd 0 12 (u2 98 0) ∧ (KM u2 98) ∧ u2 = Fx_W_copyK_98_15X u g ∧ (∀ c, nin c [(98, 101)] = true → u2 c = u c) ∧ (∀ j, j ≠ 0 → u2 98 j = u 98 j)) := by
  refine CT_of (by decide) (Nat.le_of_ble_eq_true rfl) (fun x hq => ?_)
  show J x yX8_copy cX8_copy 2 none d 0 0 (Wd u g ex).length 0 [(0, .ref 98), (1, .ref 15)] [] (Wd u g ex) 0 0
  have E : Fx_W_copyK_98_15X u g = Fx_W_copyK_98_15X u g := rfl
  refine J_aload_n (i := 0) (j := 0) dX8_copy_0 rfl rfl ?_
  refine J_aload_n (i := 1) (j := 1) dX8_copy_1 rfl rfl ?_
  refine J_get (C := RX8) (T := TX8) (Z := 4) (ci := 8) (f := 0) dX8_copy_2 inG8 rfl (by decide) k168 wc_15 rfl ?_
  obtain ⟨u1, e2⟩ : ∃ z, z = ms u 98 0 (u 15 0) := ⟨_, rfl⟩
  refine J_put (C := RX8) (T := TX8) (Z := 4) (ci := 8) (f := 0) (ty0 := tyX8) dX8_copy_5 inG8 rfl tyX8_ok nmX8 (by decide) k168 rfl rfl wc_98 (Nat.le_of_ble_eq_true rfl) (fun _ _ => ⟨rfl, rfl⟩) (ws e2 wk_98 rfl) ?_
  replace E := xq_le e2 E
  refine J_aload_n (i := 1) (j := 1) dX8_copy_8 rfl rfl ?_
  refine J_get (C := RX8) (T := TX8) (Z := 4) (ci := 8) (f := 1) dX8_copy_9 inG8 rfl (by decide) k171 wc_15 rfl ?_
  refine J_iconst (v := 0) dX8_copy_12 (by decide) ?_
  refine J_aload_n (i := 0) (j := 0) dX8_copy_13 rfl rfl ?_
  refine J_get (C := RX8) (T := TX8) (Z := 4) (ci := 8) (f := 1) dX8_copy_14 inG8 rfl (by decide) k171 wc_98 rfl ?_
  refine J_iconst (v := 0) dX8_copy_17 (by decide) ?_
  refine J_bipush (v := 12) dX8_copy_18 (by decide) ?_
  obtain ⟨u3, e4⟩ : ∃ z, z = mr u1 99 (va_cpy (u1 16) (u1 99) 0 0 12) := ⟨_, rfl⟩
  refine J_copyi (sp := 0) (dp := 0) (nn := 12) dX8_copy_20 k694 k686 k685 k104 wc_16 wc_99 (by decide) (by decide) (by decide) (by decide) (by decide) (Nat.le_trans (by decide) hd) (Nat.le_of_ble_eq_true rfl) (wsr e4 wk_99 rfl) ?_
  replace E := xq_le e4 E
  refine J_aload_n (i := 1) (j := 1) dX8_copy_23 rfl rfl ?_
  refine J_get (C := RX8) (T := TX8) (Z := 4) (ci := 8) (f := 2) dX8_copy_24 inG8 rfl (by decide) k173 wc_15 rfl ?_
  refine J_iconst (v := 0) dX8_copy_27 (by decide) ?_
  refine J_aload_n (i := 0) (j := 0) dX8_copy_28 rfl rfl ?_
  refine J_get (C := RX8) (T := TX8) (Z := 4) (ci := 8) (f := 2) dX8_copy_29 inG8 rfl (by decide) k173 wc_98 rfl ?_
  refine J_iconst (v := 0) dX8_copy_32 (by decide) ?_
  refine J_bipush (v := 12) dX8_copy_33 (by decide) ?_
  obtain ⟨u5, e6⟩ : ∃ z, z = mr u3 100 (va_cpy (u3 17) (u3 100) 0 0 12) := ⟨_, rfl⟩
  refine J_copyi (sp := 0) (dp := 0) (nn := 12) dX8_copy_35 k694 k686 k685 k104 wc_17 wc_100 (by decide) (by decide) (by decide) (by decide) (by decide) (Nat.le_trans (by decide) hd) (Nat.le_of_ble_eq_true rfl) (wsr e6 wk_100 rfl) ?_
  replace E := xq_le e6 E
  refine J_aload_n (i := 1) (j := 1) dX8_copy_38 rfl rfl ?_
  refine J_get (C := RX8) (T := TX8) (Z := 4) (ci := 8) (f := 3) dX8_copy_39 inG8 rfl (by decide) k175 wc_15 rfl ?_
  refine J_iconst (v := 0) dX8_copy_42 (by decide) ?_
  refine J_aload_n (i := 0) (j := 0) dX8_copy_43 rfl rfl ?_
  refine J_get (C := RX8) (T := TX8) (Z := 4) (ci := 8) (f := 3) dX8_copy_44 inG8 rfl (by decide) k175 wc_98 rfl ?_
  refine J_iconst (v := 0) dX8_copy_47 (by decide) ?_
  refine J_bipush (v := 12) dX8_copy_48 (by decide) ?_
  obtain ⟨u7, e8⟩ : ∃ z, z = mr u5 101 (va_cpy (u5 18) (u5 101) 0 0 12) := ⟨_, rfl⟩
  refine J_copyi (sp := 0) (dp := 0) (nn := 12) dX8_copy_50 k694 k686 k685 k104 wc_18 wc_101 (by decide) (by decide) (by decide) (by decide) (by decide) (Nat.le_trans (by decide) hd) (Nat.le_of_ble_eq_true rfl) (wsr e8 wk_101 rfl) ?_
  replace E := xq_le e8 E
  exact J_vret hq dX8_copy_53 rfl wlen (Nat.le_refl _) (Nat.le_refl _) ⟨u7, rfl, rfl, (bd_r ((congrFun (mr_c e8 (Nat.ne_of_beq_eq_false rfl)) 0).trans ((congrFun (mr_c e6 (Nat.ne_of_beq_eq_false rfl)) 0).trans ((congrFun (mr_c e4 (Nat.ne_of_beq_eq_false rfl)) 0).trans (ms_e e2)))) hp0), (km_cp (u := u) (w := 98) (f := 15) (show u7 99 = va_cpy (u 16) (u 99) 0 0 12 by rw [((mr_c e8 (Nat.ne_of_beq_eq_false rfl)).trans (mr_c e6 (Nat.ne_of_beq_eq_false rfl))), mr_a e4, (ms_c e2 (Nat.ne_of_beq_eq_false rfl)), (ms_c e2 (Nat.ne_of_beq_eq_false rfl))]) (show u7 101 = va_cpy (u 18) (u 101) 0 0 12 by rw [mr_a e8, ((mr_c e6 (Nat.ne_of_beq_eq_false rfl)).trans ((mr_c e4 (Nat.ne_of_beq_eq_false rfl)).trans (ms_c e2 (Nat.ne_of_beq_eq_false rfl)))), ((mr_c e6 (Nat.ne_of_beq_eq_false rfl)).trans ((mr_c e4 (Nat.ne_of_beq_eq_false rfl)).trans (ms_c e2 (Nat.ne_of_beq_eq_false rfl))))]) hp1 hp2), E, (fun c k_ => ((mr_c e8 (nin_ne (a := 101) k_ rfl)).trans ((mr_c e6 (nin_ne (a := 100) k_ rfl)).trans ((mr_c e4 (nin_ne (a := 99) k_ rfl)).trans (ms_c e2 (nin_ne (a := 98) k_ rfl)))))), (fun j k0_ => ((congrFun (mr_c e8 (Nat.ne_of_beq_eq_false rfl)) j).trans ((congrFun (mr_c e6 (Nat.ne_of_beq_eq_false rfl)) j).trans ((congrFun (mr_c e4 (Nat.ne_of_beq_eq_false rfl)) j).trans (ms_i e2 k0_)))))⟩
set_option maxRecDepth 100000 in
noncomputable def Fx_W_copyK_102_19X (u : Nat → Nat → Int32) (g : Nat → Nat → Int64) : (Nat → Nat → Int32) := xq_lt (ms u 102 0 (u 19 0)) fun u1 => xq_lt (mr u1 103 (va_cpy (u1 20) (u1 103) 0 0 12)) fun u3 => xq_lt (mr u3 104 (va_cpy (u3 21) (u3 104) 0 0 12)) fun u5 => xq_lt (mr u5 105 (va_cpy (u5 22) (u5 105) 0 0 12)) fun u7 => u7
set_option maxHeartbeats 4000000 in
set_option maxRecDepth 100000 in
theorem c_W_copyK_102_19X {d : Nat} {u : Nat → Nat → Int32} {g : Nat → Nat → Int64} {ex : List MC}  (hd : 1 ≤ d) (hp0 : Bd 0 12 (u 19 0)) (hp1 : (KM u 19)) (hp2 : (KM u 102)) : CT con0 d 0 0 yX8_copy cX8_copy 2 none [.ref 102, .ref 19] (Wd u g ex) (fun r h2 => ∃ (u2 : Nat → Nat → Int32), r = none ∧ h2 = Wd u2 g ex ∧ Bd 0 12 (u2 102 0) ∧ (KM u2 102) ∧ u2 = Fx_W_copyK_102_19X u g ∧ (∀ c, nin c [(102, 105)] = true → u2 c = u c) ∧ (∀ j, j ≠ 0 → u2 102 j = u 102 j)) := by
  refine CT_of (by decide) (Nat.le_of_ble_eq_true rfl) (fun x hq => ?_)
  show J x yX8_copy cX8_copy 2 none d 0 0 (Wd u g ex).length 0 [(0, .ref 102), (1, .ref 19)] [] (Wd u g ex) 0 0
  have E : Fx_W_copyK_102_19X u g = Fx_W_copyK_102_19X u g := rfl
  refine J_aload_n (i := 0) (j := 0) dX8_copy_0 rfl rfl ?_
  refine J_aload_n (i := 1) (j := 1) dX8_copy_1 rfl rfl ?_
  refine J_get (C := RX8) (T := TX8) (Z := 4) (ci := 8) (f := 0) dX8_copy_2 inG8 rfl (by decide) k168 wc_19 rfl ?_
  obtain ⟨u1, e2⟩ : ∃ z, z = ms u 102 0 (u 19 0) := ⟨_, rfl⟩
  refine J_put (C := RX8) (T := TX8) (Z := 4) (ci := 8) (f := 0) (ty0 := tyX8) dX8_copy_5 inG8 rfl tyX8_ok nmX8 (by decide) k168 rfl rfl wc_102 (Nat.le_of_ble_eq_true rfl) (fun _ _ => ⟨rfl, rfl⟩) (ws e2 wk_102 rfl) ?_
  replace E := xq_le e2 E
  refine J_aload_n (i := 1) (j := 1) dX8_copy_8 rfl rfl ?_
  refine J_get (C := RX8) (T := TX8) (Z := 4) (ci := 8) (f := 1) dX8_copy_9 inG8 rfl (by decide) k171 wc_19 rfl ?_
  refine J_iconst (v := 0) dX8_copy_12 (by decide) ?_
  refine J_aload_n (i := 0) (j := 0) dX8_copy_13 rfl rfl ?_
  refine J_get (C := RX8) (T := TX8) (Z := 4) (ci := 8) (f := 1) dX8_copy_14 inG8 rfl (by decide) k171 wc_102 rfl ?_
  refine J_iconst (v := 0) dX8_copy_17 (by decide) ?_
  refine J_bipush (v := 12) dX8_copy_18 (by decide) ?_
  obtain ⟨u3, e4⟩ : ∃ z, z = mr u1 103 (va_cpy (u1 20) (u1 103) 0 0 12) := ⟨_, rfl⟩
  refine J_copyi (sp := 0) (dp := 0) (nn := 12) dX8_copy_20 k694 k686 k685 k104 wc_20 wc_103 (by decide) (by decide) (by decide) (by decide) (by decide) (Nat.le_trans (by decide) hd) (Nat.le_of_ble_eq_true rfl) (wsr e4 wk_103 rfl) ?_
  replace E := xq_le e4 E
  refine J_aload_n (i := 1) (j := 1) dX8_copy_23 rfl rfl ?_
  refine J_get (C := RX8) (T := TX8) (Z := 4) (ci := 8) (f := 2) dX8_copy_24 inG8 rfl (by decide) k173 wc_19 rfl ?_
  refine J_iconst (v := 0) dX8_copy_27 (by decide) ?_
  refine J_aload_n (i := 0) (j := 0) dX8_copy_28 rfl rfl ?_
  refine J_get (C := RX8) (T := TX8) (Z := 4) (ci := 8) (f := 2) dX8_copy_29 inG8 rfl (by decide) k173 wc_102 rfl ?_
  refine J_iconst (v := 0) dX8_copy_32 (by decide) ?_
  refine J_bipush (v := 12) dX8_copy_33 (by decide) ?_
  obtain ⟨u5, e6⟩ : ∃ z, z = mr u3 104 (va_cpy (u3 21) (u3 104) 0 0 12) := ⟨_, rfl⟩
  refine J_copyi (sp := 0) (dp := 0) (nn := 12) dX8_copy_35 k694 k686 k685 k104 wc_21 wc_104 (by decide) (by decide) (by decide) (by decide) (by decide) (Nat.le_trans (by decide) hd) (Nat.le_of_ble_eq_true rfl) (wsr e6 wk_104 rfl) ?_
  replace E := xq_le e6 E
  refine J_aload_n (i := 1) (j := 1) dX8_copy_38 rfl rfl ?_
  refine J_get (C := RX8) (T := TX8) (Z := 4) (ci := 8) (f := 3) dX8_copy_39 inG8 rfl (by decide) k175 wc_19 rfl ?_
  refine J_iconst (v := 0) dX8_copy_42 (by decide) ?_
  refine J_aload_n (i := 0) (j := 0) dX8_copy_43 rfl rfl ?_
  refine J_get (C := RX8) (T := TX8) (Z := 4) (ci := 8) (f := 3) dX8_copy_44 inG8 rfl (by decide) k175 wc_102 rfl ?_
  refine J_iconst (v := 0) dX8_copy_47 (by decide) ?_
  refine J_bipush (v := 12) dX8_copy_48 (by decide) ?_
  obtain ⟨u7, e8⟩ : ∃ z, z = mr u5 105 (va_cpy (u5 22) (u5 105) 0 0 12) := ⟨_, rfl⟩
  refine J_copyi (sp := 0) (dp := 0) (nn := 12) dX8_copy_50 k694 k686 k685 k104 wc_22 wc_105 (by decide) (by decide) (by decide) (by decide) (by decide) (Nat.le_trans (by decide) hd) (Nat.le_of_ble_eq_true rfl) (wsr e8 wk_105 rfl) ?_
  replace E := xq_le e8 E
  exact J_vret hq dX8_copy_53 rfl wlen (Nat.le_refl _) (Nat.le_refl _) ⟨u7, rfl, rfl, (bd_r ((congrFun (mr_c e8 (Nat.ne_of_beq_eq_false rfl)) 0).trans ((congrFun (mr_c e6 (Nat.ne_of_beq_eq_false rfl)) 0).trans ((congrFun (mr_c e4 (Nat.ne_of_beq_eq_false rfl)) 0).trans (ms_e e2)))) hp0), (km_cp (u := u) (w := 102) (f := 19) (show u7 103 = va_cpy (u 20) (u 103) 0 0 12 by rw [((mr_c e8 (Nat.ne_of_beq_eq_false rfl)).trans (mr_c e6 (Nat.ne_of_beq_eq_false rfl))), mr_a e4, (ms_c e2 (Nat.ne_of_beq_eq_false rfl)), (ms_c e2 (Nat.ne_of_beq_eq_false rfl))]) (show u7 105 = va_cpy (u 22) (u 105) 0 0 12 by rw [mr_a e8, ((mr_c e6 (Nat.ne_of_beq_eq_false rfl)).trans ((mr_c e4 (Nat.ne_of_beq_eq_false rfl)).trans (ms_c e2 (Nat.ne_of_beq_eq_false rfl)))), ((mr_c e6 (Nat.ne_of_beq_eq_false rfl)).trans ((mr_c e4 (Nat.ne_of_beq_eq_false rfl)).trans (ms_c e2 (Nat.ne_of_beq_eq_false rfl))))]) hp1 hp2), E, (fun c k_ => ((mr_c e8 (nin_ne (a := 105) k_ rfl)).trans ((mr_c e6 (nin_ne (a := 104) k_ rfl)).trans ((mr_c e4 (nin_ne (a := 103) k_ rfl)).trans (ms_c e2 (nin_ne (a := 102) k_ rfl)))))), (fun j k0_ => ((congrFun (mr_c e8 (Nat.ne_of_beq_eq_false rfl)) j).trans ((congrFun (mr_c e6 (Nat.ne_of_beq_eq_false rfl)) j).trans ((congrFun (mr_c e4 (Nat.ne_of_beq_eq_false rfl)) j).trans (ms_i e2 k0_)))))⟩
set_option maxRecDepth 100000 in
noncomputable def Fx_W_copyK_106_23X (u : Nat → Nat → Int32) (g : Nat → Nat → Int64) : (Nat → Nat → Int32) := xq_lt (ms u 106 0 (u 23 0)) fun u1 => xq_lt (mr u1 107 (va_cpy (u1 24) (u1 107) 0 0 12)) fun u3 => xq_lt (mr u3 108 (va_cpy (u3 25) (u3 108) 0 0 12)) fun u5 => xq_lt (mr u5 109 (va_cpy (u5 26) (u5 109) 0 0 12)) fun u7 => u7
set_option maxHeartbeats 4000000 in
set_option maxRecDepth 100000 in
theorem c_W_copyK_106_23X {d : Nat} {u : Nat → Nat → Int32} {g : Nat → Nat → Int64} {ex : List MC}  (hd : 1 ≤ d) (hp0 : Bd 0 12 (u 23 0)) (hp1 : (KM u 23)) (hp2 : (KM u 106)) : CT con0 d 0 0 yX8_copy cX8_copy 2 none [.ref 106, .ref 23] (Wd u g ex) (fun r h2 => ∃ (u2 : Nat → Nat → Int32), r = none ∧ h2 = Wd u2 g ex ∧ Bd 0 12 (u2 106 0) ∧ (KM u2 106) ∧ u2 = Fx_W_copyK_106_23X u g ∧ (∀ c, nin c [(106, 109)] = true → u2 c = u c) ∧ (∀ j, j ≠ 0 → u2 106 j = u 106 j)) := by
  refine CT_of (by decide) (Nat.le_of_ble_eq_true rfl) (fun x hq => ?_)
  show J x yX8_copy cX8_copy 2 none d 0 0 (Wd u g ex).length 0 [(0, .ref 106), (1, .ref 23)] [] (Wd u g ex) 0 0
  have E : Fx_W_copyK_106_23X u g = Fx_W_copyK_106_23X u g := rfl
  refine J_aload_n (i := 0) (j := 0) dX8_copy_0 rfl rfl ?_
  refine J_aload_n (i := 1) (j := 1) dX8_copy_1 rfl rfl ?_
  refine J_get (C := RX8) (T := TX8) (Z := 4) (ci := 8) (f := 0) dX8_copy_2 inG8 rfl (by decide) k168 wc_23 rfl ?_
  obtain ⟨u1, e2⟩ : ∃ z, z = ms u 106 0 (u 23 0) := ⟨_, rfl⟩
  refine J_put (C := RX8) (T := TX8) (Z := 4) (ci := 8) (f := 0) (ty0 := tyX8) dX8_copy_5 inG8 rfl tyX8_ok nmX8 (by decide) k168 rfl rfl wc_106 (Nat.le_of_ble_eq_true rfl) (fun _ _ => ⟨rfl, rfl⟩) (ws e2 wk_106 rfl) ?_
  replace E := xq_le e2 E
  refine J_aload_n (i := 1) (j := 1) dX8_copy_8 rfl rfl ?_
  refine J_get (C := RX8) (T := TX8) (Z := 4) (ci := 8) (f := 1) dX8_copy_9 inG8 rfl (by decide) k171 wc_23 rfl ?_
  refine J_iconst (v := 0) dX8_copy_12 (by decide) ?_
  refine J_aload_n (i := 0) (j := 0) dX8_copy_13 rfl rfl ?_
  refine J_get (C := RX8) (T := TX8) (Z := 4) (ci := 8) (f := 1) dX8_copy_14 inG8 rfl (by decide) k171 wc_106 rfl ?_
  refine J_iconst (v := 0) dX8_copy_17 (by decide) ?_
  refine J_bipush (v := 12) dX8_copy_18 (by decide) ?_
  obtain ⟨u3, e4⟩ : ∃ z, z = mr u1 107 (va_cpy (u1 24) (u1 107) 0 0 12) := ⟨_, rfl⟩
  refine J_copyi (sp := 0) (dp := 0) (nn := 12) dX8_copy_20 k694 k686 k685 k104 wc_24 wc_107 (by decide) (by decide) (by decide) (by decide) (by decide) (Nat.le_trans (by decide) hd) (Nat.le_of_ble_eq_true rfl) (wsr e4 wk_107 rfl) ?_
  replace E := xq_le e4 E
  refine J_aload_n (i := 1) (j := 1) dX8_copy_23 rfl rfl ?_
  refine J_get (C := RX8) (T := TX8) (Z := 4) (ci := 8) (f := 2) dX8_copy_24 inG8 rfl (by decide) k173 wc_23 rfl ?_
  refine J_iconst (v := 0) dX8_copy_27 (by decide) ?_
  refine J_aload_n (i := 0) (j := 0) dX8_copy_28 rfl rfl ?_
  refine J_get (C := RX8) (T := TX8) (Z := 4) (ci := 8) (f := 2) dX8_copy_29 inG8 rfl (by decide) k173 wc_106 rfl ?_
  refine J_iconst (v := 0) dX8_copy_32 (by decide) ?_
  refine J_bipush (v := 12) dX8_copy_33 (by decide) ?_
  obtain ⟨u5, e6⟩ : ∃ z, z = mr u3 108 (va_cpy (u3 25) (u3 108) 0 0 12) := ⟨_, rfl⟩
  refine J_copyi (sp := 0) (dp := 0) (nn := 12) dX8_copy_35 k694 k686 k685 k104 wc_25 wc_108 (by decide) (by decide) (by decide) (by decide) (by decide) (Nat.le_trans (by decide) hd) (Nat.le_of_ble_eq_true rfl) (wsr e6 wk_108 rfl) ?_
  replace E := xq_le e6 E
  refine J_aload_n (i := 1) (j := 1) dX8_copy_38 rfl rfl ?_
  refine J_get (C := RX8) (T := TX8) (Z := 4) (ci := 8) (f := 3) dX8_copy_39 inG8 rfl (by decide) k175 wc_23 rfl ?_
  refine J_iconst (v := 0) dX8_copy_42 (by decide) ?_
  refine J_aload_n (i := 0) (j := 0) dX8_copy_43 rfl rfl ?_
  refine J_get (C := RX8) (T := TX8) (Z := 4) (ci := 8) (f := 3) dX8_copy_44 inG8 rfl (by decide) k175 wc_106 rfl ?_
  refine J_iconst (v := 0) dX8_copy_47 (by decide) ?_
  refine J_bipush (v := 12) dX8_copy_48 (by decide) ?_
  obtain ⟨u7, e8⟩ : ∃ z, z = mr u5 109 (va_cpy (u5 26) (u5 109) 0 0 12) := ⟨_, rfl⟩
  refine J_copyi (sp := 0) (dp := 0) (nn := 12) dX8_copy_50 k694 k686 k685 k104 wc_26 wc_109 (by decide) (by decide) (by decide) (by decide) (by decide) (Nat.le_trans (by decide) hd) (Nat.le_of_ble_eq_true rfl) (wsr e8 wk_109 rfl) ?_
  replace E := xq_le e8 E
  exact J_vret hq dX8_copy_53 rfl wlen (Nat.le_refl _) (Nat.le_refl _) ⟨u7, rfl, rfl, (bd_r ((congrFun (mr_c e8 (Nat.ne_of_beq_eq_false rfl)) 0).trans ((congrFun (mr_c e6 (Nat.ne_of_beq_eq_false rfl)) 0).trans ((congrFun (mr_c e4 (Nat.ne_of_beq_eq_false rfl)) 0).trans (ms_e e2)))) hp0), (km_cp (u := u) (w := 106) (f := 23) (show u7 107 = va_cpy (u 24) (u 107) 0 0 12 by rw [((mr_c e8 (Nat.ne_of_beq_eq_false rfl)).trans (mr_c e6 (Nat.ne_of_beq_eq_false rfl))), mr_a e4, (ms_c e2 (Nat.ne_of_beq_eq_false rfl)), (ms_c e2 (Nat.ne_of_beq_eq_false rfl))]) (show u7 109 = va_cpy (u 26) (u 109) 0 0 12 by rw [mr_a e8, ((mr_c e6 (Nat.ne_of_beq_eq_false rfl)).trans ((mr_c e4 (Nat.ne_of_beq_eq_false rfl)).trans (ms_c e2 (Nat.ne_of_beq_eq_false rfl)))), ((mr_c e6 (Nat.ne_of_beq_eq_false rfl)).trans ((mr_c e4 (Nat.ne_of_beq_eq_false rfl)).trans (ms_c e2 (Nat.ne_of_beq_eq_false rfl))))]) hp1 hp2), E, (fun c k_ => ((mr_c e8 (nin_ne (a := 109) k_ rfl)).trans ((mr_c e6 (nin_ne (a := 108) k_ rfl)).trans ((mr_c e4 (nin_ne (a := 107) k_ rfl)).trans (ms_c e2 (nin_ne (a := 106) k_ rfl)))))), (fun j k0_ => ((congrFun (mr_c e8 (Nat.ne_of_beq_eq_false rfl)) j).trans ((congrFun (mr_c e6 (Nat.ne_of_beq_eq_false rfl)) j).trans ((congrFun (mr_c e4 (Nat.ne_of_beq_eq_false rfl)) j).trans (ms_i e2 k0_)))))⟩
set_option maxRecDepth 100000 in
noncomputable def Fx_W_copyK_124_15X (u : Nat → Nat → Int32) (g : Nat → Nat → Int64) : (Nat → Nat → Int32) := xq_lt (ms u 124 0 (u 15 0)) fun u1 => xq_lt (mr u1 125 (va_cpy (u1 16) (u1 125) 0 0 12)) fun u3 => xq_lt (mr u3 126 (va_cpy (u3 17) (u3 126) 0 0 12)) fun u5 => xq_lt (mr u5 127 (va_cpy (u5 18) (u5 127) 0 0 12)) fun u7 => u7
set_option maxHeartbeats 4000000 in
set_option maxRecDepth 100000 in
theorem c_W_copyK_124_15X {d : Nat} {u : Nat → Nat → Int32} {g : Nat → Nat → Int64} {ex : List MC}  (hd : 1 ≤ d) (hp0 : Bd 0 12 (u 15 0)) (hp1 : (KM u 15)) (hp2 : (KM u 124)) : CT con0 d 0 0 yX8_copy cX8_copy 2 none [.ref 124, .ref 15] (Wd u g ex) (fun r h2 => ∃ (u2 : Nat → Nat → Int32), r = none ∧ h2 = Wd u2 g ex ∧ Bd 0 12 (u2 124 0) ∧ (KM u2 124) ∧ u2 = Fx_W_copyK_124_15X u g ∧ (∀ c, nin c [(124, 127)] = true → u2 c = u c) ∧ (∀ j, j ≠ 0 → u2 124 j = u 124 j)) := by
  refine CT_of (by decide) (Nat.le_of_ble_eq_true rfl) (fun x hq => ?_)
  show J x yX8_copy cX8_copy 2 none d 0 0 (Wd u g ex).length 0 [(0, .ref 124), (1, .ref 15)] [] (Wd u g ex) 0 0
  have E : Fx_W_copyK_124_15X u g = Fx_W_copyK_124_15X u g := rfl
  refine J_aload_n (i := 0) (j := 0) dX8_copy_0 rfl rfl ?_
  refine J_aload_n (i := 1) (j := 1) dX8_copy_1 rfl rfl ?_
  refine J_get (C := RX8) (T := TX8) (Z := 4) (ci := 8) (f := 0) dX8_copy_2 inG8 rfl (by decide) k168 wc_15 rfl ?_
  obtain ⟨u1, e2⟩ : ∃ z, z = ms u 124 0 (u 15 0) := ⟨_, rfl⟩
  refine J_put (C := RX8) (T := TX8) (Z := 4) (ci := 8) (f := 0) (ty0 := tyX8) dX8_copy_5 inG8 rfl tyX8_ok nmX8 (by decide) k168 rfl rfl wc_124 (Nat.le_of_ble_eq_true rfl) (fun _ _ => ⟨rfl, rfl⟩) (ws e2 wk_124 rfl) ?_
  replace E := xq_le e2 E
  refine J_aload_n (i := 1) (j := 1) dX8_copy_8 rfl rfl ?_
  refine J_get (C := RX8) (T := TX8) (Z := 4) (ci := 8) (f := 1) dX8_copy_9 inG8 rfl (by decide) k171 wc_15 rfl ?_
  refine J_iconst (v := 0) dX8_copy_12 (by decide) ?_
  refine J_aload_n (i := 0) (j := 0) dX8_copy_13 rfl rfl ?_
  refine J_get (C := RX8) (T := TX8) (Z := 4) (ci := 8) (f := 1) dX8_copy_14 inG8 rfl (by decide) k171 wc_124 rfl ?_
  refine J_iconst (v := 0) dX8_copy_17 (by decide) ?_
  refine J_bipush (v := 12) dX8_copy_18 (by decide) ?_
  obtain ⟨u3, e4⟩ : ∃ z, z = mr u1 125 (va_cpy (u1 16) (u1 125) 0 0 12) := ⟨_, rfl⟩
  refine J_copyi (sp := 0) (dp := 0) (nn := 12) dX8_copy_20 k694 k686 k685 k104 wc_16 wc_125 (by decide) (by decide) (by decide) (by decide) (by decide) (Nat.le_trans (by decide) hd) (Nat.le_of_ble_eq_true rfl) (wsr e4 wk_125 rfl) ?_
  replace E := xq_le e4 E
  refine J_aload_n (i := 1) (j := 1) dX8_copy_23 rfl rfl ?_
  refine J_get (C := RX8) (T := TX8) (Z := 4) (ci := 8) (f := 2) dX8_copy_24 inG8 rfl (by decide) k173 wc_15 rfl ?_
  refine J_iconst (v := 0) dX8_copy_27 (by decide) ?_
  refine J_aload_n (i := 0) (j := 0) dX8_copy_28 rfl rfl ?_
  refine J_get (C := RX8) (T := TX8) (Z := 4) (ci := 8) (f := 2) dX8_copy_29 inG8 rfl (by decide) k173 wc_124 rfl ?_
  refine J_iconst (v := 0) dX8_copy_32 (by decide) ?_
  refine J_bipush (v := 12) dX8_copy_33 (by decide) ?_
  obtain ⟨u5, e6⟩ : ∃ z, z = mr u3 126 (va_cpy (u3 17) (u3 126) 0 0 12) := ⟨_, rfl⟩
  refine J_copyi (sp := 0) (dp := 0) (nn := 12) dX8_copy_35 k694 k686 k685 k104 wc_17 wc_126 (by decide) (by decide) (by decide) (by decide) (by decide) (Nat.le_trans (by decide) hd) (Nat.le_of_ble_eq_true rfl) (wsr e6 wk_126 rfl) ?_
  replace E := xq_le e6 E
  refine J_aload_n (i := 1) (j := 1) dX8_copy_38 rfl rfl ?_
  refine J_get (C := RX8) (T := TX8) (Z := 4) (ci := 8) (f := 3) dX8_copy_39 inG8 rfl (by decide) k175 wc_15 rfl ?_
  refine J_iconst (v := 0) dX8_copy_42 (by decide) ?_
  refine J_aload_n (i := 0) (j := 0) dX8_copy_43 rfl rfl ?_
  refine J_get (C := RX8) (T := TX8) (Z := 4) (ci := 8) (f := 3) dX8_copy_44 inG8 rfl (by decide) k175 wc_124 rfl ?_
  refine J_iconst (v := 0) dX8_copy_47 (by decide) ?_
  refine J_bipush (v := 12) dX8_copy_48 (by decide) ?_
  obtain ⟨u7, e8⟩ : ∃ z, z = mr u5 127 (va_cpy (u5 18) (u5 127) 0 0 12) := ⟨_, rfl⟩
  refine J_copyi (sp := 0) (dp := 0) (nn := 12) dX8_copy_50 k694 k686 k685 k104 wc_18 wc_127 (by decide) (by decide) (by decide) (by decide) (by decide) (Nat.le_trans (by decide) hd) (Nat.le_of_ble_eq_true rfl) (wsr e8 wk_127 rfl) ?_
  replace E := xq_le e8 E
  exact J_vret hq dX8_copy_53 rfl wlen (Nat.le_refl _) (Nat.le_refl _) ⟨u7, rfl, rfl, (bd_r ((congrFun (mr_c e8 (Nat.ne_of_beq_eq_false rfl)) 0).trans ((congrFun (mr_c e6 (Nat.ne_of_beq_eq_false rfl)) 0).trans ((congrFun (mr_c e4 (Nat.ne_of_beq_eq_false rfl)) 0).trans (ms_e e2)))) hp0), (km_cp (u := u) (w := 124) (f := 15) (show u7 125 = va_cpy (u 16) (u 125) 0 0 12 by rw [((mr_c e8 (Nat.ne_of_beq_eq_false rfl)).trans (mr_c e6 (Nat.ne_of_beq_eq_false rfl))), mr_a e4, (ms_c e2 (Nat.ne_of_beq_eq_false rfl)), (ms_c e2 (Nat.ne_of_beq_eq_false rfl))]) (show u7 127 = va_cpy (u 18) (u 127) 0 0 12 by rw [mr_a e8, ((mr_c e6 (Nat.ne_of_beq_eq_false rfl)).trans ((mr_c e4 (Nat.ne_of_beq_eq_false rfl)).trans (ms_c e2 (Nat.ne_of_beq_eq_false rfl)))), ((mr_c e6 (Nat.ne_of_beq_eq_false rfl)).trans ((mr_c e4 (Nat.ne_of_beq_eq_false rfl)).trans (ms_c e2 (Nat.ne_of_beq_eq_false rfl))))]) hp1 hp2), E, (fun c k_ => ((mr_c e8 (nin_ne (a := 127) k_ rfl)).trans ((mr_c e6 (nin_ne (a := 126) k_ rfl)).trans ((mr_c e4 (nin_ne (a := 125) k_ rfl)).trans (ms_c e2 (nin_ne (a := 124) k_ rfl)))))), (fun j k0_ => ((congrFun (mr_c e8 (Nat.ne_of_beq_eq_false rfl)) j).trans ((congrFun (mr_c e6 (Nat.ne_of_beq_eq_false rfl)) j).trans ((congrFun (mr_c e4 (Nat.ne_of_beq_eq_false rfl)) j).trans (ms_i e2 k0_)))))⟩
set_option maxRecDepth 100000 in
noncomputable def Fx_W_copyK_128_19X (u : Nat → Nat → Int32) (g : Nat → Nat → Int64) : (Nat → Nat → Int32) := xq_lt (ms u 128 0 (u 19 0)) fun u1 => xq_lt (mr u1 129 (va_cpy (u1 20) (u1 129) 0 0 12)) fun u3 => xq_lt (mr u3 130 (va_cpy (u3 21) (u3 130) 0 0 12)) fun u5 => xq_lt (mr u5 131 (va_cpy (u5 22) (u5 131) 0 0 12)) fun u7 => u7
set_option maxHeartbeats 4000000 in
set_option maxRecDepth 100000 in
theorem c_W_copyK_128_19X {d : Nat} {u : Nat → Nat → Int32} {g : Nat → Nat → Int64} {ex : List MC}  (hd : 1 ≤ d) (hp0 : Bd 0 12 (u 19 0)) (hp1 : (KM u 19)) (hp2 : (KM u 128)) : CT con0 d 0 0 yX8_copy cX8_copy 2 none [.ref 128, .ref 19] (Wd u g ex) (fun r h2 => ∃ (u2 : Nat → Nat → Int32), r = none ∧ h2 = Wd u2 g ex ∧ Bd 0 12 (u2 128 0) ∧ (KM u2 128) ∧ u2 = Fx_W_copyK_128_19X u g ∧ (∀ c, nin c [(128, 131)] = true → u2 c = u c) ∧ (∀ j, j ≠ 0 → u2 128 j = u 128 j)) := by
  refine CT_of (by decide) (Nat.le_of_ble_eq_true rfl) (fun x hq => ?_)
  show J x yX8_copy cX8_copy 2 none d 0 0 (Wd u g ex).length 0 [(0, .ref 128), (1, .ref 19)] [] (Wd u g ex) 0 0
  have E : Fx_W_copyK_128_19X u g = Fx_W_copyK_128_19X u g := rfl
  refine J_aload_n (i := 0) (j := 0) dX8_copy_0 rfl rfl ?_
  refine J_aload_n (i := 1) (j := 1) dX8_copy_1 rfl rfl ?_
  refine J_get (C := RX8) (T := TX8) (Z := 4) (ci := 8) (f := 0) dX8_copy_2 inG8 rfl (by decide) k168 wc_19 rfl ?_
  obtain ⟨u1, e2⟩ : ∃ z, z = ms u 128 0 (u 19 0) := ⟨_, rfl⟩
  refine J_put (C := RX8) (T := TX8) (Z := 4) (ci := 8) (f := 0) (ty0 := tyX8) dX8_copy_5 inG8 rfl tyX8_ok nmX8 (by decide) k168 rfl rfl wc_128 (Nat.le_of_ble_eq_true rfl) (fun _ _ => ⟨rfl, rfl⟩) (ws e2 wk_128 rfl) ?_
  replace E := xq_le e2 E
  refine J_aload_n (i := 1) (j := 1) dX8_copy_8 rfl rfl ?_
  refine J_get (C := RX8) (T := TX8) (Z := 4) (ci := 8) (f := 1) dX8_copy_9 inG8 rfl (by decide) k171 wc_19 rfl ?_
  refine J_iconst (v := 0) dX8_copy_12 (by decide) ?_
  refine J_aload_n (i := 0) (j := 0) dX8_copy_13 rfl rfl ?_
  refine J_get (C := RX8) (T := TX8) (Z := 4) (ci := 8) (f := 1) dX8_copy_14 inG8 rfl (by decide) k171 wc_128 rfl ?_
  refine J_iconst (v := 0) dX8_copy_17 (by decide) ?_
  refine J_bipush (v := 12) dX8_copy_18 (by decide) ?_
  obtain ⟨u3, e4⟩ : ∃ z, z = mr u1 129 (va_cpy (u1 20) (u1 129) 0 0 12) := ⟨_, rfl⟩
  refine J_copyi (sp := 0) (dp := 0) (nn := 12) dX8_copy_20 k694 k686 k685 k104 wc_20 wc_129 (by decide) (by decide) (by decide) (by decide) (by decide) (Nat.le_trans (by decide) hd) (Nat.le_of_ble_eq_true rfl) (wsr e4 wk_129 rfl) ?_
  replace E := xq_le e4 E
  refine J_aload_n (i := 1) (j := 1) dX8_copy_23 rfl rfl ?_
  refine J_get (C := RX8) (T := TX8) (Z := 4) (ci := 8) (f := 2) dX8_copy_24 inG8 rfl (by decide) k173 wc_19 rfl ?_
  refine J_iconst (v := 0) dX8_copy_27 (by decide) ?_
  refine J_aload_n (i := 0) (j := 0) dX8_copy_28 rfl rfl ?_
  refine J_get (C := RX8) (T := TX8) (Z := 4) (ci := 8) (f := 2) dX8_copy_29 inG8 rfl (by decide) k173 wc_128 rfl ?_
  refine J_iconst (v := 0) dX8_copy_32 (by decide) ?_
  refine J_bipush (v := 12) dX8_copy_33 (by decide) ?_
  obtain ⟨u5, e6⟩ : ∃ z, z = mr u3 130 (va_cpy (u3 21) (u3 130) 0 0 12) := ⟨_, rfl⟩
  refine J_copyi (sp := 0) (dp := 0) (nn := 12) dX8_copy_35 k694 k686 k685 k104 wc_21 wc_130 (by decide) (by decide) (by decide) (by decide) (by decide) (Nat.le_trans (by decide) hd) (Nat.le_of_ble_eq_true rfl) (wsr e6 wk_130 rfl) ?_
  replace E := xq_le e6 E
  refine J_aload_n (i := 1) (j := 1) dX8_copy_38 rfl rfl ?_
  refine J_get (C := RX8) (T := TX8) (Z := 4) (ci := 8) (f := 3) dX8_copy_39 inG8 rfl (by decide) k175 wc_19 rfl ?_
  refine J_iconst (v := 0) dX8_copy_42 (by decide) ?_
  refine J_aload_n (i := 0) (j := 0) dX8_copy_43 rfl rfl ?_
  refine J_get (C := RX8) (T := TX8) (Z := 4) (ci := 8) (f := 3) dX8_copy_44 inG8 rfl (by decide) k175 wc_128 rfl ?_
  refine J_iconst (v := 0) dX8_copy_47 (by decide) ?_
  refine J_bipush (v := 12) dX8_copy_48 (by decide) ?_
  obtain ⟨u7, e8⟩ : ∃ z, z = mr u5 131 (va_cpy (u5 22) (u5 131) 0 0 12) := ⟨_, rfl⟩
  refine J_copyi (sp := 0) (dp := 0) (nn := 12) dX8_copy_50 k694 k686 k685 k104 wc_22 wc_131 (by decide) (by decide) (by decide) (by decide) (by decide) (Nat.le_trans (by decide) hd) (Nat.le_of_ble_eq_true rfl) (wsr e8 wk_131 rfl) ?_
  replace E := xq_le e8 E
  exact J_vret hq dX8_copy_53 rfl wlen (Nat.le_refl _) (Nat.le_refl _) ⟨u7, rfl, rfl, (bd_r ((congrFun (mr_c e8 (Nat.ne_of_beq_eq_false rfl)) 0).trans ((congrFun (mr_c e6 (Nat.ne_of_beq_eq_false rfl)) 0).trans ((congrFun (mr_c e4 (Nat.ne_of_beq_eq_false rfl)) 0).trans (ms_e e2)))) hp0), (km_cp (u := u) (w := 128) (f := 19) (show u7 129 = va_cpy (u 20) (u 129) 0 0 12 by rw [((mr_c e8 (Nat.ne_of_beq_eq_false rfl)).trans (mr_c e6 (Nat.ne_of_beq_eq_false rfl))), mr_a e4, (ms_c e2 (Nat.ne_of_beq_eq_false rfl)), (ms_c e2 (Nat.ne_of_beq_eq_false rfl))]) (show u7 131 = va_cpy (u 22) (u 131) 0 0 12 by rw [mr_a e8, ((mr_c e6 (Nat.ne_of_beq_eq_false rfl)).trans ((mr_c e4 (Nat.ne_of_beq_eq_false rfl)).trans (ms_c e2 (Nat.ne_of_beq_eq_false rfl)))), ((mr_c e6 (Nat.ne_of_beq_eq_false rfl)).trans ((mr_c e4 (Nat.ne_of_beq_eq_false rfl)).trans (ms_c e2 (Nat.ne_of_beq_eq_false rfl))))]) hp1 hp2), E, (fun c k_ => ((mr_c e8 (nin_ne (a := 131) k_ rfl)).trans ((mr_c e6 (nin_ne (a := 130) k_ rfl)).trans ((mr_c e4 (nin_ne (a := 129) k_ rfl)).trans (ms_c e2 (nin_ne (a := 128) k_ rfl)))))), (fun j k0_ => ((congrFun (mr_c e8 (Nat.ne_of_beq_eq_false rfl)) j).trans ((congrFun (mr_c e6 (Nat.ne_of_beq_eq_false rfl)) j).trans ((congrFun (mr_c e4 (Nat.ne_of_beq_eq_false rfl)) j).trans (ms_i e2 k0_)))))⟩
set_option maxRecDepth 100000 in
noncomputable def Fx_W_copyK_132_23X (u : Nat → Nat → Int32) (g : Nat → Nat → Int64) : (Nat → Nat → Int32) := xq_lt (ms u 132 0 (u 23 0)) fun u1 => xq_lt (mr u1 133 (va_cpy (u1 24) (u1 133) 0 0 12)) fun u3 => xq_lt (mr u3 134 (va_cpy (u3 25) (u3 134) 0 0 12)) fun u5 => xq_lt (mr u5 135 (va_cpy (u5 26) (u5 135) 0 0 12)) fun u7 => u7
set_option maxHeartbeats 4000000 in
set_option maxRecDepth 100000 in
theorem c_W_copyK_132_23X {d : Nat} {u : Nat → Nat → Int32} {g : Nat → Nat → Int64} {ex : List MC}  (hd : 1 ≤ d) (hp0 : Bd 0 12 (u 23 0)) (hp1 : (KM u 23)) (hp2 : (KM u 132)) : CT con0 d 0 0 yX8_copy cX8_copy 2 none [.ref 132, .ref 23] (Wd u g ex) (fun r h2 => ∃ (u2 : Nat → Nat → Int32), r = none ∧ h2 = Wd u2 g ex ∧ Bd 0 12 (u2 132 0) ∧ (KM u2 132) ∧ u2 = Fx_W_copyK_132_23X u g ∧ (∀ c, nin c [(132, 135)] = true → u2 c = u c) ∧ (∀ j, j ≠ 0 → u2 132 j = u 132 j)) := by
  refine CT_of (by decide) (Nat.le_of_ble_eq_true rfl) (fun x hq => ?_)
  show J x yX8_copy cX8_copy 2 none d 0 0 (Wd u g ex).length 0 [(0, .ref 132), (1, .ref 23)] [] (Wd u g ex) 0 0
  have E : Fx_W_copyK_132_23X u g = Fx_W_copyK_132_23X u g := rfl
  refine J_aload_n (i := 0) (j := 0) dX8_copy_0 rfl rfl ?_
  refine J_aload_n (i := 1) (j := 1) dX8_copy_1 rfl rfl ?_
  refine J_get (C := RX8) (T := TX8) (Z := 4) (ci := 8) (f := 0) dX8_copy_2 inG8 rfl (by decide) k168 wc_23 rfl ?_
  obtain ⟨u1, e2⟩ : ∃ z, z = ms u 132 0 (u 23 0) := ⟨_, rfl⟩
  refine J_put (C := RX8) (T := TX8) (Z := 4) (ci := 8) (f := 0) (ty0 := tyX8) dX8_copy_5 inG8 rfl tyX8_ok nmX8 (by decide) k168 rfl rfl wc_132 (Nat.le_of_ble_eq_true rfl) (fun _ _ => ⟨rfl, rfl⟩) (ws e2 wk_132 rfl) ?_
  replace E := xq_le e2 E
  refine J_aload_n (i := 1) (j := 1) dX8_copy_8 rfl rfl ?_
  refine J_get (C := RX8) (T := TX8) (Z := 4) (ci := 8) (f := 1) dX8_copy_9 inG8 rfl (by decide) k171 wc_23 rfl ?_
  refine J_iconst (v := 0) dX8_copy_12 (by decide) ?_
  refine J_aload_n (i := 0) (j := 0) dX8_copy_13 rfl rfl ?_
  refine J_get (C := RX8) (T := TX8) (Z := 4) (ci := 8) (f := 1) dX8_copy_14 inG8 rfl (by decide) k171 wc_132 rfl ?_
  refine J_iconst (v := 0) dX8_copy_17 (by decide) ?_
  refine J_bipush (v := 12) dX8_copy_18 (by decide) ?_
  obtain ⟨u3, e4⟩ : ∃ z, z = mr u1 133 (va_cpy (u1 24) (u1 133) 0 0 12) := ⟨_, rfl⟩
  refine J_copyi (sp := 0) (dp := 0) (nn := 12) dX8_copy_20 k694 k686 k685 k104 wc_24 wc_133 (by decide) (by decide) (by decide) (by decide) (by decide) (Nat.le_trans (by decide) hd) (Nat.le_of_ble_eq_true rfl) (wsr e4 wk_133 rfl) ?_
  replace E := xq_le e4 E
  refine J_aload_n (i := 1) (j := 1) dX8_copy_23 rfl rfl ?_
  refine J_get (C := RX8) (T := TX8) (Z := 4) (ci := 8) (f := 2) dX8_copy_24 inG8 rfl (by decide) k173 wc_23 rfl ?_
  refine J_iconst (v := 0) dX8_copy_27 (by decide) ?_
  refine J_aload_n (i := 0) (j := 0) dX8_copy_28 rfl rfl ?_
  refine J_get (C := RX8) (T := TX8) (Z := 4) (ci := 8) (f := 2) dX8_copy_29 inG8 rfl (by decide) k173 wc_132 rfl ?_
  refine J_iconst (v := 0) dX8_copy_32 (by decide) ?_
  refine J_bipush (v := 12) dX8_copy_33 (by decide) ?_
  obtain ⟨u5, e6⟩ : ∃ z, z = mr u3 134 (va_cpy (u3 25) (u3 134) 0 0 12) := ⟨_, rfl⟩
  refine J_copyi (sp := 0) (dp := 0) (nn := 12) dX8_copy_35 k694 k686 k685 k104 wc_25 wc_134 (by decide) (by decide) (by decide) (by decide) (by decide) (Nat.le_trans (by decide) hd) (Nat.le_of_ble_eq_true rfl) (wsr e6 wk_134 rfl) ?_
  replace E := xq_le e6 E
  refine J_aload_n (i := 1) (j := 1) dX8_copy_38 rfl rfl ?_
  refine J_get (C := RX8) (T := TX8) (Z := 4) (ci := 8) (f := 3) dX8_copy_39 inG8 rfl (by decide) k175 wc_23 rfl ?_
  refine J_iconst (v := 0) dX8_copy_42 (by decide) ?_
  refine J_aload_n (i := 0) (j := 0) dX8_copy_43 rfl rfl ?_
  refine J_get (C := RX8) (T := TX8) (Z := 4) (ci := 8) (f := 3) dX8_copy_44 inG8 rfl (by decide) k175 wc_132 rfl ?_
  refine J_iconst (v := 0) dX8_copy_47 (by decide) ?_
  refine J_bipush (v := 12) dX8_copy_48 (by decide) ?_
  obtain ⟨u7, e8⟩ : ∃ z, z = mr u5 135 (va_cpy (u5 26) (u5 135) 0 0 12) := ⟨_, rfl⟩
  refine J_copyi (sp := 0) (dp := 0) (nn := 12) dX8_copy_50 k694 k686 k685 k104 wc_26 wc_135 (by decide) (by decide) (by decide) (by decide) (by decide) (Nat.le_trans (by decide) hd) (Nat.le_of_ble_eq_true rfl) (wsr e8 wk_135 rfl) ?_
  replace E := xq_le e8 E
  exact J_vret hq dX8_copy_53 rfl wlen (Nat.le_refl _) (Nat.le_refl _) ⟨u7, rfl, rfl, (bd_r ((congrFun (mr_c e8 (Nat.ne_of_beq_eq_false rfl)) 0).trans ((congrFun (mr_c e6 (Nat.ne_of_beq_eq_false rfl)) 0).trans ((congrFun (mr_c e4 (Nat.ne_of_beq_eq_false rfl)) 0).trans (ms_e e2)))) hp0), (km_cp (u := u) (w := 132) (f := 23) (show u7 133 = va_cpy (u 24) (u 133) 0 0 12 by rw [((mr_c e8 (Nat.ne_of_beq_eq_false rfl)).trans (mr_c e6 (Nat.ne_of_beq_eq_false rfl))), mr_a e4, (ms_c e2 (Nat.ne_of_beq_eq_false rfl)), (ms_c e2 (Nat.ne_of_beq_eq_false rfl))]) (show u7 135 = va_cpy (u 26) (u 135) 0 0 12 by rw [mr_a e8, ((mr_c e6 (Nat.ne_of_beq_eq_false rfl)).trans ((mr_c e4 (Nat.ne_of_beq_eq_false rfl)).trans (ms_c e2 (Nat.ne_of_beq_eq_false rfl)))), ((mr_c e6 (Nat.ne_of_beq_eq_false rfl)).trans ((mr_c e4 (Nat.ne_of_beq_eq_false rfl)).trans (ms_c e2 (Nat.ne_of_beq_eq_false rfl))))]) hp1 hp2), E, (fun c k_ => ((mr_c e8 (nin_ne (a := 135) k_ rfl)).trans ((mr_c e6 (nin_ne (a := 134) k_ rfl)).trans ((mr_c e4 (nin_ne (a := 133) k_ rfl)).trans (ms_c e2 (nin_ne (a := 132) k_ rfl)))))), (fun j k0_ => ((congrFun (mr_c e8 (Nat.ne_of_beq_eq_false rfl)) j).trans ((congrFun (mr_c e6 (Nat.ne_of_beq_eq_false rfl)) j).trans ((congrFun (mr_c e4 (Nat.ne_of_beq_eq_false rfl)) j).trans (ms_i e2 k0_)))))⟩
set_option maxRecDepth 100000 in
noncomputable def Fx_W_copyK_150_15X (u : Nat → Nat → Int32) (g : Nat → Nat → Int64) : (Nat → Nat → Int32) := xq_lt (ms u 150 0 (u 15 0)) fun u1 => xq_lt (mr u1 151 (va_cpy (u1 16) (u1 151) 0 0 12)) fun u3 => xq_lt (mr u3 152 (va_cpy (u3 17) (u3 152) 0 0 12)) fun u5 => xq_lt (mr u5 153 (va_cpy (u5 18) (u5 153) 0 0 12)) fun u7 => u7
set_option maxHeartbeats 4000000 in
set_option maxRecDepth 100000 in
theorem c_W_copyK_150_15X {d : Nat} {u : Nat → Nat → Int32} {g : Nat → Nat → Int64} {ex : List MC}  (hd : 1 ≤ d) (hp0 : Bd 0 12 (u 15 0)) (hp1 : (KM u 15)) (hp2 : (KM u 150)) : CT con0 d 0 0 yX8_copy cX8_copy 2 none [.ref 150, .ref 15] (Wd u g ex) (fun r h2 => ∃ (u2 : Nat → Nat → Int32), r = none ∧ h2 = Wd u2 g ex ∧ Bd 0 12 (u2 150 0) ∧ (KM u2 150) ∧ u2 = Fx_W_copyK_150_15X u g ∧ (∀ c, nin c [(150, 153)] = true → u2 c = u c) ∧ (∀ j, j ≠ 0 → u2 150 j = u 150 j)) := by
  refine CT_of (by decide) (Nat.le_of_ble_eq_true rfl) (fun x hq => ?_)
  show J x yX8_copy cX8_copy 2 none d 0 0 (Wd u g ex).length 0 [(0, .ref 150), (1, .ref 15)] [] (Wd u g ex) 0 0
  have E : Fx_W_copyK_150_15X u g = Fx_W_copyK_150_15X u g := rfl
  refine J_aload_n (i := 0) (j := 0) dX8_copy_0 rfl rfl ?_
  refine J_aload_n (i := 1) (j := 1) dX8_copy_1 rfl rfl ?_
  refine J_get (C := RX8) (T := TX8) (Z := 4) (ci := 8) (f := 0) dX8_copy_2 inG8 rfl (by decide) k168 wc_15 rfl ?_
  obtain ⟨u1, e2⟩ : ∃ z, z = ms u 150 0 (u 15 0) := ⟨_, rfl⟩
  refine J_put (C := RX8) (T := TX8) (Z := 4) (ci := 8) (f := 0) (ty0 := tyX8) dX8_copy_5 inG8 rfl tyX8_ok nmX8 (by decide) k168 rfl rfl wc_150 (Nat.le_of_ble_eq_true rfl) (fun _ _ => ⟨rfl, rfl⟩) (ws e2 wk_150 rfl) ?_
  replace E := xq_le e2 E
  refine J_aload_n (i := 1) (j := 1) dX8_copy_8 rfl rfl ?_
  refine J_get (C := RX8) (T := TX8) (Z := 4) (ci := 8) (f := 1) dX8_copy_9 inG8 rfl (by decide) k171 wc_15 rfl ?_
  refine J_iconst (v := 0) dX8_copy_12 (by decide) ?_
  refine J_aload_n (i := 0) (j := 0) dX8_copy_13 rfl rfl ?_
  refine J_get (C := RX8) (T := TX8) (Z := 4) (ci := 8) (f := 1) dX8_copy_14 inG8 rfl (by decide) k171 wc_150 rfl ?_
  refine J_iconst (v := 0) dX8_copy_17 (by decide) ?_
  refine J_bipush (v := 12) dX8_copy_18 (by decide) ?_
  obtain ⟨u3, e4⟩ : ∃ z, z = mr u1 151 (va_cpy (u1 16) (u1 151) 0 0 12) := ⟨_, rfl⟩
  refine J_copyi (sp := 0) (dp := 0) (nn := 12) dX8_copy_20 k694 k686 k685 k104 wc_16 wc_151 (by decide) (by decide) (by decide) (by decide) (by decide) (Nat.le_trans (by decide) hd) (Nat.le_of_ble_eq_true rfl) (wsr e4 wk_151 rfl) ?_
  replace E := xq_le e4 E
  refine J_aload_n (i := 1) (j := 1) dX8_copy_23 rfl rfl ?_
  refine J_get (C := RX8) (T := TX8) (Z := 4) (ci := 8) (f := 2) dX8_copy_24 inG8 rfl (by decide) k173 wc_15 rfl ?_
  refine J_iconst (v := 0) dX8_copy_27 (by decide) ?_
  refine J_aload_n (i := 0) (j := 0) dX8_copy_28 rfl rfl ?_
  refine J_get (C := RX8) (T := TX8) (Z := 4) (ci := 8) (f := 2) dX8_copy_29 inG8 rfl (by decide) k173 wc_150 rfl ?_
  refine J_iconst (v := 0) dX8_copy_32 (by decide) ?_
  refine J_bipush (v := 12) dX8_copy_33 (by decide) ?_
  obtain ⟨u5, e6⟩ : ∃ z, z = mr u3 152 (va_cpy (u3 17) (u3 152) 0 0 12) := ⟨_, rfl⟩
  refine J_copyi (sp := 0) (dp := 0) (nn := 12) dX8_copy_35 k694 k686 k685 k104 wc_17 wc_152 (by decide) (by decide) (by decide) (by decide) (by decide) (Nat.le_trans (by decide) hd) (Nat.le_of_ble_eq_true rfl) (wsr e6 wk_152 rfl) ?_
  replace E := xq_le e6 E
  refine J_aload_n (i := 1) (j := 1) dX8_copy_38 rfl rfl ?_
  refine J_get (C := RX8) (T := TX8) (Z := 4) (ci := 8) (f := 3) dX8_copy_39 inG8 rfl (by decide) k175 wc_15 rfl ?_
  refine J_iconst (v := 0) dX8_copy_42 (by decide) ?_
  refine J_aload_n (i := 0) (j := 0) dX8_copy_43 rfl rfl ?_
  refine J_get (C := RX8) (T := TX8) (Z := 4) (ci := 8) (f := 3) dX8_copy_44 inG8 rfl (by decide) k175 wc_150 rfl ?_
  refine J_iconst (v := 0) dX8_copy_47 (by decide) ?_
  refine J_bipush (v := 12) dX8_copy_48 (by decide) ?_
  obtain ⟨u7, e8⟩ : ∃ z, z = mr u5 153 (va_cpy (u5 18) (u5 153) 0 0 12) := ⟨_, rfl⟩
  refine J_copyi (sp := 0) (dp := 0) (nn := 12) dX8_copy_50 k694 k686 k685 k104 wc_18 wc_153 (by decide) (by decide) (by decide) (by decide) (by decide) (Nat.le_trans (by decide) hd) (Nat.le_of_ble_eq_true rfl) (wsr e8 wk_153 rfl) ?_
  replace E := xq_le e8 E
  exact J_vret hq dX8_copy_53 rfl wlen (Nat.le_refl _) (Nat.le_refl _) ⟨u7, rfl, rfl, (bd_r ((congrFun (mr_c e8 (Nat.ne_of_beq_eq_false rfl)) 0).trans ((congrFun (mr_c e6 (Nat.ne_of_beq_eq_false rfl)) 0).trans ((congrFun (mr_c e4 (Nat.ne_of_beq_eq_false rfl)) 0).trans (ms_e e2)))) hp0), (km_cp (u := u) (w := 150) (f := 15) (show u7 151 = va_cpy (u 16) (u 151) 0 0 12 by rw [((mr_c e8 (Nat.ne_of_beq_eq_false rfl)).trans (mr_c e6 (Nat.ne_of_beq_eq_false rfl))), mr_a e4, (ms_c e2 (Nat.ne_of_beq_eq_false rfl)), (ms_c e2 (Nat.ne_of_beq_eq_false rfl))]) (show u7 153 = va_cpy (u 18) (u 153) 0 0 12 by rw [mr_a e8, ((mr_c e6 (Nat.ne_of_beq_eq_false rfl)).trans ((mr_c e4 (Nat.ne_of_beq_eq_false rfl)).trans (ms_c e2 (Nat.ne_of_beq_eq_false rfl)))), ((mr_c e6 (Nat.ne_of_beq_eq_false rfl)).trans ((mr_c e4 (Nat.ne_of_beq_eq_false rfl)).trans (ms_c e2 (Nat.ne_of_beq_eq_false rfl))))]) hp1 hp2), E, (fun c k_ => ((mr_c e8 (nin_ne (a := 153) k_ rfl)).trans ((mr_c e6 (nin_ne (a := 152) k_ rfl)).trans ((mr_c e4 (nin_ne (a := 151) k_ rfl)).trans (ms_c e2 (nin_ne (a := 150) k_ rfl)))))), (fun j k0_ => ((congrFun (mr_c e8 (Nat.ne_of_beq_eq_false rfl)) j).trans ((congrFun (mr_c e6 (Nat.ne_of_beq_eq_false rfl)) j).trans ((congrFun (mr_c e4 (Nat.ne_of_beq_eq_false rfl)) j).trans (ms_i e2 k0_)))))⟩
set_option maxRecDepth 100000 in
noncomputable def Fx_W_copyK_154_19X (u : Nat → Nat → Int32) (g : Nat → Nat → Int64) : (Nat → Nat → Int32) := xq_lt (ms u 154 0 (u 19 0)) fun u1 => xq_lt (mr u1 155 (va_cpy (u1 20) (u1 155) 0 0 12)) fun u3 => xq_lt (mr u3 156 (va_cpy (u3 21) (u3 156) 0 0 12)) fun u5 => xq_lt (mr u5 157 (va_cpy (u5 22) (u5 157) 0 0 12)) fun u7 => u7
set_option maxHeartbeats 4000000 in
set_option maxRecDepth 100000 in
theorem c_W_copyK_154_19X {d : Nat} {u : Nat → Nat → Int32} {g : Nat → Nat → Int64} {ex : List MC}  (hd : 1 ≤ d) (hp0 : Bd 0 12 (u 19 0)) (hp1 : (KM u 19)) (hp2 : (KM u 154)) : CT con0 d 0 0 yX8_copy cX8_copy 2 none [.ref 154, .ref 19] (Wd u g ex) (fun r h2 => ∃ (u2 : Nat → Nat → Int32), r = none ∧ h2 = Wd u2 g ex ∧ Bd 0 12 (u2 154 0) ∧ (KM u2 154) ∧ u2 = Fx_W_copyK_154_19X u g ∧ (∀ c, nin c [(154, 157)] = true → u2 c = u c) ∧ (∀ j, j ≠ 0 → u2 154 j = u 154 j)) := by
  refine CT_of (by decide) (Nat.le_of_ble_eq_true rfl) (fun x hq => ?_)
  show J x yX8_copy cX8_copy 2 none d 0 0 (Wd u g ex).length 0 [(0, .ref 154), (1, .ref 19)] [] (Wd u g ex) 0 0
  have E : Fx_W_copyK_154_19X u g = Fx_W_copyK_154_19X u g := rfl
  refine J_aload_n (i := 0) (j := 0) dX8_copy_0 rfl rfl ?_
  refine J_aload_n (i := 1) (j := 1) dX8_copy_1 rfl rfl ?_
  refine J_get (C := RX8) (T := TX8) (Z := 4) (ci := 8) (f := 0) dX8_copy_2 inG8 rfl (by decide) k168 wc_19 rfl ?_
  obtain ⟨u1, e2⟩ : ∃ z, z = ms u 154 0 (u 19 0) := ⟨_, rfl⟩
  refine J_put (C := RX8) (T := TX8) (Z := 4) (ci := 8) (f := 0) (ty0 := tyX8) dX8_copy_5 inG8 rfl tyX8_ok nmX8 (by decide) k168 rfl rfl wc_154 (Nat.le_of_ble_eq_true rfl) (fun _ _ => ⟨rfl, rfl⟩) (ws e2 wk_154 rfl) ?_
  replace E := xq_le e2 E
  refine J_aload_n (i := 1) (j := 1) dX8_copy_8 rfl rfl ?_
  refine J_get (C := RX8) (T := TX8) (Z := 4) (ci := 8) (f := 1) dX8_copy_9 inG8 rfl (by decide) k171 wc_19 rfl ?_
  refine J_iconst (v := 0) dX8_copy_12 (by decide) ?_
  refine J_aload_n (i := 0) (j := 0) dX8_copy_13 rfl rfl ?_
  refine J_get (C := RX8) (T := TX8) (Z := 4) (ci := 8) (f := 1) dX8_copy_14 inG8 rfl (by decide) k171 wc_154 rfl ?_
  refine J_iconst (v := 0) dX8_copy_17 (by decide) ?_
  refine J_bipush (v := 12) dX8_copy_18 (by decide) ?_
  obtain ⟨u3, e4⟩ : ∃ z, z = mr u1 155 (va_cpy (u1 20) (u1 155) 0 0 12) := ⟨_, rfl⟩
  refine J_copyi (sp := 0) (dp := 0) (nn := 12) dX8_copy_20 k694 k686 k685 k104 wc_20 wc_155 (by decide) (by decide) (by decide) (by decide) (by decide) (Nat.le_trans (by decide) hd) (Nat.le_of_ble_eq_true rfl) (wsr e4 wk_155 rfl) ?_
  replace E := xq_le e4 E
  refine J_aload_n (i := 1) (j := 1) dX8_copy_23 rfl rfl ?_
  refine J_get (C := RX8) (T := TX8) (Z := 4) (ci := 8) (f := 2) dX8_copy_24 inG8 rfl (by decide) k173 wc_19 rfl ?_
  refine J_iconst (v := 0) dX8_copy_27 (by decide) ?_
  refine J_aload_n (i := 0) (j := 0) dX8_copy_28 rfl rfl ?_
  refine J_get (C := RX8) (T := TX8) (Z := 4) (ci := 8) (f := 2) dX8_copy_29 inG8 rfl (by decide) k173 wc_154 rfl ?_
  refine J_iconst (v := 0) dX8_copy_32 (by decide) ?_
  refine J_bipush (v := 12) dX8_copy_33 (by decide) ?_
  obtain ⟨u5, e6⟩ : ∃ z, z = mr u3 156 (va_cpy (u3 21) (u3 156) 0 0 12) := ⟨_, rfl⟩
  refine J_copyi (sp := 0) (dp := 0) (nn := 12) dX8_copy_35 k694 k686 k685 k104 wc_21 wc_156 (by decide) (by decide) (by decide) (by decide) (by decide) (Nat.le_trans (by decide) hd) (Nat.le_of_ble_eq_true rfl) (wsr e6 wk_156 rfl) ?_
  replace E := xq_le e6 E
  refine J_aload_n (i := 1) (j := 1) dX8_copy_38 rfl rfl ?_
  refine J_get (C := RX8) (T := TX8) (Z := 4) (ci := 8) (f := 3) dX8_copy_39 inG8 rfl (by decide) k175 wc_19 rfl ?_
  refine J_iconst (v := 0) dX8_copy_42 (by decide) ?_
  refine J_aload_n (i := 0) (j := 0) dX8_copy_43 rfl rfl ?_
  refine J_get (C := RX8) (T := TX8) (Z := 4) (ci := 8) (f := 3) dX8_copy_44 inG8 rfl (by decide) k175 wc_154 rfl ?_
  refine J_iconst (v := 0) dX8_copy_47 (by decide) ?_
  refine J_bipush (v := 12) dX8_copy_48 (by decide) ?_
  obtain ⟨u7, e8⟩ : ∃ z, z = mr u5 157 (va_cpy (u5 22) (u5 157) 0 0 12) := ⟨_, rfl⟩
  refine J_copyi (sp := 0) (dp := 0) (nn := 12) dX8_copy_50 k694 k686 k685 k104 wc_22 wc_157 (by decide) (by decide) (by decide) (by decide) (by decide) (Nat.le_trans (by decide) hd) (Nat.le_of_ble_eq_true rfl) (wsr e8 wk_157 rfl) ?_
  replace E := xq_le e8 E
  exact J_vret hq dX8_copy_53 rfl wlen (Nat.le_refl _) (Nat.le_refl _) ⟨u7, rfl, rfl, (bd_r ((congrFun (mr_c e8 (Nat.ne_of_beq_eq_false rfl)) 0).trans ((congrFun (mr_c e6 (Nat.ne_of_beq_eq_false rfl)) 0).trans ((congrFun (mr_c e4 (Nat.ne_of_beq_eq_false rfl)) 0).trans (ms_e e2)))) hp0), (km_cp (u := u) (w := 154) (f := 19) (show u7 155 = va_cpy (u 20) (u 155) 0 0 12 by rw [((mr_c e8 (Nat.ne_of_beq_eq_false rfl)).trans (mr_c e6 (Nat.ne_of_beq_eq_false rfl))), mr_a e4, (ms_c e2 (Nat.ne_of_beq_eq_false rfl)), (ms_c e2 (Nat.ne_of_beq_eq_false rfl))]) (show u7 157 = va_cpy (u 22) (u 157) 0 0 12 by rw [mr_a e8, ((mr_c e6 (Nat.ne_of_beq_eq_false rfl)).trans ((mr_c e4 (Nat.ne_of_beq_eq_false rfl)).trans (ms_c e2 (Nat.ne_of_beq_eq_false rfl)))), ((mr_c e6 (Nat.ne_of_beq_eq_false rfl)).trans ((mr_c e4 (Nat.ne_of_beq_eq_false rfl)).trans (ms_c e2 (Nat.ne_of_beq_eq_false rfl))))]) hp1 hp2), E, (fun c k_ => ((mr_c e8 (nin_ne (a := 157) k_ rfl)).trans ((mr_c e6 (nin_ne (a := 156) k_ rfl)).trans ((mr_c e4 (nin_ne (a := 155) k_ rfl)).trans (ms_c e2 (nin_ne (a := 154) k_ rfl)))))), (fun j k0_ => ((congrFun (mr_c e8 (Nat.ne_of_beq_eq_false rfl)) j).trans ((congrFun (mr_c e6 (Nat.ne_of_beq_eq_false rfl)) j).trans ((congrFun (mr_c e4 (Nat.ne_of_beq_eq_false rfl)) j).trans (ms_i e2 k0_)))))⟩
set_option maxRecDepth 100000 in
noncomputable def Fx_W_copyK_158_23X (u : Nat → Nat → Int32) (g : Nat → Nat → Int64) : (Nat → Nat → Int32) := xq_lt (ms u 158 0 (u 23 0)) fun u1 => xq_lt (mr u1 159 (va_cpy (u1 24) (u1 159) 0 0 12)) fun u3 => xq_lt (mr u3 160 (va_cpy (u3 25) (u3 160) 0 0 12)) fun u5 => xq_lt (mr u5 161 (va_cpy (u5 26) (u5 161) 0 0 12)) fun u7 => u7
set_option maxHeartbeats 4000000 in
set_option maxRecDepth 100000 in
theorem c_W_copyK_158_23X {d : Nat} {u : Nat → Nat → Int32} {g : Nat → Nat → Int64} {ex : List MC}  (hd : 1 ≤ d) (hp0 : Bd 0 12 (u 23 0)) (hp1 : (KM u 23)) (hp2 : (KM u 158)) : CT con0 d 0 0 yX8_copy cX8_copy 2 none [.ref 158, .ref 23] (Wd u g ex) (fun r h2 => ∃ (u2 : Nat → Nat → Int32), r = none ∧ h2 = Wd u2 g ex ∧ Bd 0 12 (u2 158 0) ∧ (KM u2 158) ∧ u2 = Fx_W_copyK_158_23X u g ∧ (∀ c, nin c [(158, 161)] = true → u2 c = u c) ∧ (∀ j, j ≠ 0 → u2 158 j = u 158 j)) := by
  refine CT_of (by decide) (Nat.le_of_ble_eq_true rfl) (fun x hq => ?_)
  show J x yX8_copy cX8_copy 2 none d 0 0 (Wd u g ex).length 0 [(0, .ref 158), (1, .ref 23)] [] (Wd u g ex) 0 0
  have E : Fx_W_copyK_158_23X u g = Fx_W_copyK_158_23X u g := rfl
  refine J_aload_n (i := 0) (j := 0) dX8_copy_0 rfl rfl ?_
  refine J_aload_n (i := 1) (j := 1) dX8_copy_1 rfl rfl ?_
  refine J_get (C := RX8) (T := TX8) (Z := 4) (ci := 8) (f := 0) dX8_copy_2 inG8 rfl (by decide) k168 wc_23 rfl ?_
  obtain ⟨u1, e2⟩ : ∃ z, z = ms u 158 0 (u 23 0) := ⟨_, rfl⟩
  refine J_put (C := RX8) (T := TX8) (Z := 4) (ci := 8) (f := 0) (ty0 := tyX8) dX8_copy_5 inG8 rfl tyX8_ok nmX8 (by decide) k168 rfl rfl wc_158 (Nat.le_of_ble_eq_true rfl) (fun _ _ => ⟨rfl, rfl⟩) (ws e2 wk_158 rfl) ?_
  replace E := xq_le e2 E
  refine J_aload_n (i := 1) (j := 1) dX8_copy_8 rfl rfl ?_
  refine J_get (C := RX8) (T := TX8) (Z := 4) (ci := 8) (f := 1) dX8_copy_9 inG8 rfl (by decide) k171 wc_23 rfl ?_
  refine J_iconst (v := 0) dX8_copy_12 (by decide) ?_
  refine J_aload_n (i := 0) (j := 0) dX8_copy_13 rfl rfl ?_
  refine J_get (C := RX8) (T := TX8) (Z := 4) (ci := 8) (f := 1) dX8_copy_14 inG8 rfl (by decide) k171 wc_158 rfl ?_
  refine J_iconst (v := 0) dX8_copy_17 (by decide) ?_
  refine J_bipush (v := 12) dX8_copy_18 (by decide) ?_
  obtain ⟨u3, e4⟩ : ∃ z, z = mr u1 159 (va_cpy (u1 24) (u1 159) 0 0 12) := ⟨_, rfl⟩
  refine J_copyi (sp := 0) (dp := 0) (nn := 12) dX8_copy_20 k694 k686 k685 k104 wc_24 wc_159 (by decide) (by decide) (by decide) (by decide) (by decide) (Nat.le_trans (by decide) hd) (Nat.le_of_ble_eq_true rfl) (wsr e4 wk_159 rfl) ?_
  replace E := xq_le e4 E
  refine J_aload_n (i := 1) (j := 1) dX8_copy_23 rfl rfl ?_
  refine J_get (C := RX8) (T := TX8) (Z := 4) (ci := 8) (f := 2) dX8_copy_24 inG8 rfl (by decide) k173 wc_23 rfl ?_
  refine J_iconst (v := 0) dX8_copy_27 (by decide) ?_
  refine J_aload_n (i := 0) (j := 0) dX8_copy_28 rfl rfl ?_
  refine J_get (C := RX8) (T := TX8) (Z := 4) (ci := 8) (f := 2) dX8_copy_29 inG8 rfl (by decide) k173 wc_158 rfl ?_
  refine J_iconst (v := 0) dX8_copy_32 (by decide) ?_
  refine J_bipush (v := 12) dX8_copy_33 (by decide) ?_
  obtain ⟨u5, e6⟩ : ∃ z, z = mr u3 160 (va_cpy (u3 25) (u3 160) 0 0 12) := ⟨_, rfl⟩
  refine J_copyi (sp := 0) (dp := 0) (nn := 12) dX8_copy_35 k694 k686 k685 k104 wc_25 wc_160 (by decide) (by decide) (by decide) (by decide) (by decide) (Nat.le_trans (by decide) hd) (Nat.le_of_ble_eq_true rfl) (wsr e6 wk_160 rfl) ?_
  replace E := xq_le e6 E
  refine J_aload_n (i := 1) (j := 1) dX8_copy_38 rfl rfl ?_
  refine J_get (C := RX8) (T := TX8) (Z := 4) (ci := 8) (f := 3) dX8_copy_39 inG8 rfl (by decide) k175 wc_23 rfl ?_
  refine J_iconst (v := 0) dX8_copy_42 (by decide) ?_
  refine J_aload_n (i := 0) (j := 0) dX8_copy_43 rfl rfl ?_
  refine J_get (C := RX8) (T := TX8) (Z := 4) (ci := 8) (f := 3) dX8_copy_44 inG8 rfl (by decide) k175 wc_158 rfl ?_
  refine J_iconst (v := 0) dX8_copy_47 (by decide) ?_
  refine J_bipush (v := 12) dX8_copy_48 (by decide) ?_
  obtain ⟨u7, e8⟩ : ∃ z, z = mr u5 161 (va_cpy (u5 26) (u5 161) 0 0 12) := ⟨_, rfl⟩
  refine J_copyi (sp := 0) (dp := 0) (nn := 12) dX8_copy_50 k694 k686 k685 k104 wc_26 wc_161 (by decide) (by decide) (by decide) (by decide) (by decide) (Nat.le_trans (by decide) hd) (Nat.le_of_ble_eq_true rfl) (wsr e8 wk_161 rfl) ?_
  replace E := xq_le e8 E
  exact J_vret hq dX8_copy_53 rfl wlen (Nat.le_refl _) (Nat.le_refl _) ⟨u7, rfl, rfl, (bd_r ((congrFun (mr_c e8 (Nat.ne_of_beq_eq_false rfl)) 0).trans ((congrFun (mr_c e6 (Nat.ne_of_beq_eq_false rfl)) 0).trans ((congrFun (mr_c e4 (Nat.ne_of_beq_eq_false rfl)) 0).trans (ms_e e2)))) hp0), (km_cp (u := u) (w := 158) (f := 23) (show u7 159 = va_cpy (u 24) (u 159) 0 0 12 by rw [((mr_c e8 (Nat.ne_of_beq_eq_false rfl)).trans (mr_c e6 (Nat.ne_of_beq_eq_false rfl))), mr_a e4, (ms_c e2 (Nat.ne_of_beq_eq_false rfl)), (ms_c e2 (Nat.ne_of_beq_eq_false rfl))]) (show u7 161 = va_cpy (u 26) (u 161) 0 0 12 by rw [mr_a e8, ((mr_c e6 (Nat.ne_of_beq_eq_false rfl)).trans ((mr_c e4 (Nat.ne_of_beq_eq_false rfl)).trans (ms_c e2 (Nat.ne_of_beq_eq_false rfl)))), ((mr_c e6 (Nat.ne_of_beq_eq_false rfl)).trans ((mr_c e4 (Nat.ne_of_beq_eq_false rfl)).trans (ms_c e2 (Nat.ne_of_beq_eq_false rfl))))]) hp1 hp2), E, (fun c k_ => ((mr_c e8 (nin_ne (a := 161) k_ rfl)).trans ((mr_c e6 (nin_ne (a := 160) k_ rfl)).trans ((mr_c e4 (nin_ne (a := 159) k_ rfl)).trans (ms_c e2 (nin_ne (a := 158) k_ rfl)))))), (fun j k0_ => ((congrFun (mr_c e8 (Nat.ne_of_beq_eq_false rfl)) j).trans ((congrFun (mr_c e6 (Nat.ne_of_beq_eq_false rfl)) j).trans ((congrFun (mr_c e4 (Nat.ne_of_beq_eq_false rfl)) j).trans (ms_i e2 k0_)))))⟩
set_option maxRecDepth 100000 in
noncomputable def Fx_W_copyK_15_98X (u : Nat → Nat → Int32) (g : Nat → Nat → Int64) : (Nat → Nat → Int32) := xq_lt (ms u 15 0 (u 98 0)) fun u1 => xq_lt (mr u1 16 (va_cpy (u1 99) (u1 16) 0 0 12)) fun u3 => xq_lt (mr u3 17 (va_cpy (u3 100) (u3 17) 0 0 12)) fun u5 => xq_lt (mr u5 18 (va_cpy (u5 101) (u5 18) 0 0 12)) fun u7 => u7
set_option maxHeartbeats 4000000 in
set_option maxRecDepth 100000 in
theorem c_W_copyK_15_98X {d : Nat} {u : Nat → Nat → Int32} {g : Nat → Nat → Int64} {ex : List MC}  (hd : 1 ≤ d) (hp0 : Bd 0 12 (u 98 0)) (hp1 : (KM u 98)) (hp2 : (KM u 15)) : CT con0 d 0 0 yX8_copy cX8_copy 2 none [.ref 15, .ref 98] (Wd u g ex) (fun r h2 => ∃ (u2 : Nat → Nat → Int32), r = none ∧ h2 = Wd u2 g ex ∧ Bd 0 12 (u2 15 0) ∧ (KM u2 15) ∧ u2 = Fx_W_copyK_15_98X u g ∧ (∀ c, nin c [(15, 18)] = true → u2 c = u c) ∧ (∀ j, j ≠ 0 → u2 15 j = u 15 j)) := by
  refine CT_of (by decide) (Nat.le_of_ble_eq_true rfl) (fun x hq => ?_)
  show J x yX8_copy cX8_copy 2 none d 0 0 (Wd u g ex).length 0 [(0, .ref 15), (1, .ref 98)] [] (Wd u g ex) 0 0
  have E : Fx_W_copyK_15_98X u g = Fx_W_copyK_15_98X u g := rfl
  refine J_aload_n (i := 0) (j := 0) dX8_copy_0 rfl rfl ?_
  refine J_aload_n (i := 1) (j := 1) dX8_copy_1 rfl rfl ?_
  refine J_get (C := RX8) (T := TX8) (Z := 4) (ci := 8) (f := 0) dX8_copy_2 inG8 rfl (by decide) k168 wc_98 rfl ?_
  obtain ⟨u1, e2⟩ : ∃ z, z = ms u 15 0 (u 98 0) := ⟨_, rfl⟩
  refine J_put (C := RX8) (T := TX8) (Z := 4) (ci := 8) (f := 0) (ty0 := tyX8) dX8_copy_5 inG8 rfl tyX8_ok nmX8 (by decide) k168 rfl rfl wc_15 (Nat.le_of_ble_eq_true rfl) (fun _ _ => ⟨rfl, rfl⟩) (ws e2 wk_15 rfl) ?_
  replace E := xq_le e2 E
  refine J_aload_n (i := 1) (j := 1) dX8_copy_8 rfl rfl ?_
  refine J_get (C := RX8) (T := TX8) (Z := 4) (ci := 8) (f := 1) dX8_copy_9 inG8 rfl (by decide) k171 wc_98 rfl ?_
  refine J_iconst (v := 0) dX8_copy_12 (by decide) ?_
  refine J_aload_n (i := 0) (j := 0) dX8_copy_13 rfl rfl ?_
  refine J_get (C := RX8) (T := TX8) (Z := 4) (ci := 8) (f := 1) dX8_copy_14 inG8 rfl (by decide) k171 wc_15 rfl ?_
  refine J_iconst (v := 0) dX8_copy_17 (by decide) ?_
  refine J_bipush (v := 12) dX8_copy_18 (by decide) ?_
  obtain ⟨u3, e4⟩ : ∃ z, z = mr u1 16 (va_cpy (u1 99) (u1 16) 0 0 12) := ⟨_, rfl⟩
  refine J_copyi (sp := 0) (dp := 0) (nn := 12) dX8_copy_20 k694 k686 k685 k104 wc_99 wc_16 (by decide) (by decide) (by decide) (by decide) (by decide) (Nat.le_trans (by decide) hd) (Nat.le_of_ble_eq_true rfl) (wsr e4 wk_16 rfl) ?_
  replace E := xq_le e4 E
  refine J_aload_n (i := 1) (j := 1) dX8_copy_23 rfl rfl ?_
  refine J_get (C := RX8) (T := TX8) (Z := 4) (ci := 8) (f := 2) dX8_copy_24 inG8 rfl (by decide) k173 wc_98 rfl ?_
  refine J_iconst (v := 0) dX8_copy_27 (by decide) ?_
  refine J_aload_n (i := 0) (j := 0) dX8_copy_28 rfl rfl ?_
  refine J_get (C := RX8) (T := TX8) (Z := 4) (ci := 8) (f := 2) dX8_copy_29 inG8 rfl (by decide) k173 wc_15 rfl ?_
  refine J_iconst (v := 0) dX8_copy_32 (by decide) ?_
  refine J_bipush (v := 12) dX8_copy_33 (by decide) ?_
  obtain ⟨u5, e6⟩ : ∃ z, z = mr u3 17 (va_cpy (u3 100) (u3 17) 0 0 12) := ⟨_, rfl⟩
  refine J_copyi (sp := 0) (dp := 0) (nn := 12) dX8_copy_35 k694 k686 k685 k104 wc_100 wc_17 (by decide) (by decide) (by decide) (by decide) (by decide) (Nat.le_trans (by decide) hd) (Nat.le_of_ble_eq_true rfl) (wsr e6 wk_17 rfl) ?_
  replace E := xq_le e6 E
  refine J_aload_n (i := 1) (j := 1) dX8_copy_38 rfl rfl ?_
  refine J_get (C := RX8) (T := TX8) (Z := 4) (ci := 8) (f := 3) dX8_copy_39 inG8 rfl (by decide) k175 wc_98 rfl ?_
  refine J_iconst (v := 0) dX8_copy_42 (by decide) ?_
  refine J_aload_n (i := 0) (j := 0) dX8_copy_43 rfl rfl ?_
  refine J_get (C := RX8) (T := TX8) (Z := 4) (ci := 8) (f := 3) dX8_copy_44 inG8 rfl (by decide) k175 wc_15 rfl ?_
  refine J_iconst (v := 0) dX8_copy_47 (by decide) ?_
  refine J_bipush (v := 12) dX8_copy_48 (by decide) ?_
  obtain ⟨u7, e8⟩ : ∃ z, z = mr u5 18 (va_cpy (u5 101) (u5 18) 0 0 12) := ⟨_, rfl⟩
  refine J_copyi (sp := 0) (dp := 0) (nn := 12) dX8_copy_50 k694 k686 k685 k104 wc_101 wc_18 (by decide) (by decide) (by decide) (by decide) (by decide) (Nat.le_trans (by decide) hd) (Nat.le_of_ble_eq_true rfl) (wsr e8 wk_18 rfl) ?_
  replace E := xq_le e8 E
  exact J_vret hq dX8_copy_53 rfl wlen (Nat.le_refl _) (Nat.le_refl _) ⟨u7, rfl, rfl, (bd_r ((congrFun (mr_c e8 (Nat.ne_of_beq_eq_false rfl)) 0).trans ((congrFun (mr_c e6 (Nat.ne_of_beq_eq_false rfl)) 0).trans ((congrFun (mr_c e4 (Nat.ne_of_beq_eq_false rfl)) 0).trans (ms_e e2)))) hp0), (km_cp (u := u) (w := 15) (f := 98) (show u7 16 = va_cpy (u 99) (u 16) 0 0 12 by rw [((mr_c e8 (Nat.ne_of_beq_eq_false rfl)).trans (mr_c e6 (Nat.ne_of_beq_eq_false rfl))), mr_a e4, (ms_c e2 (Nat.ne_of_beq_eq_false rfl)), (ms_c e2 (Nat.ne_of_beq_eq_false rfl))]) (show u7 18 = va_cpy (u 101) (u 18) 0 0 12 by rw [mr_a e8, ((mr_c e6 (Nat.ne_of_beq_eq_false rfl)).trans ((mr_c e4 (Nat.ne_of_beq_eq_false rfl)).trans (ms_c e2 (Nat.ne_of_beq_eq_false rfl)))), ((mr_c e6 (Nat.ne_of_beq_eq_false rfl)).trans ((mr_c e4 (Nat.ne_of_beq_eq_false rfl)).trans (ms_c e2 (Nat.ne_of_beq_eq_false rfl))))]) hp1 hp2), E, (fun c k_ => ((mr_c e8 (nin_ne (a := 18) k_ rfl)).trans ((mr_c e6 (nin_ne (a := 17) k_ rfl)).trans ((mr_c e4 (nin_ne (a := 16) k_ rfl)).trans (ms_c e2 (nin_ne (a := 15) k_ rfl)))))), (fun j k0_ => ((congrFun (mr_c e8 (Nat.ne_of_beq_eq_false rfl)) j).trans ((congrFun (mr_c e6 (Nat.ne_of_beq_eq_false rfl)) j).trans ((congrFun (mr_c e4 (Nat.ne_of_beq_eq_false rfl)) j).trans (ms_i e2 k0_)))))⟩
set_option maxRecDepth 100000 in
noncomputable def Fx_W_copyK_19_102X (u : Nat → Nat → Int32) (g : Nat → Nat → Int64) : (Nat → Nat → Int32) := xq_lt (ms u 19 0 (u 102 0)) fun u1 => xq_lt (mr u1 20 (va_cpy (u1 103) (u1 20) 0 0 12)) fun u3 => xq_lt (mr u3 21 (va_cpy (u3 104) (u3 21) 0 0 12)) fun u5 => xq_lt (mr u5 22 (va_cpy (u5 105) (u5 22) 0 0 12)) fun u7 => u7
set_option maxHeartbeats 4000000 in
set_option maxRecDepth 100000 in
theorem c_W_copyK_19_102X {d : Nat} {u : Nat → Nat → Int32} {g : Nat → Nat → Int64} {ex : List MC}  (hd : 1 ≤ d) (hp0 : Bd 0 12 (u 102 0)) (hp1 : (KM u 102)) (hp2 : (KM u 19)) : CT con0 d 0 0 yX8_copy cX8_copy 2 none [.ref 19, .ref 102] (Wd u g ex) (fun r h2 => ∃ (u2 : Nat → Nat → Int32), r = none ∧ h2 = Wd u2 g ex ∧ Bd 0 12 (u2 19 0) ∧ (KM u2 19) ∧ u2 = Fx_W_copyK_19_102X u g ∧ (∀ c, nin c [(19, 22)] = true → u2 c = u c) ∧ (∀ j, j ≠ 0 → u2 19 j = u 19 j)) := by
  refine CT_of (by decide) (Nat.le_of_ble_eq_true rfl) (fun x hq => ?_)
  show J x yX8_copy cX8_copy 2 none d 0 0 (Wd u g ex).length 0 [(0, .ref 19), (1, .ref 102)] [] (Wd u g ex) 0 0
  have E : Fx_W_copyK_19_102X u g = Fx_W_copyK_19_102X u g := rfl
  refine J_aload_n (i := 0) (j := 0) dX8_copy_0 rfl rfl ?_
  refine J_aload_n (i := 1) (j := 1) dX8_copy_1 rfl rfl ?_
  refine J_get (C := RX8) (T := TX8) (Z := 4) (ci := 8) (f := 0) dX8_copy_2 inG8 rfl (by decide) k168 wc_102 rfl ?_
  obtain ⟨u1, e2⟩ : ∃ z, z = ms u 19 0 (u 102 0) := ⟨_, rfl⟩
  refine J_put (C := RX8) (T := TX8) (Z := 4) (ci := 8) (f := 0) (ty0 := tyX8) dX8_copy_5 inG8 rfl tyX8_ok nmX8 (by decide) k168 rfl rfl wc_19 (Nat.le_of_ble_eq_true rfl) (fun _ _ => ⟨rfl, rfl⟩) (ws e2 wk_19 rfl) ?_
  replace E := xq_le e2 E
  refine J_aload_n (i := 1) (j := 1) dX8_copy_8 rfl rfl ?_
  refine J_get (C := RX8) (T := TX8) (Z := 4) (ci := 8) (f := 1) dX8_copy_9 inG8 rfl (by decide) k171 wc_102 rfl ?_
  refine J_iconst (v := 0) dX8_copy_12 (by decide) ?_
  refine J_aload_n (i := 0) (j := 0) dX8_copy_13 rfl rfl ?_
  refine J_get (C := RX8) (T := TX8) (Z := 4) (ci := 8) (f := 1) dX8_copy_14 inG8 rfl (by decide) k171 wc_19 rfl ?_
  refine J_iconst (v := 0) dX8_copy_17 (by decide) ?_
  refine J_bipush (v := 12) dX8_copy_18 (by decide) ?_
  obtain ⟨u3, e4⟩ : ∃ z, z = mr u1 20 (va_cpy (u1 103) (u1 20) 0 0 12) := ⟨_, rfl⟩
  refine J_copyi (sp := 0) (dp := 0) (nn := 12) dX8_copy_20 k694 k686 k685 k104 wc_103 wc_20 (by decide) (by decide) (by decide) (by decide) (by decide) (Nat.le_trans (by decide) hd) (Nat.le_of_ble_eq_true rfl) (wsr e4 wk_20 rfl) ?_
  replace E := xq_le e4 E
  refine J_aload_n (i := 1) (j := 1) dX8_copy_23 rfl rfl ?_
  refine J_get (C := RX8) (T := TX8) (Z := 4) (ci := 8) (f := 2) dX8_copy_24 inG8 rfl (by decide) k173 wc_102 rfl ?_
  refine J_iconst (v := 0) dX8_copy_27 (by decide) ?_
  refine J_aload_n (i := 0) (j := 0) dX8_copy_28 rfl rfl ?_
  refine J_get (C := RX8) (T := TX8) (Z := 4) (ci := 8) (f := 2) dX8_copy_29 inG8 rfl (by decide) k173 wc_19 rfl ?_
  refine J_iconst (v := 0) dX8_copy_32 (by decide) ?_
  refine J_bipush (v := 12) dX8_copy_33 (by decide) ?_
  obtain ⟨u5, e6⟩ : ∃ z, z = mr u3 21 (va_cpy (u3 104) (u3 21) 0 0 12) := ⟨_, rfl⟩
  refine J_copyi (sp := 0) (dp := 0) (nn := 12) dX8_copy_35 k694 k686 k685 k104 wc_104 wc_21 (by decide) (by decide) (by decide) (by decide) (by decide) (Nat.le_trans (by decide) hd) (Nat.le_of_ble_eq_true rfl) (wsr e6 wk_21 rfl) ?_
  replace E := xq_le e6 E
  refine J_aload_n (i := 1) (j := 1) dX8_copy_38 rfl rfl ?_
  refine J_get (C := RX8) (T := TX8) (Z := 4) (ci := 8) (f := 3) dX8_copy_39 inG8 rfl (by decide) k175 wc_102 rfl ?_
  refine J_iconst (v := 0) dX8_copy_42 (by decide) ?_
  refine J_aload_n (i := 0) (j := 0) dX8_copy_43 rfl rfl ?_
  refine J_get (C := RX8) (T := TX8) (Z := 4) (ci := 8) (f := 3) dX8_copy_44 inG8 rfl (by decide) k175 wc_19 rfl ?_
  refine J_iconst (v := 0) dX8_copy_47 (by decide) ?_
  refine J_bipush (v := 12) dX8_copy_48 (by decide) ?_
  obtain ⟨u7, e8⟩ : ∃ z, z = mr u5 22 (va_cpy (u5 105) (u5 22) 0 0 12) := ⟨_, rfl⟩
  refine J_copyi (sp := 0) (dp := 0) (nn := 12) dX8_copy_50 k694 k686 k685 k104 wc_105 wc_22 (by decide) (by decide) (by decide) (by decide) (by decide) (Nat.le_trans (by decide) hd) (Nat.le_of_ble_eq_true rfl) (wsr e8 wk_22 rfl) ?_
  replace E := xq_le e8 E
  exact J_vret hq dX8_copy_53 rfl wlen (Nat.le_refl _) (Nat.le_refl _) ⟨u7, rfl, rfl, (bd_r ((congrFun (mr_c e8 (Nat.ne_of_beq_eq_false rfl)) 0).trans ((congrFun (mr_c e6 (Nat.ne_of_beq_eq_false rfl)) 0).trans ((congrFun (mr_c e4 (Nat.ne_of_beq_eq_false rfl)) 0).trans (ms_e e2)))) hp0), (km_cp (u := u) (w := 19) (f := 102) (show u7 20 = va_cpy (u 103) (u 20) 0 0 12 by rw [((mr_c e8 (Nat.ne_of_beq_eq_false rfl)).trans (mr_c e6 (Nat.ne_of_beq_eq_false rfl))), mr_a e4, (ms_c e2 (Nat.ne_of_beq_eq_false rfl)), (ms_c e2 (Nat.ne_of_beq_eq_false rfl))]) (show u7 22 = va_cpy (u 105) (u 22) 0 0 12 by rw [mr_a e8, ((mr_c e6 (Nat.ne_of_beq_eq_false rfl)).trans ((mr_c e4 (Nat.ne_of_beq_eq_false rfl)).trans (ms_c e2 (Nat.ne_of_beq_eq_false rfl)))), ((mr_c e6 (Nat.ne_of_beq_eq_false rfl)).trans ((mr_c e4 (Nat.ne_of_beq_eq_false rfl)).trans (ms_c e2 (Nat.ne_of_beq_eq_false rfl))))]) hp1 hp2), E, (fun c k_ => ((mr_c e8 (nin_ne (a := 22) k_ rfl)).trans ((mr_c e6 (nin_ne (a := 21) k_ rfl)).trans ((mr_c e4 (nin_ne (a := 20) k_ rfl)).trans (ms_c e2 (nin_ne (a := 19) k_ rfl)))))), (fun j k0_ => ((congrFun (mr_c e8 (Nat.ne_of_beq_eq_false rfl)) j).trans ((congrFun (mr_c e6 (Nat.ne_of_beq_eq_false rfl)) j).trans ((congrFun (mr_c e4 (Nat.ne_of_beq_eq_false rfl)) j).trans (ms_i e2 k0_)))))⟩
set_option maxRecDepth 100000 in
noncomputable def Fx_W_copyK_23_106X (u : Nat → Nat → Int32) (g : Nat → Nat → Int64) : (Nat → Nat → Int32) := xq_lt (ms u 23 0 (u 106 0)) fun u1 => xq_lt (mr u1 24 (va_cpy (u1 107) (u1 24) 0 0 12)) fun u3 => xq_lt (mr u3 25 (va_cpy (u3 108) (u3 25) 0 0 12)) fun u5 => xq_lt (mr u5 26 (va_cpy (u5 109) (u5 26) 0 0 12)) fun u7 => u7
set_option maxHeartbeats 4000000 in
set_option maxRecDepth 100000 in
theorem c_W_copyK_23_106X {d : Nat} {u : Nat → Nat → Int32} {g : Nat → Nat → Int64} {ex : List MC}  (hd : 1 ≤ d) (hp0 : Bd 0 12 (u 106 0)) (hp1 : (KM u 106)) (hp2 : (KM u 23)) : CT con0 d 0 0 yX8_copy cX8_copy 2 none [.ref 23, .ref 106] (Wd u g ex) (fun r h2 => ∃ (u2 : Nat → Nat → Int32), r = none ∧ h2 = Wd u2 g ex ∧ Bd 0 12 (u2 23 0) ∧ (KM u2 23) ∧ u2 = Fx_W_copyK_23_106X u g ∧ (∀ c, nin c [(23, 26)] = true → u2 c = u c) ∧ (∀ j, j ≠ 0 → u2 23 j = u 23 j)) := by
  refine CT_of (by decide) (Nat.le_of_ble_eq_true rfl) (fun x hq => ?_)
  show J x yX8_copy cX8_copy 2 none d 0 0 (Wd u g ex).length 0 [(0, .ref 23), (1, .ref 106)] [] (Wd u g ex) 0 0
  have E : Fx_W_copyK_23_106X u g = Fx_W_copyK_23_106X u g := rfl
  refine J_aload_n (i := 0) (j := 0) dX8_copy_0 rfl rfl ?_
  refine J_aload_n (i := 1) (j := 1) dX8_copy_1 rfl rfl ?_
  refine J_get (C := RX8) (T := TX8) (Z := 4) (ci := 8) (f := 0) dX8_copy_2 inG8 rfl (by decide) k168 wc_106 rfl ?_
  obtain ⟨u1, e2⟩ : ∃ z, z = ms u 23 0 (u 106 0) := ⟨_, rfl⟩
  refine J_put (C := RX8) (T := TX8) (Z := 4) (ci := 8) (f := 0) (ty0 := tyX8) dX8_copy_5 inG8 rfl tyX8_ok nmX8 (by decide) k168 rfl rfl wc_23 (Nat.le_of_ble_eq_true rfl) (fun _ _ => ⟨rfl, rfl⟩) (ws e2 wk_23 rfl) ?_
  replace E := xq_le e2 E
  refine J_aload_n (i := 1) (j := 1) dX8_copy_8 rfl rfl ?_
  refine J_get (C := RX8) (T := TX8) (Z := 4) (ci := 8) (f := 1) dX8_copy_9 inG8 rfl (by decide) k171 wc_106 rfl ?_
  refine J_iconst (v := 0) dX8_copy_12 (by decide) ?_
  refine J_aload_n (i := 0) (j := 0) dX8_copy_13 rfl rfl ?_
  refine J_get (C := RX8) (T := TX8) (Z := 4) (ci := 8) (f := 1) dX8_copy_14 inG8 rfl (by decide) k171 wc_23 rfl ?_
  refine J_iconst (v := 0) dX8_copy_17 (by decide) ?_
  refine J_bipush (v := 12) dX8_copy_18 (by decide) ?_
  obtain ⟨u3, e4⟩ : ∃ z, z = mr u1 24 (va_cpy (u1 107) (u1 24) 0 0 12) := ⟨_, rfl⟩
  refine J_copyi (sp := 0) (dp := 0) (nn := 12) dX8_copy_20 k694 k686 k685 k104 wc_107 wc_24 (by decide) (by decide) (by decide) (by decide) (by decide) (Nat.le_trans (by decide) hd) (Nat.le_of_ble_eq_true rfl) (wsr e4 wk_24 rfl) ?_
  replace E := xq_le e4 E
  refine J_aload_n (i := 1) (j := 1) dX8_copy_23 rfl rfl ?_
  refine J_get (C := RX8) (T := TX8) (Z := 4) (ci := 8) (f := 2) dX8_copy_24 inG8 rfl (by decide) k173 wc_106 rfl ?_
  refine J_iconst (v := 0) dX8_copy_27 (by decide) ?_
  refine J_aload_n (i := 0) (j := 0) dX8_copy_28 rfl rfl ?_
  refine J_get (C := RX8) (T := TX8) (Z := 4) (ci := 8) (f := 2) dX8_copy_29 inG8 rfl (by decide) k173 wc_23 rfl ?_
  refine J_iconst (v := 0) dX8_copy_32 (by decide) ?_
  refine J_bipush (v := 12) dX8_copy_33 (by decide) ?_
  obtain ⟨u5, e6⟩ : ∃ z, z = mr u3 25 (va_cpy (u3 108) (u3 25) 0 0 12) := ⟨_, rfl⟩
  refine J_copyi (sp := 0) (dp := 0) (nn := 12) dX8_copy_35 k694 k686 k685 k104 wc_108 wc_25 (by decide) (by decide) (by decide) (by decide) (by decide) (Nat.le_trans (by decide) hd) (Nat.le_of_ble_eq_true rfl) (wsr e6 wk_25 rfl) ?_
  replace E := xq_le e6 E
  refine J_aload_n (i := 1) (j := 1) dX8_copy_38 rfl rfl ?_
  refine J_get (C := RX8) (T := TX8) (Z := 4) (ci := 8) (f := 3) dX8_copy_39 inG8 rfl (by decide) k175 wc_106 rfl ?_
  refine J_iconst (v := 0) dX8_copy_42 (by decide) ?_
  refine J_aload_n (i := 0) (j := 0) dX8_copy_43 rfl rfl ?_
  refine J_get (C := RX8) (T := TX8) (Z := 4) (ci := 8) (f := 3) dX8_copy_44 inG8 rfl (by decide) k175 wc_23 rfl ?_
  refine J_iconst (v := 0) dX8_copy_47 (by decide) ?_
  refine J_bipush (v := 12) dX8_copy_48 (by decide) ?_
  obtain ⟨u7, e8⟩ : ∃ z, z = mr u5 26 (va_cpy (u5 109) (u5 26) 0 0 12) := ⟨_, rfl⟩
  refine J_copyi (sp := 0) (dp := 0) (nn := 12) dX8_copy_50 k694 k686 k685 k104 wc_109 wc_26 (by decide) (by decide) (by decide) (by decide) (by decide) (Nat.le_trans (by decide) hd) (Nat.le_of_ble_eq_true rfl) (wsr e8 wk_26 rfl) ?_
  replace E := xq_le e8 E
  exact J_vret hq dX8_copy_53 rfl wlen (Nat.le_refl _) (Nat.le_refl _) ⟨u7, rfl, rfl, (bd_r ((congrFun (mr_c e8 (Nat.ne_of_beq_eq_false rfl)) 0).trans ((congrFun (mr_c e6 (Nat.ne_of_beq_eq_false rfl)) 0).trans ((congrFun (mr_c e4 (Nat.ne_of_beq_eq_false rfl)) 0).trans (ms_e e2)))) hp0), (km_cp (u := u) (w := 23) (f := 106) (show u7 24 = va_cpy (u 107) (u 24) 0 0 12 by rw [((mr_c e8 (Nat.ne_of_beq_eq_false rfl)).trans (mr_c e6 (Nat.ne_of_beq_eq_false rfl))), mr_a e4, (ms_c e2 (Nat.ne_of_beq_eq_false rfl)), (ms_c e2 (Nat.ne_of_beq_eq_false rfl))]) (show u7 26 = va_cpy (u 109) (u 26) 0 0 12 by rw [mr_a e8, ((mr_c e6 (Nat.ne_of_beq_eq_false rfl)).trans ((mr_c e4 (Nat.ne_of_beq_eq_false rfl)).trans (ms_c e2 (Nat.ne_of_beq_eq_false rfl)))), ((mr_c e6 (Nat.ne_of_beq_eq_false rfl)).trans ((mr_c e4 (Nat.ne_of_beq_eq_false rfl)).trans (ms_c e2 (Nat.ne_of_beq_eq_false rfl))))]) hp1 hp2), E, (fun c k_ => ((mr_c e8 (nin_ne (a := 26) k_ rfl)).trans ((mr_c e6 (nin_ne (a := 25) k_ rfl)).trans ((mr_c e4 (nin_ne (a := 24) k_ rfl)).trans (ms_c e2 (nin_ne (a := 23) k_ rfl)))))), (fun j k0_ => ((congrFun (mr_c e8 (Nat.ne_of_beq_eq_false rfl)) j).trans ((congrFun (mr_c e6 (Nat.ne_of_beq_eq_false rfl)) j).trans ((congrFun (mr_c e4 (Nat.ne_of_beq_eq_false rfl)) j).trans (ms_i e2 k0_)))))⟩
set_option maxRecDepth 100000 in
noncomputable def Fx_W_copyK_15_124X (u : Nat → Nat → Int32) (g : Nat → Nat → Int64) : (Nat → Nat → Int32) := xq_lt (ms u 15 0 (u 124 0)) fun u1 => xq_lt (mr u1 16 (va_cpy (u1 125) (u1 16) 0 0 12)) fun u3 => xq_lt (mr u3 17 (va_cpy (u3 126) (u3 17) 0 0 12)) fun u5 => xq_lt (mr u5 18 (va_cpy (u5 127) (u5 18) 0 0 12)) fun u7 => u7
set_option maxHeartbeats 4000000 in
set_option maxRecDepth 100000 in
theorem c_W_copyK_15_124X {d : Nat} {u : Nat → Nat → Int32} {g : Nat → Nat → Int64} {ex : List MC}  (hd : 1 ≤ d) (hp0 : Bd 0 12 (u 124 0)) (hp1 : (KM u 124)) (hp2 : (KM u 15)) : CT con0 d 0 0 yX8_copy cX8_copy 2 none [.ref 15, .ref 124] (Wd u g ex) (fun r h2 => ∃ (u2 : Nat → Nat → Int32), r = none ∧ h2 = Wd u2 g ex ∧ Bd 0 12 (u2 15 0) ∧ (KM u2 15) ∧ u2 = Fx_W_copyK_15_124X u g ∧ (∀ c, nin c [(15, 18)] = true → u2 c = u c) ∧ (∀ j, j ≠ 0 → u2 15 j = u 15 j)) := by
  refine CT_of (by decide) (Nat.le_of_ble_eq_true rfl) (fun x hq => ?_)
  show J x yX8_copy cX8_copy 2 none d 0 0 (Wd u g ex).length 0 [(0, .ref 15), (1, .ref 124)] [] (Wd u g ex) 0 0
  have E : Fx_W_copyK_15_124X u g = Fx_W_copyK_15_124X u g := rfl
  refine J_aload_n (i := 0) (j := 0) dX8_copy_0 rfl rfl ?_
  refine J_aload_n (i := 1) (j := 1) dX8_copy_1 rfl rfl ?_
  refine J_get (C := RX8) (T := TX8) (Z := 4) (ci := 8) (f := 0) dX8_copy_2 inG8 rfl (by decide) k168 wc_124 rfl ?_
  obtain ⟨u1, e2⟩ : ∃ z, z = ms u 15 0 (u 124 0) := ⟨_, rfl⟩
  refine J_put (C := RX8) (T := TX8) (Z := 4) (ci := 8) (f := 0) (ty0 := tyX8) dX8_copy_5 inG8 rfl tyX8_ok nmX8 (by decide) k168 rfl rfl wc_15 (Nat.le_of_ble_eq_true rfl) (fun _ _ => ⟨rfl, rfl⟩) (ws e2 wk_15 rfl) ?_
  replace E := xq_le e2 E
  refine J_aload_n (i := 1) (j := 1) dX8_copy_8 rfl rfl ?_
  refine J_get (C := RX8) (T := TX8) (Z := 4) (ci := 8) (f := 1) dX8_copy_9 inG8 rfl (by decide) k171 wc_124 rfl ?_
  refine J_iconst (v := 0) dX8_copy_12 (by decide) ?_
  refine J_aload_n (i := 0) (j := 0) dX8_copy_13 rfl rfl ?_
  refine J_get (C := RX8) (T := TX8) (Z := 4) (ci := 8) (f := 1) dX8_copy_14 inG8 rfl (by decide) k171 wc_15 rfl ?_
  refine J_iconst (v := 0) dX8_copy_17 (by decide) ?_
  refine J_bipush (v := 12) dX8_copy_18 (by decide) ?_
  obtain ⟨u3, e4⟩ : ∃ z, z = mr u1 16 (va_cpy (u1 125) (u1 16) 0 0 12) := ⟨_, rfl⟩
  refine J_copyi (sp := 0) (dp := 0) (nn := 12) dX8_copy_20 k694 k686 k685 k104 wc_125 wc_16 (by decide) (by decide) (by decide) (by decide) (by decide) (Nat.le_trans (by decide) hd) (Nat.le_of_ble_eq_true rfl) (wsr e4 wk_16 rfl) ?_
  replace E := xq_le e4 E
  refine J_aload_n (i := 1) (j := 1) dX8_copy_23 rfl rfl ?_
  refine J_get (C := RX8) (T := TX8) (Z := 4) (ci := 8) (f := 2) dX8_copy_24 inG8 rfl (by decide) k173 wc_124 rfl ?_
  refine J_iconst (v := 0) dX8_copy_27 (by decide) ?_
  refine J_aload_n (i := 0) (j := 0) dX8_copy_28 rfl rfl ?_
  refine J_get (C := RX8) (T := TX8) (Z := 4) (ci := 8) (f := 2) dX8_copy_29 inG8 rfl (by decide) k173 wc_15 rfl ?_
  refine J_iconst (v := 0) dX8_copy_32 (by decide) ?_
  refine J_bipush (v := 12) dX8_copy_33 (by decide) ?_
  obtain ⟨u5, e6⟩ : ∃ z, z = mr u3 17 (va_cpy (u3 126) (u3 17) 0 0 12) := ⟨_, rfl⟩
  refine J_copyi (sp := 0) (dp := 0) (nn := 12) dX8_copy_35 k694 k686 k685 k104 wc_126 wc_17 (by decide) (by decide) (by decide) (by decide) (by decide) (Nat.le_trans (by decide) hd) (Nat.le_of_ble_eq_true rfl) (wsr e6 wk_17 rfl) ?_
  replace E := xq_le e6 E
  refine J_aload_n (i := 1) (j := 1) dX8_copy_38 rfl rfl ?_
  refine J_get (C := RX8) (T := TX8) (Z := 4) (ci := 8) (f := 3) dX8_copy_39 inG8 rfl (by decide) k175 wc_124 rfl ?_
  refine J_iconst (v := 0) dX8_copy_42 (by decide) ?_
  refine J_aload_n (i := 0) (j := 0) dX8_copy_43 rfl rfl ?_
  refine J_get (C := RX8) (T := TX8) (Z := 4) (ci := 8) (f := 3) dX8_copy_44 inG8 rfl (by decide) k175 wc_15 rfl ?_
  refine J_iconst (v := 0) dX8_copy_47 (by decide) ?_
  refine J_bipush (v := 12) dX8_copy_48 (by decide) ?_
  obtain ⟨u7, e8⟩ : ∃ z, z = mr u5 18 (va_cpy (u5 127) (u5 18) 0 0 12) := ⟨_, rfl⟩
  refine J_copyi (sp := 0) (dp := 0) (nn := 12) dX8_copy_50 k694 k686 k685 k104 wc_127 wc_18 (by decide) (by decide) (by decide) (by decide) (by decide) (Nat.le_trans (by decide) hd) (Nat.le_of_ble_eq_true rfl) (wsr e8 wk_18 rfl) ?_
  replace E := xq_le e8 E
  exact J_vret hq dX8_copy_53 rfl wlen (Nat.le_refl _) (Nat.le_refl _) ⟨u7, rfl, rfl, (bd_r ((congrFun (mr_c e8 (Nat.ne_of_beq_eq_false rfl)) 0).trans ((congrFun (mr_c e6 (Nat.ne_of_beq_eq_false rfl)) 0).trans ((congrFun (mr_c e4 (Nat.ne_of_beq_eq_false rfl)) 0).trans (ms_e e2)))) hp0), (km_cp (u := u) (w := 15) (f := 124) (show u7 16 = va_cpy (u 125) (u 16) 0 0 12 by rw [((mr_c e8 (Nat.ne_of_beq_eq_false rfl)).trans (mr_c e6 (Nat.ne_of_beq_eq_false rfl))), mr_a e4, (ms_c e2 (Nat.ne_of_beq_eq_false rfl)), (ms_c e2 (Nat.ne_of_beq_eq_false rfl))]) (show u7 18 = va_cpy (u 127) (u 18) 0 0 12 by rw [mr_a e8, ((mr_c e6 (Nat.ne_of_beq_eq_false rfl)).trans ((mr_c e4 (Nat.ne_of_beq_eq_false rfl)).trans (ms_c e2 (Nat.ne_of_beq_eq_false rfl)))), ((mr_c e6 (Nat.ne_of_beq_eq_false rfl)).trans ((mr_c e4 (Nat.ne_of_beq_eq_false rfl)).trans (ms_c e2 (Nat.ne_of_beq_eq_false rfl))))]) hp1 hp2), E, (fun c k_ => ((mr_c e8 (nin_ne (a := 18) k_ rfl)).trans ((mr_c e6 (nin_ne (a := 17) k_ rfl)).trans ((mr_c e4 (nin_ne (a := 16) k_ rfl)).trans (ms_c e2 (nin_ne (a := 15) k_ rfl)))))), (fun j k0_ => ((congrFun (mr_c e8 (Nat.ne_of_beq_eq_false rfl)) j).trans ((congrFun (mr_c e6 (Nat.ne_of_beq_eq_false rfl)) j).trans ((congrFun (mr_c e4 (Nat.ne_of_beq_eq_false rfl)) j).trans (ms_i e2 k0_)))))⟩
set_option maxRecDepth 100000 in
noncomputable def Fx_W_copyK_19_128X (u : Nat → Nat → Int32) (g : Nat → Nat → Int64) : (Nat → Nat → Int32) := xq_lt (ms u 19 0 (u 128 0)) fun u1 => xq_lt (mr u1 20 (va_cpy (u1 129) (u1 20) 0 0 12)) fun u3 => xq_lt (mr u3 21 (va_cpy (u3 130) (u3 21) 0 0 12)) fun u5 => xq_lt (mr u5 22 (va_cpy (u5 131) (u5 22) 0 0 12)) fun u7 => u7
set_option maxHeartbeats 4000000 in
set_option maxRecDepth 100000 in
theorem c_W_copyK_19_128X {d : Nat} {u : Nat → Nat → Int32} {g : Nat → Nat → Int64} {ex : List MC}  (hd : 1 ≤ d) (hp0 : Bd 0 12 (u 128 0)) (hp1 : (KM u 128)) (hp2 : (KM u 19)) : CT con0 d 0 0 yX8_copy cX8_copy 2 none [.ref 19, .ref 128] (Wd u g ex) (fun r h2 => ∃ (u2 : Nat → Nat → Int32), r = none ∧ h2 = Wd u2 g ex ∧ Bd 0 12 (u2 19 0) ∧ (KM u2 19) ∧ u2 = Fx_W_copyK_19_128X u g ∧ (∀ c, nin c [(19, 22)] = true → u2 c = u c) ∧ (∀ j, j ≠ 0 → u2 19 j = u 19 j)) := by
  refine CT_of (by decide) (Nat.le_of_ble_eq_true rfl) (fun x hq => ?_)
  show J x yX8_copy cX8_copy 2 none d 0 0 (Wd u g ex).length 0 [(0, .ref 19), (1, .ref 128)] [] (Wd u g ex) 0 0
  have E : Fx_W_copyK_19_128X u g = Fx_W_copyK_19_128X u g := rfl
  refine J_aload_n (i := 0) (j := 0) dX8_copy_0 rfl rfl ?_
  refine J_aload_n (i := 1) (j := 1) dX8_copy_1 rfl rfl ?_
  refine J_get (C := RX8) (T := TX8) (Z := 4) (ci := 8) (f := 0) dX8_copy_2 inG8 rfl (by decide) k168 wc_128 rfl ?_
  obtain ⟨u1, e2⟩ : ∃ z, z = ms u 19 0 (u 128 0) := ⟨_, rfl⟩
  refine J_put (C := RX8) (T := TX8) (Z := 4) (ci := 8) (f := 0) (ty0 := tyX8) dX8_copy_5 inG8 rfl tyX8_ok nmX8 (by decide) k168 rfl rfl wc_19 (Nat.le_of_ble_eq_true rfl) (fun _ _ => ⟨rfl, rfl⟩) (ws e2 wk_19 rfl) ?_
  replace E := xq_le e2 E
  refine J_aload_n (i := 1) (j := 1) dX8_copy_8 rfl rfl ?_
  refine J_get (C := RX8) (T := TX8) (Z := 4) (ci := 8) (f := 1) dX8_copy_9 inG8 rfl (by decide) k171 wc_128 rfl ?_
  refine J_iconst (v := 0) dX8_copy_12 (by decide) ?_
  refine J_aload_n (i := 0) (j := 0) dX8_copy_13 rfl rfl ?_
  refine J_get (C := RX8) (T := TX8) (Z := 4) (ci := 8) (f := 1) dX8_copy_14 inG8 rfl (by decide) k171 wc_19 rfl ?_
  refine J_iconst (v := 0) dX8_copy_17 (by decide) ?_
  refine J_bipush (v := 12) dX8_copy_18 (by decide) ?_
  obtain ⟨u3, e4⟩ : ∃ z, z = mr u1 20 (va_cpy (u1 129) (u1 20) 0 0 12) := ⟨_, rfl⟩
  refine J_copyi (sp := 0) (dp := 0) (nn := 12) dX8_copy_20 k694 k686 k685 k104 wc_129 wc_20 (by decide) (by decide) (by decide) (by decide) (by decide) (Nat.le_trans (by decide) hd) (Nat.le_of_ble_eq_true rfl) (wsr e4 wk_20 rfl) ?_
  replace E := xq_le e4 E
  refine J_aload_n (i := 1) (j := 1) dX8_copy_23 rfl rfl ?_
  refine J_get (C := RX8) (T := TX8) (Z := 4) (ci := 8) (f := 2) dX8_copy_24 inG8 rfl (by decide) k173 wc_128 rfl ?_
  refine J_iconst (v := 0) dX8_copy_27 (by decide) ?_
  refine J_aload_n (i := 0) (j := 0) dX8_copy_28 rfl rfl ?_
  refine J_get (C := RX8) (T := TX8) (Z := 4) (ci := 8) (f := 2) dX8_copy_29 inG8 rfl (by decide) k173 wc_19 rfl ?_
  refine J_iconst (v := 0) dX8_copy_32 (by decide) ?_
  refine J_bipush (v := 12) dX8_copy_33 (by decide) ?_
  obtain ⟨u5, e6⟩ : ∃ z, z = mr u3 21 (va_cpy (u3 130) (u3 21) 0 0 12) := ⟨_, rfl⟩
  refine J_copyi (sp := 0) (dp := 0) (nn := 12) dX8_copy_35 k694 k686 k685 k104 wc_130 wc_21 (by decide) (by decide) (by decide) (by decide) (by decide) (Nat.le_trans (by decide) hd) (Nat.le_of_ble_eq_true rfl) (wsr e6 wk_21 rfl) ?_
  replace E := xq_le e6 E
  refine J_aload_n (i := 1) (j := 1) dX8_copy_38 rfl rfl ?_
  refine J_get (C := RX8) (T := TX8) (Z := 4) (ci := 8) (f := 3) dX8_copy_39 inG8 rfl (by decide) k175 wc_128 rfl ?_
  refine J_iconst (v := 0) dX8_copy_42 (by decide) ?_
  refine J_aload_n (i := 0) (j := 0) dX8_copy_43 rfl rfl ?_
  refine J_get (C := RX8) (T := TX8) (Z := 4) (ci := 8) (f := 3) dX8_copy_44 inG8 rfl (by decide) k175 wc_19 rfl ?_
  refine J_iconst (v := 0) dX8_copy_47 (by decide) ?_
  refine J_bipush (v := 12) dX8_copy_48 (by decide) ?_
  obtain ⟨u7, e8⟩ : ∃ z, z = mr u5 22 (va_cpy (u5 131) (u5 22) 0 0 12) := ⟨_, rfl⟩
  refine J_copyi (sp := 0) (dp := 0) (nn := 12) dX8_copy_50 k694 k686 k685 k104 wc_131 wc_22 (by decide) (by decide) (by decide) (by decide) (by decide) (Nat.le_trans (by decide) hd) (Nat.le_of_ble_eq_true rfl) (wsr e8 wk_22 rfl) ?_
  replace E := xq_le e8 E
  exact J_vret hq dX8_copy_53 rfl wlen (Nat.le_refl _) (Nat.le_refl _) ⟨u7, rfl, rfl, (bd_r ((congrFun (mr_c e8 (Nat.ne_of_beq_eq_false rfl)) 0).trans ((congrFun (mr_c e6 (Nat.ne_of_beq_eq_false rfl)) 0).trans ((congrFun (mr_c e4 (Nat.ne_of_beq_eq_false rfl)) 0).trans (ms_e e2)))) hp0), (km_cp (u := u) (w := 19) (f := 128) (show u7 20 = va_cpy (u 129) (u 20) 0 0 12 by rw [((mr_c e8 (Nat.ne_of_beq_eq_false rfl)).trans (mr_c e6 (Nat.ne_of_beq_eq_false rfl))), mr_a e4, (ms_c e2 (Nat.ne_of_beq_eq_false rfl)), (ms_c e2 (Nat.ne_of_beq_eq_false rfl))]) (show u7 22 = va_cpy (u 131) (u 22) 0 0 12 by rw [mr_a e8, ((mr_c e6 (Nat.ne_of_beq_eq_false rfl)).trans ((mr_c e4 (Nat.ne_of_beq_eq_false rfl)).trans (ms_c e2 (Nat.ne_of_beq_eq_false rfl)))), ((mr_c e6 (Nat.ne_of_beq_eq_false rfl)).trans ((mr_c e4 (Nat.ne_of_beq_eq_false rfl)).trans (ms_c e2 (Nat.ne_of_beq_eq_false rfl))))]) hp1 hp2), E, (fun c k_ => ((mr_c e8 (nin_ne (a := 22) k_ rfl)).trans ((mr_c e6 (nin_ne (a := 21) k_ rfl)).trans ((mr_c e4 (nin_ne (a := 20) k_ rfl)).trans (ms_c e2 (nin_ne (a := 19) k_ rfl)))))), (fun j k0_ => ((congrFun (mr_c e8 (Nat.ne_of_beq_eq_false rfl)) j).trans ((congrFun (mr_c e6 (Nat.ne_of_beq_eq_false rfl)) j).trans ((congrFun (mr_c e4 (Nat.ne_of_beq_eq_false rfl)) j).trans (ms_i e2 k0_)))))⟩
set_option maxRecDepth 100000 in
noncomputable def Fx_W_copyK_23_132X (u : Nat → Nat → Int32) (g : Nat → Nat → Int64) : (Nat → Nat → Int32) := xq_lt (ms u 23 0 (u 132 0)) fun u1 => xq_lt (mr u1 24 (va_cpy (u1 133) (u1 24) 0 0 12)) fun u3 => xq_lt (mr u3 25 (va_cpy (u3 134) (u3 25) 0 0 12)) fun u5 => xq_lt (mr u5 26 (va_cpy (u5 135) (u5 26) 0 0 12)) fun u7 => u7
set_option maxHeartbeats 4000000 in
set_option maxRecDepth 100000 in
theorem c_W_copyK_23_132X {d : Nat} {u : Nat → Nat → Int32} {g : Nat → Nat → Int64} {ex : List MC}  (hd : 1 ≤ d) (hp0 : Bd 0 12 (u 132 0)) (hp1 : (KM u 132)) (hp2 : (KM u 23)) : CT con0 d 0 0 yX8_copy cX8_copy 2 none [.ref 23, .ref 132] (Wd u g ex) (fun r h2 => ∃ (u2 : Nat → Nat → Int32), r = none ∧ h2 = Wd u2 g ex ∧ Bd 0 12 (u2 23 0) ∧ (KM u2 23) ∧ u2 = Fx_W_copyK_23_132X u g ∧ (∀ c, nin c [(23, 26)] = true → u2 c = u c) ∧ (∀ j, j ≠ 0 → u2 23 j = u 23 j)) := by
  refine CT_of (by decide) (Nat.le_of_ble_eq_true rfl) (fun x hq => ?_)
  show J x yX8_copy cX8_copy 2 none d 0 0 (Wd u g ex).length 0 [(0, .ref 23), (1, .ref 132)] [] (Wd u g ex) 0 0
  have E : Fx_W_copyK_23_132X u g = Fx_W_copyK_23_132X u g := rfl
  refine J_aload_n (i := 0) (j := 0) dX8_copy_0 rfl rfl ?_
  refine J_aload_n (i := 1) (j := 1) dX8_copy_1 rfl rfl ?_
  refine J_get (C := RX8) (T := TX8) (Z := 4) (ci := 8) (f := 0) dX8_copy_2 inG8 rfl (by decide) k168 wc_132 rfl ?_
  obtain ⟨u1, e2⟩ : ∃ z, z = ms u 23 0 (u 132 0) := ⟨_, rfl⟩
  refine J_put (C := RX8) (T := TX8) (Z := 4) (ci := 8) (f := 0) (ty0 := tyX8) dX8_copy_5 inG8 rfl tyX8_ok nmX8 (by decide) k168 rfl rfl wc_23 (Nat.le_of_ble_eq_true rfl) (fun _ _ => ⟨rfl, rfl⟩) (ws e2 wk_23 rfl) ?_
  replace E := xq_le e2 E
  refine J_aload_n (i := 1) (j := 1) dX8_copy_8 rfl rfl ?_
  refine J_get (C := RX8) (T := TX8) (Z := 4) (ci := 8) (f := 1) dX8_copy_9 inG8 rfl (by decide) k171 wc_132 rfl ?_
  refine J_iconst (v := 0) dX8_copy_12 (by decide) ?_
  refine J_aload_n (i := 0) (j := 0) dX8_copy_13 rfl rfl ?_
  refine J_get (C := RX8) (T := TX8) (Z := 4) (ci := 8) (f := 1) dX8_copy_14 inG8 rfl (by decide) k171 wc_23 rfl ?_
  refine J_iconst (v := 0) dX8_copy_17 (by decide) ?_
  refine J_bipush (v := 12) dX8_copy_18 (by decide) ?_
  obtain ⟨u3, e4⟩ : ∃ z, z = mr u1 24 (va_cpy (u1 133) (u1 24) 0 0 12) := ⟨_, rfl⟩
  refine J_copyi (sp := 0) (dp := 0) (nn := 12) dX8_copy_20 k694 k686 k685 k104 wc_133 wc_24 (by decide) (by decide) (by decide) (by decide) (by decide) (Nat.le_trans (by decide) hd) (Nat.le_of_ble_eq_true rfl) (wsr e4 wk_24 rfl) ?_
  replace E := xq_le e4 E
  refine J_aload_n (i := 1) (j := 1) dX8_copy_23 rfl rfl ?_
  refine J_get (C := RX8) (T := TX8) (Z := 4) (ci := 8) (f := 2) dX8_copy_24 inG8 rfl (by decide) k173 wc_132 rfl ?_
  refine J_iconst (v := 0) dX8_copy_27 (by decide) ?_
  refine J_aload_n (i := 0) (j := 0) dX8_copy_28 rfl rfl ?_
  refine J_get (C := RX8) (T := TX8) (Z := 4) (ci := 8) (f := 2) dX8_copy_29 inG8 rfl (by decide) k173 wc_23 rfl ?_
  refine J_iconst (v := 0) dX8_copy_32 (by decide) ?_
  refine J_bipush (v := 12) dX8_copy_33 (by decide) ?_
  obtain ⟨u5, e6⟩ : ∃ z, z = mr u3 25 (va_cpy (u3 134) (u3 25) 0 0 12) := ⟨_, rfl⟩
  refine J_copyi (sp := 0) (dp := 0) (nn := 12) dX8_copy_35 k694 k686 k685 k104 wc_134 wc_25 (by decide) (by decide) (by decide) (by decide) (by decide) (Nat.le_trans (by decide) hd) (Nat.le_of_ble_eq_true rfl) (wsr e6 wk_25 rfl) ?_
  replace E := xq_le e6 E
  refine J_aload_n (i := 1) (j := 1) dX8_copy_38 rfl rfl ?_
  refine J_get (C := RX8) (T := TX8) (Z := 4) (ci := 8) (f := 3) dX8_copy_39 inG8 rfl (by decide) k175 wc_132 rfl ?_
  refine J_iconst (v := 0) dX8_copy_42 (by decide) ?_
  refine J_aload_n (i := 0) (j := 0) dX8_copy_43 rfl rfl ?_
  refine J_get (C := RX8) (T := TX8) (Z := 4) (ci := 8) (f := 3) dX8_copy_44 inG8 rfl (by decide) k175 wc_23 rfl ?_
  refine J_iconst (v := 0) dX8_copy_47 (by decide) ?_
  refine J_bipush (v := 12) dX8_copy_48 (by decide) ?_
  obtain ⟨u7, e8⟩ : ∃ z, z = mr u5 26 (va_cpy (u5 135) (u5 26) 0 0 12) := ⟨_, rfl⟩
  refine J_copyi (sp := 0) (dp := 0) (nn := 12) dX8_copy_50 k694 k686 k685 k104 wc_135 wc_26 (by decide) (by decide) (by decide) (by decide) (by decide) (Nat.le_trans (by decide) hd) (Nat.le_of_ble_eq_true rfl) (wsr e8 wk_26 rfl) ?_
  replace E := xq_le e8 E
  exact J_vret hq dX8_copy_53 rfl wlen (Nat.le_refl _) (Nat.le_refl _) ⟨u7, rfl, rfl, (bd_r ((congrFun (mr_c e8 (Nat.ne_of_beq_eq_false rfl)) 0).trans ((congrFun (mr_c e6 (Nat.ne_of_beq_eq_false rfl)) 0).trans ((congrFun (mr_c e4 (Nat.ne_of_beq_eq_false rfl)) 0).trans (ms_e e2)))) hp0), (km_cp (u := u) (w := 23) (f := 132) (show u7 24 = va_cpy (u 133) (u 24) 0 0 12 by rw [((mr_c e8 (Nat.ne_of_beq_eq_false rfl)).trans (mr_c e6 (Nat.ne_of_beq_eq_false rfl))), mr_a e4, (ms_c e2 (Nat.ne_of_beq_eq_false rfl)), (ms_c e2 (Nat.ne_of_beq_eq_false rfl))]) (show u7 26 = va_cpy (u 135) (u 26) 0 0 12 by rw [mr_a e8, ((mr_c e6 (Nat.ne_of_beq_eq_false rfl)).trans ((mr_c e4 (Nat.ne_of_beq_eq_false rfl)).trans (ms_c e2 (Nat.ne_of_beq_eq_false rfl)))), ((mr_c e6 (Nat.ne_of_beq_eq_false rfl)).trans ((mr_c e4 (Nat.ne_of_beq_eq_false rfl)).trans (ms_c e2 (Nat.ne_of_beq_eq_false rfl))))]) hp1 hp2), E, (fun c k_ => ((mr_c e8 (nin_ne (a := 26) k_ rfl)).trans ((mr_c e6 (nin_ne (a := 25) k_ rfl)).trans ((mr_c e4 (nin_ne (a := 24) k_ rfl)).trans (ms_c e2 (nin_ne (a := 23) k_ rfl)))))), (fun j k0_ => ((congrFun (mr_c e8 (Nat.ne_of_beq_eq_false rfl)) j).trans ((congrFun (mr_c e6 (Nat.ne_of_beq_eq_false rfl)) j).trans ((congrFun (mr_c e4 (Nat.ne_of_beq_eq_false rfl)) j).trans (ms_i e2 k0_)))))⟩
set_option maxRecDepth 100000 in
noncomputable def Fx_W_copyK_15_150X (u : Nat → Nat → Int32) (g : Nat → Nat → Int64) : (Nat → Nat → Int32) := xq_lt (ms u 15 0 (u 150 0)) fun u1 => xq_lt (mr u1 16 (va_cpy (u1 151) (u1 16) 0 0 12)) fun u3 => xq_lt (mr u3 17 (va_cpy (u3 152) (u3 17) 0 0 12)) fun u5 => xq_lt (mr u5 18 (va_cpy (u5 153) (u5 18) 0 0 12)) fun u7 => u7
set_option maxHeartbeats 4000000 in
set_option maxRecDepth 100000 in
theorem c_W_copyK_15_150X {d : Nat} {u : Nat → Nat → Int32} {g : Nat → Nat → Int64} {ex : List MC}  (hd : 1 ≤ d) (hp0 : Bd 0 12 (u 150 0)) (hp1 : (KM u 150)) (hp2 : (KM u 15)) : CT con0 d 0 0 yX8_copy cX8_copy 2 none [.ref 15, .ref 150] (Wd u g ex) (fun r h2 => ∃ (u2 : Nat → Nat → Int32), r = none ∧ h2 = Wd u2 g ex ∧ Bd 0 12 (u2 15 0) ∧ (KM u2 15) ∧ u2 = Fx_W_copyK_15_150X u g ∧ (∀ c, nin c [(15, 18)] = true → u2 c = u c) ∧ (∀ j, j ≠ 0 → u2 15 j = u 15 j)) := by
  refine CT_of (by decide) (Nat.le_of_ble_eq_true rfl) (fun x hq => ?_)
  show J x yX8_copy cX8_copy 2 none d 0 0 (Wd u g ex).length 0 [(0, .ref 15), (1, .ref 150)] [] (Wd u g ex) 0 0
  have E : Fx_W_copyK_15_150X u g = Fx_W_copyK_15_150X u g := rfl
  refine J_aload_n (i := 0) (j := 0) dX8_copy_0 rfl rfl ?_
  refine J_aload_n (i := 1) (j := 1) dX8_copy_1 rfl rfl ?_
  refine J_get (C := RX8) (T := TX8) (Z := 4) (ci := 8) (f := 0) dX8_copy_2 inG8 rfl (by decide) k168 wc_150 rfl ?_
  obtain ⟨u1, e2⟩ : ∃ z, z = ms u 15 0 (u 150 0) := ⟨_, rfl⟩
  refine J_put (C := RX8) (T := TX8) (Z := 4) (ci := 8) (f := 0) (ty0 := tyX8) dX8_copy_5 inG8 rfl tyX8_ok nmX8 (by decide) k168 rfl rfl wc_15 (Nat.le_of_ble_eq_true rfl) (fun _ _ => ⟨rfl, rfl⟩) (ws e2 wk_15 rfl) ?_
  replace E := xq_le e2 E
  refine J_aload_n (i := 1) (j := 1) dX8_copy_8 rfl rfl ?_
  refine J_get (C := RX8) (T := TX8) (Z := 4) (ci := 8) (f := 1) dX8_copy_9 inG8 rfl (by decide) k171 wc_150 rfl ?_
  refine J_iconst (v := 0) dX8_copy_12 (by decide) ?_
  refine J_aload_n (i := 0) (j := 0) dX8_copy_13 rfl rfl ?_
  refine J_get (C := RX8) (T := TX8) (Z := 4) (ci := 8) (f := 1) dX8_copy_14 inG8 rfl (by decide) k171 wc_15 rfl ?_
  refine J_iconst (v := 0) dX8_copy_17 (by decide) ?_
  refine J_bipush (v := 12) dX8_copy_18 (by decide) ?_
  obtain ⟨u3, e4⟩ : ∃ z, z = mr u1 16 (va_cpy (u1 151) (u1 16) 0 0 12) := ⟨_, rfl⟩
  refine J_copyi (sp := 0) (dp := 0) (nn := 12) dX8_copy_20 k694 k686 k685 k104 wc_151 wc_16 (by decide) (by decide) (by decide) (by decide) (by decide) (Nat.le_trans (by decide) hd) (Nat.le_of_ble_eq_true rfl) (wsr e4 wk_16 rfl) ?_
  replace E := xq_le e4 E
  refine J_aload_n (i := 1) (j := 1) dX8_copy_23 rfl rfl ?_
  refine J_get (C := RX8) (T := TX8) (Z := 4) (ci := 8) (f := 2) dX8_copy_24 inG8 rfl (by decide) k173 wc_150 rfl ?_
  refine J_iconst (v := 0) dX8_copy_27 (by decide) ?_
  refine J_aload_n (i := 0) (j := 0) dX8_copy_28 rfl rfl ?_
  refine J_get (C := RX8) (T := TX8) (Z := 4) (ci := 8) (f := 2) dX8_copy_29 inG8 rfl (by decide) k173 wc_15 rfl ?_
  refine J_iconst (v := 0) dX8_copy_32 (by decide) ?_
  refine J_bipush (v := 12) dX8_copy_33 (by decide) ?_
  obtain ⟨u5, e6⟩ : ∃ z, z = mr u3 17 (va_cpy (u3 152) (u3 17) 0 0 12) := ⟨_, rfl⟩
  refine J_copyi (sp := 0) (dp := 0) (nn := 12) dX8_copy_35 k694 k686 k685 k104 wc_152 wc_17 (by decide) (by decide) (by decide) (by decide) (by decide) (Nat.le_trans (by decide) hd) (Nat.le_of_ble_eq_true rfl) (wsr e6 wk_17 rfl) ?_
  replace E := xq_le e6 E
  refine J_aload_n (i := 1) (j := 1) dX8_copy_38 rfl rfl ?_
  refine J_get (C := RX8) (T := TX8) (Z := 4) (ci := 8) (f := 3) dX8_copy_39 inG8 rfl (by decide) k175 wc_150 rfl ?_
  refine J_iconst (v := 0) dX8_copy_42 (by decide) ?_
  refine J_aload_n (i := 0) (j := 0) dX8_copy_43 rfl rfl ?_
  refine J_get (C := RX8) (T := TX8) (Z := 4) (ci := 8) (f := 3) dX8_copy_44 inG8 rfl (by decide) k175 wc_15 rfl ?_
  refine J_iconst (v := 0) dX8_copy_47 (by decide) ?_
  refine J_bipush (v := 12) dX8_copy_48 (by decide) ?_
  obtain ⟨u7, e8⟩ : ∃ z, z = mr u5 18 (va_cpy (u5 153) (u5 18) 0 0 12) := ⟨_, rfl⟩
  refine J_copyi (sp := 0) (dp := 0) (nn := 12) dX8_copy_50 k694 k686 k685 k104 wc_153 wc_18 (by decide) (by decide) (by decide) (by decide) (by decide) (Nat.le_trans (by decide) hd) (Nat.le_of_ble_eq_true rfl) (wsr e8 wk_18 rfl) ?_
  replace E := xq_le e8 E
  exact J_vret hq dX8_copy_53 rfl wlen (Nat.le_refl _) (Nat.le_refl _) ⟨u7, rfl, rfl, (bd_r ((congrFun (mr_c e8 (Nat.ne_of_beq_eq_false rfl)) 0).trans ((congrFun (mr_c e6 (Nat.ne_of_beq_eq_false rfl)) 0).trans ((congrFun (mr_c e4 (Nat.ne_of_beq_eq_false rfl)) 0).trans (ms_e e2)))) hp0), (km_cp (u := u) (w := 15) (f := 150) (show u7 16 = va_cpy (u 151) (u 16) 0 0 12 by rw [((mr_c e8 (Nat.ne_of_beq_eq_false rfl)).trans (mr_c e6 (Nat.ne_of_beq_eq_false rfl))), mr_a e4, (ms_c e2 (Nat.ne_of_beq_eq_false rfl)), (ms_c e2 (Nat.ne_of_beq_eq_false rfl))]) (show u7 18 = va_cpy (u 153) (u 18) 0 0 12 by rw [mr_a e8, ((mr_c e6 (Nat.ne_of_beq_eq_false rfl)).trans ((mr_c e4 (Nat.ne_of_beq_eq_false rfl)).trans (ms_c e2 (Nat.ne_of_beq_eq_false rfl)))), ((mr_c e6 (Nat.ne_of_beq_eq_false rfl)).trans ((mr_c e4 (Nat.ne_of_beq_eq_false rfl)).trans (ms_c e2 (Nat.ne_of_beq_eq_false rfl))))]) hp1 hp2), E, (fun c k_ => ((mr_c e8 (nin_ne (a := 18) k_ rfl)).trans ((mr_c e6 (nin_ne (a := 17) k_ rfl)).trans ((mr_c e4 (nin_ne (a := 16) k_ rfl)).trans (ms_c e2 (nin_ne (a := 15) k_ rfl)))))), (fun j k0_ => ((congrFun (mr_c e8 (Nat.ne_of_beq_eq_false rfl)) j).trans ((congrFun (mr_c e6 (Nat.ne_of_beq_eq_false rfl)) j).trans ((congrFun (mr_c e4 (Nat.ne_of_beq_eq_false rfl)) j).trans (ms_i e2 k0_)))))⟩
set_option maxRecDepth 100000 in
noncomputable def Fx_W_copyK_19_154X (u : Nat → Nat → Int32) (g : Nat → Nat → Int64) : (Nat → Nat → Int32) := xq_lt (ms u 19 0 (u 154 0)) fun u1 => xq_lt (mr u1 20 (va_cpy (u1 155) (u1 20) 0 0 12)) fun u3 => xq_lt (mr u3 21 (va_cpy (u3 156) (u3 21) 0 0 12)) fun u5 => xq_lt (mr u5 22 (va_cpy (u5 157) (u5 22) 0 0 12)) fun u7 => u7
set_option maxHeartbeats 4000000 in
set_option maxRecDepth 100000 in
theorem c_W_copyK_19_154X {d : Nat} {u : Nat → Nat → Int32} {g : Nat → Nat → Int64} {ex : List MC}  (hd : 1 ≤ d) (hp0 : Bd 0 12 (u 154 0)) (hp1 : (KM u 154)) (hp2 : (KM u 19)) : CT con0 d 0 0 yX8_copy cX8_copy 2 none [.ref 19, .ref 154] (Wd u g ex) (fun r h2 => ∃ (u2 : Nat → Nat → Int32), r = none ∧ h2 = Wd u2 g ex ∧ Bd 0 12 (u2 19 0) ∧ (KM u2 19) ∧ u2 = Fx_W_copyK_19_154X u g ∧ (∀ c, nin c [(19, 22)] = true → u2 c = u c) ∧ (∀ j, j ≠ 0 → u2 19 j = u 19 j)) := by
  refine CT_of (by decide) (Nat.le_of_ble_eq_true rfl) (fun x hq => ?_)
  show J x yX8_copy cX8_copy 2 none d 0 0 (Wd u g ex).length 0 [(0, .ref 19), (1, .ref 154)] [] (Wd u g ex) 0 0
  have E : Fx_W_copyK_19_154X u g = Fx_W_copyK_19_154X u g := rfl
  refine J_aload_n (i := 0) (j := 0) dX8_copy_0 rfl rfl ?_
  refine J_aload_n (i := 1) (j := 1) dX8_copy_1 rfl rfl ?_
  refine J_get (C := RX8) (T := TX8) (Z := 4) (ci := 8) (f := 0) dX8_copy_2 inG8 rfl (by decide) k168 wc_154 rfl ?_
  obtain ⟨u1, e2⟩ : ∃ z, z = ms u 19 0 (u 154 0) := ⟨_, rfl⟩
  refine J_put (C := RX8) (T := TX8) (Z := 4) (ci := 8) (f := 0) (ty0 := tyX8) dX8_copy_5 inG8 rfl tyX8_ok nmX8 (by decide) k168 rfl rfl wc_19 (Nat.le_of_ble_eq_true rfl) (fun _ _ => ⟨rfl, rfl⟩) (ws e2 wk_19 rfl) ?_
  replace E := xq_le e2 E
  refine J_aload_n (i := 1) (j := 1) dX8_copy_8 rfl rfl ?_
  refine J_get (C := RX8) (T := TX8) (Z := 4) (ci := 8) (f := 1) dX8_copy_9 inG8 rfl (by decide) k171 wc_154 rfl ?_
  refine J_iconst (v := 0) dX8_copy_12 (by decide) ?_
  refine J_aload_n (i := 0) (j := 0) dX8_copy_13 rfl rfl ?_
  refine J_get (C := RX8) (T := TX8) (Z := 4) (ci := 8) (f := 1) dX8_copy_14 inG8 rfl (by decide) k171 wc_19 rfl ?_
  refine J_iconst (v := 0) dX8_copy_17 (by decide) ?_
  refine J_bipush (v := 12) dX8_copy_18 (by decide) ?_
  obtain ⟨u3, e4⟩ : ∃ z, z = mr u1 20 (va_cpy (u1 155) (u1 20) 0 0 12) := ⟨_, rfl⟩
  refine J_copyi (sp := 0) (dp := 0) (nn := 12) dX8_copy_20 k694 k686 k685 k104 wc_155 wc_20 (by decide) (by decide) (by decide) (by decide) (by decide) (Nat.le_trans (by decide) hd) (Nat.le_of_ble_eq_true rfl) (wsr e4 wk_20 rfl) ?_
  replace E := xq_le e4 E
  refine J_aload_n (i := 1) (j := 1) dX8_copy_23 rfl rfl ?_
  refine J_get (C := RX8) (T := TX8) (Z := 4) (ci := 8) (f := 2) dX8_copy_24 inG8 rfl (by decide) k173 wc_154 rfl ?_
  refine J_iconst (v := 0) dX8_copy_27 (by decide) ?_
  refine J_aload_n (i := 0) (j := 0) dX8_copy_28 rfl rfl ?_
  refine J_get (C := RX8) (T := TX8) (Z := 4) (ci := 8) (f := 2) dX8_copy_29 inG8 rfl (by decide) k173 wc_19 rfl ?_
  refine J_iconst (v := 0) dX8_copy_32 (by decide) ?_
  refine J_bipush (v := 12) dX8_copy_33 (by decide) ?_
  obtain ⟨u5, e6⟩ : ∃ z, z = mr u3 21 (va_cpy (u3 156) (u3 21) 0 0 12) := ⟨_, rfl⟩
  refine J_copyi (sp := 0) (dp := 0) (nn := 12) dX8_copy_35 k694 k686 k685 k104 wc_156 wc_21 (by decide) (by decide) (by decide) (by decide) (by decide) (Nat.le_trans (by decide) hd) (Nat.le_of_ble_eq_true rfl) (wsr e6 wk_21 rfl) ?_
  replace E := xq_le e6 E
  refine J_aload_n (i := 1) (j := 1) dX8_copy_38 rfl rfl ?_
  refine J_get (C := RX8) (T := TX8) (Z := 4) (ci := 8) (f := 3) dX8_copy_39 inG8 rfl (by decide) k175 wc_154 rfl ?_
  refine J_iconst (v := 0) dX8_copy_42 (by decide) ?_
  refine J_aload_n (i := 0) (j := 0) dX8_copy_43 rfl rfl ?_
  refine J_get (C := RX8) (T := TX8) (Z := 4) (ci := 8) (f := 3) dX8_copy_44 inG8 rfl (by decide) k175 wc_19 rfl ?_
  refine J_iconst (v := 0) dX8_copy_47 (by decide) ?_
  refine J_bipush (v := 12) dX8_copy_48 (by decide) ?_
  obtain ⟨u7, e8⟩ : ∃ z, z = mr u5 22 (va_cpy (u5 157) (u5 22) 0 0 12) := ⟨_, rfl⟩
  refine J_copyi (sp := 0) (dp := 0) (nn := 12) dX8_copy_50 k694 k686 k685 k104 wc_157 wc_22 (by decide) (by decide) (by decide) (by decide) (by decide) (Nat.le_trans (by decide) hd) (Nat.le_of_ble_eq_true rfl) (wsr e8 wk_22 rfl) ?_
  replace E := xq_le e8 E
  exact J_vret hq dX8_copy_53 rfl wlen (Nat.le_refl _) (Nat.le_refl _) ⟨u7, rfl, rfl, (bd_r ((congrFun (mr_c e8 (Nat.ne_of_beq_eq_false rfl)) 0).trans ((congrFun (mr_c e6 (Nat.ne_of_beq_eq_false rfl)) 0).trans ((congrFun (mr_c e4 (Nat.ne_of_beq_eq_false rfl)) 0).trans (ms_e e2)))) hp0), (km_cp (u := u) (w := 19) (f := 154) (show u7 20 = va_cpy (u 155) (u 20) 0 0 12 by rw [((mr_c e8 (Nat.ne_of_beq_eq_false rfl)).trans (mr_c e6 (Nat.ne_of_beq_eq_false rfl))), mr_a e4, (ms_c e2 (Nat.ne_of_beq_eq_false rfl)), (ms_c e2 (Nat.ne_of_beq_eq_false rfl))]) (show u7 22 = va_cpy (u 157) (u 22) 0 0 12 by rw [mr_a e8, ((mr_c e6 (Nat.ne_of_beq_eq_false rfl)).trans ((mr_c e4 (Nat.ne_of_beq_eq_false rfl)).trans (ms_c e2 (Nat.ne_of_beq_eq_false rfl)))), ((mr_c e6 (Nat.ne_of_beq_eq_false rfl)).trans ((mr_c e4 (Nat.ne_of_beq_eq_false rfl)).trans (ms_c e2 (Nat.ne_of_beq_eq_false rfl))))]) hp1 hp2), E, (fun c k_ => ((mr_c e8 (nin_ne (a := 22) k_ rfl)).trans ((mr_c e6 (nin_ne (a := 21) k_ rfl)).trans ((mr_c e4 (nin_ne (a := 20) k_ rfl)).trans (ms_c e2 (nin_ne (a := 19) k_ rfl)))))), (fun j k0_ => ((congrFun (mr_c e8 (Nat.ne_of_beq_eq_false rfl)) j).trans ((congrFun (mr_c e6 (Nat.ne_of_beq_eq_false rfl)) j).trans ((congrFun (mr_c e4 (Nat.ne_of_beq_eq_false rfl)) j).trans (ms_i e2 k0_)))))⟩
set_option maxRecDepth 100000 in
noncomputable def Fx_W_copyK_23_158X (u : Nat → Nat → Int32) (g : Nat → Nat → Int64) : (Nat → Nat → Int32) := xq_lt (ms u 23 0 (u 158 0)) fun u1 => xq_lt (mr u1 24 (va_cpy (u1 159) (u1 24) 0 0 12)) fun u3 => xq_lt (mr u3 25 (va_cpy (u3 160) (u3 25) 0 0 12)) fun u5 => xq_lt (mr u5 26 (va_cpy (u5 161) (u5 26) 0 0 12)) fun u7 => u7
set_option maxHeartbeats 4000000 in
set_option maxRecDepth 100000 in
theorem c_W_copyK_23_158X {d : Nat} {u : Nat → Nat → Int32} {g : Nat → Nat → Int64} {ex : List MC}  (hd : 1 ≤ d) (hp0 : Bd 0 12 (u 158 0)) (hp1 : (KM u 158)) (hp2 : (KM u 23)) : CT con0 d 0 0 yX8_copy cX8_copy 2 none [.ref 23, .ref 158] (Wd u g ex) (fun r h2 => ∃ (u2 : Nat → Nat → Int32), r = none ∧ h2 = Wd u2 g ex ∧ Bd 0 12 (u2 23 0) ∧ (KM u2 23) ∧ u2 = Fx_W_copyK_23_158X u g ∧ (∀ c, nin c [(23, 26)] = true → u2 c = u c) ∧ (∀ j, j ≠ 0 → u2 23 j = u 23 j)) := by
  refine CT_of (by decide) (Nat.le_of_ble_eq_true rfl) (fun x hq => ?_)
  show J x yX8_copy cX8_copy 2 none d 0 0 (Wd u g ex).length 0 [(0, .ref 23), (1, .ref 158)] [] (Wd u g ex) 0 0
  have E : Fx_W_copyK_23_158X u g = Fx_W_copyK_23_158X u g := rfl
  refine J_aload_n (i := 0) (j := 0) dX8_copy_0 rfl rfl ?_
  refine J_aload_n (i := 1) (j := 1) dX8_copy_1 rfl rfl ?_
  refine J_get (C := RX8) (T := TX8) (Z := 4) (ci := 8) (f := 0) dX8_copy_2 inG8 rfl (by decide) k168 wc_158 rfl ?_
  obtain ⟨u1, e2⟩ : ∃ z, z = ms u 23 0 (u 158 0) := ⟨_, rfl⟩
  refine J_put (C := RX8) (T := TX8) (Z := 4) (ci := 8) (f := 0) (ty0 := tyX8) dX8_copy_5 inG8 rfl tyX8_ok nmX8 (by decide) k168 rfl rfl wc_23 (Nat.le_of_ble_eq_true rfl) (fun _ _ => ⟨rfl, rfl⟩) (ws e2 wk_23 rfl) ?_
  replace E := xq_le e2 E
  refine J_aload_n (i := 1) (j := 1) dX8_copy_8 rfl rfl ?_
  refine J_get (C := RX8) (T := TX8) (Z := 4) (ci := 8) (f := 1) dX8_copy_9 inG8 rfl (by decide) k171 wc_158 rfl ?_
  refine J_iconst (v := 0) dX8_copy_12 (by decide) ?_
  refine J_aload_n (i := 0) (j := 0) dX8_copy_13 rfl rfl ?_
  refine J_get (C := RX8) (T := TX8) (Z := 4) (ci := 8) (f := 1) dX8_copy_14 inG8 rfl (by decide) k171 wc_23 rfl ?_
  refine J_iconst (v := 0) dX8_copy_17 (by decide) ?_
  refine J_bipush (v := 12) dX8_copy_18 (by decide) ?_
  obtain ⟨u3, e4⟩ : ∃ z, z = mr u1 24 (va_cpy (u1 159) (u1 24) 0 0 12) := ⟨_, rfl⟩
  refine J_copyi (sp := 0) (dp := 0) (nn := 12) dX8_copy_20 k694 k686 k685 k104 wc_159 wc_24 (by decide) (by decide) (by decide) (by decide) (by decide) (Nat.le_trans (by decide) hd) (Nat.le_of_ble_eq_true rfl) (wsr e4 wk_24 rfl) ?_
  replace E := xq_le e4 E
  refine J_aload_n (i := 1) (j := 1) dX8_copy_23 rfl rfl ?_
  refine J_get (C := RX8) (T := TX8) (Z := 4) (ci := 8) (f := 2) dX8_copy_24 inG8 rfl (by decide) k173 wc_158 rfl ?_
  refine J_iconst (v := 0) dX8_copy_27 (by decide) ?_
  refine J_aload_n (i := 0) (j := 0) dX8_copy_28 rfl rfl ?_
  refine J_get (C := RX8) (T := TX8) (Z := 4) (ci := 8) (f := 2) dX8_copy_29 inG8 rfl (by decide) k173 wc_23 rfl ?_
  refine J_iconst (v := 0) dX8_copy_32 (by decide) ?_
  refine J_bipush (v := 12) dX8_copy_33 (by decide) ?_
  obtain ⟨u5, e6⟩ : ∃ z, z = mr u3 25 (va_cpy (u3 160) (u3 25) 0 0 12) := ⟨_, rfl⟩
  refine J_copyi (sp := 0) (dp := 0) (nn := 12) dX8_copy_35 k694 k686 k685 k104 wc_160 wc_25 (by decide) (by decide) (by decide) (by decide) (by decide) (Nat.le_trans (by decide) hd) (Nat.le_of_ble_eq_true rfl) (wsr e6 wk_25 rfl) ?_
  replace E := xq_le e6 E
  refine J_aload_n (i := 1) (j := 1) dX8_copy_38 rfl rfl ?_
  refine J_get (C := RX8) (T := TX8) (Z := 4) (ci := 8) (f := 3) dX8_copy_39 inG8 rfl (by decide) k175 wc_158 rfl ?_
  refine J_iconst (v := 0) dX8_copy_42 (by decide) ?_
  refine J_aload_n (i := 0) (j := 0) dX8_copy_43 rfl rfl ?_
  refine J_get (C := RX8) (T := TX8) (Z := 4) (ci := 8) (f := 3) dX8_copy_44 inG8 rfl (by decide) k175 wc_23 rfl ?_
  refine J_iconst (v := 0) dX8_copy_47 (by decide) ?_
  refine J_bipush (v := 12) dX8_copy_48 (by decide) ?_
  obtain ⟨u7, e8⟩ : ∃ z, z = mr u5 26 (va_cpy (u5 161) (u5 26) 0 0 12) := ⟨_, rfl⟩
  refine J_copyi (sp := 0) (dp := 0) (nn := 12) dX8_copy_50 k694 k686 k685 k104 wc_161 wc_26 (by decide) (by decide) (by decide) (by decide) (by decide) (Nat.le_trans (by decide) hd) (Nat.le_of_ble_eq_true rfl) (wsr e8 wk_26 rfl) ?_
  replace E := xq_le e8 E
  exact J_vret hq dX8_copy_53 rfl wlen (Nat.le_refl _) (Nat.le_refl _) ⟨u7, rfl, rfl, (bd_r ((congrFun (mr_c e8 (Nat.ne_of_beq_eq_false rfl)) 0).trans ((congrFun (mr_c e6 (Nat.ne_of_beq_eq_false rfl)) 0).trans ((congrFun (mr_c e4 (Nat.ne_of_beq_eq_false rfl)) 0).trans (ms_e e2)))) hp0), (km_cp (u := u) (w := 23) (f := 158) (show u7 24 = va_cpy (u 159) (u 24) 0 0 12 by rw [((mr_c e8 (Nat.ne_of_beq_eq_false rfl)).trans (mr_c e6 (Nat.ne_of_beq_eq_false rfl))), mr_a e4, (ms_c e2 (Nat.ne_of_beq_eq_false rfl)), (ms_c e2 (Nat.ne_of_beq_eq_false rfl))]) (show u7 26 = va_cpy (u 161) (u 26) 0 0 12 by rw [mr_a e8, ((mr_c e6 (Nat.ne_of_beq_eq_false rfl)).trans ((mr_c e4 (Nat.ne_of_beq_eq_false rfl)).trans (ms_c e2 (Nat.ne_of_beq_eq_false rfl)))), ((mr_c e6 (Nat.ne_of_beq_eq_false rfl)).trans ((mr_c e4 (Nat.ne_of_beq_eq_false rfl)).trans (ms_c e2 (Nat.ne_of_beq_eq_false rfl))))]) hp1 hp2), E, (fun c k_ => ((mr_c e8 (nin_ne (a := 26) k_ rfl)).trans ((mr_c e6 (nin_ne (a := 25) k_ rfl)).trans ((mr_c e4 (nin_ne (a := 24) k_ rfl)).trans (ms_c e2 (nin_ne (a := 23) k_ rfl)))))), (fun j k0_ => ((congrFun (mr_c e8 (Nat.ne_of_beq_eq_false rfl)) j).trans ((congrFun (mr_c e6 (Nat.ne_of_beq_eq_false rfl)) j).trans ((congrFun (mr_c e4 (Nat.ne_of_beq_eq_false rfl)) j).trans (ms_i e2 k0_)))))⟩
set_option maxRecDepth 100000 in
noncomputable def Fx_T_copyR_84_1X_L86 (g : Nat → Nat → Int64) (n_ : Nat) : (Int32) → (Nat → Nat → Int32) → (Nat → Nat → Int32) := Nat.rec (motive := fun _ => (Int32) → (Nat → Nat → Int32) → (Nat → Nat → Int32)) (fun _ _ => default) (fun n_ ih_ w589 u590 => if (3 : Int32) ≤ w589 then (u590) else (if w589 = 0 then (xq_lt (Fx_W_copyK_98_15X u590 g) fun u631 => ih_ (w589 + 1) u631) else (if w589 = 1 then (xq_lt (Fx_W_copyK_102_19X u590 g) fun u638 => ih_ (w589 + 1) u638) else (xq_lt (Fx_W_copyK_106_23X u590 g) fun u645 => ih_ (w589 + 1) u645)))) n_
set_option maxRecDepth 100000 in
theorem Fx_T_copyR_84_1X_L86_s {g : Nat → Nat → Int64} {w589 : Int32} {u590 : Nat → Nat → Int32} {n_ : Nat} : Fx_T_copyR_84_1X_L86 g (n_ + 1) w589 u590 = if (3 : Int32) ≤ w589 then (u590) else (if w589 = 0 then (xq_lt (Fx_W_copyK_98_15X u590 g) fun u631 => (Fx_T_copyR_84_1X_L86 g n_) (w589 + 1) u631) else (if w589 = 1 then (xq_lt (Fx_W_copyK_102_19X u590 g) fun u638 => (Fx_T_copyR_84_1X_L86 g n_) (w589 + 1) u638) else (xq_lt (Fx_W_copyK_106_23X u590 g) fun u645 => (Fx_T_copyR_84_1X_L86 g n_) (w589 + 1) u645))) := rfl
set_option maxRecDepth 100000 in
noncomputable def Fx_T_copyR_84_1X_L58 (g : Nat → Nat → Int64) (n_ : Nat) : (Int32) → (Nat → Nat → Int32) → (Nat → Nat → Int32) := Nat.rec (motive := fun _ => (Int32) → (Nat → Nat → Int32) → (Nat → Nat → Int32)) (fun _ _ => default) (fun n_ ih_ w267 u268 => if (2 : Int32) ≤ w267 then (Fx_T_copyR_84_1X_L86 g ((3 - (0 : Int32).toInt).toNat + 1) (0 : Int32) u268) else (if w267 = 0 then (xq_lt (Fx_H_copyBX 88 5 u268 g) fun u653 => ih_ (w267 + 1) u653) else (xq_lt (Fx_H_copyBX 93 10 u268 g) fun u661 => ih_ (w267 + 1) u661))) n_
set_option maxRecDepth 100000 in
theorem Fx_T_copyR_84_1X_L58_s {g : Nat → Nat → Int64} {w267 : Int32} {u268 : Nat → Nat → Int32} {n_ : Nat} : Fx_T_copyR_84_1X_L58 g (n_ + 1) w267 u268 = if (2 : Int32) ≤ w267 then (Fx_T_copyR_84_1X_L86 g ((3 - (0 : Int32).toInt).toNat + 1) (0 : Int32) u268) else (if w267 = 0 then (xq_lt (Fx_H_copyBX 88 5 u268 g) fun u653 => (Fx_T_copyR_84_1X_L58 g n_) (w267 + 1) u653) else (xq_lt (Fx_H_copyBX 93 10 u268 g) fun u661 => (Fx_T_copyR_84_1X_L58 g n_) (w267 + 1) u661)) := rfl
set_option maxRecDepth 100000 in
noncomputable def Fx_T_copyR_84_1X (u : Nat → Nat → Int32) (g : Nat → Nat → Int64) : (Nat → Nat → Int32) := xq_lt (mr u 85 (va_cpy (u 2) (u 85) 0 0 600)) fun u1 => xq_lt (ms u1 84 1 (u 1 1)) fun u3 => xq_lt (ms u3 84 2 (u 1 2)) fun u5 => xq_lt (ms u5 84 3 (u 1 3)) fun u7 => xq_lt (ms u7 84 5 (u 1 5)) fun u9 => xq_lt (ms u9 84 7 (u 1 7)) fun u11 => Fx_T_copyR_84_1X_L58 g ((2 - (0 : Int32).toInt).toNat + 1) (0 : Int32) u11
set_option maxHeartbeats 4000000 in
set_option maxRecDepth 100000 in
theorem c_T_copyR_84_1X {d : Nat} {u : Nat → Nat → Int32} {g : Nat → Nat → Int64} {ex : List MC}  (hd : 2 ≤ d) (hp0 : Bd 0 600 (u 1 1)) (hp1 : Bd 0 2 (u 1 5)) (hp2 : Bd 0 3 (u 1 7)) (hp3 : BF u 2) (hp4 : Bd 0 9 (u 5 0)) (hp5 : Bd 0 4 (u 5 2)) (hp6 : Bd 0 9 (u 10 0)) (hp7 : Bd 0 4 (u 10 2)) (hp8 : AB u 6 (-1) 999) (hp9 : AB u 11 (-1) 999) (hp10 : Bd 0 12 (u 15 0)) (hp11 : Bd 0 12 (u 19 0)) (hp12 : Bd 0 12 (u 23 0)) (hp13 : (KM u 15)) (hp14 : (KM u 19)) (hp15 : (KM u 23)) (hp16 : Bd 0 600 (u 84 1)) (hp17 : Bd 0 2 (u 84 5)) (hp18 : Bd 0 3 (u 84 7)) (hp19 : BF u 85) (hp20 : Bd 0 9 (u 88 0)) (hp21 : Bd 0 4 (u 88 2)) (hp22 : Bd 0 9 (u 93 0)) (hp23 : Bd 0 4 (u 93 2)) (hp24 : AB u 89 (-1) 999) (hp25 : AB u 94 (-1) 999) (hp26 : Bd 0 12 (u 98 0)) (hp27 : Bd 0 12 (u 102 0)) (hp28 : Bd 0 12 (u 106 0)) (hp29 : (KM u 98)) (hp30 : (KM u 102)) (hp31 : (KM u 106)) : CT con0 d 0 0 yX7_copy cX7_copy 3 none [.ref 84, .ref 1] (Wd u g ex) (fun r h2 => ∃ (u2 : Nat → Nat → Int32), r = none ∧ h2 = Wd u2 g ex ∧ Bd 0 600 (u2 84 1) ∧ Bd 0 2 (u2 84 5) ∧ Bd 0 3 (u2 84 7) ∧ BF u2 85 ∧ Bd 0 9 (u2 88 0) ∧ Bd 0 4 (u2 88 2) ∧ Bd 0 9 (u2 93 0) ∧ Bd 0 4 (u2 93 2) ∧ AB u2 89 (-1) 999 ∧ AB u2 94 (-1) 999 ∧ Bd 0 12 (u2 98 0) ∧ Bd 0 12 (u2 102 0) ∧ Bd 0 12 (u2 106 0) ∧ (KM u2 98) ∧ (KM u2 102) ∧ (KM u2 106) ∧ (u2 84 1 = u 1 1) ∧ u2 = Fx_T_copyR_84_1X u g ∧ (∀ c, nin c [(84, 85), (88, 109)] = true → u2 c = u c) ∧ (∀ j, j ≠ 1 → j ≠ 2 → j ≠ 3 → j ≠ 5 → j ≠ 7 → u2 84 j = u 84 j) ∧ (∀ j, j ≠ 0 → j ≠ 2 → u2 88 j = u 88 j) ∧ (∀ j, j ≠ 0 → j ≠ 2 → u2 93 j = u 93 j) ∧ (∀ j, j ≠ 0 → u2 98 j = u 98 j) ∧ (∀ j, j ≠ 0 → u2 102 j = u 102 j) ∧ (∀ j, j ≠ 0 → u2 106 j = u 106 j)) := by
  refine CT_of (by decide) (Nat.le_of_ble_eq_true rfl) (fun x hq => ?_)
  show J x yX7_copy cX7_copy 3 none d 0 0 (Wd u g ex).length 0 [(0, .ref 84), (1, .ref 1)] [] (Wd u g ex) 0 0
  have E : Fx_T_copyR_84_1X u g = Fx_T_copyR_84_1X u g := rfl
  refine J_aload_n (i := 1) (j := 1) dX7_copy_0 rfl rfl ?_
  refine J_get (C := RX7) (T := TX7) (Z := 8) (ci := 7) (f := 0) dX7_copy_1 inG7 rfl (by decide) k186 wc_1 rfl ?_
  refine J_iconst (v := 0) dX7_copy_4 (by decide) ?_
  refine J_aload_n (i := 0) (j := 0) dX7_copy_5 rfl rfl ?_
  refine J_get (C := RX7) (T := TX7) (Z := 8) (ci := 7) (f := 0) dX7_copy_6 inG7 rfl (by decide) k186 wc_84 rfl ?_
  refine J_iconst (v := 0) dX7_copy_9 (by decide) ?_
  refine J_sipush (v := 600) dX7_copy_10 (by decide) ?_
  obtain ⟨u1, e2⟩ : ∃ z, z = mr u 85 (va_cpy (u 2) (u 85) 0 0 600) := ⟨_, rfl⟩
  refine J_copyb (sp := 0) (dp := 0) (nn := 600) dX7_copy_13 k1253 k686 k685 k104 wc_2 wc_85 (by decide) (by decide) (by decide) (by decide) (by decide) (fun i _ => hp3 _) (Nat.le_trans (by decide) hd) (Nat.le_of_ble_eq_true rfl) (wsr e2 wk_85 rfl) ?_
  replace E := xq_le e2 E
  refine J_aload_n (i := 0) (j := 0) dX7_copy_16 rfl rfl ?_
  refine J_aload_n (i := 1) (j := 1) dX7_copy_17 rfl rfl ?_
  refine J_get (C := RX7) (T := TX7) (Z := 8) (ci := 7) (f := 1) dX7_copy_18 inG7 rfl (by decide) k188 wc_1 rfl ?_
  refine J_ci (v := u 1 1) (congrFun (mr_c e2 (Nat.ne_of_beq_eq_false rfl)) 1) ?_
  obtain ⟨u3, e4⟩ : ∃ z, z = ms u1 84 1 (u 1 1) := ⟨_, rfl⟩
  refine J_put (C := RX7) (T := TX7) (Z := 8) (ci := 7) (f := 1) (ty0 := tyX7) dX7_copy_21 inG7 rfl tyX7_ok nmX7 (by decide) k188 rfl rfl wc_84 (Nat.le_of_ble_eq_true rfl) (fun _ _ => ⟨rfl, rfl⟩) (ws e4 wk_84 rfl) ?_
  replace E := xq_le e4 E
  refine J_aload_n (i := 0) (j := 0) dX7_copy_24 rfl rfl ?_
  refine J_aload_n (i := 1) (j := 1) dX7_copy_25 rfl rfl ?_
  refine J_get (C := RX7) (T := TX7) (Z := 8) (ci := 7) (f := 2) dX7_copy_26 inG7 rfl (by decide) k190 wc_1 rfl ?_
  refine J_ci (v := u 1 2) ((congrFun (ms_c e4 (Nat.ne_of_beq_eq_false rfl)) 2).trans (congrFun (mr_c e2 (Nat.ne_of_beq_eq_false rfl)) 2)) ?_
  obtain ⟨u5, e6⟩ : ∃ z, z = ms u3 84 2 (u 1 2) := ⟨_, rfl⟩
  refine J_put (C := RX7) (T := TX7) (Z := 8) (ci := 7) (f := 2) (ty0 := tyX7) dX7_copy_29 inG7 rfl tyX7_ok nmX7 (by decide) k190 rfl rfl wc_84 (Nat.le_of_ble_eq_true rfl) (fun _ _ => ⟨rfl, rfl⟩) (ws e6 wk_84 rfl) ?_
  replace E := xq_le e6 E
  refine J_aload_n (i := 0) (j := 0) dX7_copy_32 rfl rfl ?_
  refine J_aload_n (i := 1) (j := 1) dX7_copy_33 rfl rfl ?_
  refine J_get (C := RX7) (T := TX7) (Z := 8) (ci := 7) (f := 3) dX7_copy_34 inG7 rfl (by decide) k192 wc_1 rfl ?_
  refine J_ci (v := u 1 3) ((congrFun (ms_c e6 (Nat.ne_of_beq_eq_false rfl)) 3).trans ((congrFun (ms_c e4 (Nat.ne_of_beq_eq_false rfl)) 3).trans (congrFun (mr_c e2 (Nat.ne_of_beq_eq_false rfl)) 3))) ?_
  obtain ⟨u7, e8⟩ : ∃ z, z = ms u5 84 3 (u 1 3) := ⟨_, rfl⟩
  refine J_put (C := RX7) (T := TX7) (Z := 8) (ci := 7) (f := 3) (ty0 := tyX7) dX7_copy_37 inG7 rfl tyX7_ok nmX7 (by decide) k192 rfl rfl wc_84 (Nat.le_of_ble_eq_true rfl) (fun _ _ => ⟨rfl, rfl⟩) (ws e8 wk_84 rfl) ?_
  replace E := xq_le e8 E
  refine J_aload_n (i := 0) (j := 0) dX7_copy_40 rfl rfl ?_
  refine J_aload_n (i := 1) (j := 1) dX7_copy_41 rfl rfl ?_
  refine J_get (C := RX7) (T := TX7) (Z := 8) (ci := 7) (f := 5) dX7_copy_42 inG7 rfl (by decide) k196 wc_1 rfl ?_
  refine J_ci (v := u 1 5) ((congrFun (ms_c e8 (Nat.ne_of_beq_eq_false rfl)) 5).trans ((congrFun (ms_c e6 (Nat.ne_of_beq_eq_false rfl)) 5).trans ((congrFun (ms_c e4 (Nat.ne_of_beq_eq_false rfl)) 5).trans (congrFun (mr_c e2 (Nat.ne_of_beq_eq_false rfl)) 5)))) ?_
  obtain ⟨u9, e10⟩ : ∃ z, z = ms u7 84 5 (u 1 5) := ⟨_, rfl⟩
  refine J_put (C := RX7) (T := TX7) (Z := 8) (ci := 7) (f := 5) (ty0 := tyX7) dX7_copy_45 inG7 rfl tyX7_ok nmX7 (by decide) k196 rfl rfl wc_84 (Nat.le_of_ble_eq_true rfl) (fun _ _ => ⟨rfl, rfl⟩) (ws e10 wk_84 rfl) ?_
  replace E := xq_le e10 E
  refine J_aload_n (i := 0) (j := 0) dX7_copy_48 rfl rfl ?_
  refine J_aload_n (i := 1) (j := 1) dX7_copy_49 rfl rfl ?_
  refine J_get (C := RX7) (T := TX7) (Z := 8) (ci := 7) (f := 7) dX7_copy_50 inG7 rfl (by decide) k200 wc_1 rfl ?_
  refine J_ci (v := u 1 7) ((congrFun (ms_c e10 (Nat.ne_of_beq_eq_false rfl)) 7).trans ((congrFun (ms_c e8 (Nat.ne_of_beq_eq_false rfl)) 7).trans ((congrFun (ms_c e6 (Nat.ne_of_beq_eq_false rfl)) 7).trans ((congrFun (ms_c e4 (Nat.ne_of_beq_eq_false rfl)) 7).trans (congrFun (mr_c e2 (Nat.ne_of_beq_eq_false rfl)) 7))))) ?_
  obtain ⟨u11, e12⟩ : ∃ z, z = ms u9 84 7 (u 1 7) := ⟨_, rfl⟩
  refine J_put (C := RX7) (T := TX7) (Z := 8) (ci := 7) (f := 7) (ty0 := tyX7) dX7_copy_53 inG7 rfl tyX7_ok nmX7 (by decide) k200 rfl rfl wc_84 (Nat.le_of_ble_eq_true rfl) (fun _ _ => ⟨rfl, rfl⟩) (ws e12 wk_84 rfl) ?_
  replace E := xq_le e12 E
  refine J_iconst (v := 0) dX7_copy_56 (by decide) ?_
  refine J_istore_n (i := 2) (lw := [(2, .int 0), (0, .ref 84), (1, .ref 1)]) dX7_copy_57 rfl (by decide) rfl ?_
  have lp471 : ∀ (n472 : Nat) (w267 : Int32) (u268 : Nat → Nat → Int32), Bd 0 2 w267 → (∀ c, nin c [(88, 97)] = true → u268 c = u11 c) → (∀ j, j ≠ 0 → j ≠ 2 → u268 88 j = u11 88 j) → Bd 0 9 (u268 88 0) → Bd 0 4 (u268 88 2) → AB u268 89 (-1) 999 → (∀ j, j ≠ 0 → j ≠ 2 → u268 93 j = u11 93 j) → Bd 0 9 (u268 93 0) → Bd 0 4 (u268 93 2) → AB u268 94 (-1) 999 → (2 - w267.toInt).toNat < n472 → Fx_T_copyR_84_1X_L58 g n472 w267 u268 = Fx_T_copyR_84_1X u g → J x yX7_copy cX7_copy 3 none d 0 0 (Wd u g ex).length 58 [(0, .ref 84), (1, .ref 1), (2, .int w267)] [] (Wd u268 g ex) 0 0 := by
    intro n472
    induction n472 with
    | zero => intro w267 u268 bw267 fr269 fc270 bm271 bm272 ab273 fc274 bm275 bm276 ab277 hm474 _; exact absurd hm474 (Nat.not_lt_zero _)
    | succ n472 ih473 =>
      intro w267 u268 bw267 fr269 fc270 bm271 bm272 ab273 fc274 bm275 bm276 ab277 hm474 E
      replace E := Fx_T_copyR_84_1X_L58_s.symm.trans E
      refine J_iload_n (i := 2) (j := 2) dX7_copy_58 rfl rfl ?_
      refine J_iconst (v := 2) dX7_copy_59 (by decide) ?_
      refine J_icmp_ge (tgt := 84) dX7_copy_60 (by decide) (fun c475 => ?_) (fun c475 => ?_)
      · replace E := xq_ep c475 E
        refine J_iconst (v := 0) dX7_copy_84 (by decide) ?_
        refine J_istore_n (i := 2) (lw := [(2, .int 0), (0, .ref 84), (1, .ref 1)]) dX7_copy_85 rfl (by decide) rfl ?_
        have lp624 : ∀ (n625 : Nat) (w589 : Int32) (u590 : Nat → Nat → Int32), Bd 0 3 w589 → (∀ c, nin c [(98, 109)] = true → u590 c = u268 c) → (∀ j, j ≠ 0 → u590 102 j = u268 102 j) → Bd 0 12 (u590 102 0) → (∀ j, j ≠ 0 → u590 106 j = u268 106 j) → Bd 0 12 (u590 106 0) → (∀ j, j ≠ 0 → u590 98 j = u268 98 j) → Bd 0 12 (u590 98 0) → KM u590 98 → KM u590 102 → KM u590 106 → (3 - w589.toInt).toNat < n625 → Fx_T_copyR_84_1X_L86 g n625 w589 u590 = Fx_T_copyR_84_1X u g → J x yX7_copy cX7_copy 3 none d 0 0 (Wd u g ex).length 86 [(0, .ref 84), (1, .ref 1), (2, .int w589)] [] (Wd u590 g ex) 0 0 := by
          intro n625
          induction n625 with
          | zero => intro w589 u590 bw589 fr591 fc592 bm593 fc594 bm595 fc596 bm597 km598 km599 km600 hm627 _; exact absurd hm627 (Nat.not_lt_zero _)
          | succ n625 ih626 =>
            intro w589 u590 bw589 fr591 fc592 bm593 fc594 bm595 fc596 bm597 km598 km599 km600 hm627 E
            replace E := Fx_T_copyR_84_1X_L86_s.symm.trans E
            refine J_iload_n (i := 2) (j := 2) dX7_copy_86 rfl rfl ?_
            refine J_iconst (v := 3) dX7_copy_87 (by decide) ?_
            refine J_icmp_ge (tgt := 112) dX7_copy_88 (by decide) (fun c628 => ?_) (fun c628 => ?_)
            · replace E := xq_ep c628 E
              exact J_vret hq dX7_copy_112 rfl wlen (Nat.le_refl _) (Nat.le_refl _) ⟨u590, rfl, rfl, (bd_r ((congrFun (fr591 84 rfl) 1).trans ((congrFun (fr269 84 rfl) 1).trans ((ms_i e12 (Nat.ne_of_beq_eq_false rfl)).trans ((ms_i e10 (Nat.ne_of_beq_eq_false rfl)).trans ((ms_i e8 (Nat.ne_of_beq_eq_false rfl)).trans ((ms_i e6 (Nat.ne_of_beq_eq_false rfl)).trans (ms_e e4))))))) hp0), (bd_r ((congrFun (fr591 84 rfl) 5).trans ((congrFun (fr269 84 rfl) 5).trans ((ms_i e12 (Nat.ne_of_beq_eq_false rfl)).trans (ms_e e10)))) hp1), (bd_r ((congrFun (fr591 84 rfl) 7).trans ((congrFun (fr269 84 rfl) 7).trans (ms_e e12))) hp2), (bf_c ((fr591 85 rfl).trans ((fr269 85 rfl).trans ((ms_c e12 (Nat.ne_of_beq_eq_false rfl)).trans ((ms_c e10 (Nat.ne_of_beq_eq_false rfl)).trans ((ms_c e8 (Nat.ne_of_beq_eq_false rfl)).trans ((ms_c e6 (Nat.ne_of_beq_eq_false rfl)).trans (ms_c e4 (Nat.ne_of_beq_eq_false rfl)))))))) (bf_cp e2 hp3 hp19)), (bd_r (congrFun (fr591 88 rfl) 0) bm271), (bd_r (congrFun (fr591 88 rfl) 2) bm272), (bd_r (congrFun (fr591 93 rfl) 0) bm275), (bd_r (congrFun (fr591 93 rfl) 2) bm276), (ab_c (fr591 89 rfl) ab273), (ab_c (fr591 94 rfl) ab277), bm597, bm593, bm595, km598, km599, km600, ((congrFun (fr591 84 rfl) 1).trans ((congrFun (fr269 84 rfl) 1).trans ((ms_i e12 (Nat.ne_of_beq_eq_false rfl)).trans ((ms_i e10 (Nat.ne_of_beq_eq_false rfl)).trans ((ms_i e8 (Nat.ne_of_beq_eq_false rfl)).trans ((ms_i e6 (Nat.ne_of_beq_eq_false rfl)).trans (ms_e e4))))))), E, (fun c k_ => ((fr591 c (nin_sub (M := [(98, 109)]) k_ rfl)).trans ((fr269 c (nin_sub (M := [(88, 97)]) k_ rfl)).trans ((ms_c e12 (nin_ne (a := 84) k_ rfl)).trans ((ms_c e10 (nin_ne (a := 84) k_ rfl)).trans ((ms_c e8 (nin_ne (a := 84) k_ rfl)).trans ((ms_c e6 (nin_ne (a := 84) k_ rfl)).trans ((ms_c e4 (nin_ne (a := 84) k_ rfl)).trans (mr_c e2 (nin_ne (a := 85) k_ rfl)))))))))), (fun j k1_ k2_ k3_ k5_ k7_ => ((congrFun (fr591 84 rfl) j).trans ((congrFun (fr269 84 rfl) j).trans ((ms_i e12 k7_).trans ((ms_i e10 k5_).trans ((ms_i e8 k3_).trans ((ms_i e6 k2_).trans ((ms_i e4 k1_).trans (congrFun (mr_c e2 (Nat.ne_of_beq_eq_false rfl)) j))))))))), (fun j k0_ k2_ => ((congrFun (fr591 88 rfl) j).trans ((fc270 j k0_ k2_).trans ((congrFun (ms_c e12 (Nat.ne_of_beq_eq_false rfl)) j).trans ((congrFun (ms_c e10 (Nat.ne_of_beq_eq_false rfl)) j).trans ((congrFun (ms_c e8 (Nat.ne_of_beq_eq_false rfl)) j).trans ((congrFun (ms_c e6 (Nat.ne_of_beq_eq_false rfl)) j).trans ((congrFun (ms_c e4 (Nat.ne_of_beq_eq_false rfl)) j).trans (congrFun (mr_c e2 (Nat.ne_of_beq_eq_false rfl)) j))))))))), (fun j k0_ k2_ => ((congrFun (fr591 93 rfl) j).trans ((fc274 j k0_ k2_).trans ((congrFun (ms_c e12 (Nat.ne_of_beq_eq_false rfl)) j).trans ((congrFun (ms_c e10 (Nat.ne_of_beq_eq_false rfl)) j).trans ((congrFun (ms_c e8 (Nat.ne_of_beq_eq_false rfl)) j).trans ((congrFun (ms_c e6 (Nat.ne_of_beq_eq_false rfl)) j).trans ((congrFun (ms_c e4 (Nat.ne_of_beq_eq_false rfl)) j).trans (congrFun (mr_c e2 (Nat.ne_of_beq_eq_false rfl)) j))))))))), (fun j k0_ => ((fc596 j k0_).trans ((congrFun (fr269 98 rfl) j).trans ((congrFun (ms_c e12 (Nat.ne_of_beq_eq_false rfl)) j).trans ((congrFun (ms_c e10 (Nat.ne_of_beq_eq_false rfl)) j).trans ((congrFun (ms_c e8 (Nat.ne_of_beq_eq_false rfl)) j).trans ((congrFun (ms_c e6 (Nat.ne_of_beq_eq_false rfl)) j).trans ((congrFun (ms_c e4 (Nat.ne_of_beq_eq_false rfl)) j).trans (congrFun (mr_c e2 (Nat.ne_of_beq_eq_false rfl)) j))))))))), (fun j k0_ => ((fc592 j k0_).trans ((congrFun (fr269 102 rfl) j).trans ((congrFun (ms_c e12 (Nat.ne_of_beq_eq_false rfl)) j).trans ((congrFun (ms_c e10 (Nat.ne_of_beq_eq_false rfl)) j).trans ((congrFun (ms_c e8 (Nat.ne_of_beq_eq_false rfl)) j).trans ((congrFun (ms_c e6 (Nat.ne_of_beq_eq_false rfl)) j).trans ((congrFun (ms_c e4 (Nat.ne_of_beq_eq_false rfl)) j).trans (congrFun (mr_c e2 (Nat.ne_of_beq_eq_false rfl)) j))))))))), (fun j k0_ => ((fc594 j k0_).trans ((congrFun (fr269 106 rfl) j).trans ((congrFun (ms_c e12 (Nat.ne_of_beq_eq_false rfl)) j).trans ((congrFun (ms_c e10 (Nat.ne_of_beq_eq_false rfl)) j).trans ((congrFun (ms_c e8 (Nat.ne_of_beq_eq_false rfl)) j).trans ((congrFun (ms_c e6 (Nat.ne_of_beq_eq_false rfl)) j).trans ((congrFun (ms_c e4 (Nat.ne_of_beq_eq_false rfl)) j).trans (congrFun (mr_c e2 (Nat.ne_of_beq_eq_false rfl)) j)))))))))⟩
            · replace E := xq_en c628 E
              refine J_aload_n (i := 0) (j := 0) dX7_copy_91 rfl rfl ?_
              refine J_get (C := RX7) (T := TX7) (Z := 8) (ci := 7) (f := 6) dX7_copy_92 inG7 rfl (by decide) k198 wc_84 rfl ?_
              refine J_iload_n (i := 2) (j := 2) dX7_copy_95 rfl rfl ?_
              have h629 := bd_cases3 (bd_lt_hi bw589 (i_nle c628) (bd_c (v := 3) (lo := 3) (hi := 3) (by decide)))
              rcases h629 with h629_0 | h629_1 | h629_2
              · replace E := xq_ep h629_0 E
                refine J_aald (q := 98) dX7_copy_96 wc_87 (fun _ => rfl) (vin (bd_lt_hi bw589 (i_nle c628) (bd_c (v := 3) (lo := 3) (hi := 3) (by decide))) (by decide)) (by rw [h629_0]; rfl) ?_
                refine J_aload_n (i := 1) (j := 1) dX7_copy_97 rfl rfl ?_
                refine J_get (C := RX7) (T := TX7) (Z := 8) (ci := 7) (f := 6) dX7_copy_98 inG7 rfl (by decide) k198 wc_1 rfl ?_
                refine J_iload_n (i := 2) (j := 2) dX7_copy_101 rfl rfl ?_
                refine J_aald (q := 15) dX7_copy_102 wc_4 (fun _ => rfl) (vin (bd_r h629_0 (bd_c (v := 0) (lo := 0) (hi := 0) (by decide))) (by decide)) (by rw [h629_0]; rfl) ?_
                refine J_callV (As := [.ref 15]) (rest := []) dX7_copy_103 (c_W_copyK_98_15X (d := 1) (u := u590) (g := g) (ex := ex)   (by decide) (bd_r ((congrFun (fr591 15 rfl) 0).trans ((congrFun (fr269 15 rfl) 0).trans ((congrFun (ms_c e12 (Nat.ne_of_beq_eq_false rfl)) 0).trans ((congrFun (ms_c e10 (Nat.ne_of_beq_eq_false rfl)) 0).trans ((congrFun (ms_c e8 (Nat.ne_of_beq_eq_false rfl)) 0).trans ((congrFun (ms_c e6 (Nat.ne_of_beq_eq_false rfl)) 0).trans ((congrFun (ms_c e4 (Nat.ne_of_beq_eq_false rfl)) 0).trans (congrFun (mr_c e2 (Nat.ne_of_beq_eq_false rfl)) 0)))))))) hp10) (km_c ((fr591 16 rfl).trans ((fr269 16 rfl).trans ((ms_c e12 (Nat.ne_of_beq_eq_false rfl)).trans ((ms_c e10 (Nat.ne_of_beq_eq_false rfl)).trans ((ms_c e8 (Nat.ne_of_beq_eq_false rfl)).trans ((ms_c e6 (Nat.ne_of_beq_eq_false rfl)).trans ((ms_c e4 (Nat.ne_of_beq_eq_false rfl)).trans (mr_c e2 (Nat.ne_of_beq_eq_false rfl))))))))) ((fr591 18 rfl).trans ((fr269 18 rfl).trans ((ms_c e12 (Nat.ne_of_beq_eq_false rfl)).trans ((ms_c e10 (Nat.ne_of_beq_eq_false rfl)).trans ((ms_c e8 (Nat.ne_of_beq_eq_false rfl)).trans ((ms_c e6 (Nat.ne_of_beq_eq_false rfl)).trans ((ms_c e4 (Nat.ne_of_beq_eq_false rfl)).trans (mr_c e2 (Nat.ne_of_beq_eq_false rfl))))))))) hp13) km598) hq.n k690 k691 k692 wc_98 rfl rfl k90 k693 np_X8_copy (Nat.le_trans (by decide) hd) (by decide) (Nat.le_refl _) (Nat.le_refl _) wlen rfl (Nat.le_of_ble_eq_true rfl) (fun r_ h_ p630 => ?_)
                obtain ⟨u631, rfl, rfl, h632, h633, hx634, fr635, fc636⟩ := p630
                replace E := xq_le hx634 E
                refine J_iinc (i := 2) (j := 2) (v := (w589 + 1)) (lw := [(2, .int (w589 + 1)), (0, .ref 84), (1, .ref 1)]) dX7_copy_106 rfl rfl (by decide) rfl ?_
                refine J_goto (tgt := 86) dX7_copy_109 (by decide) ?_
                refine J_lv [1, 2, 0] rfl ?_
                exact ih626 (w589 + 1) u631 (bd_w (l := 0) (h := 3) (bd_add (l := 1) (h := 1) (bd_r h629_0 (bd_c (v := 0) (lo := 0) (hi := 0) (by decide))) (bd_c (v := 1) (lo := 1) (hi := 1) (by decide)) (by decide)) (by decide)) (fun c k_ => ((fr635 c (nin_sub (M := [(98, 101)]) k_ rfl)).trans (fr591 c (nin_sub (M := [(98, 109)]) k_ rfl)))) (fun j k0_ => ((congrFun (fr635 102 rfl) j).trans (fc592 j k0_))) (bd_r (congrFun (fr635 102 rfl) 0) bm593) (fun j k0_ => ((congrFun (fr635 106 rfl) j).trans (fc594 j k0_))) (bd_r (congrFun (fr635 106 rfl) 0) bm595) (fun j k0_ => ((fc636 j k0_).trans (fc596 j k0_))) h632 h633 (km_c (fr635 103 rfl) (fr635 105 rfl) km599) (km_c (fr635 107 rfl) (fr635 109 rfl) km600) (mu_up 1 bw589 rfl (by decide) (bd_w (l := 1) (h := 3) (bd_add (l := 1) (h := 1) (bd_r h629_0 (bd_c (v := 0) (lo := 0) (hi := 0) (by decide))) (bd_c (v := 1) (lo := 1) (hi := 1) (by decide)) (by decide)) (by decide)) hm627) E
              · replace E := xq_en (fun z_ => absurd (z_.symm.trans h629_1) (by decide)) E
                replace E := xq_ep h629_1 E
                refine J_aald (q := 102) dX7_copy_96 wc_87 (fun _ => rfl) (vin (bd_lt_hi bw589 (i_nle c628) (bd_c (v := 3) (lo := 3) (hi := 3) (by decide))) (by decide)) (by rw [h629_1]; rfl) ?_
                refine J_aload_n (i := 1) (j := 1) dX7_copy_97 rfl rfl ?_
                refine J_get (C := RX7) (T := TX7) (Z := 8) (ci := 7) (f := 6) dX7_copy_98 inG7 rfl (by decide) k198 wc_1 rfl ?_
                refine J_iload_n (i := 2) (j := 2) dX7_copy_101 rfl rfl ?_
                refine J_aald (q := 19) dX7_copy_102 wc_4 (fun _ => rfl) (vin (bd_r h629_1 (bd_c (v := 1) (lo := 1) (hi := 1) (by decide))) (by decide)) (by rw [h629_1]; rfl) ?_
                refine J_callV (As := [.ref 19]) (rest := []) dX7_copy_103 (c_W_copyK_102_19X (d := 1) (u := u590) (g := g) (ex := ex)   (by decide) (bd_r ((congrFun (fr591 19 rfl) 0).trans ((congrFun (fr269 19 rfl) 0).trans ((congrFun (ms_c e12 (Nat.ne_of_beq_eq_false rfl)) 0).trans ((congrFun (ms_c e10 (Nat.ne_of_beq_eq_false rfl)) 0).trans ((congrFun (ms_c e8 (Nat.ne_of_beq_eq_false rfl)) 0).trans ((congrFun (ms_c e6 (Nat.ne_of_beq_eq_false rfl)) 0).trans ((congrFun (ms_c e4 (Nat.ne_of_beq_eq_false rfl)) 0).trans (congrFun (mr_c e2 (Nat.ne_of_beq_eq_false rfl)) 0)))))))) hp11) (km_c ((fr591 20 rfl).trans ((fr269 20 rfl).trans ((ms_c e12 (Nat.ne_of_beq_eq_false rfl)).trans ((ms_c e10 (Nat.ne_of_beq_eq_false rfl)).trans ((ms_c e8 (Nat.ne_of_beq_eq_false rfl)).trans ((ms_c e6 (Nat.ne_of_beq_eq_false rfl)).trans ((ms_c e4 (Nat.ne_of_beq_eq_false rfl)).trans (mr_c e2 (Nat.ne_of_beq_eq_false rfl))))))))) ((fr591 22 rfl).trans ((fr269 22 rfl).trans ((ms_c e12 (Nat.ne_of_beq_eq_false rfl)).trans ((ms_c e10 (Nat.ne_of_beq_eq_false rfl)).trans ((ms_c e8 (Nat.ne_of_beq_eq_false rfl)).trans ((ms_c e6 (Nat.ne_of_beq_eq_false rfl)).trans ((ms_c e4 (Nat.ne_of_beq_eq_false rfl)).trans (mr_c e2 (Nat.ne_of_beq_eq_false rfl))))))))) hp14) km599) hq.n k690 k691 k692 wc_102 rfl rfl k90 k693 np_X8_copy (Nat.le_trans (by decide) hd) (by decide) (Nat.le_refl _) (Nat.le_refl _) wlen rfl (Nat.le_of_ble_eq_true rfl) (fun r_ h_ p637 => ?_)
                obtain ⟨u638, rfl, rfl, h639, h640, hx641, fr642, fc643⟩ := p637
                replace E := xq_le hx641 E
                refine J_iinc (i := 2) (j := 2) (v := (w589 + 1)) (lw := [(2, .int (w589 + 1)), (0, .ref 84), (1, .ref 1)]) dX7_copy_106 rfl rfl (by decide) rfl ?_
                refine J_goto (tgt := 86) dX7_copy_109 (by decide) ?_
                refine J_lv [1, 2, 0] rfl ?_
                exact ih626 (w589 + 1) u638 (bd_w (l := 0) (h := 3) (bd_add (l := 2) (h := 2) (bd_r h629_1 (bd_c (v := 1) (lo := 1) (hi := 1) (by decide))) (bd_c (v := 1) (lo := 1) (hi := 1) (by decide)) (by decide)) (by decide)) (fun c k_ => ((fr642 c (nin_sub (M := [(102, 105)]) k_ rfl)).trans (fr591 c (nin_sub (M := [(98, 109)]) k_ rfl)))) (fun j k0_ => ((fc643 j k0_).trans (fc592 j k0_))) h639 (fun j k0_ => ((congrFun (fr642 106 rfl) j).trans (fc594 j k0_))) (bd_r (congrFun (fr642 106 rfl) 0) bm595) (fun j k0_ => ((congrFun (fr642 98 rfl) j).trans (fc596 j k0_))) (bd_r (congrFun (fr642 98 rfl) 0) bm597) (km_c (fr642 99 rfl) (fr642 101 rfl) km598) h640 (km_c (fr642 107 rfl) (fr642 109 rfl) km600) (mu_up 1 bw589 rfl (by decide) (bd_w (l := 2) (h := 3) (bd_add (l := 2) (h := 2) (bd_r h629_1 (bd_c (v := 1) (lo := 1) (hi := 1) (by decide))) (bd_c (v := 1) (lo := 1) (hi := 1) (by decide)) (by decide)) (by decide)) hm627) E
              · replace E := xq_en (fun z_ => absurd (z_.symm.trans h629_2) (by decide)) E
                replace E := xq_en (fun z_ => absurd (z_.symm.trans h629_2) (by decide)) E
                refine J_aald (q := 106) dX7_copy_96 wc_87 (fun _ => rfl) (vin (bd_lt_hi bw589 (i_nle c628) (bd_c (v := 3) (lo := 3) (hi := 3) (by decide))) (by decide)) (by rw [h629_2]; rfl) ?_
                refine J_aload_n (i := 1) (j := 1) dX7_copy_97 rfl rfl ?_
                refine J_get (C := RX7) (T := TX7) (Z := 8) (ci := 7) (f := 6) dX7_copy_98 inG7 rfl (by decide) k198 wc_1 rfl ?_
                refine J_iload_n (i := 2) (j := 2) dX7_copy_101 rfl rfl ?_
                refine J_aald (q := 23) dX7_copy_102 wc_4 (fun _ => rfl) (vin (bd_r h629_2 (bd_c (v := 2) (lo := 2) (hi := 2) (by decide))) (by decide)) (by rw [h629_2]; rfl) ?_
                refine J_callV (As := [.ref 23]) (rest := []) dX7_copy_103 (c_W_copyK_106_23X (d := 1) (u := u590) (g := g) (ex := ex)   (by decide) (bd_r ((congrFun (fr591 23 rfl) 0).trans ((congrFun (fr269 23 rfl) 0).trans ((congrFun (ms_c e12 (Nat.ne_of_beq_eq_false rfl)) 0).trans ((congrFun (ms_c e10 (Nat.ne_of_beq_eq_false rfl)) 0).trans ((congrFun (ms_c e8 (Nat.ne_of_beq_eq_false rfl)) 0).trans ((congrFun (ms_c e6 (Nat.ne_of_beq_eq_false rfl)) 0).trans ((congrFun (ms_c e4 (Nat.ne_of_beq_eq_false rfl)) 0).trans (congrFun (mr_c e2 (Nat.ne_of_beq_eq_false rfl)) 0)))))))) hp12) (km_c ((fr591 24 rfl).trans ((fr269 24 rfl).trans ((ms_c e12 (Nat.ne_of_beq_eq_false rfl)).trans ((ms_c e10 (Nat.ne_of_beq_eq_false rfl)).trans ((ms_c e8 (Nat.ne_of_beq_eq_false rfl)).trans ((ms_c e6 (Nat.ne_of_beq_eq_false rfl)).trans ((ms_c e4 (Nat.ne_of_beq_eq_false rfl)).trans (mr_c e2 (Nat.ne_of_beq_eq_false rfl))))))))) ((fr591 26 rfl).trans ((fr269 26 rfl).trans ((ms_c e12 (Nat.ne_of_beq_eq_false rfl)).trans ((ms_c e10 (Nat.ne_of_beq_eq_false rfl)).trans ((ms_c e8 (Nat.ne_of_beq_eq_false rfl)).trans ((ms_c e6 (Nat.ne_of_beq_eq_false rfl)).trans ((ms_c e4 (Nat.ne_of_beq_eq_false rfl)).trans (mr_c e2 (Nat.ne_of_beq_eq_false rfl))))))))) hp15) km600) hq.n k690 k691 k692 wc_106 rfl rfl k90 k693 np_X8_copy (Nat.le_trans (by decide) hd) (by decide) (Nat.le_refl _) (Nat.le_refl _) wlen rfl (Nat.le_of_ble_eq_true rfl) (fun r_ h_ p644 => ?_)
                obtain ⟨u645, rfl, rfl, h646, h647, hx648, fr649, fc650⟩ := p644
                replace E := xq_le hx648 E
                refine J_iinc (i := 2) (j := 2) (v := (w589 + 1)) (lw := [(2, .int (w589 + 1)), (0, .ref 84), (1, .ref 1)]) dX7_copy_106 rfl rfl (by decide) rfl ?_
                refine J_goto (tgt := 86) dX7_copy_109 (by decide) ?_
                refine J_lv [1, 2, 0] rfl ?_
                exact ih626 (w589 + 1) u645 (bd_w (l := 0) (h := 3) (bd_add (l := 3) (h := 3) (bd_r h629_2 (bd_c (v := 2) (lo := 2) (hi := 2) (by decide))) (bd_c (v := 1) (lo := 1) (hi := 1) (by decide)) (by decide)) (by decide)) (fun c k_ => ((fr649 c (nin_sub (M := [(106, 109)]) k_ rfl)).trans (fr591 c (nin_sub (M := [(98, 109)]) k_ rfl)))) (fun j k0_ => ((congrFun (fr649 102 rfl) j).trans (fc592 j k0_))) (bd_r (congrFun (fr649 102 rfl) 0) bm593) (fun j k0_ => ((fc650 j k0_).trans (fc594 j k0_))) h646 (fun j k0_ => ((congrFun (fr649 98 rfl) j).trans (fc596 j k0_))) (bd_r (congrFun (fr649 98 rfl) 0) bm597) (km_c (fr649 99 rfl) (fr649 101 rfl) km598) (km_c (fr649 103 rfl) (fr649 105 rfl) km599) h647 (mu_up 1 bw589 rfl (by decide) (bd_w (l := 3) (h := 3) (bd_add (l := 3) (h := 3) (bd_r h629_2 (bd_c (v := 2) (lo := 2) (hi := 2) (by decide))) (bd_c (v := 1) (lo := 1) (hi := 1) (by decide)) (by decide)) (by decide)) hm627) E
        refine J_lv [1, 2, 0] rfl ?_
        exact lp624 ((3 - (0 : Int32).toInt).toNat + 1) (0 : Int32) u268 (bd_w (l := 0) (h := 3) (bd_c (v := 0) (lo := 0) (hi := 0) (by decide)) (by decide)) (fun c k_ => rfl) (fun j k0_ => rfl) (bd_r ((congrFun (fr269 102 rfl) 0).trans ((congrFun (ms_c e12 (Nat.ne_of_beq_eq_false rfl)) 0).trans ((congrFun (ms_c e10 (Nat.ne_of_beq_eq_false rfl)) 0).trans ((congrFun (ms_c e8 (Nat.ne_of_beq_eq_false rfl)) 0).trans ((congrFun (ms_c e6 (Nat.ne_of_beq_eq_false rfl)) 0).trans ((congrFun (ms_c e4 (Nat.ne_of_beq_eq_false rfl)) 0).trans (congrFun (mr_c e2 (Nat.ne_of_beq_eq_false rfl)) 0))))))) hp27) (fun j k0_ => rfl) (bd_r ((congrFun (fr269 106 rfl) 0).trans ((congrFun (ms_c e12 (Nat.ne_of_beq_eq_false rfl)) 0).trans ((congrFun (ms_c e10 (Nat.ne_of_beq_eq_false rfl)) 0).trans ((congrFun (ms_c e8 (Nat.ne_of_beq_eq_false rfl)) 0).trans ((congrFun (ms_c e6 (Nat.ne_of_beq_eq_false rfl)) 0).trans ((congrFun (ms_c e4 (Nat.ne_of_beq_eq_false rfl)) 0).trans (congrFun (mr_c e2 (Nat.ne_of_beq_eq_false rfl)) 0))))))) hp28) (fun j k0_ => rfl) (bd_r ((congrFun (fr269 98 rfl) 0).trans ((congrFun (ms_c e12 (Nat.ne_of_beq_eq_false rfl)) 0).trans ((congrFun (ms_c e10 (Nat.ne_of_beq_eq_false rfl)) 0).trans ((congrFun (ms_c e8 (Nat.ne_of_beq_eq_false rfl)) 0).trans ((congrFun (ms_c e6 (Nat.ne_of_beq_eq_false rfl)) 0).trans ((congrFun (ms_c e4 (Nat.ne_of_beq_eq_false rfl)) 0).trans (congrFun (mr_c e2 (Nat.ne_of_beq_eq_false rfl)) 0))))))) hp26) (km_c ((fr269 99 rfl).trans ((ms_c e12 (Nat.ne_of_beq_eq_false rfl)).trans ((ms_c e10 (Nat.ne_of_beq_eq_false rfl)).trans ((ms_c e8 (Nat.ne_of_beq_eq_false rfl)).trans ((ms_c e6 (Nat.ne_of_beq_eq_false rfl)).trans ((ms_c e4 (Nat.ne_of_beq_eq_false rfl)).trans (mr_c e2 (Nat.ne_of_beq_eq_false rfl)))))))) ((fr269 101 rfl).trans ((ms_c e12 (Nat.ne_of_beq_eq_false rfl)).trans ((ms_c e10 (Nat.ne_of_beq_eq_false rfl)).trans ((ms_c e8 (Nat.ne_of_beq_eq_false rfl)).trans ((ms_c e6 (Nat.ne_of_beq_eq_false rfl)).trans ((ms_c e4 (Nat.ne_of_beq_eq_false rfl)).trans (mr_c e2 (Nat.ne_of_beq_eq_false rfl)))))))) hp29) (km_c ((fr269 103 rfl).trans ((ms_c e12 (Nat.ne_of_beq_eq_false rfl)).trans ((ms_c e10 (Nat.ne_of_beq_eq_false rfl)).trans ((ms_c e8 (Nat.ne_of_beq_eq_false rfl)).trans ((ms_c e6 (Nat.ne_of_beq_eq_false rfl)).trans ((ms_c e4 (Nat.ne_of_beq_eq_false rfl)).trans (mr_c e2 (Nat.ne_of_beq_eq_false rfl)))))))) ((fr269 105 rfl).trans ((ms_c e12 (Nat.ne_of_beq_eq_false rfl)).trans ((ms_c e10 (Nat.ne_of_beq_eq_false rfl)).trans ((ms_c e8 (Nat.ne_of_beq_eq_false rfl)).trans ((ms_c e6 (Nat.ne_of_beq_eq_false rfl)).trans ((ms_c e4 (Nat.ne_of_beq_eq_false rfl)).trans (mr_c e2 (Nat.ne_of_beq_eq_false rfl)))))))) hp30) (km_c ((fr269 107 rfl).trans ((ms_c e12 (Nat.ne_of_beq_eq_false rfl)).trans ((ms_c e10 (Nat.ne_of_beq_eq_false rfl)).trans ((ms_c e8 (Nat.ne_of_beq_eq_false rfl)).trans ((ms_c e6 (Nat.ne_of_beq_eq_false rfl)).trans ((ms_c e4 (Nat.ne_of_beq_eq_false rfl)).trans (mr_c e2 (Nat.ne_of_beq_eq_false rfl)))))))) ((fr269 109 rfl).trans ((ms_c e12 (Nat.ne_of_beq_eq_false rfl)).trans ((ms_c e10 (Nat.ne_of_beq_eq_false rfl)).trans ((ms_c e8 (Nat.ne_of_beq_eq_false rfl)).trans ((ms_c e6 (Nat.ne_of_beq_eq_false rfl)).trans ((ms_c e4 (Nat.ne_of_beq_eq_false rfl)).trans (mr_c e2 (Nat.ne_of_beq_eq_false rfl)))))))) hp31) (Nat.lt_succ_self _) E
      · replace E := xq_en c475 E
        refine J_aload_n (i := 0) (j := 0) dX7_copy_63 rfl rfl ?_
        refine J_get (C := RX7) (T := TX7) (Z := 8) (ci := 7) (f := 4) dX7_copy_64 inG7 rfl (by decide) k194 wc_84 rfl ?_
        refine J_iload_n (i := 2) (j := 2) dX7_copy_67 rfl rfl ?_
        have h651 := bd_cases2 (bd_lt_hi bw267 (i_nle c475) (bd_c (v := 2) (lo := 2) (hi := 2) (by decide)))
        rcases h651 with h651_0 | h651_1
        · replace E := xq_ep h651_0 E
          refine J_aald (q := 88) dX7_copy_68 wc_86 (fun _ => rfl) (vin (bd_lt_hi bw267 (i_nle c475) (bd_c (v := 2) (lo := 2) (hi := 2) (by decide))) (by decide)) (by rw [h651_0]; rfl) ?_
          refine J_aload_n (i := 1) (j := 1) dX7_copy_69 rfl rfl ?_
          refine J_get (C := RX7) (T := TX7) (Z := 8) (ci := 7) (f := 4) dX7_copy_70 inG7 rfl (by decide) k194 wc_1 rfl ?_
          refine J_iload_n (i := 2) (j := 2) dX7_copy_73 rfl rfl ?_
          refine J_aald (q := 5) dX7_copy_74 wc_3 (fun _ => rfl) (vin (bd_r h651_0 (bd_c (v := 0) (lo := 0) (hi := 0) (by decide))) (by decide)) (by rw [h651_0]; rfl) ?_
          refine J_callV (As := [.ref 5]) (rest := []) dX7_copy_75 (c_H_copyBX (d := 1) (u := u268) (g := g) (ex := ex)  (t := 88) (f := 5) (by decide) (by decide) (by decide) (Nat.ne_of_beq_eq_false rfl) (bd_r ((congrFun (fr269 5 rfl) 0).trans ((congrFun (ms_c e12 (Nat.ne_of_beq_eq_false rfl)) 0).trans ((congrFun (ms_c e10 (Nat.ne_of_beq_eq_false rfl)) 0).trans ((congrFun (ms_c e8 (Nat.ne_of_beq_eq_false rfl)) 0).trans ((congrFun (ms_c e6 (Nat.ne_of_beq_eq_false rfl)) 0).trans ((congrFun (ms_c e4 (Nat.ne_of_beq_eq_false rfl)) 0).trans (congrFun (mr_c e2 (Nat.ne_of_beq_eq_false rfl)) 0))))))) hp4) (bd_r ((congrFun (fr269 5 rfl) 2).trans ((congrFun (ms_c e12 (Nat.ne_of_beq_eq_false rfl)) 2).trans ((congrFun (ms_c e10 (Nat.ne_of_beq_eq_false rfl)) 2).trans ((congrFun (ms_c e8 (Nat.ne_of_beq_eq_false rfl)) 2).trans ((congrFun (ms_c e6 (Nat.ne_of_beq_eq_false rfl)) 2).trans ((congrFun (ms_c e4 (Nat.ne_of_beq_eq_false rfl)) 2).trans (congrFun (mr_c e2 (Nat.ne_of_beq_eq_false rfl)) 2))))))) hp5) ab273 (ab_c ((fr269 6 rfl).trans ((ms_c e12 (Nat.ne_of_beq_eq_false rfl)).trans ((ms_c e10 (Nat.ne_of_beq_eq_false rfl)).trans ((ms_c e8 (Nat.ne_of_beq_eq_false rfl)).trans ((ms_c e6 (Nat.ne_of_beq_eq_false rfl)).trans ((ms_c e4 (Nat.ne_of_beq_eq_false rfl)).trans (mr_c e2 (Nat.ne_of_beq_eq_false rfl)))))))) hp8)) hq.n k680 k681 k682 wc_88 rfl rfl k89 k683 np_X1_copy (Nat.le_trans (by decide) hd) (by decide) (Nat.le_refl _) (Nat.le_refl _) wlen rfl (Nat.le_of_ble_eq_true rfl) (fun r_ h_ p652 => ?_)
          obtain ⟨u653, rfl, rfl, h654, h655, h656, hx657, fr658, fc659⟩ := p652
          replace E := xq_le hx657 E
          refine J_iinc (i := 2) (j := 2) (v := (w267 + 1)) (lw := [(2, .int (w267 + 1)), (0, .ref 84), (1, .ref 1)]) dX7_copy_78 rfl rfl (by decide) rfl ?_
          refine J_goto (tgt := 58) dX7_copy_81 (by decide) ?_
          refine J_lv [1, 2, 0] rfl ?_
          exact ih473 (w267 + 1) u653 (bd_w (l := 0) (h := 2) (bd_add (l := 1) (h := 1) (bd_r h651_0 (bd_c (v := 0) (lo := 0) (hi := 0) (by decide))) (bd_c (v := 1) (lo := 1) (hi := 1) (by decide)) (by decide)) (by decide)) (fun c k_ => ((fr658 c (nin_ne (a := 88) k_ rfl) (nin_ne (a := 89) k_ rfl) (nin_ne (a := 90) k_ rfl) (nin_ne (a := 91) k_ rfl) (nin_ne (a := 92) k_ rfl)).trans (fr269 c (nin_sub (M := [(88, 97)]) k_ rfl)))) (fun j k0_ k2_ => ((fc659 j k0_ k2_).trans (fc270 j k0_ k2_))) h654 h655 h656 (fun j k0_ k2_ => ((congrFun (fr658 93 (Nat.ne_of_beq_eq_false rfl) (Nat.ne_of_beq_eq_false rfl) (Nat.ne_of_beq_eq_false rfl) (Nat.ne_of_beq_eq_false rfl) (Nat.ne_of_beq_eq_false rfl)) j).trans (fc274 j k0_ k2_))) (bd_r (congrFun (fr658 93 (Nat.ne_of_beq_eq_false rfl) (Nat.ne_of_beq_eq_false rfl) (Nat.ne_of_beq_eq_false rfl) (Nat.ne_of_beq_eq_false rfl) (Nat.ne_of_beq_eq_false rfl)) 0) bm275) (bd_r (congrFun (fr658 93 (Nat.ne_of_beq_eq_false rfl) (Nat.ne_of_beq_eq_false rfl) (Nat.ne_of_beq_eq_false rfl) (Nat.ne_of_beq_eq_false rfl) (Nat.ne_of_beq_eq_false rfl)) 2) bm276) (ab_c (fr658 94 (Nat.ne_of_beq_eq_false rfl) (Nat.ne_of_beq_eq_false rfl) (Nat.ne_of_beq_eq_false rfl) (Nat.ne_of_beq_eq_false rfl) (Nat.ne_of_beq_eq_false rfl)) ab277) (mu_up 1 bw267 rfl (by decide) (bd_w (l := 1) (h := 2) (bd_add (l := 1) (h := 1) (bd_r h651_0 (bd_c (v := 0) (lo := 0) (hi := 0) (by decide))) (bd_c (v := 1) (lo := 1) (hi := 1) (by decide)) (by decide)) (by decide)) hm474) E
        · replace E := xq_en (fun z_ => absurd (z_.symm.trans h651_1) (by decide)) E
          refine J_aald (q := 93) dX7_copy_68 wc_86 (fun _ => rfl) (vin (bd_lt_hi bw267 (i_nle c475) (bd_c (v := 2) (lo := 2) (hi := 2) (by decide))) (by decide)) (by rw [h651_1]; rfl) ?_
          refine J_aload_n (i := 1) (j := 1) dX7_copy_69 rfl rfl ?_
          refine J_get (C := RX7) (T := TX7) (Z := 8) (ci := 7) (f := 4) dX7_copy_70 inG7 rfl (by decide) k194 wc_1 rfl ?_
          refine J_iload_n (i := 2) (j := 2) dX7_copy_73 rfl rfl ?_
          refine J_aald (q := 10) dX7_copy_74 wc_3 (fun _ => rfl) (vin (bd_r h651_1 (bd_c (v := 1) (lo := 1) (hi := 1) (by decide))) (by decide)) (by rw [h651_1]; rfl) ?_
          refine J_callV (As := [.ref 10]) (rest := []) dX7_copy_75 (c_H_copyBX (d := 1) (u := u268) (g := g) (ex := ex)  (t := 93) (f := 10) (by decide) (by decide) (by decide) (Nat.ne_of_beq_eq_false rfl) (bd_r ((congrFun (fr269 10 rfl) 0).trans ((congrFun (ms_c e12 (Nat.ne_of_beq_eq_false rfl)) 0).trans ((congrFun (ms_c e10 (Nat.ne_of_beq_eq_false rfl)) 0).trans ((congrFun (ms_c e8 (Nat.ne_of_beq_eq_false rfl)) 0).trans ((congrFun (ms_c e6 (Nat.ne_of_beq_eq_false rfl)) 0).trans ((congrFun (ms_c e4 (Nat.ne_of_beq_eq_false rfl)) 0).trans (congrFun (mr_c e2 (Nat.ne_of_beq_eq_false rfl)) 0))))))) hp6) (bd_r ((congrFun (fr269 10 rfl) 2).trans ((congrFun (ms_c e12 (Nat.ne_of_beq_eq_false rfl)) 2).trans ((congrFun (ms_c e10 (Nat.ne_of_beq_eq_false rfl)) 2).trans ((congrFun (ms_c e8 (Nat.ne_of_beq_eq_false rfl)) 2).trans ((congrFun (ms_c e6 (Nat.ne_of_beq_eq_false rfl)) 2).trans ((congrFun (ms_c e4 (Nat.ne_of_beq_eq_false rfl)) 2).trans (congrFun (mr_c e2 (Nat.ne_of_beq_eq_false rfl)) 2))))))) hp7) ab277 (ab_c ((fr269 11 rfl).trans ((ms_c e12 (Nat.ne_of_beq_eq_false rfl)).trans ((ms_c e10 (Nat.ne_of_beq_eq_false rfl)).trans ((ms_c e8 (Nat.ne_of_beq_eq_false rfl)).trans ((ms_c e6 (Nat.ne_of_beq_eq_false rfl)).trans ((ms_c e4 (Nat.ne_of_beq_eq_false rfl)).trans (mr_c e2 (Nat.ne_of_beq_eq_false rfl)))))))) hp9)) hq.n k680 k681 k682 wc_93 rfl rfl k89 k683 np_X1_copy (Nat.le_trans (by decide) hd) (by decide) (Nat.le_refl _) (Nat.le_refl _) wlen rfl (Nat.le_of_ble_eq_true rfl) (fun r_ h_ p660 => ?_)
          obtain ⟨u661, rfl, rfl, h662, h663, h664, hx665, fr666, fc667⟩ := p660
          replace E := xq_le hx665 E
          refine J_iinc (i := 2) (j := 2) (v := (w267 + 1)) (lw := [(2, .int (w267 + 1)), (0, .ref 84), (1, .ref 1)]) dX7_copy_78 rfl rfl (by decide) rfl ?_
          refine J_goto (tgt := 58) dX7_copy_81 (by decide) ?_
          refine J_lv [1, 2, 0] rfl ?_
          exact ih473 (w267 + 1) u661 (bd_w (l := 0) (h := 2) (bd_add (l := 2) (h := 2) (bd_r h651_1 (bd_c (v := 1) (lo := 1) (hi := 1) (by decide))) (bd_c (v := 1) (lo := 1) (hi := 1) (by decide)) (by decide)) (by decide)) (fun c k_ => ((fr666 c (nin_ne (a := 93) k_ rfl) (nin_ne (a := 94) k_ rfl) (nin_ne (a := 95) k_ rfl) (nin_ne (a := 96) k_ rfl) (nin_ne (a := 97) k_ rfl)).trans (fr269 c (nin_sub (M := [(88, 97)]) k_ rfl)))) (fun j k0_ k2_ => ((congrFun (fr666 88 (Nat.ne_of_beq_eq_false rfl) (Nat.ne_of_beq_eq_false rfl) (Nat.ne_of_beq_eq_false rfl) (Nat.ne_of_beq_eq_false rfl) (Nat.ne_of_beq_eq_false rfl)) j).trans (fc270 j k0_ k2_))) (bd_r (congrFun (fr666 88 (Nat.ne_of_beq_eq_false rfl) (Nat.ne_of_beq_eq_false rfl) (Nat.ne_of_beq_eq_false rfl) (Nat.ne_of_beq_eq_false rfl) (Nat.ne_of_beq_eq_false rfl)) 0) bm271) (bd_r (congrFun (fr666 88 (Nat.ne_of_beq_eq_false rfl) (Nat.ne_of_beq_eq_false rfl) (Nat.ne_of_beq_eq_false rfl) (Nat.ne_of_beq_eq_false rfl) (Nat.ne_of_beq_eq_false rfl)) 2) bm272) (ab_c (fr666 89 (Nat.ne_of_beq_eq_false rfl) (Nat.ne_of_beq_eq_false rfl) (Nat.ne_of_beq_eq_false rfl) (Nat.ne_of_beq_eq_false rfl) (Nat.ne_of_beq_eq_false rfl)) ab273) (fun j k0_ k2_ => ((fc667 j k0_ k2_).trans (fc274 j k0_ k2_))) h662 h663 h664 (mu_up 1 bw267 rfl (by decide) (bd_w (l := 2) (h := 2) (bd_add (l := 2) (h := 2) (bd_r h651_1 (bd_c (v := 1) (lo := 1) (hi := 1) (by decide))) (bd_c (v := 1) (lo := 1) (hi := 1) (by decide)) (by decide)) (by decide)) hm474) E
  refine J_lv [1, 2, 0] rfl ?_
  exact lp471 ((2 - (0 : Int32).toInt).toNat + 1) (0 : Int32) u11 (bd_w (l := 0) (h := 2) (bd_c (v := 0) (lo := 0) (hi := 0) (by decide)) (by decide)) (fun c k_ => rfl) (fun j k0_ k2_ => rfl) (bd_r ((congrFun (ms_c e12 (Nat.ne_of_beq_eq_false rfl)) 0).trans ((congrFun (ms_c e10 (Nat.ne_of_beq_eq_false rfl)) 0).trans ((congrFun (ms_c e8 (Nat.ne_of_beq_eq_false rfl)) 0).trans ((congrFun (ms_c e6 (Nat.ne_of_beq_eq_false rfl)) 0).trans ((congrFun (ms_c e4 (Nat.ne_of_beq_eq_false rfl)) 0).trans (congrFun (mr_c e2 (Nat.ne_of_beq_eq_false rfl)) 0)))))) hp20) (bd_r ((congrFun (ms_c e12 (Nat.ne_of_beq_eq_false rfl)) 2).trans ((congrFun (ms_c e10 (Nat.ne_of_beq_eq_false rfl)) 2).trans ((congrFun (ms_c e8 (Nat.ne_of_beq_eq_false rfl)) 2).trans ((congrFun (ms_c e6 (Nat.ne_of_beq_eq_false rfl)) 2).trans ((congrFun (ms_c e4 (Nat.ne_of_beq_eq_false rfl)) 2).trans (congrFun (mr_c e2 (Nat.ne_of_beq_eq_false rfl)) 2)))))) hp21) (ab_c ((ms_c e12 (Nat.ne_of_beq_eq_false rfl)).trans ((ms_c e10 (Nat.ne_of_beq_eq_false rfl)).trans ((ms_c e8 (Nat.ne_of_beq_eq_false rfl)).trans ((ms_c e6 (Nat.ne_of_beq_eq_false rfl)).trans ((ms_c e4 (Nat.ne_of_beq_eq_false rfl)).trans (mr_c e2 (Nat.ne_of_beq_eq_false rfl))))))) hp24) (fun j k0_ k2_ => rfl) (bd_r ((congrFun (ms_c e12 (Nat.ne_of_beq_eq_false rfl)) 0).trans ((congrFun (ms_c e10 (Nat.ne_of_beq_eq_false rfl)) 0).trans ((congrFun (ms_c e8 (Nat.ne_of_beq_eq_false rfl)) 0).trans ((congrFun (ms_c e6 (Nat.ne_of_beq_eq_false rfl)) 0).trans ((congrFun (ms_c e4 (Nat.ne_of_beq_eq_false rfl)) 0).trans (congrFun (mr_c e2 (Nat.ne_of_beq_eq_false rfl)) 0)))))) hp22) (bd_r ((congrFun (ms_c e12 (Nat.ne_of_beq_eq_false rfl)) 2).trans ((congrFun (ms_c e10 (Nat.ne_of_beq_eq_false rfl)) 2).trans ((congrFun (ms_c e8 (Nat.ne_of_beq_eq_false rfl)) 2).trans ((congrFun (ms_c e6 (Nat.ne_of_beq_eq_false rfl)) 2).trans ((congrFun (ms_c e4 (Nat.ne_of_beq_eq_false rfl)) 2).trans (congrFun (mr_c e2 (Nat.ne_of_beq_eq_false rfl)) 2)))))) hp23) (ab_c ((ms_c e12 (Nat.ne_of_beq_eq_false rfl)).trans ((ms_c e10 (Nat.ne_of_beq_eq_false rfl)).trans ((ms_c e8 (Nat.ne_of_beq_eq_false rfl)).trans ((ms_c e6 (Nat.ne_of_beq_eq_false rfl)).trans ((ms_c e4 (Nat.ne_of_beq_eq_false rfl)).trans (mr_c e2 (Nat.ne_of_beq_eq_false rfl))))))) hp25) (Nat.lt_succ_self _) E
set_option maxRecDepth 100000 in
noncomputable def Fx_T_copyR_110_1X_L86 (g : Nat → Nat → Int64) (n_ : Nat) : (Int32) → (Nat → Nat → Int32) → (Nat → Nat → Int32) := Nat.rec (motive := fun _ => (Int32) → (Nat → Nat → Int32) → (Nat → Nat → Int32)) (fun _ _ => default) (fun n_ ih_ w589 u590 => if (3 : Int32) ≤ w589 then (u590) else (if w589 = 0 then (xq_lt (Fx_W_copyK_124_15X u590 g) fun u631 => ih_ (w589 + 1) u631) else (if w589 = 1 then (xq_lt (Fx_W_copyK_128_19X u590 g) fun u638 => ih_ (w589 + 1) u638) else (xq_lt (Fx_W_copyK_132_23X u590 g) fun u645 => ih_ (w589 + 1) u645)))) n_
set_option maxRecDepth 100000 in
theorem Fx_T_copyR_110_1X_L86_s {g : Nat → Nat → Int64} {w589 : Int32} {u590 : Nat → Nat → Int32} {n_ : Nat} : Fx_T_copyR_110_1X_L86 g (n_ + 1) w589 u590 = if (3 : Int32) ≤ w589 then (u590) else (if w589 = 0 then (xq_lt (Fx_W_copyK_124_15X u590 g) fun u631 => (Fx_T_copyR_110_1X_L86 g n_) (w589 + 1) u631) else (if w589 = 1 then (xq_lt (Fx_W_copyK_128_19X u590 g) fun u638 => (Fx_T_copyR_110_1X_L86 g n_) (w589 + 1) u638) else (xq_lt (Fx_W_copyK_132_23X u590 g) fun u645 => (Fx_T_copyR_110_1X_L86 g n_) (w589 + 1) u645))) := rfl
set_option maxRecDepth 100000 in
noncomputable def Fx_T_copyR_110_1X_L58 (g : Nat → Nat → Int64) (n_ : Nat) : (Int32) → (Nat → Nat → Int32) → (Nat → Nat → Int32) := Nat.rec (motive := fun _ => (Int32) → (Nat → Nat → Int32) → (Nat → Nat → Int32)) (fun _ _ => default) (fun n_ ih_ w267 u268 => if (2 : Int32) ≤ w267 then (Fx_T_copyR_110_1X_L86 g ((3 - (0 : Int32).toInt).toNat + 1) (0 : Int32) u268) else (if w267 = 0 then (xq_lt (Fx_H_copyBX 114 5 u268 g) fun u653 => ih_ (w267 + 1) u653) else (xq_lt (Fx_H_copyBX 119 10 u268 g) fun u661 => ih_ (w267 + 1) u661))) n_
set_option maxRecDepth 100000 in
theorem Fx_T_copyR_110_1X_L58_s {g : Nat → Nat → Int64} {w267 : Int32} {u268 : Nat → Nat → Int32} {n_ : Nat} : Fx_T_copyR_110_1X_L58 g (n_ + 1) w267 u268 = if (2 : Int32) ≤ w267 then (Fx_T_copyR_110_1X_L86 g ((3 - (0 : Int32).toInt).toNat + 1) (0 : Int32) u268) else (if w267 = 0 then (xq_lt (Fx_H_copyBX 114 5 u268 g) fun u653 => (Fx_T_copyR_110_1X_L58 g n_) (w267 + 1) u653) else (xq_lt (Fx_H_copyBX 119 10 u268 g) fun u661 => (Fx_T_copyR_110_1X_L58 g n_) (w267 + 1) u661)) := rfl
set_option maxRecDepth 100000 in
noncomputable def Fx_T_copyR_110_1X (u : Nat → Nat → Int32) (g : Nat → Nat → Int64) : (Nat → Nat → Int32) := xq_lt (mr u 111 (va_cpy (u 2) (u 111) 0 0 600)) fun u1 => xq_lt (ms u1 110 1 (u 1 1)) fun u3 => xq_lt (ms u3 110 2 (u 1 2)) fun u5 => xq_lt (ms u5 110 3 (u 1 3)) fun u7 => xq_lt (ms u7 110 5 (u 1 5)) fun u9 => xq_lt (ms u9 110 7 (u 1 7)) fun u11 => Fx_T_copyR_110_1X_L58 g ((2 - (0 : Int32).toInt).toNat + 1) (0 : Int32) u11
set_option maxHeartbeats 4000000 in
set_option maxRecDepth 100000 in
theorem c_T_copyR_110_1X {d : Nat} {u : Nat → Nat → Int32} {g : Nat → Nat → Int64} {ex : List MC}  (hd : 2 ≤ d) (hp0 : Bd 0 600 (u 1 1)) (hp1 : Bd 0 2 (u 1 5)) (hp2 : Bd 0 3 (u 1 7)) (hp3 : BF u 2) (hp4 : Bd 0 9 (u 5 0)) (hp5 : Bd 0 4 (u 5 2)) (hp6 : Bd 0 9 (u 10 0)) (hp7 : Bd 0 4 (u 10 2)) (hp8 : AB u 6 (-1) 999) (hp9 : AB u 11 (-1) 999) (hp10 : Bd 0 12 (u 15 0)) (hp11 : Bd 0 12 (u 19 0)) (hp12 : Bd 0 12 (u 23 0)) (hp13 : (KM u 15)) (hp14 : (KM u 19)) (hp15 : (KM u 23)) (hp16 : Bd 0 600 (u 110 1)) (hp17 : Bd 0 2 (u 110 5)) (hp18 : Bd 0 3 (u 110 7)) (hp19 : BF u 111) (hp20 : Bd 0 9 (u 114 0)) (hp21 : Bd 0 4 (u 114 2)) (hp22 : Bd 0 9 (u 119 0)) (hp23 : Bd 0 4 (u 119 2)) (hp24 : AB u 115 (-1) 999) (hp25 : AB u 120 (-1) 999) (hp26 : Bd 0 12 (u 124 0)) (hp27 : Bd 0 12 (u 128 0)) (hp28 : Bd 0 12 (u 132 0)) (hp29 : (KM u 124)) (hp30 : (KM u 128)) (hp31 : (KM u 132)) : CT con0 d 0 0 yX7_copy cX7_copy 3 none [.ref 110, .ref 1] (Wd u g ex) (fun r h2 => ∃ (u2 : Nat → Nat → Int32), r = none ∧ h2 = Wd u2 g ex ∧ Bd 0 600 (u2 110 1) ∧ Bd 0 2 (u2 110 5) ∧ Bd 0 3 (u2 110 7) ∧ BF u2 111 ∧ Bd 0 9 (u2 114 0) ∧ Bd 0 4 (u2 114 2) ∧ Bd 0 9 (u2 119 0) ∧ Bd 0 4 (u2 119 2) ∧ AB u2 115 (-1) 999 ∧ AB u2 120 (-1) 999 ∧ Bd 0 12 (u2 124 0) ∧ Bd 0 12 (u2 128 0) ∧ Bd 0 12 (u2 132 0) ∧ (KM u2 124) ∧ (KM u2 128) ∧ (KM u2 132) ∧ (u2 110 1 = u 1 1) ∧ u2 = Fx_T_copyR_110_1X u g ∧ (∀ c, nin c [(110, 111), (114, 135)] = true → u2 c = u c) ∧ (∀ j, j ≠ 1 → j ≠ 2 → j ≠ 3 → j ≠ 5 → j ≠ 7 → u2 110 j = u 110 j) ∧ (∀ j, j ≠ 0 → j ≠ 2 → u2 114 j = u 114 j) ∧ (∀ j, j ≠ 0 → j ≠ 2 → u2 119 j = u 119 j) ∧ (∀ j, j ≠ 0 → u2 124 j = u 124 j) ∧ (∀ j, j ≠ 0 → u2 128 j = u 128 j) ∧ (∀ j, j ≠ 0 → u2 132 j = u 132 j)) := by
  refine CT_of (by decide) (Nat.le_of_ble_eq_true rfl) (fun x hq => ?_)
  show J x yX7_copy cX7_copy 3 none d 0 0 (Wd u g ex).length 0 [(0, .ref 110), (1, .ref 1)] [] (Wd u g ex) 0 0
  have E : Fx_T_copyR_110_1X u g = Fx_T_copyR_110_1X u g := rfl
  refine J_aload_n (i := 1) (j := 1) dX7_copy_0 rfl rfl ?_
  refine J_get (C := RX7) (T := TX7) (Z := 8) (ci := 7) (f := 0) dX7_copy_1 inG7 rfl (by decide) k186 wc_1 rfl ?_
  refine J_iconst (v := 0) dX7_copy_4 (by decide) ?_
  refine J_aload_n (i := 0) (j := 0) dX7_copy_5 rfl rfl ?_
  refine J_get (C := RX7) (T := TX7) (Z := 8) (ci := 7) (f := 0) dX7_copy_6 inG7 rfl (by decide) k186 wc_110 rfl ?_
  refine J_iconst (v := 0) dX7_copy_9 (by decide) ?_
  refine J_sipush (v := 600) dX7_copy_10 (by decide) ?_
  obtain ⟨u1, e2⟩ : ∃ z, z = mr u 111 (va_cpy (u 2) (u 111) 0 0 600) := ⟨_, rfl⟩
  refine J_copyb (sp := 0) (dp := 0) (nn := 600) dX7_copy_13 k1253 k686 k685 k104 wc_2 wc_111 (by decide) (by decide) (by decide) (by decide) (by decide) (fun i _ => hp3 _) (Nat.le_trans (by decide) hd) (Nat.le_of_ble_eq_true rfl) (wsr e2 wk_111 rfl) ?_
  replace E := xq_le e2 E
  refine J_aload_n (i := 0) (j := 0) dX7_copy_16 rfl rfl ?_
  refine J_aload_n (i := 1) (j := 1) dX7_copy_17 rfl rfl ?_
  refine J_get (C := RX7) (T := TX7) (Z := 8) (ci := 7) (f := 1) dX7_copy_18 inG7 rfl (by decide) k188 wc_1 rfl ?_
  refine J_ci (v := u 1 1) (congrFun (mr_c e2 (Nat.ne_of_beq_eq_false rfl)) 1) ?_
  obtain ⟨u3, e4⟩ : ∃ z, z = ms u1 110 1 (u 1 1) := ⟨_, rfl⟩
  refine J_put (C := RX7) (T := TX7) (Z := 8) (ci := 7) (f := 1) (ty0 := tyX7) dX7_copy_21 inG7 rfl tyX7_ok nmX7 (by decide) k188 rfl rfl wc_110 (Nat.le_of_ble_eq_true rfl) (fun _ _ => ⟨rfl, rfl⟩) (ws e4 wk_110 rfl) ?_
  replace E := xq_le e4 E
  refine J_aload_n (i := 0) (j := 0) dX7_copy_24 rfl rfl ?_
  refine J_aload_n (i := 1) (j := 1) dX7_copy_25 rfl rfl ?_
  refine J_get (C := RX7) (T := TX7) (Z := 8) (ci := 7) (f := 2) dX7_copy_26 inG7 rfl (by decide) k190 wc_1 rfl ?_
  refine J_ci (v := u 1 2) ((congrFun (ms_c e4 (Nat.ne_of_beq_eq_false rfl)) 2).trans (congrFun (mr_c e2 (Nat.ne_of_beq_eq_false rfl)) 2)) ?_
  obtain ⟨u5, e6⟩ : ∃ z, z = ms u3 110 2 (u 1 2) := ⟨_, rfl⟩
  refine J_put (C := RX7) (T := TX7) (Z := 8) (ci := 7) (f := 2) (ty0 := tyX7) dX7_copy_29 inG7 rfl tyX7_ok nmX7 (by decide) k190 rfl rfl wc_110 (Nat.le_of_ble_eq_true rfl) (fun _ _ => ⟨rfl, rfl⟩) (ws e6 wk_110 rfl) ?_
  replace E := xq_le e6 E
  refine J_aload_n (i := 0) (j := 0) dX7_copy_32 rfl rfl ?_
  refine J_aload_n (i := 1) (j := 1) dX7_copy_33 rfl rfl ?_
  refine J_get (C := RX7) (T := TX7) (Z := 8) (ci := 7) (f := 3) dX7_copy_34 inG7 rfl (by decide) k192 wc_1 rfl ?_
  refine J_ci (v := u 1 3) ((congrFun (ms_c e6 (Nat.ne_of_beq_eq_false rfl)) 3).trans ((congrFun (ms_c e4 (Nat.ne_of_beq_eq_false rfl)) 3).trans (congrFun (mr_c e2 (Nat.ne_of_beq_eq_false rfl)) 3))) ?_
  obtain ⟨u7, e8⟩ : ∃ z, z = ms u5 110 3 (u 1 3) := ⟨_, rfl⟩
  refine J_put (C := RX7) (T := TX7) (Z := 8) (ci := 7) (f := 3) (ty0 := tyX7) dX7_copy_37 inG7 rfl tyX7_ok nmX7 (by decide) k192 rfl rfl wc_110 (Nat.le_of_ble_eq_true rfl) (fun _ _ => ⟨rfl, rfl⟩) (ws e8 wk_110 rfl) ?_
  replace E := xq_le e8 E
  refine J_aload_n (i := 0) (j := 0) dX7_copy_40 rfl rfl ?_
  refine J_aload_n (i := 1) (j := 1) dX7_copy_41 rfl rfl ?_
  refine J_get (C := RX7) (T := TX7) (Z := 8) (ci := 7) (f := 5) dX7_copy_42 inG7 rfl (by decide) k196 wc_1 rfl ?_
  refine J_ci (v := u 1 5) ((congrFun (ms_c e8 (Nat.ne_of_beq_eq_false rfl)) 5).trans ((congrFun (ms_c e6 (Nat.ne_of_beq_eq_false rfl)) 5).trans ((congrFun (ms_c e4 (Nat.ne_of_beq_eq_false rfl)) 5).trans (congrFun (mr_c e2 (Nat.ne_of_beq_eq_false rfl)) 5)))) ?_
  obtain ⟨u9, e10⟩ : ∃ z, z = ms u7 110 5 (u 1 5) := ⟨_, rfl⟩
  refine J_put (C := RX7) (T := TX7) (Z := 8) (ci := 7) (f := 5) (ty0 := tyX7) dX7_copy_45 inG7 rfl tyX7_ok nmX7 (by decide) k196 rfl rfl wc_110 (Nat.le_of_ble_eq_true rfl) (fun _ _ => ⟨rfl, rfl⟩) (ws e10 wk_110 rfl) ?_
  replace E := xq_le e10 E
  refine J_aload_n (i := 0) (j := 0) dX7_copy_48 rfl rfl ?_
  refine J_aload_n (i := 1) (j := 1) dX7_copy_49 rfl rfl ?_
  refine J_get (C := RX7) (T := TX7) (Z := 8) (ci := 7) (f := 7) dX7_copy_50 inG7 rfl (by decide) k200 wc_1 rfl ?_
  refine J_ci (v := u 1 7) ((congrFun (ms_c e10 (Nat.ne_of_beq_eq_false rfl)) 7).trans ((congrFun (ms_c e8 (Nat.ne_of_beq_eq_false rfl)) 7).trans ((congrFun (ms_c e6 (Nat.ne_of_beq_eq_false rfl)) 7).trans ((congrFun (ms_c e4 (Nat.ne_of_beq_eq_false rfl)) 7).trans (congrFun (mr_c e2 (Nat.ne_of_beq_eq_false rfl)) 7))))) ?_
  obtain ⟨u11, e12⟩ : ∃ z, z = ms u9 110 7 (u 1 7) := ⟨_, rfl⟩
  refine J_put (C := RX7) (T := TX7) (Z := 8) (ci := 7) (f := 7) (ty0 := tyX7) dX7_copy_53 inG7 rfl tyX7_ok nmX7 (by decide) k200 rfl rfl wc_110 (Nat.le_of_ble_eq_true rfl) (fun _ _ => ⟨rfl, rfl⟩) (ws e12 wk_110 rfl) ?_
  replace E := xq_le e12 E
  refine J_iconst (v := 0) dX7_copy_56 (by decide) ?_
  refine J_istore_n (i := 2) (lw := [(2, .int 0), (0, .ref 110), (1, .ref 1)]) dX7_copy_57 rfl (by decide) rfl ?_
  have lp471 : ∀ (n472 : Nat) (w267 : Int32) (u268 : Nat → Nat → Int32), Bd 0 2 w267 → (∀ c, nin c [(114, 123)] = true → u268 c = u11 c) → (∀ j, j ≠ 0 → j ≠ 2 → u268 114 j = u11 114 j) → Bd 0 9 (u268 114 0) → Bd 0 4 (u268 114 2) → AB u268 115 (-1) 999 → (∀ j, j ≠ 0 → j ≠ 2 → u268 119 j = u11 119 j) → Bd 0 9 (u268 119 0) → Bd 0 4 (u268 119 2) → AB u268 120 (-1) 999 → (2 - w267.toInt).toNat < n472 → Fx_T_copyR_110_1X_L58 g n472 w267 u268 = Fx_T_copyR_110_1X u g → J x yX7_copy cX7_copy 3 none d 0 0 (Wd u g ex).length 58 [(0, .ref 110), (1, .ref 1), (2, .int w267)] [] (Wd u268 g ex) 0 0 := by
    intro n472
    induction n472 with
    | zero => intro w267 u268 bw267 fr269 fc270 bm271 bm272 ab273 fc274 bm275 bm276 ab277 hm474 _; exact absurd hm474 (Nat.not_lt_zero _)
    | succ n472 ih473 =>
      intro w267 u268 bw267 fr269 fc270 bm271 bm272 ab273 fc274 bm275 bm276 ab277 hm474 E
      replace E := Fx_T_copyR_110_1X_L58_s.symm.trans E
      refine J_iload_n (i := 2) (j := 2) dX7_copy_58 rfl rfl ?_
      refine J_iconst (v := 2) dX7_copy_59 (by decide) ?_
      refine J_icmp_ge (tgt := 84) dX7_copy_60 (by decide) (fun c475 => ?_) (fun c475 => ?_)
      · replace E := xq_ep c475 E
        refine J_iconst (v := 0) dX7_copy_84 (by decide) ?_
        refine J_istore_n (i := 2) (lw := [(2, .int 0), (0, .ref 110), (1, .ref 1)]) dX7_copy_85 rfl (by decide) rfl ?_
        have lp624 : ∀ (n625 : Nat) (w589 : Int32) (u590 : Nat → Nat → Int32), Bd 0 3 w589 → (∀ c, nin c [(124, 135)] = true → u590 c = u268 c) → (∀ j, j ≠ 0 → u590 124 j = u268 124 j) → Bd 0 12 (u590 124 0) → (∀ j, j ≠ 0 → u590 128 j = u268 128 j) → Bd 0 12 (u590 128 0) → (∀ j, j ≠ 0 → u590 132 j = u268 132 j) → Bd 0 12 (u590 132 0) → KM u590 124 → KM u590 128 → KM u590 132 → (3 - w589.toInt).toNat < n625 → Fx_T_copyR_110_1X_L86 g n625 w589 u590 = Fx_T_copyR_110_1X u g → J x yX7_copy cX7_copy 3 none d 0 0 (Wd u g ex).length 86 [(0, .ref 110), (1, .ref 1), (2, .int w589)] [] (Wd u590 g ex) 0 0 := by
          intro n625
          induction n625 with
          | zero => intro w589 u590 bw589 fr591 fc592 bm593 fc594 bm595 fc596 bm597 km598 km599 km600 hm627 _; exact absurd hm627 (Nat.not_lt_zero _)
          | succ n625 ih626 =>
            intro w589 u590 bw589 fr591 fc592 bm593 fc594 bm595 fc596 bm597 km598 km599 km600 hm627 E
            replace E := Fx_T_copyR_110_1X_L86_s.symm.trans E
            refine J_iload_n (i := 2) (j := 2) dX7_copy_86 rfl rfl ?_
            refine J_iconst (v := 3) dX7_copy_87 (by decide) ?_
            refine J_icmp_ge (tgt := 112) dX7_copy_88 (by decide) (fun c628 => ?_) (fun c628 => ?_)
            · replace E := xq_ep c628 E
              exact J_vret hq dX7_copy_112 rfl wlen (Nat.le_refl _) (Nat.le_refl _) ⟨u590, rfl, rfl, (bd_r ((congrFun (fr591 110 rfl) 1).trans ((congrFun (fr269 110 rfl) 1).trans ((ms_i e12 (Nat.ne_of_beq_eq_false rfl)).trans ((ms_i e10 (Nat.ne_of_beq_eq_false rfl)).trans ((ms_i e8 (Nat.ne_of_beq_eq_false rfl)).trans ((ms_i e6 (Nat.ne_of_beq_eq_false rfl)).trans (ms_e e4))))))) hp0), (bd_r ((congrFun (fr591 110 rfl) 5).trans ((congrFun (fr269 110 rfl) 5).trans ((ms_i e12 (Nat.ne_of_beq_eq_false rfl)).trans (ms_e e10)))) hp1), (bd_r ((congrFun (fr591 110 rfl) 7).trans ((congrFun (fr269 110 rfl) 7).trans (ms_e e12))) hp2), (bf_c ((fr591 111 rfl).trans ((fr269 111 rfl).trans ((ms_c e12 (Nat.ne_of_beq_eq_false rfl)).trans ((ms_c e10 (Nat.ne_of_beq_eq_false rfl)).trans ((ms_c e8 (Nat.ne_of_beq_eq_false rfl)).trans ((ms_c e6 (Nat.ne_of_beq_eq_false rfl)).trans (ms_c e4 (Nat.ne_of_beq_eq_false rfl)))))))) (bf_cp e2 hp3 hp19)), (bd_r (congrFun (fr591 114 rfl) 0) bm271), (bd_r (congrFun (fr591 114 rfl) 2) bm272), (bd_r (congrFun (fr591 119 rfl) 0) bm275), (bd_r (congrFun (fr591 119 rfl) 2) bm276), (ab_c (fr591 115 rfl) ab273), (ab_c (fr591 120 rfl) ab277), bm593, bm595, bm597, km598, km599, km600, ((congrFun (fr591 110 rfl) 1).trans ((congrFun (fr269 110 rfl) 1).trans ((ms_i e12 (Nat.ne_of_beq_eq_false rfl)).trans ((ms_i e10 (Nat.ne_of_beq_eq_false rfl)).trans ((ms_i e8 (Nat.ne_of_beq_eq_false rfl)).trans ((ms_i e6 (Nat.ne_of_beq_eq_false rfl)).trans (ms_e e4))))))), E, (fun c k_ => ((fr591 c (nin_sub (M := [(124, 135)]) k_ rfl)).trans ((fr269 c (nin_sub (M := [(114, 123)]) k_ rfl)).trans ((ms_c e12 (nin_ne (a := 110) k_ rfl)).trans ((ms_c e10 (nin_ne (a := 110) k_ rfl)).trans ((ms_c e8 (nin_ne (a := 110) k_ rfl)).trans ((ms_c e6 (nin_ne (a := 110) k_ rfl)).trans ((ms_c e4 (nin_ne (a := 110) k_ rfl)).trans (mr_c e2 (nin_ne (a := 111) k_ rfl)))))))))), (fun j k1_ k2_ k3_ k5_ k7_ => ((congrFun (fr591 110 rfl) j).trans ((congrFun (fr269 110 rfl) j).trans ((ms_i e12 k7_).trans ((ms_i e10 k5_).trans ((ms_i e8 k3_).trans ((ms_i e6 k2_).trans ((ms_i e4 k1_).trans (congrFun (mr_c e2 (Nat.ne_of_beq_eq_false rfl)) j))))))))), (fun j k0_ k2_ => ((congrFun (fr591 114 rfl) j).trans ((fc270 j k0_ k2_).trans ((congrFun (ms_c e12 (Nat.ne_of_beq_eq_false rfl)) j).trans ((congrFun (ms_c e10 (Nat.ne_of_beq_eq_false rfl)) j).trans ((congrFun (ms_c e8 (Nat.ne_of_beq_eq_false rfl)) j).trans ((congrFun (ms_c e6 (Nat.ne_of_beq_eq_false rfl)) j).trans ((congrFun (ms_c e4 (Nat.ne_of_beq_eq_false rfl)) j).trans (congrFun (mr_c e2 (Nat.ne_of_beq_eq_false rfl)) j))))))))), (fun j k0_ k2_ => ((congrFun (fr591 119 rfl) j).trans ((fc274 j k0_ k2_).trans ((congrFun (ms_c e12 (Nat.ne_of_beq_eq_false rfl)) j).trans ((congrFun (ms_c e10 (Nat.ne_of_beq_eq_false rfl)) j).trans ((congrFun (ms_c e8 (Nat.ne_of_beq_eq_false rfl)) j).trans ((congrFun (ms_c e6 (Nat.ne_of_beq_eq_false rfl)) j).trans ((congrFun (ms_c e4 (Nat.ne_of_beq_eq_false rfl)) j).trans (congrFun (mr_c e2 (Nat.ne_of_beq_eq_false rfl)) j))))))))), (fun j k0_ => ((fc592 j k0_).trans ((congrFun (fr269 124 rfl) j).trans ((congrFun (ms_c e12 (Nat.ne_of_beq_eq_false rfl)) j).trans ((congrFun (ms_c e10 (Nat.ne_of_beq_eq_false rfl)) j).trans ((congrFun (ms_c e8 (Nat.ne_of_beq_eq_false rfl)) j).trans ((congrFun (ms_c e6 (Nat.ne_of_beq_eq_false rfl)) j).trans ((congrFun (ms_c e4 (Nat.ne_of_beq_eq_false rfl)) j).trans (congrFun (mr_c e2 (Nat.ne_of_beq_eq_false rfl)) j))))))))), (fun j k0_ => ((fc594 j k0_).trans ((congrFun (fr269 128 rfl) j).trans ((congrFun (ms_c e12 (Nat.ne_of_beq_eq_false rfl)) j).trans ((congrFun (ms_c e10 (Nat.ne_of_beq_eq_false rfl)) j).trans ((congrFun (ms_c e8 (Nat.ne_of_beq_eq_false rfl)) j).trans ((congrFun (ms_c e6 (Nat.ne_of_beq_eq_false rfl)) j).trans ((congrFun (ms_c e4 (Nat.ne_of_beq_eq_false rfl)) j).trans (congrFun (mr_c e2 (Nat.ne_of_beq_eq_false rfl)) j))))))))), (fun j k0_ => ((fc596 j k0_).trans ((congrFun (fr269 132 rfl) j).trans ((congrFun (ms_c e12 (Nat.ne_of_beq_eq_false rfl)) j).trans ((congrFun (ms_c e10 (Nat.ne_of_beq_eq_false rfl)) j).trans ((congrFun (ms_c e8 (Nat.ne_of_beq_eq_false rfl)) j).trans ((congrFun (ms_c e6 (Nat.ne_of_beq_eq_false rfl)) j).trans ((congrFun (ms_c e4 (Nat.ne_of_beq_eq_false rfl)) j).trans (congrFun (mr_c e2 (Nat.ne_of_beq_eq_false rfl)) j)))))))))⟩
            · replace E := xq_en c628 E
              refine J_aload_n (i := 0) (j := 0) dX7_copy_91 rfl rfl ?_
              refine J_get (C := RX7) (T := TX7) (Z := 8) (ci := 7) (f := 6) dX7_copy_92 inG7 rfl (by decide) k198 wc_110 rfl ?_
              refine J_iload_n (i := 2) (j := 2) dX7_copy_95 rfl rfl ?_
              have h629 := bd_cases3 (bd_lt_hi bw589 (i_nle c628) (bd_c (v := 3) (lo := 3) (hi := 3) (by decide)))
              rcases h629 with h629_0 | h629_1 | h629_2
              · replace E := xq_ep h629_0 E
                refine J_aald (q := 124) dX7_copy_96 wc_113 (fun _ => rfl) (vin (bd_lt_hi bw589 (i_nle c628) (bd_c (v := 3) (lo := 3) (hi := 3) (by decide))) (by decide)) (by rw [h629_0]; rfl) ?_
                refine J_aload_n (i := 1) (j := 1) dX7_copy_97 rfl rfl ?_
                refine J_get (C := RX7) (T := TX7) (Z := 8) (ci := 7) (f := 6) dX7_copy_98 inG7 rfl (by decide) k198 wc_1 rfl ?_
                refine J_iload_n (i := 2) (j := 2) dX7_copy_101 rfl rfl ?_
                refine J_aald (q := 15) dX7_copy_102 wc_4 (fun _ => rfl) (vin (bd_r h629_0 (bd_c (v := 0) (lo := 0) (hi := 0) (by decide))) (by decide)) (by rw [h629_0]; rfl) ?_
                refine J_callV (As := [.ref 15]) (rest := []) dX7_copy_103 (c_W_copyK_124_15X (d := 1) (u := u590) (g := g) (ex := ex)   (by decide) (bd_r ((congrFun (fr591 15 rfl) 0).trans ((congrFun (fr269 15 rfl) 0).trans ((congrFun (ms_c e12 (Nat.ne_of_beq_eq_false rfl)) 0).trans ((congrFun (ms_c e10 (Nat.ne_of_beq_eq_false rfl)) 0).trans ((congrFun (ms_c e8 (Nat.ne_of_beq_eq_false rfl)) 0).trans ((congrFun (ms_c e6 (Nat.ne_of_beq_eq_false rfl)) 0).trans ((congrFun (ms_c e4 (Nat.ne_of_beq_eq_false rfl)) 0).trans (congrFun (mr_c e2 (Nat.ne_of_beq_eq_false rfl)) 0)))))))) hp10) (km_c ((fr591 16 rfl).trans ((fr269 16 rfl).trans ((ms_c e12 (Nat.ne_of_beq_eq_false rfl)).trans ((ms_c e10 (Nat.ne_of_beq_eq_false rfl)).trans ((ms_c e8 (Nat.ne_of_beq_eq_false rfl)).trans ((ms_c e6 (Nat.ne_of_beq_eq_false rfl)).trans ((ms_c e4 (Nat.ne_of_beq_eq_false rfl)).trans (mr_c e2 (Nat.ne_of_beq_eq_false rfl))))))))) ((fr591 18 rfl).trans ((fr269 18 rfl).trans ((ms_c e12 (Nat.ne_of_beq_eq_false rfl)).trans ((ms_c e10 (Nat.ne_of_beq_eq_false rfl)).trans ((ms_c e8 (Nat.ne_of_beq_eq_false rfl)).trans ((ms_c e6 (Nat.ne_of_beq_eq_false rfl)).trans ((ms_c e4 (Nat.ne_of_beq_eq_false rfl)).trans (mr_c e2 (Nat.ne_of_beq_eq_false rfl))))))))) hp13) km598) hq.n k690 k691 k692 wc_124 rfl rfl k90 k693 np_X8_copy (Nat.le_trans (by decide) hd) (by decide) (Nat.le_refl _) (Nat.le_refl _) wlen rfl (Nat.le_of_ble_eq_true rfl) (fun r_ h_ p630 => ?_)
                obtain ⟨u631, rfl, rfl, h632, h633, hx634, fr635, fc636⟩ := p630
                replace E := xq_le hx634 E
                refine J_iinc (i := 2) (j := 2) (v := (w589 + 1)) (lw := [(2, .int (w589 + 1)), (0, .ref 110), (1, .ref 1)]) dX7_copy_106 rfl rfl (by decide) rfl ?_
                refine J_goto (tgt := 86) dX7_copy_109 (by decide) ?_
                refine J_lv [1, 2, 0] rfl ?_
                exact ih626 (w589 + 1) u631 (bd_w (l := 0) (h := 3) (bd_add (l := 1) (h := 1) (bd_r h629_0 (bd_c (v := 0) (lo := 0) (hi := 0) (by decide))) (bd_c (v := 1) (lo := 1) (hi := 1) (by decide)) (by decide)) (by decide)) (fun c k_ => ((fr635 c (nin_sub (M := [(124, 127)]) k_ rfl)).trans (fr591 c (nin_sub (M := [(124, 135)]) k_ rfl)))) (fun j k0_ => ((fc636 j k0_).trans (fc592 j k0_))) h632 (fun j k0_ => ((congrFun (fr635 128 rfl) j).trans (fc594 j k0_))) (bd_r (congrFun (fr635 128 rfl) 0) bm595) (fun j k0_ => ((congrFun (fr635 132 rfl) j).trans (fc596 j k0_))) (bd_r (congrFun (fr635 132 rfl) 0) bm597) h633 (km_c (fr635 129 rfl) (fr635 131 rfl) km599) (km_c (fr635 133 rfl) (fr635 135 rfl) km600) (mu_up 1 bw589 rfl (by decide) (bd_w (l := 1) (h := 3) (bd_add (l := 1) (h := 1) (bd_r h629_0 (bd_c (v := 0) (lo := 0) (hi := 0) (by decide))) (bd_c (v := 1) (lo := 1) (hi := 1) (by decide)) (by decide)) (by decide)) hm627) E
              · replace E := xq_en (fun z_ => absurd (z_.symm.trans h629_1) (by decide)) E
                replace E := xq_ep h629_1 E
                refine J_aald (q := 128) dX7_copy_96 wc_113 (fun _ => rfl) (vin (bd_lt_hi bw589 (i_nle c628) (bd_c (v := 3) (lo := 3) (hi := 3) (by decide))) (by decide)) (by rw [h629_1]; rfl) ?_
                refine J_aload_n (i := 1) (j := 1) dX7_copy_97 rfl rfl ?_
                refine J_get (C := RX7) (T := TX7) (Z := 8) (ci := 7) (f := 6) dX7_copy_98 inG7 rfl (by decide) k198 wc_1 rfl ?_
                refine J_iload_n (i := 2) (j := 2) dX7_copy_101 rfl rfl ?_
                refine J_aald (q := 19) dX7_copy_102 wc_4 (fun _ => rfl) (vin (bd_r h629_1 (bd_c (v := 1) (lo := 1) (hi := 1) (by decide))) (by decide)) (by rw [h629_1]; rfl) ?_
                refine J_callV (As := [.ref 19]) (rest := []) dX7_copy_103 (c_W_copyK_128_19X (d := 1) (u := u590) (g := g) (ex := ex)   (by decide) (bd_r ((congrFun (fr591 19 rfl) 0).trans ((congrFun (fr269 19 rfl) 0).trans ((congrFun (ms_c e12 (Nat.ne_of_beq_eq_false rfl)) 0).trans ((congrFun (ms_c e10 (Nat.ne_of_beq_eq_false rfl)) 0).trans ((congrFun (ms_c e8 (Nat.ne_of_beq_eq_false rfl)) 0).trans ((congrFun (ms_c e6 (Nat.ne_of_beq_eq_false rfl)) 0).trans ((congrFun (ms_c e4 (Nat.ne_of_beq_eq_false rfl)) 0).trans (congrFun (mr_c e2 (Nat.ne_of_beq_eq_false rfl)) 0)))))))) hp11) (km_c ((fr591 20 rfl).trans ((fr269 20 rfl).trans ((ms_c e12 (Nat.ne_of_beq_eq_false rfl)).trans ((ms_c e10 (Nat.ne_of_beq_eq_false rfl)).trans ((ms_c e8 (Nat.ne_of_beq_eq_false rfl)).trans ((ms_c e6 (Nat.ne_of_beq_eq_false rfl)).trans ((ms_c e4 (Nat.ne_of_beq_eq_false rfl)).trans (mr_c e2 (Nat.ne_of_beq_eq_false rfl))))))))) ((fr591 22 rfl).trans ((fr269 22 rfl).trans ((ms_c e12 (Nat.ne_of_beq_eq_false rfl)).trans ((ms_c e10 (Nat.ne_of_beq_eq_false rfl)).trans ((ms_c e8 (Nat.ne_of_beq_eq_false rfl)).trans ((ms_c e6 (Nat.ne_of_beq_eq_false rfl)).trans ((ms_c e4 (Nat.ne_of_beq_eq_false rfl)).trans (mr_c e2 (Nat.ne_of_beq_eq_false rfl))))))))) hp14) km599) hq.n k690 k691 k692 wc_128 rfl rfl k90 k693 np_X8_copy (Nat.le_trans (by decide) hd) (by decide) (Nat.le_refl _) (Nat.le_refl _) wlen rfl (Nat.le_of_ble_eq_true rfl) (fun r_ h_ p637 => ?_)
                obtain ⟨u638, rfl, rfl, h639, h640, hx641, fr642, fc643⟩ := p637
                replace E := xq_le hx641 E
                refine J_iinc (i := 2) (j := 2) (v := (w589 + 1)) (lw := [(2, .int (w589 + 1)), (0, .ref 110), (1, .ref 1)]) dX7_copy_106 rfl rfl (by decide) rfl ?_
                refine J_goto (tgt := 86) dX7_copy_109 (by decide) ?_
                refine J_lv [1, 2, 0] rfl ?_
                exact ih626 (w589 + 1) u638 (bd_w (l := 0) (h := 3) (bd_add (l := 2) (h := 2) (bd_r h629_1 (bd_c (v := 1) (lo := 1) (hi := 1) (by decide))) (bd_c (v := 1) (lo := 1) (hi := 1) (by decide)) (by decide)) (by decide)) (fun c k_ => ((fr642 c (nin_sub (M := [(128, 131)]) k_ rfl)).trans (fr591 c (nin_sub (M := [(124, 135)]) k_ rfl)))) (fun j k0_ => ((congrFun (fr642 124 rfl) j).trans (fc592 j k0_))) (bd_r (congrFun (fr642 124 rfl) 0) bm593) (fun j k0_ => ((fc643 j k0_).trans (fc594 j k0_))) h639 (fun j k0_ => ((congrFun (fr642 132 rfl) j).trans (fc596 j k0_))) (bd_r (congrFun (fr642 132 rfl) 0) bm597) (km_c (fr642 125 rfl) (fr642 127 rfl) km598) h640 (km_c (fr642 133 rfl) (fr642 135 rfl) km600) (mu_up 1 bw589 rfl (by decide) (bd_w (l := 2) (h := 3) (bd_add (l := 2) (h := 2) (bd_r h629_1 (bd_c (v := 1) (lo := 1) (hi := 1) (by decide))) (bd_c (v := 1) (lo := 1) (hi := 1) (by decide)) (by decide)) (by decide)) hm627) E
              · replace E := xq_en (fun z_ => absurd (z_.symm.trans h629_2) (by decide)) E
                replace E := xq_en (fun z_ => absurd (z_.symm.trans h629_2) (by decide)) E
                refine J_aald (q := 132) dX7_copy_96 wc_113 (fun _ => rfl) (vin (bd_lt_hi bw589 (i_nle c628) (bd_c (v := 3) (lo := 3) (hi := 3) (by decide))) (by decide)) (by rw [h629_2]; rfl) ?_
                refine J_aload_n (i := 1) (j := 1) dX7_copy_97 rfl rfl ?_
                refine J_get (C := RX7) (T := TX7) (Z := 8) (ci := 7) (f := 6) dX7_copy_98 inG7 rfl (by decide) k198 wc_1 rfl ?_
                refine J_iload_n (i := 2) (j := 2) dX7_copy_101 rfl rfl ?_
                refine J_aald (q := 23) dX7_copy_102 wc_4 (fun _ => rfl) (vin (bd_r h629_2 (bd_c (v := 2) (lo := 2) (hi := 2) (by decide))) (by decide)) (by rw [h629_2]; rfl) ?_
                refine J_callV (As := [.ref 23]) (rest := []) dX7_copy_103 (c_W_copyK_132_23X (d := 1) (u := u590) (g := g) (ex := ex)   (by decide) (bd_r ((congrFun (fr591 23 rfl) 0).trans ((congrFun (fr269 23 rfl) 0).trans ((congrFun (ms_c e12 (Nat.ne_of_beq_eq_false rfl)) 0).trans ((congrFun (ms_c e10 (Nat.ne_of_beq_eq_false rfl)) 0).trans ((congrFun (ms_c e8 (Nat.ne_of_beq_eq_false rfl)) 0).trans ((congrFun (ms_c e6 (Nat.ne_of_beq_eq_false rfl)) 0).trans ((congrFun (ms_c e4 (Nat.ne_of_beq_eq_false rfl)) 0).trans (congrFun (mr_c e2 (Nat.ne_of_beq_eq_false rfl)) 0)))))))) hp12) (km_c ((fr591 24 rfl).trans ((fr269 24 rfl).trans ((ms_c e12 (Nat.ne_of_beq_eq_false rfl)).trans ((ms_c e10 (Nat.ne_of_beq_eq_false rfl)).trans ((ms_c e8 (Nat.ne_of_beq_eq_false rfl)).trans ((ms_c e6 (Nat.ne_of_beq_eq_false rfl)).trans ((ms_c e4 (Nat.ne_of_beq_eq_false rfl)).trans (mr_c e2 (Nat.ne_of_beq_eq_false rfl))))))))) ((fr591 26 rfl).trans ((fr269 26 rfl).trans ((ms_c e12 (Nat.ne_of_beq_eq_false rfl)).trans ((ms_c e10 (Nat.ne_of_beq_eq_false rfl)).trans ((ms_c e8 (Nat.ne_of_beq_eq_false rfl)).trans ((ms_c e6 (Nat.ne_of_beq_eq_false rfl)).trans ((ms_c e4 (Nat.ne_of_beq_eq_false rfl)).trans (mr_c e2 (Nat.ne_of_beq_eq_false rfl))))))))) hp15) km600) hq.n k690 k691 k692 wc_132 rfl rfl k90 k693 np_X8_copy (Nat.le_trans (by decide) hd) (by decide) (Nat.le_refl _) (Nat.le_refl _) wlen rfl (Nat.le_of_ble_eq_true rfl) (fun r_ h_ p644 => ?_)
                obtain ⟨u645, rfl, rfl, h646, h647, hx648, fr649, fc650⟩ := p644
                replace E := xq_le hx648 E
                refine J_iinc (i := 2) (j := 2) (v := (w589 + 1)) (lw := [(2, .int (w589 + 1)), (0, .ref 110), (1, .ref 1)]) dX7_copy_106 rfl rfl (by decide) rfl ?_
                refine J_goto (tgt := 86) dX7_copy_109 (by decide) ?_
                refine J_lv [1, 2, 0] rfl ?_
                exact ih626 (w589 + 1) u645 (bd_w (l := 0) (h := 3) (bd_add (l := 3) (h := 3) (bd_r h629_2 (bd_c (v := 2) (lo := 2) (hi := 2) (by decide))) (bd_c (v := 1) (lo := 1) (hi := 1) (by decide)) (by decide)) (by decide)) (fun c k_ => ((fr649 c (nin_sub (M := [(132, 135)]) k_ rfl)).trans (fr591 c (nin_sub (M := [(124, 135)]) k_ rfl)))) (fun j k0_ => ((congrFun (fr649 124 rfl) j).trans (fc592 j k0_))) (bd_r (congrFun (fr649 124 rfl) 0) bm593) (fun j k0_ => ((congrFun (fr649 128 rfl) j).trans (fc594 j k0_))) (bd_r (congrFun (fr649 128 rfl) 0) bm595) (fun j k0_ => ((fc650 j k0_).trans (fc596 j k0_))) h646 (km_c (fr649 125 rfl) (fr649 127 rfl) km598) (km_c (fr649 129 rfl) (fr649 131 rfl) km599) h647 (mu_up 1 bw589 rfl (by decide) (bd_w (l := 3) (h := 3) (bd_add (l := 3) (h := 3) (bd_r h629_2 (bd_c (v := 2) (lo := 2) (hi := 2) (by decide))) (bd_c (v := 1) (lo := 1) (hi := 1) (by decide)) (by decide)) (by decide)) hm627) E
        refine J_lv [1, 2, 0] rfl ?_
        exact lp624 ((3 - (0 : Int32).toInt).toNat + 1) (0 : Int32) u268 (bd_w (l := 0) (h := 3) (bd_c (v := 0) (lo := 0) (hi := 0) (by decide)) (by decide)) (fun c k_ => rfl) (fun j k0_ => rfl) (bd_r ((congrFun (fr269 124 rfl) 0).trans ((congrFun (ms_c e12 (Nat.ne_of_beq_eq_false rfl)) 0).trans ((congrFun (ms_c e10 (Nat.ne_of_beq_eq_false rfl)) 0).trans ((congrFun (ms_c e8 (Nat.ne_of_beq_eq_false rfl)) 0).trans ((congrFun (ms_c e6 (Nat.ne_of_beq_eq_false rfl)) 0).trans ((congrFun (ms_c e4 (Nat.ne_of_beq_eq_false rfl)) 0).trans (congrFun (mr_c e2 (Nat.ne_of_beq_eq_false rfl)) 0))))))) hp26) (fun j k0_ => rfl) (bd_r ((congrFun (fr269 128 rfl) 0).trans ((congrFun (ms_c e12 (Nat.ne_of_beq_eq_false rfl)) 0).trans ((congrFun (ms_c e10 (Nat.ne_of_beq_eq_false rfl)) 0).trans ((congrFun (ms_c e8 (Nat.ne_of_beq_eq_false rfl)) 0).trans ((congrFun (ms_c e6 (Nat.ne_of_beq_eq_false rfl)) 0).trans ((congrFun (ms_c e4 (Nat.ne_of_beq_eq_false rfl)) 0).trans (congrFun (mr_c e2 (Nat.ne_of_beq_eq_false rfl)) 0))))))) hp27) (fun j k0_ => rfl) (bd_r ((congrFun (fr269 132 rfl) 0).trans ((congrFun (ms_c e12 (Nat.ne_of_beq_eq_false rfl)) 0).trans ((congrFun (ms_c e10 (Nat.ne_of_beq_eq_false rfl)) 0).trans ((congrFun (ms_c e8 (Nat.ne_of_beq_eq_false rfl)) 0).trans ((congrFun (ms_c e6 (Nat.ne_of_beq_eq_false rfl)) 0).trans ((congrFun (ms_c e4 (Nat.ne_of_beq_eq_false rfl)) 0).trans (congrFun (mr_c e2 (Nat.ne_of_beq_eq_false rfl)) 0))))))) hp28) (km_c ((fr269 125 rfl).trans ((ms_c e12 (Nat.ne_of_beq_eq_false rfl)).trans ((ms_c e10 (Nat.ne_of_beq_eq_false rfl)).trans ((ms_c e8 (Nat.ne_of_beq_eq_false rfl)).trans ((ms_c e6 (Nat.ne_of_beq_eq_false rfl)).trans ((ms_c e4 (Nat.ne_of_beq_eq_false rfl)).trans (mr_c e2 (Nat.ne_of_beq_eq_false rfl)))))))) ((fr269 127 rfl).trans ((ms_c e12 (Nat.ne_of_beq_eq_false rfl)).trans ((ms_c e10 (Nat.ne_of_beq_eq_false rfl)).trans ((ms_c e8 (Nat.ne_of_beq_eq_false rfl)).trans ((ms_c e6 (Nat.ne_of_beq_eq_false rfl)).trans ((ms_c e4 (Nat.ne_of_beq_eq_false rfl)).trans (mr_c e2 (Nat.ne_of_beq_eq_false rfl)))))))) hp29) (km_c ((fr269 129 rfl).trans ((ms_c e12 (Nat.ne_of_beq_eq_false rfl)).trans ((ms_c e10 (Nat.ne_of_beq_eq_false rfl)).trans ((ms_c e8 (Nat.ne_of_beq_eq_false rfl)).trans ((ms_c e6 (Nat.ne_of_beq_eq_false rfl)).trans ((ms_c e4 (Nat.ne_of_beq_eq_false rfl)).trans (mr_c e2 (Nat.ne_of_beq_eq_false rfl)))))))) ((fr269 131 rfl).trans ((ms_c e12 (Nat.ne_of_beq_eq_false rfl)).trans ((ms_c e10 (Nat.ne_of_beq_eq_false rfl)).trans ((ms_c e8 (Nat.ne_of_beq_eq_false rfl)).trans ((ms_c e6 (Nat.ne_of_beq_eq_false rfl)).trans ((ms_c e4 (Nat.ne_of_beq_eq_false rfl)).trans (mr_c e2 (Nat.ne_of_beq_eq_false rfl)))))))) hp30) (km_c ((fr269 133 rfl).trans ((ms_c e12 (Nat.ne_of_beq_eq_false rfl)).trans ((ms_c e10 (Nat.ne_of_beq_eq_false rfl)).trans ((ms_c e8 (Nat.ne_of_beq_eq_false rfl)).trans ((ms_c e6 (Nat.ne_of_beq_eq_false rfl)).trans ((ms_c e4 (Nat.ne_of_beq_eq_false rfl)).trans (mr_c e2 (Nat.ne_of_beq_eq_false rfl)))))))) ((fr269 135 rfl).trans ((ms_c e12 (Nat.ne_of_beq_eq_false rfl)).trans ((ms_c e10 (Nat.ne_of_beq_eq_false rfl)).trans ((ms_c e8 (Nat.ne_of_beq_eq_false rfl)).trans ((ms_c e6 (Nat.ne_of_beq_eq_false rfl)).trans ((ms_c e4 (Nat.ne_of_beq_eq_false rfl)).trans (mr_c e2 (Nat.ne_of_beq_eq_false rfl)))))))) hp31) (Nat.lt_succ_self _) E
      · replace E := xq_en c475 E
        refine J_aload_n (i := 0) (j := 0) dX7_copy_63 rfl rfl ?_
        refine J_get (C := RX7) (T := TX7) (Z := 8) (ci := 7) (f := 4) dX7_copy_64 inG7 rfl (by decide) k194 wc_110 rfl ?_
        refine J_iload_n (i := 2) (j := 2) dX7_copy_67 rfl rfl ?_
        have h651 := bd_cases2 (bd_lt_hi bw267 (i_nle c475) (bd_c (v := 2) (lo := 2) (hi := 2) (by decide)))
        rcases h651 with h651_0 | h651_1
        · replace E := xq_ep h651_0 E
          refine J_aald (q := 114) dX7_copy_68 wc_112 (fun _ => rfl) (vin (bd_lt_hi bw267 (i_nle c475) (bd_c (v := 2) (lo := 2) (hi := 2) (by decide))) (by decide)) (by rw [h651_0]; rfl) ?_
          refine J_aload_n (i := 1) (j := 1) dX7_copy_69 rfl rfl ?_
          refine J_get (C := RX7) (T := TX7) (Z := 8) (ci := 7) (f := 4) dX7_copy_70 inG7 rfl (by decide) k194 wc_1 rfl ?_
          refine J_iload_n (i := 2) (j := 2) dX7_copy_73 rfl rfl ?_
          refine J_aald (q := 5) dX7_copy_74 wc_3 (fun _ => rfl) (vin (bd_r h651_0 (bd_c (v := 0) (lo := 0) (hi := 0) (by decide))) (by decide)) (by rw [h651_0]; rfl) ?_
          refine J_callV (As := [.ref 5]) (rest := []) dX7_copy_75 (c_H_copyBX (d := 1) (u := u268) (g := g) (ex := ex)  (t := 114) (f := 5) (by decide) (by decide) (by decide) (Nat.ne_of_beq_eq_false rfl) (bd_r ((congrFun (fr269 5 rfl) 0).trans ((congrFun (ms_c e12 (Nat.ne_of_beq_eq_false rfl)) 0).trans ((congrFun (ms_c e10 (Nat.ne_of_beq_eq_false rfl)) 0).trans ((congrFun (ms_c e8 (Nat.ne_of_beq_eq_false rfl)) 0).trans ((congrFun (ms_c e6 (Nat.ne_of_beq_eq_false rfl)) 0).trans ((congrFun (ms_c e4 (Nat.ne_of_beq_eq_false rfl)) 0).trans (congrFun (mr_c e2 (Nat.ne_of_beq_eq_false rfl)) 0))))))) hp4) (bd_r ((congrFun (fr269 5 rfl) 2).trans ((congrFun (ms_c e12 (Nat.ne_of_beq_eq_false rfl)) 2).trans ((congrFun (ms_c e10 (Nat.ne_of_beq_eq_false rfl)) 2).trans ((congrFun (ms_c e8 (Nat.ne_of_beq_eq_false rfl)) 2).trans ((congrFun (ms_c e6 (Nat.ne_of_beq_eq_false rfl)) 2).trans ((congrFun (ms_c e4 (Nat.ne_of_beq_eq_false rfl)) 2).trans (congrFun (mr_c e2 (Nat.ne_of_beq_eq_false rfl)) 2))))))) hp5) ab273 (ab_c ((fr269 6 rfl).trans ((ms_c e12 (Nat.ne_of_beq_eq_false rfl)).trans ((ms_c e10 (Nat.ne_of_beq_eq_false rfl)).trans ((ms_c e8 (Nat.ne_of_beq_eq_false rfl)).trans ((ms_c e6 (Nat.ne_of_beq_eq_false rfl)).trans ((ms_c e4 (Nat.ne_of_beq_eq_false rfl)).trans (mr_c e2 (Nat.ne_of_beq_eq_false rfl)))))))) hp8)) hq.n k680 k681 k682 wc_114 rfl rfl k89 k683 np_X1_copy (Nat.le_trans (by decide) hd) (by decide) (Nat.le_refl _) (Nat.le_refl _) wlen rfl (Nat.le_of_ble_eq_true rfl) (fun r_ h_ p652 => ?_)
          obtain ⟨u653, rfl, rfl, h654, h655, h656, hx657, fr658, fc659⟩ := p652
          replace E := xq_le hx657 E
          refine J_iinc (i := 2) (j := 2) (v := (w267 + 1)) (lw := [(2, .int (w267 + 1)), (0, .ref 110), (1, .ref 1)]) dX7_copy_78 rfl rfl (by decide) rfl ?_
          refine J_goto (tgt := 58) dX7_copy_81 (by decide) ?_
          refine J_lv [1, 2, 0] rfl ?_
          exact ih473 (w267 + 1) u653 (bd_w (l := 0) (h := 2) (bd_add (l := 1) (h := 1) (bd_r h651_0 (bd_c (v := 0) (lo := 0) (hi := 0) (by decide))) (bd_c (v := 1) (lo := 1) (hi := 1) (by decide)) (by decide)) (by decide)) (fun c k_ => ((fr658 c (nin_ne (a := 114) k_ rfl) (nin_ne (a := 115) k_ rfl) (nin_ne (a := 116) k_ rfl) (nin_ne (a := 117) k_ rfl) (nin_ne (a := 118) k_ rfl)).trans (fr269 c (nin_sub (M := [(114, 123)]) k_ rfl)))) (fun j k0_ k2_ => ((fc659 j k0_ k2_).trans (fc270 j k0_ k2_))) h654 h655 h656 (fun j k0_ k2_ => ((congrFun (fr658 119 (Nat.ne_of_beq_eq_false rfl) (Nat.ne_of_beq_eq_false rfl) (Nat.ne_of_beq_eq_false rfl) (Nat.ne_of_beq_eq_false rfl) (Nat.ne_of_beq_eq_false rfl)) j).trans (fc274 j k0_ k2_))) (bd_r (congrFun (fr658 119 (Nat.ne_of_beq_eq_false rfl) (Nat.ne_of_beq_eq_false rfl) (Nat.ne_of_beq_eq_false rfl) (Nat.ne_of_beq_eq_false rfl) (Nat.ne_of_beq_eq_false rfl)) 0) bm275) (bd_r (congrFun (fr658 119 (Nat.ne_of_beq_eq_false rfl) (Nat.ne_of_beq_eq_false rfl) (Nat.ne_of_beq_eq_false rfl) (Nat.ne_of_beq_eq_false rfl) (Nat.ne_of_beq_eq_false rfl)) 2) bm276) (ab_c (fr658 120 (Nat.ne_of_beq_eq_false rfl) (Nat.ne_of_beq_eq_false rfl) (Nat.ne_of_beq_eq_false rfl) (Nat.ne_of_beq_eq_false rfl) (Nat.ne_of_beq_eq_false rfl)) ab277) (mu_up 1 bw267 rfl (by decide) (bd_w (l := 1) (h := 2) (bd_add (l := 1) (h := 1) (bd_r h651_0 (bd_c (v := 0) (lo := 0) (hi := 0) (by decide))) (bd_c (v := 1) (lo := 1) (hi := 1) (by decide)) (by decide)) (by decide)) hm474) E
        · replace E := xq_en (fun z_ => absurd (z_.symm.trans h651_1) (by decide)) E
          refine J_aald (q := 119) dX7_copy_68 wc_112 (fun _ => rfl) (vin (bd_lt_hi bw267 (i_nle c475) (bd_c (v := 2) (lo := 2) (hi := 2) (by decide))) (by decide)) (by rw [h651_1]; rfl) ?_
          refine J_aload_n (i := 1) (j := 1) dX7_copy_69 rfl rfl ?_
          refine J_get (C := RX7) (T := TX7) (Z := 8) (ci := 7) (f := 4) dX7_copy_70 inG7 rfl (by decide) k194 wc_1 rfl ?_
          refine J_iload_n (i := 2) (j := 2) dX7_copy_73 rfl rfl ?_
          refine J_aald (q := 10) dX7_copy_74 wc_3 (fun _ => rfl) (vin (bd_r h651_1 (bd_c (v := 1) (lo := 1) (hi := 1) (by decide))) (by decide)) (by rw [h651_1]; rfl) ?_
          refine J_callV (As := [.ref 10]) (rest := []) dX7_copy_75 (c_H_copyBX (d := 1) (u := u268) (g := g) (ex := ex)  (t := 119) (f := 10) (by decide) (by decide) (by decide) (Nat.ne_of_beq_eq_false rfl) (bd_r ((congrFun (fr269 10 rfl) 0).trans ((congrFun (ms_c e12 (Nat.ne_of_beq_eq_false rfl)) 0).trans ((congrFun (ms_c e10 (Nat.ne_of_beq_eq_false rfl)) 0).trans ((congrFun (ms_c e8 (Nat.ne_of_beq_eq_false rfl)) 0).trans ((congrFun (ms_c e6 (Nat.ne_of_beq_eq_false rfl)) 0).trans ((congrFun (ms_c e4 (Nat.ne_of_beq_eq_false rfl)) 0).trans (congrFun (mr_c e2 (Nat.ne_of_beq_eq_false rfl)) 0))))))) hp6) (bd_r ((congrFun (fr269 10 rfl) 2).trans ((congrFun (ms_c e12 (Nat.ne_of_beq_eq_false rfl)) 2).trans ((congrFun (ms_c e10 (Nat.ne_of_beq_eq_false rfl)) 2).trans ((congrFun (ms_c e8 (Nat.ne_of_beq_eq_false rfl)) 2).trans ((congrFun (ms_c e6 (Nat.ne_of_beq_eq_false rfl)) 2).trans ((congrFun (ms_c e4 (Nat.ne_of_beq_eq_false rfl)) 2).trans (congrFun (mr_c e2 (Nat.ne_of_beq_eq_false rfl)) 2))))))) hp7) ab277 (ab_c ((fr269 11 rfl).trans ((ms_c e12 (Nat.ne_of_beq_eq_false rfl)).trans ((ms_c e10 (Nat.ne_of_beq_eq_false rfl)).trans ((ms_c e8 (Nat.ne_of_beq_eq_false rfl)).trans ((ms_c e6 (Nat.ne_of_beq_eq_false rfl)).trans ((ms_c e4 (Nat.ne_of_beq_eq_false rfl)).trans (mr_c e2 (Nat.ne_of_beq_eq_false rfl)))))))) hp9)) hq.n k680 k681 k682 wc_119 rfl rfl k89 k683 np_X1_copy (Nat.le_trans (by decide) hd) (by decide) (Nat.le_refl _) (Nat.le_refl _) wlen rfl (Nat.le_of_ble_eq_true rfl) (fun r_ h_ p660 => ?_)
          obtain ⟨u661, rfl, rfl, h662, h663, h664, hx665, fr666, fc667⟩ := p660
          replace E := xq_le hx665 E
          refine J_iinc (i := 2) (j := 2) (v := (w267 + 1)) (lw := [(2, .int (w267 + 1)), (0, .ref 110), (1, .ref 1)]) dX7_copy_78 rfl rfl (by decide) rfl ?_
          refine J_goto (tgt := 58) dX7_copy_81 (by decide) ?_
          refine J_lv [1, 2, 0] rfl ?_
          exact ih473 (w267 + 1) u661 (bd_w (l := 0) (h := 2) (bd_add (l := 2) (h := 2) (bd_r h651_1 (bd_c (v := 1) (lo := 1) (hi := 1) (by decide))) (bd_c (v := 1) (lo := 1) (hi := 1) (by decide)) (by decide)) (by decide)) (fun c k_ => ((fr666 c (nin_ne (a := 119) k_ rfl) (nin_ne (a := 120) k_ rfl) (nin_ne (a := 121) k_ rfl) (nin_ne (a := 122) k_ rfl) (nin_ne (a := 123) k_ rfl)).trans (fr269 c (nin_sub (M := [(114, 123)]) k_ rfl)))) (fun j k0_ k2_ => ((congrFun (fr666 114 (Nat.ne_of_beq_eq_false rfl) (Nat.ne_of_beq_eq_false rfl) (Nat.ne_of_beq_eq_false rfl) (Nat.ne_of_beq_eq_false rfl) (Nat.ne_of_beq_eq_false rfl)) j).trans (fc270 j k0_ k2_))) (bd_r (congrFun (fr666 114 (Nat.ne_of_beq_eq_false rfl) (Nat.ne_of_beq_eq_false rfl) (Nat.ne_of_beq_eq_false rfl) (Nat.ne_of_beq_eq_false rfl) (Nat.ne_of_beq_eq_false rfl)) 0) bm271) (bd_r (congrFun (fr666 114 (Nat.ne_of_beq_eq_false rfl) (Nat.ne_of_beq_eq_false rfl) (Nat.ne_of_beq_eq_false rfl) (Nat.ne_of_beq_eq_false rfl) (Nat.ne_of_beq_eq_false rfl)) 2) bm272) (ab_c (fr666 115 (Nat.ne_of_beq_eq_false rfl) (Nat.ne_of_beq_eq_false rfl) (Nat.ne_of_beq_eq_false rfl) (Nat.ne_of_beq_eq_false rfl) (Nat.ne_of_beq_eq_false rfl)) ab273) (fun j k0_ k2_ => ((fc667 j k0_ k2_).trans (fc274 j k0_ k2_))) h662 h663 h664 (mu_up 1 bw267 rfl (by decide) (bd_w (l := 2) (h := 2) (bd_add (l := 2) (h := 2) (bd_r h651_1 (bd_c (v := 1) (lo := 1) (hi := 1) (by decide))) (bd_c (v := 1) (lo := 1) (hi := 1) (by decide)) (by decide)) (by decide)) hm474) E
  refine J_lv [1, 2, 0] rfl ?_
  exact lp471 ((2 - (0 : Int32).toInt).toNat + 1) (0 : Int32) u11 (bd_w (l := 0) (h := 2) (bd_c (v := 0) (lo := 0) (hi := 0) (by decide)) (by decide)) (fun c k_ => rfl) (fun j k0_ k2_ => rfl) (bd_r ((congrFun (ms_c e12 (Nat.ne_of_beq_eq_false rfl)) 0).trans ((congrFun (ms_c e10 (Nat.ne_of_beq_eq_false rfl)) 0).trans ((congrFun (ms_c e8 (Nat.ne_of_beq_eq_false rfl)) 0).trans ((congrFun (ms_c e6 (Nat.ne_of_beq_eq_false rfl)) 0).trans ((congrFun (ms_c e4 (Nat.ne_of_beq_eq_false rfl)) 0).trans (congrFun (mr_c e2 (Nat.ne_of_beq_eq_false rfl)) 0)))))) hp20) (bd_r ((congrFun (ms_c e12 (Nat.ne_of_beq_eq_false rfl)) 2).trans ((congrFun (ms_c e10 (Nat.ne_of_beq_eq_false rfl)) 2).trans ((congrFun (ms_c e8 (Nat.ne_of_beq_eq_false rfl)) 2).trans ((congrFun (ms_c e6 (Nat.ne_of_beq_eq_false rfl)) 2).trans ((congrFun (ms_c e4 (Nat.ne_of_beq_eq_false rfl)) 2).trans (congrFun (mr_c e2 (Nat.ne_of_beq_eq_false rfl)) 2)))))) hp21) (ab_c ((ms_c e12 (Nat.ne_of_beq_eq_false rfl)).trans ((ms_c e10 (Nat.ne_of_beq_eq_false rfl)).trans ((ms_c e8 (Nat.ne_of_beq_eq_false rfl)).trans ((ms_c e6 (Nat.ne_of_beq_eq_false rfl)).trans ((ms_c e4 (Nat.ne_of_beq_eq_false rfl)).trans (mr_c e2 (Nat.ne_of_beq_eq_false rfl))))))) hp24) (fun j k0_ k2_ => rfl) (bd_r ((congrFun (ms_c e12 (Nat.ne_of_beq_eq_false rfl)) 0).trans ((congrFun (ms_c e10 (Nat.ne_of_beq_eq_false rfl)) 0).trans ((congrFun (ms_c e8 (Nat.ne_of_beq_eq_false rfl)) 0).trans ((congrFun (ms_c e6 (Nat.ne_of_beq_eq_false rfl)) 0).trans ((congrFun (ms_c e4 (Nat.ne_of_beq_eq_false rfl)) 0).trans (congrFun (mr_c e2 (Nat.ne_of_beq_eq_false rfl)) 0)))))) hp22) (bd_r ((congrFun (ms_c e12 (Nat.ne_of_beq_eq_false rfl)) 2).trans ((congrFun (ms_c e10 (Nat.ne_of_beq_eq_false rfl)) 2).trans ((congrFun (ms_c e8 (Nat.ne_of_beq_eq_false rfl)) 2).trans ((congrFun (ms_c e6 (Nat.ne_of_beq_eq_false rfl)) 2).trans ((congrFun (ms_c e4 (Nat.ne_of_beq_eq_false rfl)) 2).trans (congrFun (mr_c e2 (Nat.ne_of_beq_eq_false rfl)) 2)))))) hp23) (ab_c ((ms_c e12 (Nat.ne_of_beq_eq_false rfl)).trans ((ms_c e10 (Nat.ne_of_beq_eq_false rfl)).trans ((ms_c e8 (Nat.ne_of_beq_eq_false rfl)).trans ((ms_c e6 (Nat.ne_of_beq_eq_false rfl)).trans ((ms_c e4 (Nat.ne_of_beq_eq_false rfl)).trans (mr_c e2 (Nat.ne_of_beq_eq_false rfl))))))) hp25) (Nat.lt_succ_self _) E
set_option maxRecDepth 100000 in
noncomputable def Fx_T_copyR_136_1X_L86 (g : Nat → Nat → Int64) (n_ : Nat) : (Int32) → (Nat → Nat → Int32) → (Nat → Nat → Int32) := Nat.rec (motive := fun _ => (Int32) → (Nat → Nat → Int32) → (Nat → Nat → Int32)) (fun _ _ => default) (fun n_ ih_ w589 u590 => if (3 : Int32) ≤ w589 then (u590) else (if w589 = 0 then (xq_lt (Fx_W_copyK_150_15X u590 g) fun u631 => ih_ (w589 + 1) u631) else (if w589 = 1 then (xq_lt (Fx_W_copyK_154_19X u590 g) fun u638 => ih_ (w589 + 1) u638) else (xq_lt (Fx_W_copyK_158_23X u590 g) fun u645 => ih_ (w589 + 1) u645)))) n_
set_option maxRecDepth 100000 in
theorem Fx_T_copyR_136_1X_L86_s {g : Nat → Nat → Int64} {w589 : Int32} {u590 : Nat → Nat → Int32} {n_ : Nat} : Fx_T_copyR_136_1X_L86 g (n_ + 1) w589 u590 = if (3 : Int32) ≤ w589 then (u590) else (if w589 = 0 then (xq_lt (Fx_W_copyK_150_15X u590 g) fun u631 => (Fx_T_copyR_136_1X_L86 g n_) (w589 + 1) u631) else (if w589 = 1 then (xq_lt (Fx_W_copyK_154_19X u590 g) fun u638 => (Fx_T_copyR_136_1X_L86 g n_) (w589 + 1) u638) else (xq_lt (Fx_W_copyK_158_23X u590 g) fun u645 => (Fx_T_copyR_136_1X_L86 g n_) (w589 + 1) u645))) := rfl
set_option maxRecDepth 100000 in
noncomputable def Fx_T_copyR_136_1X_L58 (g : Nat → Nat → Int64) (n_ : Nat) : (Int32) → (Nat → Nat → Int32) → (Nat → Nat → Int32) := Nat.rec (motive := fun _ => (Int32) → (Nat → Nat → Int32) → (Nat → Nat → Int32)) (fun _ _ => default) (fun n_ ih_ w267 u268 => if (2 : Int32) ≤ w267 then (Fx_T_copyR_136_1X_L86 g ((3 - (0 : Int32).toInt).toNat + 1) (0 : Int32) u268) else (if w267 = 0 then (xq_lt (Fx_H_copyBX 140 5 u268 g) fun u653 => ih_ (w267 + 1) u653) else (xq_lt (Fx_H_copyBX 145 10 u268 g) fun u661 => ih_ (w267 + 1) u661))) n_
set_option maxRecDepth 100000 in
theorem Fx_T_copyR_136_1X_L58_s {g : Nat → Nat → Int64} {w267 : Int32} {u268 : Nat → Nat → Int32} {n_ : Nat} : Fx_T_copyR_136_1X_L58 g (n_ + 1) w267 u268 = if (2 : Int32) ≤ w267 then (Fx_T_copyR_136_1X_L86 g ((3 - (0 : Int32).toInt).toNat + 1) (0 : Int32) u268) else (if w267 = 0 then (xq_lt (Fx_H_copyBX 140 5 u268 g) fun u653 => (Fx_T_copyR_136_1X_L58 g n_) (w267 + 1) u653) else (xq_lt (Fx_H_copyBX 145 10 u268 g) fun u661 => (Fx_T_copyR_136_1X_L58 g n_) (w267 + 1) u661)) := rfl
set_option maxRecDepth 100000 in
noncomputable def Fx_T_copyR_136_1X (u : Nat → Nat → Int32) (g : Nat → Nat → Int64) : (Nat → Nat → Int32) := xq_lt (mr u 137 (va_cpy (u 2) (u 137) 0 0 600)) fun u1 => xq_lt (ms u1 136 1 (u 1 1)) fun u3 => xq_lt (ms u3 136 2 (u 1 2)) fun u5 => xq_lt (ms u5 136 3 (u 1 3)) fun u7 => xq_lt (ms u7 136 5 (u 1 5)) fun u9 => xq_lt (ms u9 136 7 (u 1 7)) fun u11 => Fx_T_copyR_136_1X_L58 g ((2 - (0 : Int32).toInt).toNat + 1) (0 : Int32) u11
set_option maxHeartbeats 4000000 in
set_option maxRecDepth 100000 in
theorem c_T_copyR_136_1X {d : Nat} {u : Nat → Nat → Int32} {g : Nat → Nat → Int64} {ex : List MC}  (hd : 2 ≤ d) (hp0 : Bd 0 600 (u 1 1)) (hp1 : Bd 0 2 (u 1 5)) (hp2 : Bd 0 3 (u 1 7)) (hp3 : BF u 2) (hp4 : Bd 0 9 (u 5 0)) (hp5 : Bd 0 4 (u 5 2)) (hp6 : Bd 0 9 (u 10 0)) (hp7 : Bd 0 4 (u 10 2)) (hp8 : AB u 6 (-1) 999) (hp9 : AB u 11 (-1) 999) (hp10 : Bd 0 12 (u 15 0)) (hp11 : Bd 0 12 (u 19 0)) (hp12 : Bd 0 12 (u 23 0)) (hp13 : (KM u 15)) (hp14 : (KM u 19)) (hp15 : (KM u 23)) (hp16 : Bd 0 600 (u 136 1)) (hp17 : Bd 0 2 (u 136 5)) (hp18 : Bd 0 3 (u 136 7)) (hp19 : BF u 137) (hp20 : Bd 0 9 (u 140 0)) (hp21 : Bd 0 4 (u 140 2)) (hp22 : Bd 0 9 (u 145 0)) (hp23 : Bd 0 4 (u 145 2)) (hp24 : AB u 141 (-1) 999) (hp25 : AB u 146 (-1) 999) (hp26 : Bd 0 12 (u 150 0)) (hp27 : Bd 0 12 (u 154 0)) (hp28 : Bd 0 12 (u 158 0)) (hp29 : (KM u 150)) (hp30 : (KM u 154)) (hp31 : (KM u 158)) : CT con0 d 0 0 yX7_copy cX7_copy 3 none [.ref 136, .ref 1] (Wd u g ex) (fun r h2 => ∃ (u2 : Nat → Nat → Int32), r = none ∧ h2 = Wd u2 g ex ∧ Bd 0 600 (u2 136 1) ∧ Bd 0 2 (u2 136 5) ∧ Bd 0 3 (u2 136 7) ∧ BF u2 137 ∧ Bd 0 9 (u2 140 0) ∧ Bd 0 4 (u2 140 2) ∧ Bd 0 9 (u2 145 0) ∧ Bd 0 4 (u2 145 2) ∧ AB u2 141 (-1) 999 ∧ AB u2 146 (-1) 999 ∧ Bd 0 12 (u2 150 0) ∧ Bd 0 12 (u2 154 0) ∧ Bd 0 12 (u2 158 0) ∧ (KM u2 150) ∧ (KM u2 154) ∧ (KM u2 158) ∧ (u2 136 1 = u 1 1) ∧ u2 = Fx_T_copyR_136_1X u g ∧ (∀ c, nin c [(136, 137), (140, 161)] = true → u2 c = u c) ∧ (∀ j, j ≠ 1 → j ≠ 2 → j ≠ 3 → j ≠ 5 → j ≠ 7 → u2 136 j = u 136 j) ∧ (∀ j, j ≠ 0 → j ≠ 2 → u2 140 j = u 140 j) ∧ (∀ j, j ≠ 0 → j ≠ 2 → u2 145 j = u 145 j) ∧ (∀ j, j ≠ 0 → u2 150 j = u 150 j) ∧ (∀ j, j ≠ 0 → u2 154 j = u 154 j) ∧ (∀ j, j ≠ 0 → u2 158 j = u 158 j)) := by
  refine CT_of (by decide) (Nat.le_of_ble_eq_true rfl) (fun x hq => ?_)
  show J x yX7_copy cX7_copy 3 none d 0 0 (Wd u g ex).length 0 [(0, .ref 136), (1, .ref 1)] [] (Wd u g ex) 0 0
  have E : Fx_T_copyR_136_1X u g = Fx_T_copyR_136_1X u g := rfl
  refine J_aload_n (i := 1) (j := 1) dX7_copy_0 rfl rfl ?_
  refine J_get (C := RX7) (T := TX7) (Z := 8) (ci := 7) (f := 0) dX7_copy_1 inG7 rfl (by decide) k186 wc_1 rfl ?_
  refine J_iconst (v := 0) dX7_copy_4 (by decide) ?_
  refine J_aload_n (i := 0) (j := 0) dX7_copy_5 rfl rfl ?_
  refine J_get (C := RX7) (T := TX7) (Z := 8) (ci := 7) (f := 0) dX7_copy_6 inG7 rfl (by decide) k186 wc_136 rfl ?_
  refine J_iconst (v := 0) dX7_copy_9 (by decide) ?_
  refine J_sipush (v := 600) dX7_copy_10 (by decide) ?_
  obtain ⟨u1, e2⟩ : ∃ z, z = mr u 137 (va_cpy (u 2) (u 137) 0 0 600) := ⟨_, rfl⟩
  refine J_copyb (sp := 0) (dp := 0) (nn := 600) dX7_copy_13 k1253 k686 k685 k104 wc_2 wc_137 (by decide) (by decide) (by decide) (by decide) (by decide) (fun i _ => hp3 _) (Nat.le_trans (by decide) hd) (Nat.le_of_ble_eq_true rfl) (wsr e2 wk_137 rfl) ?_
  replace E := xq_le e2 E
  refine J_aload_n (i := 0) (j := 0) dX7_copy_16 rfl rfl ?_
  refine J_aload_n (i := 1) (j := 1) dX7_copy_17 rfl rfl ?_
  refine J_get (C := RX7) (T := TX7) (Z := 8) (ci := 7) (f := 1) dX7_copy_18 inG7 rfl (by decide) k188 wc_1 rfl ?_
  refine J_ci (v := u 1 1) (congrFun (mr_c e2 (Nat.ne_of_beq_eq_false rfl)) 1) ?_
  obtain ⟨u3, e4⟩ : ∃ z, z = ms u1 136 1 (u 1 1) := ⟨_, rfl⟩
  refine J_put (C := RX7) (T := TX7) (Z := 8) (ci := 7) (f := 1) (ty0 := tyX7) dX7_copy_21 inG7 rfl tyX7_ok nmX7 (by decide) k188 rfl rfl wc_136 (Nat.le_of_ble_eq_true rfl) (fun _ _ => ⟨rfl, rfl⟩) (ws e4 wk_136 rfl) ?_
  replace E := xq_le e4 E
  refine J_aload_n (i := 0) (j := 0) dX7_copy_24 rfl rfl ?_
  refine J_aload_n (i := 1) (j := 1) dX7_copy_25 rfl rfl ?_
  refine J_get (C := RX7) (T := TX7) (Z := 8) (ci := 7) (f := 2) dX7_copy_26 inG7 rfl (by decide) k190 wc_1 rfl ?_
  refine J_ci (v := u 1 2) ((congrFun (ms_c e4 (Nat.ne_of_beq_eq_false rfl)) 2).trans (congrFun (mr_c e2 (Nat.ne_of_beq_eq_false rfl)) 2)) ?_
  obtain ⟨u5, e6⟩ : ∃ z, z = ms u3 136 2 (u 1 2) := ⟨_, rfl⟩
  refine J_put (C := RX7) (T := TX7) (Z := 8) (ci := 7) (f := 2) (ty0 := tyX7) dX7_copy_29 inG7 rfl tyX7_ok nmX7 (by decide) k190 rfl rfl wc_136 (Nat.le_of_ble_eq_true rfl) (fun _ _ => ⟨rfl, rfl⟩) (ws e6 wk_136 rfl) ?_
  replace E := xq_le e6 E
  refine J_aload_n (i := 0) (j := 0) dX7_copy_32 rfl rfl ?_
  refine J_aload_n (i := 1) (j := 1) dX7_copy_33 rfl rfl ?_
  refine J_get (C := RX7) (T := TX7) (Z := 8) (ci := 7) (f := 3) dX7_copy_34 inG7 rfl (by decide) k192 wc_1 rfl ?_
  refine J_ci (v := u 1 3) ((congrFun (ms_c e6 (Nat.ne_of_beq_eq_false rfl)) 3).trans ((congrFun (ms_c e4 (Nat.ne_of_beq_eq_false rfl)) 3).trans (congrFun (mr_c e2 (Nat.ne_of_beq_eq_false rfl)) 3))) ?_
  obtain ⟨u7, e8⟩ : ∃ z, z = ms u5 136 3 (u 1 3) := ⟨_, rfl⟩
  refine J_put (C := RX7) (T := TX7) (Z := 8) (ci := 7) (f := 3) (ty0 := tyX7) dX7_copy_37 inG7 rfl tyX7_ok nmX7 (by decide) k192 rfl rfl wc_136 (Nat.le_of_ble_eq_true rfl) (fun _ _ => ⟨rfl, rfl⟩) (ws e8 wk_136 rfl) ?_
  replace E := xq_le e8 E
  refine J_aload_n (i := 0) (j := 0) dX7_copy_40 rfl rfl ?_
  refine J_aload_n (i := 1) (j := 1) dX7_copy_41 rfl rfl ?_
  refine J_get (C := RX7) (T := TX7) (Z := 8) (ci := 7) (f := 5) dX7_copy_42 inG7 rfl (by decide) k196 wc_1 rfl ?_
  refine J_ci (v := u 1 5) ((congrFun (ms_c e8 (Nat.ne_of_beq_eq_false rfl)) 5).trans ((congrFun (ms_c e6 (Nat.ne_of_beq_eq_false rfl)) 5).trans ((congrFun (ms_c e4 (Nat.ne_of_beq_eq_false rfl)) 5).trans (congrFun (mr_c e2 (Nat.ne_of_beq_eq_false rfl)) 5)))) ?_
  obtain ⟨u9, e10⟩ : ∃ z, z = ms u7 136 5 (u 1 5) := ⟨_, rfl⟩
  refine J_put (C := RX7) (T := TX7) (Z := 8) (ci := 7) (f := 5) (ty0 := tyX7) dX7_copy_45 inG7 rfl tyX7_ok nmX7 (by decide) k196 rfl rfl wc_136 (Nat.le_of_ble_eq_true rfl) (fun _ _ => ⟨rfl, rfl⟩) (ws e10 wk_136 rfl) ?_
  replace E := xq_le e10 E
  refine J_aload_n (i := 0) (j := 0) dX7_copy_48 rfl rfl ?_
  refine J_aload_n (i := 1) (j := 1) dX7_copy_49 rfl rfl ?_
  refine J_get (C := RX7) (T := TX7) (Z := 8) (ci := 7) (f := 7) dX7_copy_50 inG7 rfl (by decide) k200 wc_1 rfl ?_
  refine J_ci (v := u 1 7) ((congrFun (ms_c e10 (Nat.ne_of_beq_eq_false rfl)) 7).trans ((congrFun (ms_c e8 (Nat.ne_of_beq_eq_false rfl)) 7).trans ((congrFun (ms_c e6 (Nat.ne_of_beq_eq_false rfl)) 7).trans ((congrFun (ms_c e4 (Nat.ne_of_beq_eq_false rfl)) 7).trans (congrFun (mr_c e2 (Nat.ne_of_beq_eq_false rfl)) 7))))) ?_
  obtain ⟨u11, e12⟩ : ∃ z, z = ms u9 136 7 (u 1 7) := ⟨_, rfl⟩
  refine J_put (C := RX7) (T := TX7) (Z := 8) (ci := 7) (f := 7) (ty0 := tyX7) dX7_copy_53 inG7 rfl tyX7_ok nmX7 (by decide) k200 rfl rfl wc_136 (Nat.le_of_ble_eq_true rfl) (fun _ _ => ⟨rfl, rfl⟩) (ws e12 wk_136 rfl) ?_
  replace E := xq_le e12 E
  refine J_iconst (v := 0) dX7_copy_56 (by decide) ?_
  refine J_istore_n (i := 2) (lw := [(2, .int 0), (0, .ref 136), (1, .ref 1)]) dX7_copy_57 rfl (by decide) rfl ?_
  have lp471 : ∀ (n472 : Nat) (w267 : Int32) (u268 : Nat → Nat → Int32), Bd 0 2 w267 → (∀ c, nin c [(140, 149)] = true → u268 c = u11 c) → (∀ j, j ≠ 0 → j ≠ 2 → u268 140 j = u11 140 j) → Bd 0 9 (u268 140 0) → Bd 0 4 (u268 140 2) → AB u268 141 (-1) 999 → (∀ j, j ≠ 0 → j ≠ 2 → u268 145 j = u11 145 j) → Bd 0 9 (u268 145 0) → Bd 0 4 (u268 145 2) → AB u268 146 (-1) 999 → (2 - w267.toInt).toNat < n472 → Fx_T_copyR_136_1X_L58 g n472 w267 u268 = Fx_T_copyR_136_1X u g → J x yX7_copy cX7_copy 3 none d 0 0 (Wd u g ex).length 58 [(0, .ref 136), (1, .ref 1), (2, .int w267)] [] (Wd u268 g ex) 0 0 := by
    intro n472
    induction n472 with
    | zero => intro w267 u268 bw267 fr269 fc270 bm271 bm272 ab273 fc274 bm275 bm276 ab277 hm474 _; exact absurd hm474 (Nat.not_lt_zero _)
    | succ n472 ih473 =>
      intro w267 u268 bw267 fr269 fc270 bm271 bm272 ab273 fc274 bm275 bm276 ab277 hm474 E
      replace E := Fx_T_copyR_136_1X_L58_s.symm.trans E
      refine J_iload_n (i := 2) (j := 2) dX7_copy_58 rfl rfl ?_
      refine J_iconst (v := 2) dX7_copy_59 (by decide) ?_
      refine J_icmp_ge (tgt := 84) dX7_copy_60 (by decide) (fun c475 => ?_) (fun c475 => ?_)
      · replace E := xq_ep c475 E
        refine J_iconst (v := 0) dX7_copy_84 (by decide) ?_
        refine J_istore_n (i := 2) (lw := [(2, .int 0), (0, .ref 136), (1, .ref 1)]) dX7_copy_85 rfl (by decide) rfl ?_
        have lp624 : ∀ (n625 : Nat) (w589 : Int32) (u590 : Nat → Nat → Int32), Bd 0 3 w589 → (∀ c, nin c [(150, 161)] = true → u590 c = u268 c) → (∀ j, j ≠ 0 → u590 150 j = u268 150 j) → Bd 0 12 (u590 150 0) → (∀ j, j ≠ 0 → u590 154 j = u268 154 j) → Bd 0 12 (u590 154 0) → (∀ j, j ≠ 0 → u590 158 j = u268 158 j) → Bd 0 12 (u590 158 0) → KM u590 150 → KM u590 154 → KM u590 158 → (3 - w589.toInt).toNat < n625 → Fx_T_copyR_136_1X_L86 g n625 w589 u590 = Fx_T_copyR_136_1X u g → J x yX7_copy cX7_copy 3 none d 0 0 (Wd u g ex).length 86 [(0, .ref 136), (1, .ref 1), (2, .int w589)] [] (Wd u590 g ex) 0 0 := by
          intro n625
          induction n625 with
          | zero => intro w589 u590 bw589 fr591 fc592 bm593 fc594 bm595 fc596 bm597 km598 km599 km600 hm627 _; exact absurd hm627 (Nat.not_lt_zero _)
          | succ n625 ih626 =>
            intro w589 u590 bw589 fr591 fc592 bm593 fc594 bm595 fc596 bm597 km598 km599 km600 hm627 E
            replace E := Fx_T_copyR_136_1X_L86_s.symm.trans E
            refine J_iload_n (i := 2) (j := 2) dX7_copy_86 rfl rfl ?_
            refine J_iconst (v := 3) dX7_copy_87 (by decide) ?_
            refine J_icmp_ge (tgt := 112) dX7_copy_88 (by decide) (fun c628 => ?_) (fun c628 => ?_)
            · replace E := xq_ep c628 E
              exact J_vret hq dX7_copy_112 rfl wlen (Nat.le_refl _) (Nat.le_refl _) ⟨u590, rfl, rfl, (bd_r ((congrFun (fr591 136 rfl) 1).trans ((congrFun (fr269 136 rfl) 1).trans ((ms_i e12 (Nat.ne_of_beq_eq_false rfl)).trans ((ms_i e10 (Nat.ne_of_beq_eq_false rfl)).trans ((ms_i e8 (Nat.ne_of_beq_eq_false rfl)).trans ((ms_i e6 (Nat.ne_of_beq_eq_false rfl)).trans (ms_e e4))))))) hp0), (bd_r ((congrFun (fr591 136 rfl) 5).trans ((congrFun (fr269 136 rfl) 5).trans ((ms_i e12 (Nat.ne_of_beq_eq_false rfl)).trans (ms_e e10)))) hp1), (bd_r ((congrFun (fr591 136 rfl) 7).trans ((congrFun (fr269 136 rfl) 7).trans (ms_e e12))) hp2), (bf_c ((fr591 137 rfl).trans ((fr269 137 rfl).trans ((ms_c e12 (Nat.ne_of_beq_eq_false rfl)).trans ((ms_c e10 (Nat.ne_of_beq_eq_false rfl)).trans ((ms_c e8 (Nat.ne_of_beq_eq_false rfl)).trans ((ms_c e6 (Nat.ne_of_beq_eq_false rfl)).trans (ms_c e4 (Nat.ne_of_beq_eq_false rfl)))))))) (bf_cp e2 hp3 hp19)), (bd_r (congrFun (fr591 140 rfl) 0) bm271), (bd_r (congrFun (fr591 140 rfl) 2) bm272), (bd_r (congrFun (fr591 145 rfl) 0) bm275), (bd_r (congrFun (fr591 145 rfl) 2) bm276), (ab_c (fr591 141 rfl) ab273), (ab_c (fr591 146 rfl) ab277), bm593, bm595, bm597, km598, km599, km600, ((congrFun (fr591 136 rfl) 1).trans ((congrFun (fr269 136 rfl) 1).trans ((ms_i e12 (Nat.ne_of_beq_eq_false rfl)).trans ((ms_i e10 (Nat.ne_of_beq_eq_false rfl)).trans ((ms_i e8 (Nat.ne_of_beq_eq_false rfl)).trans ((ms_i e6 (Nat.ne_of_beq_eq_false rfl)).trans (ms_e e4))))))), E, (fun c k_ => ((fr591 c (nin_sub (M := [(150, 161)]) k_ rfl)).trans ((fr269 c (nin_sub (M := [(140, 149)]) k_ rfl)).trans ((ms_c e12 (nin_ne (a := 136) k_ rfl)).trans ((ms_c e10 (nin_ne (a := 136) k_ rfl)).trans ((ms_c e8 (nin_ne (a := 136) k_ rfl)).trans ((ms_c e6 (nin_ne (a := 136) k_ rfl)).trans ((ms_c e4 (nin_ne (a := 136) k_ rfl)).trans (mr_c e2 (nin_ne (a := 137) k_ rfl)))))))))), (fun j k1_ k2_ k3_ k5_ k7_ => ((congrFun (fr591 136 rfl) j).trans ((congrFun (fr269 136 rfl) j).trans ((ms_i e12 k7_).trans ((ms_i e10 k5_).trans ((ms_i e8 k3_).trans ((ms_i e6 k2_).trans ((ms_i e4 k1_).trans (congrFun (mr_c e2 (Nat.ne_of_beq_eq_false rfl)) j))))))))), (fun j k0_ k2_ => ((congrFun (fr591 140 rfl) j).trans ((fc270 j k0_ k2_).trans ((congrFun (ms_c e12 (Nat.ne_of_beq_eq_false rfl)) j).trans ((congrFun (ms_c e10 (Nat.ne_of_beq_eq_false rfl)) j).trans ((congrFun (ms_c e8 (Nat.ne_of_beq_eq_false rfl)) j).trans ((congrFun (ms_c e6 (Nat.ne_of_beq_eq_false rfl)) j).trans ((congrFun (ms_c e4 (Nat.ne_of_beq_eq_false rfl)) j).trans (congrFun (mr_c e2 (Nat.ne_of_beq_eq_false rfl)) j))))))))), (fun j k0_ k2_ => ((congrFun (fr591 145 rfl) j).trans ((fc274 j k0_ k2_).trans ((congrFun (ms_c e12 (Nat.ne_of_beq_eq_false rfl)) j).trans ((congrFun (ms_c e10 (Nat.ne_of_beq_eq_false rfl)) j).trans ((congrFun (ms_c e8 (Nat.ne_of_beq_eq_false rfl)) j).trans ((congrFun (ms_c e6 (Nat.ne_of_beq_eq_false rfl)) j).trans ((congrFun (ms_c e4 (Nat.ne_of_beq_eq_false rfl)) j).trans (congrFun (mr_c e2 (Nat.ne_of_beq_eq_false rfl)) j))))))))), (fun j k0_ => ((fc592 j k0_).trans ((congrFun (fr269 150 rfl) j).trans ((congrFun (ms_c e12 (Nat.ne_of_beq_eq_false rfl)) j).trans ((congrFun (ms_c e10 (Nat.ne_of_beq_eq_false rfl)) j).trans ((congrFun (ms_c e8 (Nat.ne_of_beq_eq_false rfl)) j).trans ((congrFun (ms_c e6 (Nat.ne_of_beq_eq_false rfl)) j).trans ((congrFun (ms_c e4 (Nat.ne_of_beq_eq_false rfl)) j).trans (congrFun (mr_c e2 (Nat.ne_of_beq_eq_false rfl)) j))))))))), (fun j k0_ => ((fc594 j k0_).trans ((congrFun (fr269 154 rfl) j).trans ((congrFun (ms_c e12 (Nat.ne_of_beq_eq_false rfl)) j).trans ((congrFun (ms_c e10 (Nat.ne_of_beq_eq_false rfl)) j).trans ((congrFun (ms_c e8 (Nat.ne_of_beq_eq_false rfl)) j).trans ((congrFun (ms_c e6 (Nat.ne_of_beq_eq_false rfl)) j).trans ((congrFun (ms_c e4 (Nat.ne_of_beq_eq_false rfl)) j).trans (congrFun (mr_c e2 (Nat.ne_of_beq_eq_false rfl)) j))))))))), (fun j k0_ => ((fc596 j k0_).trans ((congrFun (fr269 158 rfl) j).trans ((congrFun (ms_c e12 (Nat.ne_of_beq_eq_false rfl)) j).trans ((congrFun (ms_c e10 (Nat.ne_of_beq_eq_false rfl)) j).trans ((congrFun (ms_c e8 (Nat.ne_of_beq_eq_false rfl)) j).trans ((congrFun (ms_c e6 (Nat.ne_of_beq_eq_false rfl)) j).trans ((congrFun (ms_c e4 (Nat.ne_of_beq_eq_false rfl)) j).trans (congrFun (mr_c e2 (Nat.ne_of_beq_eq_false rfl)) j)))))))))⟩
            · replace E := xq_en c628 E
              refine J_aload_n (i := 0) (j := 0) dX7_copy_91 rfl rfl ?_
              refine J_get (C := RX7) (T := TX7) (Z := 8) (ci := 7) (f := 6) dX7_copy_92 inG7 rfl (by decide) k198 wc_136 rfl ?_
              refine J_iload_n (i := 2) (j := 2) dX7_copy_95 rfl rfl ?_
              have h629 := bd_cases3 (bd_lt_hi bw589 (i_nle c628) (bd_c (v := 3) (lo := 3) (hi := 3) (by decide)))
              rcases h629 with h629_0 | h629_1 | h629_2
              · replace E := xq_ep h629_0 E
                refine J_aald (q := 150) dX7_copy_96 wc_139 (fun _ => rfl) (vin (bd_lt_hi bw589 (i_nle c628) (bd_c (v := 3) (lo := 3) (hi := 3) (by decide))) (by decide)) (by rw [h629_0]; rfl) ?_
                refine J_aload_n (i := 1) (j := 1) dX7_copy_97 rfl rfl ?_
                refine J_get (C := RX7) (T := TX7) (Z := 8) (ci := 7) (f := 6) dX7_copy_98 inG7 rfl (by decide) k198 wc_1 rfl ?_
                refine J_iload_n (i := 2) (j := 2) dX7_copy_101 rfl rfl ?_
                refine J_aald (q := 15) dX7_copy_102 wc_4 (fun _ => rfl) (vin (bd_r h629_0 (bd_c (v := 0) (lo := 0) (hi := 0) (by decide))) (by decide)) (by rw [h629_0]; rfl) ?_
                refine J_callV (As := [.ref 15]) (rest := []) dX7_copy_103 (c_W_copyK_150_15X (d := 1) (u := u590) (g := g) (ex := ex)   (by decide) (bd_r ((congrFun (fr591 15 rfl) 0).trans ((congrFun (fr269 15 rfl) 0).trans ((congrFun (ms_c e12 (Nat.ne_of_beq_eq_false rfl)) 0).trans ((congrFun (ms_c e10 (Nat.ne_of_beq_eq_false rfl)) 0).trans ((congrFun (ms_c e8 (Nat.ne_of_beq_eq_false rfl)) 0).trans ((congrFun (ms_c e6 (Nat.ne_of_beq_eq_false rfl)) 0).trans ((congrFun (ms_c e4 (Nat.ne_of_beq_eq_false rfl)) 0).trans (congrFun (mr_c e2 (Nat.ne_of_beq_eq_false rfl)) 0)))))))) hp10) (km_c ((fr591 16 rfl).trans ((fr269 16 rfl).trans ((ms_c e12 (Nat.ne_of_beq_eq_false rfl)).trans ((ms_c e10 (Nat.ne_of_beq_eq_false rfl)).trans ((ms_c e8 (Nat.ne_of_beq_eq_false rfl)).trans ((ms_c e6 (Nat.ne_of_beq_eq_false rfl)).trans ((ms_c e4 (Nat.ne_of_beq_eq_false rfl)).trans (mr_c e2 (Nat.ne_of_beq_eq_false rfl))))))))) ((fr591 18 rfl).trans ((fr269 18 rfl).trans ((ms_c e12 (Nat.ne_of_beq_eq_false rfl)).trans ((ms_c e10 (Nat.ne_of_beq_eq_false rfl)).trans ((ms_c e8 (Nat.ne_of_beq_eq_false rfl)).trans ((ms_c e6 (Nat.ne_of_beq_eq_false rfl)).trans ((ms_c e4 (Nat.ne_of_beq_eq_false rfl)).trans (mr_c e2 (Nat.ne_of_beq_eq_false rfl))))))))) hp13) km598) hq.n k690 k691 k692 wc_150 rfl rfl k90 k693 np_X8_copy (Nat.le_trans (by decide) hd) (by decide) (Nat.le_refl _) (Nat.le_refl _) wlen rfl (Nat.le_of_ble_eq_true rfl) (fun r_ h_ p630 => ?_)
                obtain ⟨u631, rfl, rfl, h632, h633, hx634, fr635, fc636⟩ := p630
                replace E := xq_le hx634 E
                refine J_iinc (i := 2) (j := 2) (v := (w589 + 1)) (lw := [(2, .int (w589 + 1)), (0, .ref 136), (1, .ref 1)]) dX7_copy_106 rfl rfl (by decide) rfl ?_
                refine J_goto (tgt := 86) dX7_copy_109 (by decide) ?_
                refine J_lv [1, 2, 0] rfl ?_
                exact ih626 (w589 + 1) u631 (bd_w (l := 0) (h := 3) (bd_add (l := 1) (h := 1) (bd_r h629_0 (bd_c (v := 0) (lo := 0) (hi := 0) (by decide))) (bd_c (v := 1) (lo := 1) (hi := 1) (by decide)) (by decide)) (by decide)) (fun c k_ => ((fr635 c (nin_sub (M := [(150, 153)]) k_ rfl)).trans (fr591 c (nin_sub (M := [(150, 161)]) k_ rfl)))) (fun j k0_ => ((fc636 j k0_).trans (fc592 j k0_))) h632 (fun j k0_ => ((congrFun (fr635 154 rfl) j).trans (fc594 j k0_))) (bd_r (congrFun (fr635 154 rfl) 0) bm595) (fun j k0_ => ((congrFun (fr635 158 rfl) j).trans (fc596 j k0_))) (bd_r (congrFun (fr635 158 rfl) 0) bm597) h633 (km_c (fr635 155 rfl) (fr635 157 rfl) km599) (km_c (fr635 159 rfl) (fr635 161 rfl) km600) (mu_up 1 bw589 rfl (by decide) (bd_w (l := 1) (h := 3) (bd_add (l := 1) (h := 1) (bd_r h629_0 (bd_c (v := 0) (lo := 0) (hi := 0) (by decide))) (bd_c (v := 1) (lo := 1) (hi := 1) (by decide)) (by decide)) (by decide)) hm627) E
              · replace E := xq_en (fun z_ => absurd (z_.symm.trans h629_1) (by decide)) E
                replace E := xq_ep h629_1 E
                refine J_aald (q := 154) dX7_copy_96 wc_139 (fun _ => rfl) (vin (bd_lt_hi bw589 (i_nle c628) (bd_c (v := 3) (lo := 3) (hi := 3) (by decide))) (by decide)) (by rw [h629_1]; rfl) ?_
                refine J_aload_n (i := 1) (j := 1) dX7_copy_97 rfl rfl ?_
                refine J_get (C := RX7) (T := TX7) (Z := 8) (ci := 7) (f := 6) dX7_copy_98 inG7 rfl (by decide) k198 wc_1 rfl ?_
                refine J_iload_n (i := 2) (j := 2) dX7_copy_101 rfl rfl ?_
                refine J_aald (q := 19) dX7_copy_102 wc_4 (fun _ => rfl) (vin (bd_r h629_1 (bd_c (v := 1) (lo := 1) (hi := 1) (by decide))) (by decide)) (by rw [h629_1]; rfl) ?_
                refine J_callV (As := [.ref 19]) (rest := []) dX7_copy_103 (c_W_copyK_154_19X (d := 1) (u := u590) (g := g) (ex := ex)   (by decide) (bd_r ((congrFun (fr591 19 rfl) 0).trans ((congrFun (fr269 19 rfl) 0).trans ((congrFun (ms_c e12 (Nat.ne_of_beq_eq_false rfl)) 0).trans ((congrFun (ms_c e10 (Nat.ne_of_beq_eq_false rfl)) 0).trans ((congrFun (ms_c e8 (Nat.ne_of_beq_eq_false rfl)) 0).trans ((congrFun (ms_c e6 (Nat.ne_of_beq_eq_false rfl)) 0).trans ((congrFun (ms_c e4 (Nat.ne_of_beq_eq_false rfl)) 0).trans (congrFun (mr_c e2 (Nat.ne_of_beq_eq_false rfl)) 0)))))))) hp11) (km_c ((fr591 20 rfl).trans ((fr269 20 rfl).trans ((ms_c e12 (Nat.ne_of_beq_eq_false rfl)).trans ((ms_c e10 (Nat.ne_of_beq_eq_false rfl)).trans ((ms_c e8 (Nat.ne_of_beq_eq_false rfl)).trans ((ms_c e6 (Nat.ne_of_beq_eq_false rfl)).trans ((ms_c e4 (Nat.ne_of_beq_eq_false rfl)).trans (mr_c e2 (Nat.ne_of_beq_eq_false rfl))))))))) ((fr591 22 rfl).trans ((fr269 22 rfl).trans ((ms_c e12 (Nat.ne_of_beq_eq_false rfl)).trans ((ms_c e10 (Nat.ne_of_beq_eq_false rfl)).trans ((ms_c e8 (Nat.ne_of_beq_eq_false rfl)).trans ((ms_c e6 (Nat.ne_of_beq_eq_false rfl)).trans ((ms_c e4 (Nat.ne_of_beq_eq_false rfl)).trans (mr_c e2 (Nat.ne_of_beq_eq_false rfl))))))))) hp14) km599) hq.n k690 k691 k692 wc_154 rfl rfl k90 k693 np_X8_copy (Nat.le_trans (by decide) hd) (by decide) (Nat.le_refl _) (Nat.le_refl _) wlen rfl (Nat.le_of_ble_eq_true rfl) (fun r_ h_ p637 => ?_)
                obtain ⟨u638, rfl, rfl, h639, h640, hx641, fr642, fc643⟩ := p637
                replace E := xq_le hx641 E
                refine J_iinc (i := 2) (j := 2) (v := (w589 + 1)) (lw := [(2, .int (w589 + 1)), (0, .ref 136), (1, .ref 1)]) dX7_copy_106 rfl rfl (by decide) rfl ?_
                refine J_goto (tgt := 86) dX7_copy_109 (by decide) ?_
                refine J_lv [1, 2, 0] rfl ?_
                exact ih626 (w589 + 1) u638 (bd_w (l := 0) (h := 3) (bd_add (l := 2) (h := 2) (bd_r h629_1 (bd_c (v := 1) (lo := 1) (hi := 1) (by decide))) (bd_c (v := 1) (lo := 1) (hi := 1) (by decide)) (by decide)) (by decide)) (fun c k_ => ((fr642 c (nin_sub (M := [(154, 157)]) k_ rfl)).trans (fr591 c (nin_sub (M := [(150, 161)]) k_ rfl)))) (fun j k0_ => ((congrFun (fr642 150 rfl) j).trans (fc592 j k0_))) (bd_r (congrFun (fr642 150 rfl) 0) bm593) (fun j k0_ => ((fc643 j k0_).trans (fc594 j k0_))) h639 (fun j k0_ => ((congrFun (fr642 158 rfl) j).trans (fc596 j k0_))) (bd_r (congrFun (fr642 158 rfl) 0) bm597) (km_c (fr642 151 rfl) (fr642 153 rfl) km598) h640 (km_c (fr642 159 rfl) (fr642 161 rfl) km600) (mu_up 1 bw589 rfl (by decide) (bd_w (l := 2) (h := 3) (bd_add (l := 2) (h := 2) (bd_r h629_1 (bd_c (v := 1) (lo := 1) (hi := 1) (by decide))) (bd_c (v := 1) (lo := 1) (hi := 1) (by decide)) (by decide)) (by decide)) hm627) E
              · replace E := xq_en (fun z_ => absurd (z_.symm.trans h629_2) (by decide)) E
                replace E := xq_en (fun z_ => absurd (z_.symm.trans h629_2) (by decide)) E
                refine J_aald (q := 158) dX7_copy_96 wc_139 (fun _ => rfl) (vin (bd_lt_hi bw589 (i_nle c628) (bd_c (v := 3) (lo := 3) (hi := 3) (by decide))) (by decide)) (by rw [h629_2]; rfl) ?_
                refine J_aload_n (i := 1) (j := 1) dX7_copy_97 rfl rfl ?_
                refine J_get (C := RX7) (T := TX7) (Z := 8) (ci := 7) (f := 6) dX7_copy_98 inG7 rfl (by decide) k198 wc_1 rfl ?_
                refine J_iload_n (i := 2) (j := 2) dX7_copy_101 rfl rfl ?_
                refine J_aald (q := 23) dX7_copy_102 wc_4 (fun _ => rfl) (vin (bd_r h629_2 (bd_c (v := 2) (lo := 2) (hi := 2) (by decide))) (by decide)) (by rw [h629_2]; rfl) ?_
                refine J_callV (As := [.ref 23]) (rest := []) dX7_copy_103 (c_W_copyK_158_23X (d := 1) (u := u590) (g := g) (ex := ex)   (by decide) (bd_r ((congrFun (fr591 23 rfl) 0).trans ((congrFun (fr269 23 rfl) 0).trans ((congrFun (ms_c e12 (Nat.ne_of_beq_eq_false rfl)) 0).trans ((congrFun (ms_c e10 (Nat.ne_of_beq_eq_false rfl)) 0).trans ((congrFun (ms_c e8 (Nat.ne_of_beq_eq_false rfl)) 0).trans ((congrFun (ms_c e6 (Nat.ne_of_beq_eq_false rfl)) 0).trans ((congrFun (ms_c e4 (Nat.ne_of_beq_eq_false rfl)) 0).trans (congrFun (mr_c e2 (Nat.ne_of_beq_eq_false rfl)) 0)))))))) hp12) (km_c ((fr591 24 rfl).trans ((fr269 24 rfl).trans ((ms_c e12 (Nat.ne_of_beq_eq_false rfl)).trans ((ms_c e10 (Nat.ne_of_beq_eq_false rfl)).trans ((ms_c e8 (Nat.ne_of_beq_eq_false rfl)).trans ((ms_c e6 (Nat.ne_of_beq_eq_false rfl)).trans ((ms_c e4 (Nat.ne_of_beq_eq_false rfl)).trans (mr_c e2 (Nat.ne_of_beq_eq_false rfl))))))))) ((fr591 26 rfl).trans ((fr269 26 rfl).trans ((ms_c e12 (Nat.ne_of_beq_eq_false rfl)).trans ((ms_c e10 (Nat.ne_of_beq_eq_false rfl)).trans ((ms_c e8 (Nat.ne_of_beq_eq_false rfl)).trans ((ms_c e6 (Nat.ne_of_beq_eq_false rfl)).trans ((ms_c e4 (Nat.ne_of_beq_eq_false rfl)).trans (mr_c e2 (Nat.ne_of_beq_eq_false rfl))))))))) hp15) km600) hq.n k690 k691 k692 wc_158 rfl rfl k90 k693 np_X8_copy (Nat.le_trans (by decide) hd) (by decide) (Nat.le_refl _) (Nat.le_refl _) wlen rfl (Nat.le_of_ble_eq_true rfl) (fun r_ h_ p644 => ?_)
                obtain ⟨u645, rfl, rfl, h646, h647, hx648, fr649, fc650⟩ := p644
                replace E := xq_le hx648 E
                refine J_iinc (i := 2) (j := 2) (v := (w589 + 1)) (lw := [(2, .int (w589 + 1)), (0, .ref 136), (1, .ref 1)]) dX7_copy_106 rfl rfl (by decide) rfl ?_
                refine J_goto (tgt := 86) dX7_copy_109 (by decide) ?_
                refine J_lv [1, 2, 0] rfl ?_
                exact ih626 (w589 + 1) u645 (bd_w (l := 0) (h := 3) (bd_add (l := 3) (h := 3) (bd_r h629_2 (bd_c (v := 2) (lo := 2) (hi := 2) (by decide))) (bd_c (v := 1) (lo := 1) (hi := 1) (by decide)) (by decide)) (by decide)) (fun c k_ => ((fr649 c (nin_sub (M := [(158, 161)]) k_ rfl)).trans (fr591 c (nin_sub (M := [(150, 161)]) k_ rfl)))) (fun j k0_ => ((congrFun (fr649 150 rfl) j).trans (fc592 j k0_))) (bd_r (congrFun (fr649 150 rfl) 0) bm593) (fun j k0_ => ((congrFun (fr649 154 rfl) j).trans (fc594 j k0_))) (bd_r (congrFun (fr649 154 rfl) 0) bm595) (fun j k0_ => ((fc650 j k0_).trans (fc596 j k0_))) h646 (km_c (fr649 151 rfl) (fr649 153 rfl) km598) (km_c (fr649 155 rfl) (fr649 157 rfl) km599) h647 (mu_up 1 bw589 rfl (by decide) (bd_w (l := 3) (h := 3) (bd_add (l := 3) (h := 3) (bd_r h629_2 (bd_c (v := 2) (lo := 2) (hi := 2) (by decide))) (bd_c (v := 1) (lo := 1) (hi := 1) (by decide)) (by decide)) (by decide)) hm627) E
        refine J_lv [1, 2, 0] rfl ?_
        exact lp624 ((3 - (0 : Int32).toInt).toNat + 1) (0 : Int32) u268 (bd_w (l := 0) (h := 3) (bd_c (v := 0) (lo := 0) (hi := 0) (by decide)) (by decide)) (fun c k_ => rfl) (fun j k0_ => rfl) (bd_r ((congrFun (fr269 150 rfl) 0).trans ((congrFun (ms_c e12 (Nat.ne_of_beq_eq_false rfl)) 0).trans ((congrFun (ms_c e10 (Nat.ne_of_beq_eq_false rfl)) 0).trans ((congrFun (ms_c e8 (Nat.ne_of_beq_eq_false rfl)) 0).trans ((congrFun (ms_c e6 (Nat.ne_of_beq_eq_false rfl)) 0).trans ((congrFun (ms_c e4 (Nat.ne_of_beq_eq_false rfl)) 0).trans (congrFun (mr_c e2 (Nat.ne_of_beq_eq_false rfl)) 0))))))) hp26) (fun j k0_ => rfl) (bd_r ((congrFun (fr269 154 rfl) 0).trans ((congrFun (ms_c e12 (Nat.ne_of_beq_eq_false rfl)) 0).trans ((congrFun (ms_c e10 (Nat.ne_of_beq_eq_false rfl)) 0).trans ((congrFun (ms_c e8 (Nat.ne_of_beq_eq_false rfl)) 0).trans ((congrFun (ms_c e6 (Nat.ne_of_beq_eq_false rfl)) 0).trans ((congrFun (ms_c e4 (Nat.ne_of_beq_eq_false rfl)) 0).trans (congrFun (mr_c e2 (Nat.ne_of_beq_eq_false rfl)) 0))))))) hp27) (fun j k0_ => rfl) (bd_r ((congrFun (fr269 158 rfl) 0).trans ((congrFun (ms_c e12 (Nat.ne_of_beq_eq_false rfl)) 0).trans ((congrFun (ms_c e10 (Nat.ne_of_beq_eq_false rfl)) 0).trans ((congrFun (ms_c e8 (Nat.ne_of_beq_eq_false rfl)) 0).trans ((congrFun (ms_c e6 (Nat.ne_of_beq_eq_false rfl)) 0).trans ((congrFun (ms_c e4 (Nat.ne_of_beq_eq_false rfl)) 0).trans (congrFun (mr_c e2 (Nat.ne_of_beq_eq_false rfl)) 0))))))) hp28) (km_c ((fr269 151 rfl).trans ((ms_c e12 (Nat.ne_of_beq_eq_false rfl)).trans ((ms_c e10 (Nat.ne_of_beq_eq_false rfl)).trans ((ms_c e8 (Nat.ne_of_beq_eq_false rfl)).trans ((ms_c e6 (Nat.ne_of_beq_eq_false rfl)).trans ((ms_c e4 (Nat.ne_of_beq_eq_false rfl)).trans (mr_c e2 (Nat.ne_of_beq_eq_false rfl)))))))) ((fr269 153 rfl).trans ((ms_c e12 (Nat.ne_of_beq_eq_false rfl)).trans ((ms_c e10 (Nat.ne_of_beq_eq_false rfl)).trans ((ms_c e8 (Nat.ne_of_beq_eq_false rfl)).trans ((ms_c e6 (Nat.ne_of_beq_eq_false rfl)).trans ((ms_c e4 (Nat.ne_of_beq_eq_false rfl)).trans (mr_c e2 (Nat.ne_of_beq_eq_false rfl)))))))) hp29) (km_c ((fr269 155 rfl).trans ((ms_c e12 (Nat.ne_of_beq_eq_false rfl)).trans ((ms_c e10 (Nat.ne_of_beq_eq_false rfl)).trans ((ms_c e8 (Nat.ne_of_beq_eq_false rfl)).trans ((ms_c e6 (Nat.ne_of_beq_eq_false rfl)).trans ((ms_c e4 (Nat.ne_of_beq_eq_false rfl)).trans (mr_c e2 (Nat.ne_of_beq_eq_false rfl)))))))) ((fr269 157 rfl).trans ((ms_c e12 (Nat.ne_of_beq_eq_false rfl)).trans ((ms_c e10 (Nat.ne_of_beq_eq_false rfl)).trans ((ms_c e8 (Nat.ne_of_beq_eq_false rfl)).trans ((ms_c e6 (Nat.ne_of_beq_eq_false rfl)).trans ((ms_c e4 (Nat.ne_of_beq_eq_false rfl)).trans (mr_c e2 (Nat.ne_of_beq_eq_false rfl)))))))) hp30) (km_c ((fr269 159 rfl).trans ((ms_c e12 (Nat.ne_of_beq_eq_false rfl)).trans ((ms_c e10 (Nat.ne_of_beq_eq_false rfl)).trans ((ms_c e8 (Nat.ne_of_beq_eq_false rfl)).trans ((ms_c e6 (Nat.ne_of_beq_eq_false rfl)).trans ((ms_c e4 (Nat.ne_of_beq_eq_false rfl)).trans (mr_c e2 (Nat.ne_of_beq_eq_false rfl)))))))) ((fr269 161 rfl).trans ((ms_c e12 (Nat.ne_of_beq_eq_false rfl)).trans ((ms_c e10 (Nat.ne_of_beq_eq_false rfl)).trans ((ms_c e8 (Nat.ne_of_beq_eq_false rfl)).trans ((ms_c e6 (Nat.ne_of_beq_eq_false rfl)).trans ((ms_c e4 (Nat.ne_of_beq_eq_false rfl)).trans (mr_c e2 (Nat.ne_of_beq_eq_false rfl)))))))) hp31) (Nat.lt_succ_self _) E
      · replace E := xq_en c475 E
        refine J_aload_n (i := 0) (j := 0) dX7_copy_63 rfl rfl ?_
        refine J_get (C := RX7) (T := TX7) (Z := 8) (ci := 7) (f := 4) dX7_copy_64 inG7 rfl (by decide) k194 wc_136 rfl ?_
        refine J_iload_n (i := 2) (j := 2) dX7_copy_67 rfl rfl ?_
        have h651 := bd_cases2 (bd_lt_hi bw267 (i_nle c475) (bd_c (v := 2) (lo := 2) (hi := 2) (by decide)))
        rcases h651 with h651_0 | h651_1
        · replace E := xq_ep h651_0 E
          refine J_aald (q := 140) dX7_copy_68 wc_138 (fun _ => rfl) (vin (bd_lt_hi bw267 (i_nle c475) (bd_c (v := 2) (lo := 2) (hi := 2) (by decide))) (by decide)) (by rw [h651_0]; rfl) ?_
          refine J_aload_n (i := 1) (j := 1) dX7_copy_69 rfl rfl ?_
          refine J_get (C := RX7) (T := TX7) (Z := 8) (ci := 7) (f := 4) dX7_copy_70 inG7 rfl (by decide) k194 wc_1 rfl ?_
          refine J_iload_n (i := 2) (j := 2) dX7_copy_73 rfl rfl ?_
          refine J_aald (q := 5) dX7_copy_74 wc_3 (fun _ => rfl) (vin (bd_r h651_0 (bd_c (v := 0) (lo := 0) (hi := 0) (by decide))) (by decide)) (by rw [h651_0]; rfl) ?_
          refine J_callV (As := [.ref 5]) (rest := []) dX7_copy_75 (c_H_copyBX (d := 1) (u := u268) (g := g) (ex := ex)  (t := 140) (f := 5) (by decide) (by decide) (by decide) (Nat.ne_of_beq_eq_false rfl) (bd_r ((congrFun (fr269 5 rfl) 0).trans ((congrFun (ms_c e12 (Nat.ne_of_beq_eq_false rfl)) 0).trans ((congrFun (ms_c e10 (Nat.ne_of_beq_eq_false rfl)) 0).trans ((congrFun (ms_c e8 (Nat.ne_of_beq_eq_false rfl)) 0).trans ((congrFun (ms_c e6 (Nat.ne_of_beq_eq_false rfl)) 0).trans ((congrFun (ms_c e4 (Nat.ne_of_beq_eq_false rfl)) 0).trans (congrFun (mr_c e2 (Nat.ne_of_beq_eq_false rfl)) 0))))))) hp4) (bd_r ((congrFun (fr269 5 rfl) 2).trans ((congrFun (ms_c e12 (Nat.ne_of_beq_eq_false rfl)) 2).trans ((congrFun (ms_c e10 (Nat.ne_of_beq_eq_false rfl)) 2).trans ((congrFun (ms_c e8 (Nat.ne_of_beq_eq_false rfl)) 2).trans ((congrFun (ms_c e6 (Nat.ne_of_beq_eq_false rfl)) 2).trans ((congrFun (ms_c e4 (Nat.ne_of_beq_eq_false rfl)) 2).trans (congrFun (mr_c e2 (Nat.ne_of_beq_eq_false rfl)) 2))))))) hp5) ab273 (ab_c ((fr269 6 rfl).trans ((ms_c e12 (Nat.ne_of_beq_eq_false rfl)).trans ((ms_c e10 (Nat.ne_of_beq_eq_false rfl)).trans ((ms_c e8 (Nat.ne_of_beq_eq_false rfl)).trans ((ms_c e6 (Nat.ne_of_beq_eq_false rfl)).trans ((ms_c e4 (Nat.ne_of_beq_eq_false rfl)).trans (mr_c e2 (Nat.ne_of_beq_eq_false rfl)))))))) hp8)) hq.n k680 k681 k682 wc_140 rfl rfl k89 k683 np_X1_copy (Nat.le_trans (by decide) hd) (by decide) (Nat.le_refl _) (Nat.le_refl _) wlen rfl (Nat.le_of_ble_eq_true rfl) (fun r_ h_ p652 => ?_)
          obtain ⟨u653, rfl, rfl, h654, h655, h656, hx657, fr658, fc659⟩ := p652
          replace E := xq_le hx657 E
          refine J_iinc (i := 2) (j := 2) (v := (w267 + 1)) (lw := [(2, .int (w267 + 1)), (0, .ref 136), (1, .ref 1)]) dX7_copy_78 rfl rfl (by decide) rfl ?_
          refine J_goto (tgt := 58) dX7_copy_81 (by decide) ?_
          refine J_lv [1, 2, 0] rfl ?_
          exact ih473 (w267 + 1) u653 (bd_w (l := 0) (h := 2) (bd_add (l := 1) (h := 1) (bd_r h651_0 (bd_c (v := 0) (lo := 0) (hi := 0) (by decide))) (bd_c (v := 1) (lo := 1) (hi := 1) (by decide)) (by decide)) (by decide)) (fun c k_ => ((fr658 c (nin_ne (a := 140) k_ rfl) (nin_ne (a := 141) k_ rfl) (nin_ne (a := 142) k_ rfl) (nin_ne (a := 143) k_ rfl) (nin_ne (a := 144) k_ rfl)).trans (fr269 c (nin_sub (M := [(140, 149)]) k_ rfl)))) (fun j k0_ k2_ => ((fc659 j k0_ k2_).trans (fc270 j k0_ k2_))) h654 h655 h656 (fun j k0_ k2_ => ((congrFun (fr658 145 (Nat.ne_of_beq_eq_false rfl) (Nat.ne_of_beq_eq_false rfl) (Nat.ne_of_beq_eq_false rfl) (Nat.ne_of_beq_eq_false rfl) (Nat.ne_of_beq_eq_false rfl)) j).trans (fc274 j k0_ k2_))) (bd_r (congrFun (fr658 145 (Nat.ne_of_beq_eq_false rfl) (Nat.ne_of_beq_eq_false rfl) (Nat.ne_of_beq_eq_false rfl) (Nat.ne_of_beq_eq_false rfl) (Nat.ne_of_beq_eq_false rfl)) 0) bm275) (bd_r (congrFun (fr658 145 (Nat.ne_of_beq_eq_false rfl) (Nat.ne_of_beq_eq_false rfl) (Nat.ne_of_beq_eq_false rfl) (Nat.ne_of_beq_eq_false rfl) (Nat.ne_of_beq_eq_false rfl)) 2) bm276) (ab_c (fr658 146 (Nat.ne_of_beq_eq_false rfl) (Nat.ne_of_beq_eq_false rfl) (Nat.ne_of_beq_eq_false rfl) (Nat.ne_of_beq_eq_false rfl) (Nat.ne_of_beq_eq_false rfl)) ab277) (mu_up 1 bw267 rfl (by decide) (bd_w (l := 1) (h := 2) (bd_add (l := 1) (h := 1) (bd_r h651_0 (bd_c (v := 0) (lo := 0) (hi := 0) (by decide))) (bd_c (v := 1) (lo := 1) (hi := 1) (by decide)) (by decide)) (by decide)) hm474) E
        · replace E := xq_en (fun z_ => absurd (z_.symm.trans h651_1) (by decide)) E
          refine J_aald (q := 145) dX7_copy_68 wc_138 (fun _ => rfl) (vin (bd_lt_hi bw267 (i_nle c475) (bd_c (v := 2) (lo := 2) (hi := 2) (by decide))) (by decide)) (by rw [h651_1]; rfl) ?_
          refine J_aload_n (i := 1) (j := 1) dX7_copy_69 rfl rfl ?_
          refine J_get (C := RX7) (T := TX7) (Z := 8) (ci := 7) (f := 4) dX7_copy_70 inG7 rfl (by decide) k194 wc_1 rfl ?_
          refine J_iload_n (i := 2) (j := 2) dX7_copy_73 rfl rfl ?_
          refine J_aald (q := 10) dX7_copy_74 wc_3 (fun _ => rfl) (vin (bd_r h651_1 (bd_c (v := 1) (lo := 1) (hi := 1) (by decide))) (by decide)) (by rw [h651_1]; rfl) ?_
          refine J_callV (As := [.ref 10]) (rest := []) dX7_copy_75 (c_H_copyBX (d := 1) (u := u268) (g := g) (ex := ex)  (t := 145) (f := 10) (by decide) (by decide) (by decide) (Nat.ne_of_beq_eq_false rfl) (bd_r ((congrFun (fr269 10 rfl) 0).trans ((congrFun (ms_c e12 (Nat.ne_of_beq_eq_false rfl)) 0).trans ((congrFun (ms_c e10 (Nat.ne_of_beq_eq_false rfl)) 0).trans ((congrFun (ms_c e8 (Nat.ne_of_beq_eq_false rfl)) 0).trans ((congrFun (ms_c e6 (Nat.ne_of_beq_eq_false rfl)) 0).trans ((congrFun (ms_c e4 (Nat.ne_of_beq_eq_false rfl)) 0).trans (congrFun (mr_c e2 (Nat.ne_of_beq_eq_false rfl)) 0))))))) hp6) (bd_r ((congrFun (fr269 10 rfl) 2).trans ((congrFun (ms_c e12 (Nat.ne_of_beq_eq_false rfl)) 2).trans ((congrFun (ms_c e10 (Nat.ne_of_beq_eq_false rfl)) 2).trans ((congrFun (ms_c e8 (Nat.ne_of_beq_eq_false rfl)) 2).trans ((congrFun (ms_c e6 (Nat.ne_of_beq_eq_false rfl)) 2).trans ((congrFun (ms_c e4 (Nat.ne_of_beq_eq_false rfl)) 2).trans (congrFun (mr_c e2 (Nat.ne_of_beq_eq_false rfl)) 2))))))) hp7) ab277 (ab_c ((fr269 11 rfl).trans ((ms_c e12 (Nat.ne_of_beq_eq_false rfl)).trans ((ms_c e10 (Nat.ne_of_beq_eq_false rfl)).trans ((ms_c e8 (Nat.ne_of_beq_eq_false rfl)).trans ((ms_c e6 (Nat.ne_of_beq_eq_false rfl)).trans ((ms_c e4 (Nat.ne_of_beq_eq_false rfl)).trans (mr_c e2 (Nat.ne_of_beq_eq_false rfl)))))))) hp9)) hq.n k680 k681 k682 wc_145 rfl rfl k89 k683 np_X1_copy (Nat.le_trans (by decide) hd) (by decide) (Nat.le_refl _) (Nat.le_refl _) wlen rfl (Nat.le_of_ble_eq_true rfl) (fun r_ h_ p660 => ?_)
          obtain ⟨u661, rfl, rfl, h662, h663, h664, hx665, fr666, fc667⟩ := p660
          replace E := xq_le hx665 E
          refine J_iinc (i := 2) (j := 2) (v := (w267 + 1)) (lw := [(2, .int (w267 + 1)), (0, .ref 136), (1, .ref 1)]) dX7_copy_78 rfl rfl (by decide) rfl ?_
          refine J_goto (tgt := 58) dX7_copy_81 (by decide) ?_
          refine J_lv [1, 2, 0] rfl ?_
          exact ih473 (w267 + 1) u661 (bd_w (l := 0) (h := 2) (bd_add (l := 2) (h := 2) (bd_r h651_1 (bd_c (v := 1) (lo := 1) (hi := 1) (by decide))) (bd_c (v := 1) (lo := 1) (hi := 1) (by decide)) (by decide)) (by decide)) (fun c k_ => ((fr666 c (nin_ne (a := 145) k_ rfl) (nin_ne (a := 146) k_ rfl) (nin_ne (a := 147) k_ rfl) (nin_ne (a := 148) k_ rfl) (nin_ne (a := 149) k_ rfl)).trans (fr269 c (nin_sub (M := [(140, 149)]) k_ rfl)))) (fun j k0_ k2_ => ((congrFun (fr666 140 (Nat.ne_of_beq_eq_false rfl) (Nat.ne_of_beq_eq_false rfl) (Nat.ne_of_beq_eq_false rfl) (Nat.ne_of_beq_eq_false rfl) (Nat.ne_of_beq_eq_false rfl)) j).trans (fc270 j k0_ k2_))) (bd_r (congrFun (fr666 140 (Nat.ne_of_beq_eq_false rfl) (Nat.ne_of_beq_eq_false rfl) (Nat.ne_of_beq_eq_false rfl) (Nat.ne_of_beq_eq_false rfl) (Nat.ne_of_beq_eq_false rfl)) 0) bm271) (bd_r (congrFun (fr666 140 (Nat.ne_of_beq_eq_false rfl) (Nat.ne_of_beq_eq_false rfl) (Nat.ne_of_beq_eq_false rfl) (Nat.ne_of_beq_eq_false rfl) (Nat.ne_of_beq_eq_false rfl)) 2) bm272) (ab_c (fr666 141 (Nat.ne_of_beq_eq_false rfl) (Nat.ne_of_beq_eq_false rfl) (Nat.ne_of_beq_eq_false rfl) (Nat.ne_of_beq_eq_false rfl) (Nat.ne_of_beq_eq_false rfl)) ab273) (fun j k0_ k2_ => ((fc667 j k0_ k2_).trans (fc274 j k0_ k2_))) h662 h663 h664 (mu_up 1 bw267 rfl (by decide) (bd_w (l := 2) (h := 2) (bd_add (l := 2) (h := 2) (bd_r h651_1 (bd_c (v := 1) (lo := 1) (hi := 1) (by decide))) (bd_c (v := 1) (lo := 1) (hi := 1) (by decide)) (by decide)) (by decide)) hm474) E
  refine J_lv [1, 2, 0] rfl ?_
  exact lp471 ((2 - (0 : Int32).toInt).toNat + 1) (0 : Int32) u11 (bd_w (l := 0) (h := 2) (bd_c (v := 0) (lo := 0) (hi := 0) (by decide)) (by decide)) (fun c k_ => rfl) (fun j k0_ k2_ => rfl) (bd_r ((congrFun (ms_c e12 (Nat.ne_of_beq_eq_false rfl)) 0).trans ((congrFun (ms_c e10 (Nat.ne_of_beq_eq_false rfl)) 0).trans ((congrFun (ms_c e8 (Nat.ne_of_beq_eq_false rfl)) 0).trans ((congrFun (ms_c e6 (Nat.ne_of_beq_eq_false rfl)) 0).trans ((congrFun (ms_c e4 (Nat.ne_of_beq_eq_false rfl)) 0).trans (congrFun (mr_c e2 (Nat.ne_of_beq_eq_false rfl)) 0)))))) hp20) (bd_r ((congrFun (ms_c e12 (Nat.ne_of_beq_eq_false rfl)) 2).trans ((congrFun (ms_c e10 (Nat.ne_of_beq_eq_false rfl)) 2).trans ((congrFun (ms_c e8 (Nat.ne_of_beq_eq_false rfl)) 2).trans ((congrFun (ms_c e6 (Nat.ne_of_beq_eq_false rfl)) 2).trans ((congrFun (ms_c e4 (Nat.ne_of_beq_eq_false rfl)) 2).trans (congrFun (mr_c e2 (Nat.ne_of_beq_eq_false rfl)) 2)))))) hp21) (ab_c ((ms_c e12 (Nat.ne_of_beq_eq_false rfl)).trans ((ms_c e10 (Nat.ne_of_beq_eq_false rfl)).trans ((ms_c e8 (Nat.ne_of_beq_eq_false rfl)).trans ((ms_c e6 (Nat.ne_of_beq_eq_false rfl)).trans ((ms_c e4 (Nat.ne_of_beq_eq_false rfl)).trans (mr_c e2 (Nat.ne_of_beq_eq_false rfl))))))) hp24) (fun j k0_ k2_ => rfl) (bd_r ((congrFun (ms_c e12 (Nat.ne_of_beq_eq_false rfl)) 0).trans ((congrFun (ms_c e10 (Nat.ne_of_beq_eq_false rfl)) 0).trans ((congrFun (ms_c e8 (Nat.ne_of_beq_eq_false rfl)) 0).trans ((congrFun (ms_c e6 (Nat.ne_of_beq_eq_false rfl)) 0).trans ((congrFun (ms_c e4 (Nat.ne_of_beq_eq_false rfl)) 0).trans (congrFun (mr_c e2 (Nat.ne_of_beq_eq_false rfl)) 0)))))) hp22) (bd_r ((congrFun (ms_c e12 (Nat.ne_of_beq_eq_false rfl)) 2).trans ((congrFun (ms_c e10 (Nat.ne_of_beq_eq_false rfl)) 2).trans ((congrFun (ms_c e8 (Nat.ne_of_beq_eq_false rfl)) 2).trans ((congrFun (ms_c e6 (Nat.ne_of_beq_eq_false rfl)) 2).trans ((congrFun (ms_c e4 (Nat.ne_of_beq_eq_false rfl)) 2).trans (congrFun (mr_c e2 (Nat.ne_of_beq_eq_false rfl)) 2)))))) hp23) (ab_c ((ms_c e12 (Nat.ne_of_beq_eq_false rfl)).trans ((ms_c e10 (Nat.ne_of_beq_eq_false rfl)).trans ((ms_c e8 (Nat.ne_of_beq_eq_false rfl)).trans ((ms_c e6 (Nat.ne_of_beq_eq_false rfl)).trans ((ms_c e4 (Nat.ne_of_beq_eq_false rfl)).trans (mr_c e2 (Nat.ne_of_beq_eq_false rfl))))))) hp25) (Nat.lt_succ_self _) E
set_option maxRecDepth 100000 in
noncomputable def Fx_T_copyR_1_84X_L86 (g : Nat → Nat → Int64) (n_ : Nat) : (Int32) → (Nat → Nat → Int32) → (Nat → Nat → Int32) := Nat.rec (motive := fun _ => (Int32) → (Nat → Nat → Int32) → (Nat → Nat → Int32)) (fun _ _ => default) (fun n_ ih_ w589 u590 => if (3 : Int32) ≤ w589 then (u590) else (if w589 = 0 then (xq_lt (Fx_W_copyK_15_98X u590 g) fun u631 => ih_ (w589 + 1) u631) else (if w589 = 1 then (xq_lt (Fx_W_copyK_19_102X u590 g) fun u638 => ih_ (w589 + 1) u638) else (xq_lt (Fx_W_copyK_23_106X u590 g) fun u645 => ih_ (w589 + 1) u645)))) n_
set_option maxRecDepth 100000 in
theorem Fx_T_copyR_1_84X_L86_s {g : Nat → Nat → Int64} {w589 : Int32} {u590 : Nat → Nat → Int32} {n_ : Nat} : Fx_T_copyR_1_84X_L86 g (n_ + 1) w589 u590 = if (3 : Int32) ≤ w589 then (u590) else (if w589 = 0 then (xq_lt (Fx_W_copyK_15_98X u590 g) fun u631 => (Fx_T_copyR_1_84X_L86 g n_) (w589 + 1) u631) else (if w589 = 1 then (xq_lt (Fx_W_copyK_19_102X u590 g) fun u638 => (Fx_T_copyR_1_84X_L86 g n_) (w589 + 1) u638) else (xq_lt (Fx_W_copyK_23_106X u590 g) fun u645 => (Fx_T_copyR_1_84X_L86 g n_) (w589 + 1) u645))) := rfl
set_option maxRecDepth 100000 in
noncomputable def Fx_T_copyR_1_84X_L58 (g : Nat → Nat → Int64) (n_ : Nat) : (Int32) → (Nat → Nat → Int32) → (Nat → Nat → Int32) := Nat.rec (motive := fun _ => (Int32) → (Nat → Nat → Int32) → (Nat → Nat → Int32)) (fun _ _ => default) (fun n_ ih_ w267 u268 => if (2 : Int32) ≤ w267 then (Fx_T_copyR_1_84X_L86 g ((3 - (0 : Int32).toInt).toNat + 1) (0 : Int32) u268) else (if w267 = 0 then (xq_lt (Fx_H_copyBX 5 88 u268 g) fun u653 => ih_ (w267 + 1) u653) else (xq_lt (Fx_H_copyBX 10 93 u268 g) fun u661 => ih_ (w267 + 1) u661))) n_
set_option maxRecDepth 100000 in
theorem Fx_T_copyR_1_84X_L58_s {g : Nat → Nat → Int64} {w267 : Int32} {u268 : Nat → Nat → Int32} {n_ : Nat} : Fx_T_copyR_1_84X_L58 g (n_ + 1) w267 u268 = if (2 : Int32) ≤ w267 then (Fx_T_copyR_1_84X_L86 g ((3 - (0 : Int32).toInt).toNat + 1) (0 : Int32) u268) else (if w267 = 0 then (xq_lt (Fx_H_copyBX 5 88 u268 g) fun u653 => (Fx_T_copyR_1_84X_L58 g n_) (w267 + 1) u653) else (xq_lt (Fx_H_copyBX 10 93 u268 g) fun u661 => (Fx_T_copyR_1_84X_L58 g n_) (w267 + 1) u661)) := rfl
set_option maxRecDepth 100000 in
noncomputable def Fx_T_copyR_1_84X (u : Nat → Nat → Int32) (g : Nat → Nat → Int64) : (Nat → Nat → Int32) := xq_lt (mr u 2 (va_cpy (u 85) (u 2) 0 0 600)) fun u1 => xq_lt (ms u1 1 1 (u 84 1)) fun u3 => xq_lt (ms u3 1 2 (u 84 2)) fun u5 => xq_lt (ms u5 1 3 (u 84 3)) fun u7 => xq_lt (ms u7 1 5 (u 84 5)) fun u9 => xq_lt (ms u9 1 7 (u 84 7)) fun u11 => Fx_T_copyR_1_84X_L58 g ((2 - (0 : Int32).toInt).toNat + 1) (0 : Int32) u11
set_option maxHeartbeats 4000000 in
set_option maxRecDepth 100000 in
theorem c_T_copyR_1_84X {d : Nat} {u : Nat → Nat → Int32} {g : Nat → Nat → Int64} {ex : List MC}  (hd : 2 ≤ d) (hp0 : Bd 0 600 (u 84 1)) (hp1 : Bd 0 2 (u 84 5)) (hp2 : Bd 0 3 (u 84 7)) (hp3 : BF u 85) (hp4 : Bd 0 9 (u 88 0)) (hp5 : Bd 0 4 (u 88 2)) (hp6 : Bd 0 9 (u 93 0)) (hp7 : Bd 0 4 (u 93 2)) (hp8 : AB u 89 (-1) 999) (hp9 : AB u 94 (-1) 999) (hp10 : Bd 0 12 (u 98 0)) (hp11 : Bd 0 12 (u 102 0)) (hp12 : Bd 0 12 (u 106 0)) (hp13 : (KM u 98)) (hp14 : (KM u 102)) (hp15 : (KM u 106)) (hp16 : Bd 0 600 (u 1 1)) (hp17 : Bd 0 2 (u 1 5)) (hp18 : Bd 0 3 (u 1 7)) (hp19 : BF u 2) (hp20 : Bd 0 9 (u 5 0)) (hp21 : Bd 0 4 (u 5 2)) (hp22 : Bd 0 9 (u 10 0)) (hp23 : Bd 0 4 (u 10 2)) (hp24 : AB u 6 (-1) 999) (hp25 : AB u 11 (-1) 999) (hp26 : Bd 0 12 (u 15 0)) (hp27 : Bd 0 12 (u 19 0)) (hp28 : Bd 0 12 (u 23 0)) (hp29 : (KM u 15)) (hp30 : (KM u 19)) (hp31 : (KM u 23)) : CT con0 d 0 0 yX7_copy cX7_copy 3 none [.ref 1, .ref 84] (Wd u g ex) (fun r h2 => ∃ (u2 : Nat → Nat → Int32), r = none ∧ h2 = Wd u2 g ex ∧ Bd 0 600 (u2 1 1) ∧ Bd 0 2 (u2 1 5) ∧ Bd 0 3 (u2 1 7) ∧ BF u2 2 ∧ Bd 0 9 (u2 5 0) ∧ Bd 0 4 (u2 5 2) ∧ Bd 0 9 (u2 10 0) ∧ Bd 0 4 (u2 10 2) ∧ AB u2 6 (-1) 999 ∧ AB u2 11 (-1) 999 ∧ Bd 0 12 (u2 15 0) ∧ Bd 0 12 (u2 19 0) ∧ Bd 0 12 (u2 23 0) ∧ (KM u2 15) ∧ (KM u2 19) ∧ (KM u2 23) ∧ (u2 1 1 = u 84 1) ∧ u2 = Fx_T_copyR_1_84X u g ∧ (∀ c, nin c [(1, 2), (5, 26)] = true → u2 c = u c) ∧ (∀ j, j ≠ 1 → j ≠ 2 → j ≠ 3 → j ≠ 5 → j ≠ 7 → u2 1 j = u 1 j) ∧ (∀ j, j ≠ 0 → j ≠ 2 → u2 5 j = u 5 j) ∧ (∀ j, j ≠ 0 → j ≠ 2 → u2 10 j = u 10 j) ∧ (∀ j, j ≠ 0 → u2 15 j = u 15 j) ∧ (∀ j, j ≠ 0 → u2 19 j = u 19 j) ∧ (∀ j, j ≠ 0 → u2 23 j = u 23 j)) := by
  refine CT_of (by decide) (Nat.le_of_ble_eq_true rfl) (fun x hq => ?_)
  show J x yX7_copy cX7_copy 3 none d 0 0 (Wd u g ex).length 0 [(0, .ref 1), (1, .ref 84)] [] (Wd u g ex) 0 0
  have E : Fx_T_copyR_1_84X u g = Fx_T_copyR_1_84X u g := rfl
  refine J_aload_n (i := 1) (j := 1) dX7_copy_0 rfl rfl ?_
  refine J_get (C := RX7) (T := TX7) (Z := 8) (ci := 7) (f := 0) dX7_copy_1 inG7 rfl (by decide) k186 wc_84 rfl ?_
  refine J_iconst (v := 0) dX7_copy_4 (by decide) ?_
  refine J_aload_n (i := 0) (j := 0) dX7_copy_5 rfl rfl ?_
  refine J_get (C := RX7) (T := TX7) (Z := 8) (ci := 7) (f := 0) dX7_copy_6 inG7 rfl (by decide) k186 wc_1 rfl ?_
  refine J_iconst (v := 0) dX7_copy_9 (by decide) ?_
  refine J_sipush (v := 600) dX7_copy_10 (by decide) ?_
  obtain ⟨u1, e2⟩ : ∃ z, z = mr u 2 (va_cpy (u 85) (u 2) 0 0 600) := ⟨_, rfl⟩
  refine J_copyb (sp := 0) (dp := 0) (nn := 600) dX7_copy_13 k1253 k686 k685 k104 wc_85 wc_2 (by decide) (by decide) (by decide) (by decide) (by decide) (fun i _ => hp3 _) (Nat.le_trans (by decide) hd) (Nat.le_of_ble_eq_true rfl) (wsr e2 wk_2 rfl) ?_
  replace E := xq_le e2 E
  refine J_aload_n (i := 0) (j := 0) dX7_copy_16 rfl rfl ?_
  refine J_aload_n (i := 1) (j := 1) dX7_copy_17 rfl rfl ?_
  refine J_get (C := RX7) (T := TX7) (Z := 8) (ci := 7) (f := 1) dX7_copy_18 inG7 rfl (by decide) k188 wc_84 rfl ?_
  refine J_ci (v := u 84 1) (congrFun (mr_c e2 (Nat.ne_of_beq_eq_false rfl)) 1) ?_
  obtain ⟨u3, e4⟩ : ∃ z, z = ms u1 1 1 (u 84 1) := ⟨_, rfl⟩
  refine J_put (C := RX7) (T := TX7) (Z := 8) (ci := 7) (f := 1) (ty0 := tyX7) dX7_copy_21 inG7 rfl tyX7_ok nmX7 (by decide) k188 rfl rfl wc_1 (Nat.le_of_ble_eq_true rfl) (fun _ _ => ⟨rfl, rfl⟩) (ws e4 wk_1 rfl) ?_
  replace E := xq_le e4 E
  refine J_aload_n (i := 0) (j := 0) dX7_copy_24 rfl rfl ?_
  refine J_aload_n (i := 1) (j := 1) dX7_copy_25 rfl rfl ?_
  refine J_get (C := RX7) (T := TX7) (Z := 8) (ci := 7) (f := 2) dX7_copy_26 inG7 rfl (by decide) k190 wc_84 rfl ?_
  refine J_ci (v := u 84 2) ((congrFun (ms_c e4 (Nat.ne_of_beq_eq_false rfl)) 2).trans (congrFun (mr_c e2 (Nat.ne_of_beq_eq_false rfl)) 2)) ?_
  obtain ⟨u5, e6⟩ : ∃ z, z = ms u3 1 2 (u 84 2) := ⟨_, rfl⟩
  refine J_put (C := RX7) (T := TX7) (Z := 8) (ci := 7) (f := 2) (ty0 := tyX7) dX7_copy_29 inG7 rfl tyX7_ok nmX7 (by decide) k190 rfl rfl wc_1 (Nat.le_of_ble_eq_true rfl) (fun _ _ => ⟨rfl, rfl⟩) (ws e6 wk_1 rfl) ?_
  replace E := xq_le e6 E
  refine J_aload_n (i := 0) (j := 0) dX7_copy_32 rfl rfl ?_
  refine J_aload_n (i := 1) (j := 1) dX7_copy_33 rfl rfl ?_
  refine J_get (C := RX7) (T := TX7) (Z := 8) (ci := 7) (f := 3) dX7_copy_34 inG7 rfl (by decide) k192 wc_84 rfl ?_
  refine J_ci (v := u 84 3) ((congrFun (ms_c e6 (Nat.ne_of_beq_eq_false rfl)) 3).trans ((congrFun (ms_c e4 (Nat.ne_of_beq_eq_false rfl)) 3).trans (congrFun (mr_c e2 (Nat.ne_of_beq_eq_false rfl)) 3))) ?_
  obtain ⟨u7, e8⟩ : ∃ z, z = ms u5 1 3 (u 84 3) := ⟨_, rfl⟩
  refine J_put (C := RX7) (T := TX7) (Z := 8) (ci := 7) (f := 3) (ty0 := tyX7) dX7_copy_37 inG7 rfl tyX7_ok nmX7 (by decide) k192 rfl rfl wc_1 (Nat.le_of_ble_eq_true rfl) (fun _ _ => ⟨rfl, rfl⟩) (ws e8 wk_1 rfl) ?_
  replace E := xq_le e8 E
  refine J_aload_n (i := 0) (j := 0) dX7_copy_40 rfl rfl ?_
  refine J_aload_n (i := 1) (j := 1) dX7_copy_41 rfl rfl ?_
  refine J_get (C := RX7) (T := TX7) (Z := 8) (ci := 7) (f := 5) dX7_copy_42 inG7 rfl (by decide) k196 wc_84 rfl ?_
  refine J_ci (v := u 84 5) ((congrFun (ms_c e8 (Nat.ne_of_beq_eq_false rfl)) 5).trans ((congrFun (ms_c e6 (Nat.ne_of_beq_eq_false rfl)) 5).trans ((congrFun (ms_c e4 (Nat.ne_of_beq_eq_false rfl)) 5).trans (congrFun (mr_c e2 (Nat.ne_of_beq_eq_false rfl)) 5)))) ?_
  obtain ⟨u9, e10⟩ : ∃ z, z = ms u7 1 5 (u 84 5) := ⟨_, rfl⟩
  refine J_put (C := RX7) (T := TX7) (Z := 8) (ci := 7) (f := 5) (ty0 := tyX7) dX7_copy_45 inG7 rfl tyX7_ok nmX7 (by decide) k196 rfl rfl wc_1 (Nat.le_of_ble_eq_true rfl) (fun _ _ => ⟨rfl, rfl⟩) (ws e10 wk_1 rfl) ?_
  replace E := xq_le e10 E
  refine J_aload_n (i := 0) (j := 0) dX7_copy_48 rfl rfl ?_
  refine J_aload_n (i := 1) (j := 1) dX7_copy_49 rfl rfl ?_
  refine J_get (C := RX7) (T := TX7) (Z := 8) (ci := 7) (f := 7) dX7_copy_50 inG7 rfl (by decide) k200 wc_84 rfl ?_
  refine J_ci (v := u 84 7) ((congrFun (ms_c e10 (Nat.ne_of_beq_eq_false rfl)) 7).trans ((congrFun (ms_c e8 (Nat.ne_of_beq_eq_false rfl)) 7).trans ((congrFun (ms_c e6 (Nat.ne_of_beq_eq_false rfl)) 7).trans ((congrFun (ms_c e4 (Nat.ne_of_beq_eq_false rfl)) 7).trans (congrFun (mr_c e2 (Nat.ne_of_beq_eq_false rfl)) 7))))) ?_
  obtain ⟨u11, e12⟩ : ∃ z, z = ms u9 1 7 (u 84 7) := ⟨_, rfl⟩
  refine J_put (C := RX7) (T := TX7) (Z := 8) (ci := 7) (f := 7) (ty0 := tyX7) dX7_copy_53 inG7 rfl tyX7_ok nmX7 (by decide) k200 rfl rfl wc_1 (Nat.le_of_ble_eq_true rfl) (fun _ _ => ⟨rfl, rfl⟩) (ws e12 wk_1 rfl) ?_
  replace E := xq_le e12 E
  refine J_iconst (v := 0) dX7_copy_56 (by decide) ?_
  refine J_istore_n (i := 2) (lw := [(2, .int 0), (0, .ref 1), (1, .ref 84)]) dX7_copy_57 rfl (by decide) rfl ?_
  have lp471 : ∀ (n472 : Nat) (w267 : Int32) (u268 : Nat → Nat → Int32), Bd 0 2 w267 → (∀ c, nin c [(5, 14)] = true → u268 c = u11 c) → (∀ j, j ≠ 0 → j ≠ 2 → u268 10 j = u11 10 j) → Bd 0 9 (u268 10 0) → Bd 0 4 (u268 10 2) → AB u268 11 (-1) 999 → (∀ j, j ≠ 0 → j ≠ 2 → u268 5 j = u11 5 j) → Bd 0 9 (u268 5 0) → Bd 0 4 (u268 5 2) → AB u268 6 (-1) 999 → (2 - w267.toInt).toNat < n472 → Fx_T_copyR_1_84X_L58 g n472 w267 u268 = Fx_T_copyR_1_84X u g → J x yX7_copy cX7_copy 3 none d 0 0 (Wd u g ex).length 58 [(0, .ref 1), (1, .ref 84), (2, .int w267)] [] (Wd u268 g ex) 0 0 := by
    intro n472
    induction n472 with
    | zero => intro w267 u268 bw267 fr269 fc270 bm271 bm272 ab273 fc274 bm275 bm276 ab277 hm474 _; exact absurd hm474 (Nat.not_lt_zero _)
    | succ n472 ih473 =>
      intro w267 u268 bw267 fr269 fc270 bm271 bm272 ab273 fc274 bm275 bm276 ab277 hm474 E
      replace E := Fx_T_copyR_1_84X_L58_s.symm.trans E
      refine J_iload_n (i := 2) (j := 2) dX7_copy_58 rfl rfl ?_
      refine J_iconst (v := 2) dX7_copy_59 (by decide) ?_
      refine J_icmp_ge (tgt := 84) dX7_copy_60 (by decide) (fun c475 => ?_) (fun c475 => ?_)
      · replace E := xq_ep c475 E
        refine J_iconst (v := 0) dX7_copy_84 (by decide) ?_
        refine J_istore_n (i := 2) (lw := [(2, .int 0), (0, .ref 1), (1, .ref 84)]) dX7_copy_85 rfl (by decide) rfl ?_
        have lp624 : ∀ (n625 : Nat) (w589 : Int32) (u590 : Nat → Nat → Int32), Bd 0 3 w589 → (∀ c, nin c [(15, 26)] = true → u590 c = u268 c) → (∀ j, j ≠ 0 → u590 15 j = u268 15 j) → Bd 0 12 (u590 15 0) → (∀ j, j ≠ 0 → u590 19 j = u268 19 j) → Bd 0 12 (u590 19 0) → (∀ j, j ≠ 0 → u590 23 j = u268 23 j) → Bd 0 12 (u590 23 0) → KM u590 15 → KM u590 19 → KM u590 23 → (3 - w589.toInt).toNat < n625 → Fx_T_copyR_1_84X_L86 g n625 w589 u590 = Fx_T_copyR_1_84X u g → J x yX7_copy cX7_copy 3 none d 0 0 (Wd u g ex).length 86 [(0, .ref 1), (1, .ref 84), (2, .int w589)] [] (Wd u590 g ex) 0 0 := by
          intro n625
          induction n625 with
          | zero => intro w589 u590 bw589 fr591 fc592 bm593 fc594 bm595 fc596 bm597 km598 km599 km600 hm627 _; exact absurd hm627 (Nat.not_lt_zero _)
          | succ n625 ih626 =>
            intro w589 u590 bw589 fr591 fc592 bm593 fc594 bm595 fc596 bm597 km598 km599 km600 hm627 E
            replace E := Fx_T_copyR_1_84X_L86_s.symm.trans E
            refine J_iload_n (i := 2) (j := 2) dX7_copy_86 rfl rfl ?_
            refine J_iconst (v := 3) dX7_copy_87 (by decide) ?_
            refine J_icmp_ge (tgt := 112) dX7_copy_88 (by decide) (fun c628 => ?_) (fun c628 => ?_)
            · replace E := xq_ep c628 E
              exact J_vret hq dX7_copy_112 rfl wlen (Nat.le_refl _) (Nat.le_refl _) ⟨u590, rfl, rfl, (bd_r ((congrFun (fr591 1 rfl) 1).trans ((congrFun (fr269 1 rfl) 1).trans ((ms_i e12 (Nat.ne_of_beq_eq_false rfl)).trans ((ms_i e10 (Nat.ne_of_beq_eq_false rfl)).trans ((ms_i e8 (Nat.ne_of_beq_eq_false rfl)).trans ((ms_i e6 (Nat.ne_of_beq_eq_false rfl)).trans (ms_e e4))))))) hp0), (bd_r ((congrFun (fr591 1 rfl) 5).trans ((congrFun (fr269 1 rfl) 5).trans ((ms_i e12 (Nat.ne_of_beq_eq_false rfl)).trans (ms_e e10)))) hp1), (bd_r ((congrFun (fr591 1 rfl) 7).trans ((congrFun (fr269 1 rfl) 7).trans (ms_e e12))) hp2), (bf_c ((fr591 2 rfl).trans ((fr269 2 rfl).trans ((ms_c e12 (Nat.ne_of_beq_eq_false rfl)).trans ((ms_c e10 (Nat.ne_of_beq_eq_false rfl)).trans ((ms_c e8 (Nat.ne_of_beq_eq_false rfl)).trans ((ms_c e6 (Nat.ne_of_beq_eq_false rfl)).trans (ms_c e4 (Nat.ne_of_beq_eq_false rfl)))))))) (bf_cp e2 hp3 hp19)), (bd_r (congrFun (fr591 5 rfl) 0) bm275), (bd_r (congrFun (fr591 5 rfl) 2) bm276), (bd_r (congrFun (fr591 10 rfl) 0) bm271), (bd_r (congrFun (fr591 10 rfl) 2) bm272), (ab_c (fr591 6 rfl) ab277), (ab_c (fr591 11 rfl) ab273), bm593, bm595, bm597, km598, km599, km600, ((congrFun (fr591 1 rfl) 1).trans ((congrFun (fr269 1 rfl) 1).trans ((ms_i e12 (Nat.ne_of_beq_eq_false rfl)).trans ((ms_i e10 (Nat.ne_of_beq_eq_false rfl)).trans ((ms_i e8 (Nat.ne_of_beq_eq_false rfl)).trans ((ms_i e6 (Nat.ne_of_beq_eq_false rfl)).trans (ms_e e4))))))), E, (fun c k_ => ((fr591 c (nin_sub (M := [(15, 26)]) k_ rfl)).trans ((fr269 c (nin_sub (M := [(5, 14)]) k_ rfl)).trans ((ms_c e12 (nin_ne (a := 1) k_ rfl)).trans ((ms_c e10 (nin_ne (a := 1) k_ rfl)).trans ((ms_c e8 (nin_ne (a := 1) k_ rfl)).trans ((ms_c e6 (nin_ne (a := 1) k_ rfl)).trans ((ms_c e4 (nin_ne (a := 1) k_ rfl)).trans (mr_c e2 (nin_ne (a := 2) k_ rfl)))))))))), (fun j k1_ k2_ k3_ k5_ k7_ => ((congrFun (fr591 1 rfl) j).trans ((congrFun (fr269 1 rfl) j).trans ((ms_i e12 k7_).trans ((ms_i e10 k5_).trans ((ms_i e8 k3_).trans ((ms_i e6 k2_).trans ((ms_i e4 k1_).trans (congrFun (mr_c e2 (Nat.ne_of_beq_eq_false rfl)) j))))))))), (fun j k0_ k2_ => ((congrFun (fr591 5 rfl) j).trans ((fc274 j k0_ k2_).trans ((congrFun (ms_c e12 (Nat.ne_of_beq_eq_false rfl)) j).trans ((congrFun (ms_c e10 (Nat.ne_of_beq_eq_false rfl)) j).trans ((congrFun (ms_c e8 (Nat.ne_of_beq_eq_false rfl)) j).trans ((congrFun (ms_c e6 (Nat.ne_of_beq_eq_false rfl)) j).trans ((congrFun (ms_c e4 (Nat.ne_of_beq_eq_false rfl)) j).trans (congrFun (mr_c e2 (Nat.ne_of_beq_eq_false rfl)) j))))))))), (fun j k0_ k2_ => ((congrFun (fr591 10 rfl) j).trans ((fc270 j k0_ k2_).trans ((congrFun (ms_c e12 (Nat.ne_of_beq_eq_false rfl)) j).trans ((congrFun (ms_c e10 (Nat.ne_of_beq_eq_false rfl)) j).trans ((congrFun (ms_c e8 (Nat.ne_of_beq_eq_false rfl)) j).trans ((congrFun (ms_c e6 (Nat.ne_of_beq_eq_false rfl)) j).trans ((congrFun (ms_c e4 (Nat.ne_of_beq_eq_false rfl)) j).trans (congrFun (mr_c e2 (Nat.ne_of_beq_eq_false rfl)) j))))))))), (fun j k0_ => ((fc592 j k0_).trans ((congrFun (fr269 15 rfl) j).trans ((congrFun (ms_c e12 (Nat.ne_of_beq_eq_false rfl)) j).trans ((congrFun (ms_c e10 (Nat.ne_of_beq_eq_false rfl)) j).trans ((congrFun (ms_c e8 (Nat.ne_of_beq_eq_false rfl)) j).trans ((congrFun (ms_c e6 (Nat.ne_of_beq_eq_false rfl)) j).trans ((congrFun (ms_c e4 (Nat.ne_of_beq_eq_false rfl)) j).trans (congrFun (mr_c e2 (Nat.ne_of_beq_eq_false rfl)) j))))))))), (fun j k0_ => ((fc594 j k0_).trans ((congrFun (fr269 19 rfl) j).trans ((congrFun (ms_c e12 (Nat.ne_of_beq_eq_false rfl)) j).trans ((congrFun (ms_c e10 (Nat.ne_of_beq_eq_false rfl)) j).trans ((congrFun (ms_c e8 (Nat.ne_of_beq_eq_false rfl)) j).trans ((congrFun (ms_c e6 (Nat.ne_of_beq_eq_false rfl)) j).trans ((congrFun (ms_c e4 (Nat.ne_of_beq_eq_false rfl)) j).trans (congrFun (mr_c e2 (Nat.ne_of_beq_eq_false rfl)) j))))))))), (fun j k0_ => ((fc596 j k0_).trans ((congrFun (fr269 23 rfl) j).trans ((congrFun (ms_c e12 (Nat.ne_of_beq_eq_false rfl)) j).trans ((congrFun (ms_c e10 (Nat.ne_of_beq_eq_false rfl)) j).trans ((congrFun (ms_c e8 (Nat.ne_of_beq_eq_false rfl)) j).trans ((congrFun (ms_c e6 (Nat.ne_of_beq_eq_false rfl)) j).trans ((congrFun (ms_c e4 (Nat.ne_of_beq_eq_false rfl)) j).trans (congrFun (mr_c e2 (Nat.ne_of_beq_eq_false rfl)) j)))))))))⟩
            · replace E := xq_en c628 E
              refine J_aload_n (i := 0) (j := 0) dX7_copy_91 rfl rfl ?_
              refine J_get (C := RX7) (T := TX7) (Z := 8) (ci := 7) (f := 6) dX7_copy_92 inG7 rfl (by decide) k198 wc_1 rfl ?_
              refine J_iload_n (i := 2) (j := 2) dX7_copy_95 rfl rfl ?_
              have h629 := bd_cases3 (bd_lt_hi bw589 (i_nle c628) (bd_c (v := 3) (lo := 3) (hi := 3) (by decide)))
              rcases h629 with h629_0 | h629_1 | h629_2
              · replace E := xq_ep h629_0 E
                refine J_aald (q := 15) dX7_copy_96 wc_4 (fun _ => rfl) (vin (bd_lt_hi bw589 (i_nle c628) (bd_c (v := 3) (lo := 3) (hi := 3) (by decide))) (by decide)) (by rw [h629_0]; rfl) ?_
                refine J_aload_n (i := 1) (j := 1) dX7_copy_97 rfl rfl ?_
                refine J_get (C := RX7) (T := TX7) (Z := 8) (ci := 7) (f := 6) dX7_copy_98 inG7 rfl (by decide) k198 wc_84 rfl ?_
                refine J_iload_n (i := 2) (j := 2) dX7_copy_101 rfl rfl ?_
                refine J_aald (q := 98) dX7_copy_102 wc_87 (fun _ => rfl) (vin (bd_r h629_0 (bd_c (v := 0) (lo := 0) (hi := 0) (by decide))) (by decide)) (by rw [h629_0]; rfl) ?_
                refine J_callV (As := [.ref 98]) (rest := []) dX7_copy_103 (c_W_copyK_15_98X (d := 1) (u := u590) (g := g) (ex := ex)   (by decide) (bd_r ((congrFun (fr591 98 rfl) 0).trans ((congrFun (fr269 98 rfl) 0).trans ((congrFun (ms_c e12 (Nat.ne_of_beq_eq_false rfl)) 0).trans ((congrFun (ms_c e10 (Nat.ne_of_beq_eq_false rfl)) 0).trans ((congrFun (ms_c e8 (Nat.ne_of_beq_eq_false rfl)) 0).trans ((congrFun (ms_c e6 (Nat.ne_of_beq_eq_false rfl)) 0).trans ((congrFun (ms_c e4 (Nat.ne_of_beq_eq_false rfl)) 0).trans (congrFun (mr_c e2 (Nat.ne_of_beq_eq_false rfl)) 0)))))))) hp10) (km_c ((fr591 99 rfl).trans ((fr269 99 rfl).trans ((ms_c e12 (Nat.ne_of_beq_eq_false rfl)).trans ((ms_c e10 (Nat.ne_of_beq_eq_false rfl)).trans ((ms_c e8 (Nat.ne_of_beq_eq_false rfl)).trans ((ms_c e6 (Nat.ne_of_beq_eq_false rfl)).trans ((ms_c e4 (Nat.ne_of_beq_eq_false rfl)).trans (mr_c e2 (Nat.ne_of_beq_eq_false rfl))))))))) ((fr591 101 rfl).trans ((fr269 101 rfl).trans ((ms_c e12 (Nat.ne_of_beq_eq_false rfl)).trans ((ms_c e10 (Nat.ne_of_beq_eq_false rfl)).trans ((ms_c e8 (Nat.ne_of_beq_eq_false rfl)).trans ((ms_c e6 (Nat.ne_of_beq_eq_false rfl)).trans ((ms_c e4 (Nat.ne_of_beq_eq_false rfl)).trans (mr_c e2 (Nat.ne_of_beq_eq_false rfl))))))))) hp13) km598) hq.n k690 k691 k692 wc_15 rfl rfl k90 k693 np_X8_copy (Nat.le_trans (by decide) hd) (by decide) (Nat.le_refl _) (Nat.le_refl _) wlen rfl (Nat.le_of_ble_eq_true rfl) (fun r_ h_ p630 => ?_)
                obtain ⟨u631, rfl, rfl, h632, h633, hx634, fr635, fc636⟩ := p630
                replace E := xq_le hx634 E
                refine J_iinc (i := 2) (j := 2) (v := (w589 + 1)) (lw := [(2, .int (w589 + 1)), (0, .ref 1), (1, .ref 84)]) dX7_copy_106 rfl rfl (by decide) rfl ?_
                refine J_goto (tgt := 86) dX7_copy_109 (by decide) ?_
                refine J_lv [1, 2, 0] rfl ?_
                exact ih626 (w589 + 1) u631 (bd_w (l := 0) (h := 3) (bd_add (l := 1) (h := 1) (bd_r h629_0 (bd_c (v := 0) (lo := 0) (hi := 0) (by decide))) (bd_c (v := 1) (lo := 1) (hi := 1) (by decide)) (by decide)) (by decide)) (fun c k_ => ((fr635 c (nin_sub (M := [(15, 18)]) k_ rfl)).trans (fr591 c (nin_sub (M := [(15, 26)]) k_ rfl)))) (fun j k0_ => ((fc636 j k0_).trans (fc592 j k0_))) h632 (fun j k0_ => ((congrFun (fr635 19 rfl) j).trans (fc594 j k0_))) (bd_r (congrFun (fr635 19 rfl) 0) bm595) (fun j k0_ => ((congrFun (fr635 23 rfl) j).trans (fc596 j k0_))) (bd_r (congrFun (fr635 23 rfl) 0) bm597) h633 (km_c (fr635 20 rfl) (fr635 22 rfl) km599) (km_c (fr635 24 rfl) (fr635 26 rfl) km600) (mu_up 1 bw589 rfl (by decide) (bd_w (l := 1) (h := 3) (bd_add (l := 1) (h := 1) (bd_r h629_0 (bd_c (v := 0) (lo := 0) (hi := 0) (by decide))) (bd_c (v := 1) (lo := 1) (hi := 1) (by decide)) (by decide)) (by decide)) hm627) E
              · replace E := xq_en (fun z_ => absurd (z_.symm.trans h629_1) (by decide)) E
                replace E := xq_ep h629_1 E
                refine J_aald (q := 19) dX7_copy_96 wc_4 (fun _ => rfl) (vin (bd_lt_hi bw589 (i_nle c628) (bd_c (v := 3) (lo := 3) (hi := 3) (by decide))) (by decide)) (by rw [h629_1]; rfl) ?_
                refine J_aload_n (i := 1) (j := 1) dX7_copy_97 rfl rfl ?_
                refine J_get (C := RX7) (T := TX7) (Z := 8) (ci := 7) (f := 6) dX7_copy_98 inG7 rfl (by decide) k198 wc_84 rfl ?_
                refine J_iload_n (i := 2) (j := 2) dX7_copy_101 rfl rfl ?_
                refine J_aald (q := 102) dX7_copy_102 wc_87 (fun _ => rfl) (vin (bd_r h629_1 (bd_c (v := 1) (lo := 1) (hi := 1) (by decide))) (by decide)) (by rw [h629_1]; rfl) ?_
                refine J_callV (As := [.ref 102]) (rest := []) dX7_copy_103 (c_W_copyK_19_102X (d := 1) (u := u590) (g := g) (ex := ex)   (by decide) (bd_r ((congrFun (fr591 102 rfl) 0).trans ((congrFun (fr269 102 rfl) 0).trans ((congrFun (ms_c e12 (Nat.ne_of_beq_eq_false rfl)) 0).trans ((congrFun (ms_c e10 (Nat.ne_of_beq_eq_false rfl)) 0).trans ((congrFun (ms_c e8 (Nat.ne_of_beq_eq_false rfl)) 0).trans ((congrFun (ms_c e6 (Nat.ne_of_beq_eq_false rfl)) 0).trans ((congrFun (ms_c e4 (Nat.ne_of_beq_eq_false rfl)) 0).trans (congrFun (mr_c e2 (Nat.ne_of_beq_eq_false rfl)) 0)))))))) hp11) (km_c ((fr591 103 rfl).trans ((fr269 103 rfl).trans ((ms_c e12 (Nat.ne_of_beq_eq_false rfl)).trans ((ms_c e10 (Nat.ne_of_beq_eq_false rfl)).trans ((ms_c e8 (Nat.ne_of_beq_eq_false rfl)).trans ((ms_c e6 (Nat.ne_of_beq_eq_false rfl)).trans ((ms_c e4 (Nat.ne_of_beq_eq_false rfl)).trans (mr_c e2 (Nat.ne_of_beq_eq_false rfl))))))))) ((fr591 105 rfl).trans ((fr269 105 rfl).trans ((ms_c e12 (Nat.ne_of_beq_eq_false rfl)).trans ((ms_c e10 (Nat.ne_of_beq_eq_false rfl)).trans ((ms_c e8 (Nat.ne_of_beq_eq_false rfl)).trans ((ms_c e6 (Nat.ne_of_beq_eq_false rfl)).trans ((ms_c e4 (Nat.ne_of_beq_eq_false rfl)).trans (mr_c e2 (Nat.ne_of_beq_eq_false rfl))))))))) hp14) km599) hq.n k690 k691 k692 wc_19 rfl rfl k90 k693 np_X8_copy (Nat.le_trans (by decide) hd) (by decide) (Nat.le_refl _) (Nat.le_refl _) wlen rfl (Nat.le_of_ble_eq_true rfl) (fun r_ h_ p637 => ?_)
                obtain ⟨u638, rfl, rfl, h639, h640, hx641, fr642, fc643⟩ := p637
                replace E := xq_le hx641 E
                refine J_iinc (i := 2) (j := 2) (v := (w589 + 1)) (lw := [(2, .int (w589 + 1)), (0, .ref 1), (1, .ref 84)]) dX7_copy_106 rfl rfl (by decide) rfl ?_
                refine J_goto (tgt := 86) dX7_copy_109 (by decide) ?_
                refine J_lv [1, 2, 0] rfl ?_
                exact ih626 (w589 + 1) u638 (bd_w (l := 0) (h := 3) (bd_add (l := 2) (h := 2) (bd_r h629_1 (bd_c (v := 1) (lo := 1) (hi := 1) (by decide))) (bd_c (v := 1) (lo := 1) (hi := 1) (by decide)) (by decide)) (by decide)) (fun c k_ => ((fr642 c (nin_sub (M := [(19, 22)]) k_ rfl)).trans (fr591 c (nin_sub (M := [(15, 26)]) k_ rfl)))) (fun j k0_ => ((congrFun (fr642 15 rfl) j).trans (fc592 j k0_))) (bd_r (congrFun (fr642 15 rfl) 0) bm593) (fun j k0_ => ((fc643 j k0_).trans (fc594 j k0_))) h639 (fun j k0_ => ((congrFun (fr642 23 rfl) j).trans (fc596 j k0_))) (bd_r (congrFun (fr642 23 rfl) 0) bm597) (km_c (fr642 16 rfl) (fr642 18 rfl) km598) h640 (km_c (fr642 24 rfl) (fr642 26 rfl) km600) (mu_up 1 bw589 rfl (by decide) (bd_w (l := 2) (h := 3) (bd_add (l := 2) (h := 2) (bd_r h629_1 (bd_c (v := 1) (lo := 1) (hi := 1) (by decide))) (bd_c (v := 1) (lo := 1) (hi := 1) (by decide)) (by decide)) (by decide)) hm627) E
              · replace E := xq_en (fun z_ => absurd (z_.symm.trans h629_2) (by decide)) E
                replace E := xq_en (fun z_ => absurd (z_.symm.trans h629_2) (by decide)) E
                refine J_aald (q := 23) dX7_copy_96 wc_4 (fun _ => rfl) (vin (bd_lt_hi bw589 (i_nle c628) (bd_c (v := 3) (lo := 3) (hi := 3) (by decide))) (by decide)) (by rw [h629_2]; rfl) ?_
                refine J_aload_n (i := 1) (j := 1) dX7_copy_97 rfl rfl ?_
                refine J_get (C := RX7) (T := TX7) (Z := 8) (ci := 7) (f := 6) dX7_copy_98 inG7 rfl (by decide) k198 wc_84 rfl ?_
                refine J_iload_n (i := 2) (j := 2) dX7_copy_101 rfl rfl ?_
                refine J_aald (q := 106) dX7_copy_102 wc_87 (fun _ => rfl) (vin (bd_r h629_2 (bd_c (v := 2) (lo := 2) (hi := 2) (by decide))) (by decide)) (by rw [h629_2]; rfl) ?_
                refine J_callV (As := [.ref 106]) (rest := []) dX7_copy_103 (c_W_copyK_23_106X (d := 1) (u := u590) (g := g) (ex := ex)   (by decide) (bd_r ((congrFun (fr591 106 rfl) 0).trans ((congrFun (fr269 106 rfl) 0).trans ((congrFun (ms_c e12 (Nat.ne_of_beq_eq_false rfl)) 0).trans ((congrFun (ms_c e10 (Nat.ne_of_beq_eq_false rfl)) 0).trans ((congrFun (ms_c e8 (Nat.ne_of_beq_eq_false rfl)) 0).trans ((congrFun (ms_c e6 (Nat.ne_of_beq_eq_false rfl)) 0).trans ((congrFun (ms_c e4 (Nat.ne_of_beq_eq_false rfl)) 0).trans (congrFun (mr_c e2 (Nat.ne_of_beq_eq_false rfl)) 0)))))))) hp12) (km_c ((fr591 107 rfl).trans ((fr269 107 rfl).trans ((ms_c e12 (Nat.ne_of_beq_eq_false rfl)).trans ((ms_c e10 (Nat.ne_of_beq_eq_false rfl)).trans ((ms_c e8 (Nat.ne_of_beq_eq_false rfl)).trans ((ms_c e6 (Nat.ne_of_beq_eq_false rfl)).trans ((ms_c e4 (Nat.ne_of_beq_eq_false rfl)).trans (mr_c e2 (Nat.ne_of_beq_eq_false rfl))))))))) ((fr591 109 rfl).trans ((fr269 109 rfl).trans ((ms_c e12 (Nat.ne_of_beq_eq_false rfl)).trans ((ms_c e10 (Nat.ne_of_beq_eq_false rfl)).trans ((ms_c e8 (Nat.ne_of_beq_eq_false rfl)).trans ((ms_c e6 (Nat.ne_of_beq_eq_false rfl)).trans ((ms_c e4 (Nat.ne_of_beq_eq_false rfl)).trans (mr_c e2 (Nat.ne_of_beq_eq_false rfl))))))))) hp15) km600) hq.n k690 k691 k692 wc_23 rfl rfl k90 k693 np_X8_copy (Nat.le_trans (by decide) hd) (by decide) (Nat.le_refl _) (Nat.le_refl _) wlen rfl (Nat.le_of_ble_eq_true rfl) (fun r_ h_ p644 => ?_)
                obtain ⟨u645, rfl, rfl, h646, h647, hx648, fr649, fc650⟩ := p644
                replace E := xq_le hx648 E
                refine J_iinc (i := 2) (j := 2) (v := (w589 + 1)) (lw := [(2, .int (w589 + 1)), (0, .ref 1), (1, .ref 84)]) dX7_copy_106 rfl rfl (by decide) rfl ?_
                refine J_goto (tgt := 86) dX7_copy_109 (by decide) ?_
                refine J_lv [1, 2, 0] rfl ?_
                exact ih626 (w589 + 1) u645 (bd_w (l := 0) (h := 3) (bd_add (l := 3) (h := 3) (bd_r h629_2 (bd_c (v := 2) (lo := 2) (hi := 2) (by decide))) (bd_c (v := 1) (lo := 1) (hi := 1) (by decide)) (by decide)) (by decide)) (fun c k_ => ((fr649 c (nin_sub (M := [(23, 26)]) k_ rfl)).trans (fr591 c (nin_sub (M := [(15, 26)]) k_ rfl)))) (fun j k0_ => ((congrFun (fr649 15 rfl) j).trans (fc592 j k0_))) (bd_r (congrFun (fr649 15 rfl) 0) bm593) (fun j k0_ => ((congrFun (fr649 19 rfl) j).trans (fc594 j k0_))) (bd_r (congrFun (fr649 19 rfl) 0) bm595) (fun j k0_ => ((fc650 j k0_).trans (fc596 j k0_))) h646 (km_c (fr649 16 rfl) (fr649 18 rfl) km598) (km_c (fr649 20 rfl) (fr649 22 rfl) km599) h647 (mu_up 1 bw589 rfl (by decide) (bd_w (l := 3) (h := 3) (bd_add (l := 3) (h := 3) (bd_r h629_2 (bd_c (v := 2) (lo := 2) (hi := 2) (by decide))) (bd_c (v := 1) (lo := 1) (hi := 1) (by decide)) (by decide)) (by decide)) hm627) E
        refine J_lv [1, 2, 0] rfl ?_
        exact lp624 ((3 - (0 : Int32).toInt).toNat + 1) (0 : Int32) u268 (bd_w (l := 0) (h := 3) (bd_c (v := 0) (lo := 0) (hi := 0) (by decide)) (by decide)) (fun c k_ => rfl) (fun j k0_ => rfl) (bd_r ((congrFun (fr269 15 rfl) 0).trans ((congrFun (ms_c e12 (Nat.ne_of_beq_eq_false rfl)) 0).trans ((congrFun (ms_c e10 (Nat.ne_of_beq_eq_false rfl)) 0).trans ((congrFun (ms_c e8 (Nat.ne_of_beq_eq_false rfl)) 0).trans ((congrFun (ms_c e6 (Nat.ne_of_beq_eq_false rfl)) 0).trans ((congrFun (ms_c e4 (Nat.ne_of_beq_eq_false rfl)) 0).trans (congrFun (mr_c e2 (Nat.ne_of_beq_eq_false rfl)) 0))))))) hp26) (fun j k0_ => rfl) (bd_r ((congrFun (fr269 19 rfl) 0).trans ((congrFun (ms_c e12 (Nat.ne_of_beq_eq_false rfl)) 0).trans ((congrFun (ms_c e10 (Nat.ne_of_beq_eq_false rfl)) 0).trans ((congrFun (ms_c e8 (Nat.ne_of_beq_eq_false rfl)) 0).trans ((congrFun (ms_c e6 (Nat.ne_of_beq_eq_false rfl)) 0).trans ((congrFun (ms_c e4 (Nat.ne_of_beq_eq_false rfl)) 0).trans (congrFun (mr_c e2 (Nat.ne_of_beq_eq_false rfl)) 0))))))) hp27) (fun j k0_ => rfl) (bd_r ((congrFun (fr269 23 rfl) 0).trans ((congrFun (ms_c e12 (Nat.ne_of_beq_eq_false rfl)) 0).trans ((congrFun (ms_c e10 (Nat.ne_of_beq_eq_false rfl)) 0).trans ((congrFun (ms_c e8 (Nat.ne_of_beq_eq_false rfl)) 0).trans ((congrFun (ms_c e6 (Nat.ne_of_beq_eq_false rfl)) 0).trans ((congrFun (ms_c e4 (Nat.ne_of_beq_eq_false rfl)) 0).trans (congrFun (mr_c e2 (Nat.ne_of_beq_eq_false rfl)) 0))))))) hp28) (km_c ((fr269 16 rfl).trans ((ms_c e12 (Nat.ne_of_beq_eq_false rfl)).trans ((ms_c e10 (Nat.ne_of_beq_eq_false rfl)).trans ((ms_c e8 (Nat.ne_of_beq_eq_false rfl)).trans ((ms_c e6 (Nat.ne_of_beq_eq_false rfl)).trans ((ms_c e4 (Nat.ne_of_beq_eq_false rfl)).trans (mr_c e2 (Nat.ne_of_beq_eq_false rfl)))))))) ((fr269 18 rfl).trans ((ms_c e12 (Nat.ne_of_beq_eq_false rfl)).trans ((ms_c e10 (Nat.ne_of_beq_eq_false rfl)).trans ((ms_c e8 (Nat.ne_of_beq_eq_false rfl)).trans ((ms_c e6 (Nat.ne_of_beq_eq_false rfl)).trans ((ms_c e4 (Nat.ne_of_beq_eq_false rfl)).trans (mr_c e2 (Nat.ne_of_beq_eq_false rfl)))))))) hp29) (km_c ((fr269 20 rfl).trans ((ms_c e12 (Nat.ne_of_beq_eq_false rfl)).trans ((ms_c e10 (Nat.ne_of_beq_eq_false rfl)).trans ((ms_c e8 (Nat.ne_of_beq_eq_false rfl)).trans ((ms_c e6 (Nat.ne_of_beq_eq_false rfl)).trans ((ms_c e4 (Nat.ne_of_beq_eq_false rfl)).trans (mr_c e2 (Nat.ne_of_beq_eq_false rfl)))))))) ((fr269 22 rfl).trans ((ms_c e12 (Nat.ne_of_beq_eq_false rfl)).trans ((ms_c e10 (Nat.ne_of_beq_eq_false rfl)).trans ((ms_c e8 (Nat.ne_of_beq_eq_false rfl)).trans ((ms_c e6 (Nat.ne_of_beq_eq_false rfl)).trans ((ms_c e4 (Nat.ne_of_beq_eq_false rfl)).trans (mr_c e2 (Nat.ne_of_beq_eq_false rfl)))))))) hp30) (km_c ((fr269 24 rfl).trans ((ms_c e12 (Nat.ne_of_beq_eq_false rfl)).trans ((ms_c e10 (Nat.ne_of_beq_eq_false rfl)).trans ((ms_c e8 (Nat.ne_of_beq_eq_false rfl)).trans ((ms_c e6 (Nat.ne_of_beq_eq_false rfl)).trans ((ms_c e4 (Nat.ne_of_beq_eq_false rfl)).trans (mr_c e2 (Nat.ne_of_beq_eq_false rfl)))))))) ((fr269 26 rfl).trans ((ms_c e12 (Nat.ne_of_beq_eq_false rfl)).trans ((ms_c e10 (Nat.ne_of_beq_eq_false rfl)).trans ((ms_c e8 (Nat.ne_of_beq_eq_false rfl)).trans ((ms_c e6 (Nat.ne_of_beq_eq_false rfl)).trans ((ms_c e4 (Nat.ne_of_beq_eq_false rfl)).trans (mr_c e2 (Nat.ne_of_beq_eq_false rfl)))))))) hp31) (Nat.lt_succ_self _) E
      · replace E := xq_en c475 E
        refine J_aload_n (i := 0) (j := 0) dX7_copy_63 rfl rfl ?_
        refine J_get (C := RX7) (T := TX7) (Z := 8) (ci := 7) (f := 4) dX7_copy_64 inG7 rfl (by decide) k194 wc_1 rfl ?_
        refine J_iload_n (i := 2) (j := 2) dX7_copy_67 rfl rfl ?_
        have h651 := bd_cases2 (bd_lt_hi bw267 (i_nle c475) (bd_c (v := 2) (lo := 2) (hi := 2) (by decide)))
        rcases h651 with h651_0 | h651_1
        · replace E := xq_ep h651_0 E
          refine J_aald (q := 5) dX7_copy_68 wc_3 (fun _ => rfl) (vin (bd_lt_hi bw267 (i_nle c475) (bd_c (v := 2) (lo := 2) (hi := 2) (by decide))) (by decide)) (by rw [h651_0]; rfl) ?_
          refine J_aload_n (i := 1) (j := 1) dX7_copy_69 rfl rfl ?_
          refine J_get (C := RX7) (T := TX7) (Z := 8) (ci := 7) (f := 4) dX7_copy_70 inG7 rfl (by decide) k194 wc_84 rfl ?_
          refine J_iload_n (i := 2) (j := 2) dX7_copy_73 rfl rfl ?_
          refine J_aald (q := 88) dX7_copy_74 wc_86 (fun _ => rfl) (vin (bd_r h651_0 (bd_c (v := 0) (lo := 0) (hi := 0) (by decide))) (by decide)) (by rw [h651_0]; rfl) ?_
          refine J_callV (As := [.ref 88]) (rest := []) dX7_copy_75 (c_H_copyBX (d := 1) (u := u268) (g := g) (ex := ex)  (t := 5) (f := 88) (by decide) (by decide) (by decide) (Nat.ne_of_beq_eq_false rfl) (bd_r ((congrFun (fr269 88 rfl) 0).trans ((congrFun (ms_c e12 (Nat.ne_of_beq_eq_false rfl)) 0).trans ((congrFun (ms_c e10 (Nat.ne_of_beq_eq_false rfl)) 0).trans ((congrFun (ms_c e8 (Nat.ne_of_beq_eq_false rfl)) 0).trans ((congrFun (ms_c e6 (Nat.ne_of_beq_eq_false rfl)) 0).trans ((congrFun (ms_c e4 (Nat.ne_of_beq_eq_false rfl)) 0).trans (congrFun (mr_c e2 (Nat.ne_of_beq_eq_false rfl)) 0))))))) hp4) (bd_r ((congrFun (fr269 88 rfl) 2).trans ((congrFun (ms_c e12 (Nat.ne_of_beq_eq_false rfl)) 2).trans ((congrFun (ms_c e10 (Nat.ne_of_beq_eq_false rfl)) 2).trans ((congrFun (ms_c e8 (Nat.ne_of_beq_eq_false rfl)) 2).trans ((congrFun (ms_c e6 (Nat.ne_of_beq_eq_false rfl)) 2).trans ((congrFun (ms_c e4 (Nat.ne_of_beq_eq_false rfl)) 2).trans (congrFun (mr_c e2 (Nat.ne_of_beq_eq_false rfl)) 2))))))) hp5) ab277 (ab_c ((fr269 89 rfl).trans ((ms_c e12 (Nat.ne_of_beq_eq_false rfl)).trans ((ms_c e10 (Nat.ne_of_beq_eq_false rfl)).trans ((ms_c e8 (Nat.ne_of_beq_eq_false rfl)).trans ((ms_c e6 (Nat.ne_of_beq_eq_false rfl)).trans ((ms_c e4 (Nat.ne_of_beq_eq_false rfl)).trans (mr_c e2 (Nat.ne_of_beq_eq_false rfl)))))))) hp8)) hq.n k680 k681 k682 wc_5 rfl rfl k89 k683 np_X1_copy (Nat.le_trans (by decide) hd) (by decide) (Nat.le_refl _) (Nat.le_refl _) wlen rfl (Nat.le_of_ble_eq_true rfl) (fun r_ h_ p652 => ?_)
          obtain ⟨u653, rfl, rfl, h654, h655, h656, hx657, fr658, fc659⟩ := p652
          replace E := xq_le hx657 E
          refine J_iinc (i := 2) (j := 2) (v := (w267 + 1)) (lw := [(2, .int (w267 + 1)), (0, .ref 1), (1, .ref 84)]) dX7_copy_78 rfl rfl (by decide) rfl ?_
          refine J_goto (tgt := 58) dX7_copy_81 (by decide) ?_
          refine J_lv [1, 2, 0] rfl ?_
          exact ih473 (w267 + 1) u653 (bd_w (l := 0) (h := 2) (bd_add (l := 1) (h := 1) (bd_r h651_0 (bd_c (v := 0) (lo := 0) (hi := 0) (by decide))) (bd_c (v := 1) (lo := 1) (hi := 1) (by decide)) (by decide)) (by decide)) (fun c k_ => ((fr658 c (nin_ne (a := 5) k_ rfl) (nin_ne (a := 6) k_ rfl) (nin_ne (a := 7) k_ rfl) (nin_ne (a := 8) k_ rfl) (nin_ne (a := 9) k_ rfl)).trans (fr269 c (nin_sub (M := [(5, 14)]) k_ rfl)))) (fun j k0_ k2_ => ((congrFun (fr658 10 (Nat.ne_of_beq_eq_false rfl) (Nat.ne_of_beq_eq_false rfl) (Nat.ne_of_beq_eq_false rfl) (Nat.ne_of_beq_eq_false rfl) (Nat.ne_of_beq_eq_false rfl)) j).trans (fc270 j k0_ k2_))) (bd_r (congrFun (fr658 10 (Nat.ne_of_beq_eq_false rfl) (Nat.ne_of_beq_eq_false rfl) (Nat.ne_of_beq_eq_false rfl) (Nat.ne_of_beq_eq_false rfl) (Nat.ne_of_beq_eq_false rfl)) 0) bm271) (bd_r (congrFun (fr658 10 (Nat.ne_of_beq_eq_false rfl) (Nat.ne_of_beq_eq_false rfl) (Nat.ne_of_beq_eq_false rfl) (Nat.ne_of_beq_eq_false rfl) (Nat.ne_of_beq_eq_false rfl)) 2) bm272) (ab_c (fr658 11 (Nat.ne_of_beq_eq_false rfl) (Nat.ne_of_beq_eq_false rfl) (Nat.ne_of_beq_eq_false rfl) (Nat.ne_of_beq_eq_false rfl) (Nat.ne_of_beq_eq_false rfl)) ab273) (fun j k0_ k2_ => ((fc659 j k0_ k2_).trans (fc274 j k0_ k2_))) h654 h655 h656 (mu_up 1 bw267 rfl (by decide) (bd_w (l := 1) (h := 2) (bd_add (l := 1) (h := 1) (bd_r h651_0 (bd_c (v := 0) (lo := 0) (hi := 0) (by decide))) (bd_c (v := 1) (lo := 1) (hi := 1) (by decide)) (by decide)) (by decide)) hm474) E
        · replace E := xq_en (fun z_ => absurd (z_.symm.trans h651_1) (by decide)) E
          refine J_aald (q := 10) dX7_copy_68 wc_3 (fun _ => rfl) (vin (bd_lt_hi bw267 (i_nle c475) (bd_c (v := 2) (lo := 2) (hi := 2) (by decide))) (by decide)) (by rw [h651_1]; rfl) ?_
          refine J_aload_n (i := 1) (j := 1) dX7_copy_69 rfl rfl ?_
          refine J_get (C := RX7) (T := TX7) (Z := 8) (ci := 7) (f := 4) dX7_copy_70 inG7 rfl (by decide) k194 wc_84 rfl ?_
          refine J_iload_n (i := 2) (j := 2) dX7_copy_73 rfl rfl ?_
          refine J_aald (q := 93) dX7_copy_74 wc_86 (fun _ => rfl) (vin (bd_r h651_1 (bd_c (v := 1) (lo := 1) (hi := 1) (by decide))) (by decide)) (by rw [h651_1]; rfl) ?_
          refine J_callV (As := [.ref 93]) (rest := []) dX7_copy_75 (c_H_copyBX (d := 1) (u := u268) (g := g) (ex := ex)  (t := 10) (f := 93) (by decide) (by decide) (by decide) (Nat.ne_of_beq_eq_false rfl) (bd_r ((congrFun (fr269 93 rfl) 0).trans ((congrFun (ms_c e12 (Nat.ne_of_beq_eq_false rfl)) 0).trans ((congrFun (ms_c e10 (Nat.ne_of_beq_eq_false rfl)) 0).trans ((congrFun (ms_c e8 (Nat.ne_of_beq_eq_false rfl)) 0).trans ((congrFun (ms_c e6 (Nat.ne_of_beq_eq_false rfl)) 0).trans ((congrFun (ms_c e4 (Nat.ne_of_beq_eq_false rfl)) 0).trans (congrFun (mr_c e2 (Nat.ne_of_beq_eq_false rfl)) 0))))))) hp6) (bd_r ((congrFun (fr269 93 rfl) 2).trans ((congrFun (ms_c e12 (Nat.ne_of_beq_eq_false rfl)) 2).trans ((congrFun (ms_c e10 (Nat.ne_of_beq_eq_false rfl)) 2).trans ((congrFun (ms_c e8 (Nat.ne_of_beq_eq_false rfl)) 2).trans ((congrFun (ms_c e6 (Nat.ne_of_beq_eq_false rfl)) 2).trans ((congrFun (ms_c e4 (Nat.ne_of_beq_eq_false rfl)) 2).trans (congrFun (mr_c e2 (Nat.ne_of_beq_eq_false rfl)) 2))))))) hp7) ab273 (ab_c ((fr269 94 rfl).trans ((ms_c e12 (Nat.ne_of_beq_eq_false rfl)).trans ((ms_c e10 (Nat.ne_of_beq_eq_false rfl)).trans ((ms_c e8 (Nat.ne_of_beq_eq_false rfl)).trans ((ms_c e6 (Nat.ne_of_beq_eq_false rfl)).trans ((ms_c e4 (Nat.ne_of_beq_eq_false rfl)).trans (mr_c e2 (Nat.ne_of_beq_eq_false rfl)))))))) hp9)) hq.n k680 k681 k682 wc_10 rfl rfl k89 k683 np_X1_copy (Nat.le_trans (by decide) hd) (by decide) (Nat.le_refl _) (Nat.le_refl _) wlen rfl (Nat.le_of_ble_eq_true rfl) (fun r_ h_ p660 => ?_)
          obtain ⟨u661, rfl, rfl, h662, h663, h664, hx665, fr666, fc667⟩ := p660
          replace E := xq_le hx665 E
          refine J_iinc (i := 2) (j := 2) (v := (w267 + 1)) (lw := [(2, .int (w267 + 1)), (0, .ref 1), (1, .ref 84)]) dX7_copy_78 rfl rfl (by decide) rfl ?_
          refine J_goto (tgt := 58) dX7_copy_81 (by decide) ?_
          refine J_lv [1, 2, 0] rfl ?_
          exact ih473 (w267 + 1) u661 (bd_w (l := 0) (h := 2) (bd_add (l := 2) (h := 2) (bd_r h651_1 (bd_c (v := 1) (lo := 1) (hi := 1) (by decide))) (bd_c (v := 1) (lo := 1) (hi := 1) (by decide)) (by decide)) (by decide)) (fun c k_ => ((fr666 c (nin_ne (a := 10) k_ rfl) (nin_ne (a := 11) k_ rfl) (nin_ne (a := 12) k_ rfl) (nin_ne (a := 13) k_ rfl) (nin_ne (a := 14) k_ rfl)).trans (fr269 c (nin_sub (M := [(5, 14)]) k_ rfl)))) (fun j k0_ k2_ => ((fc667 j k0_ k2_).trans (fc270 j k0_ k2_))) h662 h663 h664 (fun j k0_ k2_ => ((congrFun (fr666 5 (Nat.ne_of_beq_eq_false rfl) (Nat.ne_of_beq_eq_false rfl) (Nat.ne_of_beq_eq_false rfl) (Nat.ne_of_beq_eq_false rfl) (Nat.ne_of_beq_eq_false rfl)) j).trans (fc274 j k0_ k2_))) (bd_r (congrFun (fr666 5 (Nat.ne_of_beq_eq_false rfl) (Nat.ne_of_beq_eq_false rfl) (Nat.ne_of_beq_eq_false rfl) (Nat.ne_of_beq_eq_false rfl) (Nat.ne_of_beq_eq_false rfl)) 0) bm275) (bd_r (congrFun (fr666 5 (Nat.ne_of_beq_eq_false rfl) (Nat.ne_of_beq_eq_false rfl) (Nat.ne_of_beq_eq_false rfl) (Nat.ne_of_beq_eq_false rfl) (Nat.ne_of_beq_eq_false rfl)) 2) bm276) (ab_c (fr666 6 (Nat.ne_of_beq_eq_false rfl) (Nat.ne_of_beq_eq_false rfl) (Nat.ne_of_beq_eq_false rfl) (Nat.ne_of_beq_eq_false rfl) (Nat.ne_of_beq_eq_false rfl)) ab277) (mu_up 1 bw267 rfl (by decide) (bd_w (l := 2) (h := 2) (bd_add (l := 2) (h := 2) (bd_r h651_1 (bd_c (v := 1) (lo := 1) (hi := 1) (by decide))) (bd_c (v := 1) (lo := 1) (hi := 1) (by decide)) (by decide)) (by decide)) hm474) E
  refine J_lv [1, 2, 0] rfl ?_
  exact lp471 ((2 - (0 : Int32).toInt).toNat + 1) (0 : Int32) u11 (bd_w (l := 0) (h := 2) (bd_c (v := 0) (lo := 0) (hi := 0) (by decide)) (by decide)) (fun c k_ => rfl) (fun j k0_ k2_ => rfl) (bd_r ((congrFun (ms_c e12 (Nat.ne_of_beq_eq_false rfl)) 0).trans ((congrFun (ms_c e10 (Nat.ne_of_beq_eq_false rfl)) 0).trans ((congrFun (ms_c e8 (Nat.ne_of_beq_eq_false rfl)) 0).trans ((congrFun (ms_c e6 (Nat.ne_of_beq_eq_false rfl)) 0).trans ((congrFun (ms_c e4 (Nat.ne_of_beq_eq_false rfl)) 0).trans (congrFun (mr_c e2 (Nat.ne_of_beq_eq_false rfl)) 0)))))) hp22) (bd_r ((congrFun (ms_c e12 (Nat.ne_of_beq_eq_false rfl)) 2).trans ((congrFun (ms_c e10 (Nat.ne_of_beq_eq_false rfl)) 2).trans ((congrFun (ms_c e8 (Nat.ne_of_beq_eq_false rfl)) 2).trans ((congrFun (ms_c e6 (Nat.ne_of_beq_eq_false rfl)) 2).trans ((congrFun (ms_c e4 (Nat.ne_of_beq_eq_false rfl)) 2).trans (congrFun (mr_c e2 (Nat.ne_of_beq_eq_false rfl)) 2)))))) hp23) (ab_c ((ms_c e12 (Nat.ne_of_beq_eq_false rfl)).trans ((ms_c e10 (Nat.ne_of_beq_eq_false rfl)).trans ((ms_c e8 (Nat.ne_of_beq_eq_false rfl)).trans ((ms_c e6 (Nat.ne_of_beq_eq_false rfl)).trans ((ms_c e4 (Nat.ne_of_beq_eq_false rfl)).trans (mr_c e2 (Nat.ne_of_beq_eq_false rfl))))))) hp25) (fun j k0_ k2_ => rfl) (bd_r ((congrFun (ms_c e12 (Nat.ne_of_beq_eq_false rfl)) 0).trans ((congrFun (ms_c e10 (Nat.ne_of_beq_eq_false rfl)) 0).trans ((congrFun (ms_c e8 (Nat.ne_of_beq_eq_false rfl)) 0).trans ((congrFun (ms_c e6 (Nat.ne_of_beq_eq_false rfl)) 0).trans ((congrFun (ms_c e4 (Nat.ne_of_beq_eq_false rfl)) 0).trans (congrFun (mr_c e2 (Nat.ne_of_beq_eq_false rfl)) 0)))))) hp20) (bd_r ((congrFun (ms_c e12 (Nat.ne_of_beq_eq_false rfl)) 2).trans ((congrFun (ms_c e10 (Nat.ne_of_beq_eq_false rfl)) 2).trans ((congrFun (ms_c e8 (Nat.ne_of_beq_eq_false rfl)) 2).trans ((congrFun (ms_c e6 (Nat.ne_of_beq_eq_false rfl)) 2).trans ((congrFun (ms_c e4 (Nat.ne_of_beq_eq_false rfl)) 2).trans (congrFun (mr_c e2 (Nat.ne_of_beq_eq_false rfl)) 2)))))) hp21) (ab_c ((ms_c e12 (Nat.ne_of_beq_eq_false rfl)).trans ((ms_c e10 (Nat.ne_of_beq_eq_false rfl)).trans ((ms_c e8 (Nat.ne_of_beq_eq_false rfl)).trans ((ms_c e6 (Nat.ne_of_beq_eq_false rfl)).trans ((ms_c e4 (Nat.ne_of_beq_eq_false rfl)).trans (mr_c e2 (Nat.ne_of_beq_eq_false rfl))))))) hp24) (Nat.lt_succ_self _) E
set_option maxRecDepth 100000 in
noncomputable def Fx_T_copyR_1_110X_L86 (g : Nat → Nat → Int64) (n_ : Nat) : (Int32) → (Nat → Nat → Int32) → (Nat → Nat → Int32) := Nat.rec (motive := fun _ => (Int32) → (Nat → Nat → Int32) → (Nat → Nat → Int32)) (fun _ _ => default) (fun n_ ih_ w589 u590 => if (3 : Int32) ≤ w589 then (u590) else (if w589 = 0 then (xq_lt (Fx_W_copyK_15_124X u590 g) fun u631 => ih_ (w589 + 1) u631) else (if w589 = 1 then (xq_lt (Fx_W_copyK_19_128X u590 g) fun u638 => ih_ (w589 + 1) u638) else (xq_lt (Fx_W_copyK_23_132X u590 g) fun u645 => ih_ (w589 + 1) u645)))) n_
set_option maxRecDepth 100000 in
theorem Fx_T_copyR_1_110X_L86_s {g : Nat → Nat → Int64} {w589 : Int32} {u590 : Nat → Nat → Int32} {n_ : Nat} : Fx_T_copyR_1_110X_L86 g (n_ + 1) w589 u590 = if (3 : Int32) ≤ w589 then (u590) else (if w589 = 0 then (xq_lt (Fx_W_copyK_15_124X u590 g) fun u631 => (Fx_T_copyR_1_110X_L86 g n_) (w589 + 1) u631) else (if w589 = 1 then (xq_lt (Fx_W_copyK_19_128X u590 g) fun u638 => (Fx_T_copyR_1_110X_L86 g n_) (w589 + 1) u638) else (xq_lt (Fx_W_copyK_23_132X u590 g) fun u645 => (Fx_T_copyR_1_110X_L86 g n_) (w589 + 1) u645))) := rfl
set_option maxRecDepth 100000 in
noncomputable def Fx_T_copyR_1_110X_L58 (g : Nat → Nat → Int64) (n_ : Nat) : (Int32) → (Nat → Nat → Int32) → (Nat → Nat → Int32) := Nat.rec (motive := fun _ => (Int32) → (Nat → Nat → Int32) → (Nat → Nat → Int32)) (fun _ _ => default) (fun n_ ih_ w267 u268 => if (2 : Int32) ≤ w267 then (Fx_T_copyR_1_110X_L86 g ((3 - (0 : Int32).toInt).toNat + 1) (0 : Int32) u268) else (if w267 = 0 then (xq_lt (Fx_H_copyBX 5 114 u268 g) fun u653 => ih_ (w267 + 1) u653) else (xq_lt (Fx_H_copyBX 10 119 u268 g) fun u661 => ih_ (w267 + 1) u661))) n_
set_option maxRecDepth 100000 in
theorem Fx_T_copyR_1_110X_L58_s {g : Nat → Nat → Int64} {w267 : Int32} {u268 : Nat → Nat → Int32} {n_ : Nat} : Fx_T_copyR_1_110X_L58 g (n_ + 1) w267 u268 = if (2 : Int32) ≤ w267 then (Fx_T_copyR_1_110X_L86 g ((3 - (0 : Int32).toInt).toNat + 1) (0 : Int32) u268) else (if w267 = 0 then (xq_lt (Fx_H_copyBX 5 114 u268 g) fun u653 => (Fx_T_copyR_1_110X_L58 g n_) (w267 + 1) u653) else (xq_lt (Fx_H_copyBX 10 119 u268 g) fun u661 => (Fx_T_copyR_1_110X_L58 g n_) (w267 + 1) u661)) := rfl
set_option maxRecDepth 100000 in
noncomputable def Fx_T_copyR_1_110X (u : Nat → Nat → Int32) (g : Nat → Nat → Int64) : (Nat → Nat → Int32) := xq_lt (mr u 2 (va_cpy (u 111) (u 2) 0 0 600)) fun u1 => xq_lt (ms u1 1 1 (u 110 1)) fun u3 => xq_lt (ms u3 1 2 (u 110 2)) fun u5 => xq_lt (ms u5 1 3 (u 110 3)) fun u7 => xq_lt (ms u7 1 5 (u 110 5)) fun u9 => xq_lt (ms u9 1 7 (u 110 7)) fun u11 => Fx_T_copyR_1_110X_L58 g ((2 - (0 : Int32).toInt).toNat + 1) (0 : Int32) u11
set_option maxHeartbeats 4000000 in
set_option maxRecDepth 100000 in
theorem c_T_copyR_1_110X {d : Nat} {u : Nat → Nat → Int32} {g : Nat → Nat → Int64} {ex : List MC}  (hd : 2 ≤ d) (hp0 : Bd 0 600 (u 110 1)) (hp1 : Bd 0 2 (u 110 5)) (hp2 : Bd 0 3 (u 110 7)) (hp3 : BF u 111) (hp4 : Bd 0 9 (u 114 0)) (hp5 : Bd 0 4 (u 114 2)) (hp6 : Bd 0 9 (u 119 0)) (hp7 : Bd 0 4 (u 119 2)) (hp8 : AB u 115 (-1) 999) (hp9 : AB u 120 (-1) 999) (hp10 : Bd 0 12 (u 124 0)) (hp11 : Bd 0 12 (u 128 0)) (hp12 : Bd 0 12 (u 132 0)) (hp13 : (KM u 124)) (hp14 : (KM u 128)) (hp15 : (KM u 132)) (hp16 : Bd 0 600 (u 1 1)) (hp17 : Bd 0 2 (u 1 5)) (hp18 : Bd 0 3 (u 1 7)) (hp19 : BF u 2) (hp20 : Bd 0 9 (u 5 0)) (hp21 : Bd 0 4 (u 5 2)) (hp22 : Bd 0 9 (u 10 0)) (hp23 : Bd 0 4 (u 10 2)) (hp24 : AB u 6 (-1) 999) (hp25 : AB u 11 (-1) 999) (hp26 : Bd 0 12 (u 15 0)) (hp27 : Bd 0 12 (u 19 0)) (hp28 : Bd 0 12 (u 23 0)) (hp29 : (KM u 15)) (hp30 : (KM u 19)) (hp31 : (KM u 23)) : CT con0 d 0 0 yX7_copy cX7_copy 3 none [.ref 1, .ref 110] (Wd u g ex) (fun r h2 => ∃ (u2 : Nat → Nat → Int32), r = none ∧ h2 = Wd u2 g ex ∧ Bd 0 600 (u2 1 1) ∧ Bd 0 2 (u2 1 5) ∧ Bd 0 3 (u2 1 7) ∧ BF u2 2 ∧ Bd 0 9 (u2 5 0) ∧ Bd 0 4 (u2 5 2) ∧ Bd 0 9 (u2 10 0) ∧ Bd 0 4 (u2 10 2) ∧ AB u2 6 (-1) 999 ∧ AB u2 11 (-1) 999 ∧ Bd 0 12 (u2 15 0) ∧ Bd 0 12 (u2 19 0) ∧ Bd 0 12 (u2 23 0) ∧ (KM u2 15) ∧ (KM u2 19) ∧ (KM u2 23) ∧ (u2 1 1 = u 110 1) ∧ u2 = Fx_T_copyR_1_110X u g ∧ (∀ c, nin c [(1, 2), (5, 26)] = true → u2 c = u c) ∧ (∀ j, j ≠ 1 → j ≠ 2 → j ≠ 3 → j ≠ 5 → j ≠ 7 → u2 1 j = u 1 j) ∧ (∀ j, j ≠ 0 → j ≠ 2 → u2 5 j = u 5 j) ∧ (∀ j, j ≠ 0 → j ≠ 2 → u2 10 j = u 10 j) ∧ (∀ j, j ≠ 0 → u2 15 j = u 15 j) ∧ (∀ j, j ≠ 0 → u2 19 j = u 19 j) ∧ (∀ j, j ≠ 0 → u2 23 j = u 23 j)) := by
  refine CT_of (by decide) (Nat.le_of_ble_eq_true rfl) (fun x hq => ?_)
  show J x yX7_copy cX7_copy 3 none d 0 0 (Wd u g ex).length 0 [(0, .ref 1), (1, .ref 110)] [] (Wd u g ex) 0 0
  have E : Fx_T_copyR_1_110X u g = Fx_T_copyR_1_110X u g := rfl
  refine J_aload_n (i := 1) (j := 1) dX7_copy_0 rfl rfl ?_
  refine J_get (C := RX7) (T := TX7) (Z := 8) (ci := 7) (f := 0) dX7_copy_1 inG7 rfl (by decide) k186 wc_110 rfl ?_
  refine J_iconst (v := 0) dX7_copy_4 (by decide) ?_
  refine J_aload_n (i := 0) (j := 0) dX7_copy_5 rfl rfl ?_
  refine J_get (C := RX7) (T := TX7) (Z := 8) (ci := 7) (f := 0) dX7_copy_6 inG7 rfl (by decide) k186 wc_1 rfl ?_
  refine J_iconst (v := 0) dX7_copy_9 (by decide) ?_
  refine J_sipush (v := 600) dX7_copy_10 (by decide) ?_
  obtain ⟨u1, e2⟩ : ∃ z, z = mr u 2 (va_cpy (u 111) (u 2) 0 0 600) := ⟨_, rfl⟩
  refine J_copyb (sp := 0) (dp := 0) (nn := 600) dX7_copy_13 k1253 k686 k685 k104 wc_111 wc_2 (by decide) (by decide) (by decide) (by decide) (by decide) (fun i _ => hp3 _) (Nat.le_trans (by decide) hd) (Nat.le_of_ble_eq_true rfl) (wsr e2 wk_2 rfl) ?_
  replace E := xq_le e2 E
  refine J_aload_n (i := 0) (j := 0) dX7_copy_16 rfl rfl ?_
  refine J_aload_n (i := 1) (j := 1) dX7_copy_17 rfl rfl ?_
  refine J_get (C := RX7) (T := TX7) (Z := 8) (ci := 7) (f := 1) dX7_copy_18 inG7 rfl (by decide) k188 wc_110 rfl ?_
  refine J_ci (v := u 110 1) (congrFun (mr_c e2 (Nat.ne_of_beq_eq_false rfl)) 1) ?_
  obtain ⟨u3, e4⟩ : ∃ z, z = ms u1 1 1 (u 110 1) := ⟨_, rfl⟩
  refine J_put (C := RX7) (T := TX7) (Z := 8) (ci := 7) (f := 1) (ty0 := tyX7) dX7_copy_21 inG7 rfl tyX7_ok nmX7 (by decide) k188 rfl rfl wc_1 (Nat.le_of_ble_eq_true rfl) (fun _ _ => ⟨rfl, rfl⟩) (ws e4 wk_1 rfl) ?_
  replace E := xq_le e4 E
  refine J_aload_n (i := 0) (j := 0) dX7_copy_24 rfl rfl ?_
  refine J_aload_n (i := 1) (j := 1) dX7_copy_25 rfl rfl ?_
  refine J_get (C := RX7) (T := TX7) (Z := 8) (ci := 7) (f := 2) dX7_copy_26 inG7 rfl (by decide) k190 wc_110 rfl ?_
  refine J_ci (v := u 110 2) ((congrFun (ms_c e4 (Nat.ne_of_beq_eq_false rfl)) 2).trans (congrFun (mr_c e2 (Nat.ne_of_beq_eq_false rfl)) 2)) ?_
  obtain ⟨u5, e6⟩ : ∃ z, z = ms u3 1 2 (u 110 2) := ⟨_, rfl⟩
  refine J_put (C := RX7) (T := TX7) (Z := 8) (ci := 7) (f := 2) (ty0 := tyX7) dX7_copy_29 inG7 rfl tyX7_ok nmX7 (by decide) k190 rfl rfl wc_1 (Nat.le_of_ble_eq_true rfl) (fun _ _ => ⟨rfl, rfl⟩) (ws e6 wk_1 rfl) ?_
  replace E := xq_le e6 E
  refine J_aload_n (i := 0) (j := 0) dX7_copy_32 rfl rfl ?_
  refine J_aload_n (i := 1) (j := 1) dX7_copy_33 rfl rfl ?_
  refine J_get (C := RX7) (T := TX7) (Z := 8) (ci := 7) (f := 3) dX7_copy_34 inG7 rfl (by decide) k192 wc_110 rfl ?_
  refine J_ci (v := u 110 3) ((congrFun (ms_c e6 (Nat.ne_of_beq_eq_false rfl)) 3).trans ((congrFun (ms_c e4 (Nat.ne_of_beq_eq_false rfl)) 3).trans (congrFun (mr_c e2 (Nat.ne_of_beq_eq_false rfl)) 3))) ?_
  obtain ⟨u7, e8⟩ : ∃ z, z = ms u5 1 3 (u 110 3) := ⟨_, rfl⟩
  refine J_put (C := RX7) (T := TX7) (Z := 8) (ci := 7) (f := 3) (ty0 := tyX7) dX7_copy_37 inG7 rfl tyX7_ok nmX7 (by decide) k192 rfl rfl wc_1 (Nat.le_of_ble_eq_true rfl) (fun _ _ => ⟨rfl, rfl⟩) (ws e8 wk_1 rfl) ?_
  replace E := xq_le e8 E
  refine J_aload_n (i := 0) (j := 0) dX7_copy_40 rfl rfl ?_
  refine J_aload_n (i := 1) (j := 1) dX7_copy_41 rfl rfl ?_
  refine J_get (C := RX7) (T := TX7) (Z := 8) (ci := 7) (f := 5) dX7_copy_42 inG7 rfl (by decide) k196 wc_110 rfl ?_
  refine J_ci (v := u 110 5) ((congrFun (ms_c e8 (Nat.ne_of_beq_eq_false rfl)) 5).trans ((congrFun (ms_c e6 (Nat.ne_of_beq_eq_false rfl)) 5).trans ((congrFun (ms_c e4 (Nat.ne_of_beq_eq_false rfl)) 5).trans (congrFun (mr_c e2 (Nat.ne_of_beq_eq_false rfl)) 5)))) ?_
  obtain ⟨u9, e10⟩ : ∃ z, z = ms u7 1 5 (u 110 5) := ⟨_, rfl⟩
  refine J_put (C := RX7) (T := TX7) (Z := 8) (ci := 7) (f := 5) (ty0 := tyX7) dX7_copy_45 inG7 rfl tyX7_ok nmX7 (by decide) k196 rfl rfl wc_1 (Nat.le_of_ble_eq_true rfl) (fun _ _ => ⟨rfl, rfl⟩) (ws e10 wk_1 rfl) ?_
  replace E := xq_le e10 E
  refine J_aload_n (i := 0) (j := 0) dX7_copy_48 rfl rfl ?_
  refine J_aload_n (i := 1) (j := 1) dX7_copy_49 rfl rfl ?_
  refine J_get (C := RX7) (T := TX7) (Z := 8) (ci := 7) (f := 7) dX7_copy_50 inG7 rfl (by decide) k200 wc_110 rfl ?_
  refine J_ci (v := u 110 7) ((congrFun (ms_c e10 (Nat.ne_of_beq_eq_false rfl)) 7).trans ((congrFun (ms_c e8 (Nat.ne_of_beq_eq_false rfl)) 7).trans ((congrFun (ms_c e6 (Nat.ne_of_beq_eq_false rfl)) 7).trans ((congrFun (ms_c e4 (Nat.ne_of_beq_eq_false rfl)) 7).trans (congrFun (mr_c e2 (Nat.ne_of_beq_eq_false rfl)) 7))))) ?_
  obtain ⟨u11, e12⟩ : ∃ z, z = ms u9 1 7 (u 110 7) := ⟨_, rfl⟩
  refine J_put (C := RX7) (T := TX7) (Z := 8) (ci := 7) (f := 7) (ty0 := tyX7) dX7_copy_53 inG7 rfl tyX7_ok nmX7 (by decide) k200 rfl rfl wc_1 (Nat.le_of_ble_eq_true rfl) (fun _ _ => ⟨rfl, rfl⟩) (ws e12 wk_1 rfl) ?_
  replace E := xq_le e12 E
  refine J_iconst (v := 0) dX7_copy_56 (by decide) ?_
  refine J_istore_n (i := 2) (lw := [(2, .int 0), (0, .ref 1), (1, .ref 110)]) dX7_copy_57 rfl (by decide) rfl ?_
  have lp471 : ∀ (n472 : Nat) (w267 : Int32) (u268 : Nat → Nat → Int32), Bd 0 2 w267 → (∀ c, nin c [(5, 14)] = true → u268 c = u11 c) → (∀ j, j ≠ 0 → j ≠ 2 → u268 10 j = u11 10 j) → Bd 0 9 (u268 10 0) → Bd 0 4 (u268 10 2) → AB u268 11 (-1) 999 → (∀ j, j ≠ 0 → j ≠ 2 → u268 5 j = u11 5 j) → Bd 0 9 (u268 5 0) → Bd 0 4 (u268 5 2) → AB u268 6 (-1) 999 → (2 - w267.toInt).toNat < n472 → Fx_T_copyR_1_110X_L58 g n472 w267 u268 = Fx_T_copyR_1_110X u g → J x yX7_copy cX7_copy 3 none d 0 0 (Wd u g ex).length 58 [(0, .ref 1), (1, .ref 110), (2, .int w267)] [] (Wd u268 g ex) 0 0 := by
    intro n472
    induction n472 with
    | zero => intro w267 u268 bw267 fr269 fc270 bm271 bm272 ab273 fc274 bm275 bm276 ab277 hm474 _; exact absurd hm474 (Nat.not_lt_zero _)
    | succ n472 ih473 =>
      intro w267 u268 bw267 fr269 fc270 bm271 bm272 ab273 fc274 bm275 bm276 ab277 hm474 E
      replace E := Fx_T_copyR_1_110X_L58_s.symm.trans E
      refine J_iload_n (i := 2) (j := 2) dX7_copy_58 rfl rfl ?_
      refine J_iconst (v := 2) dX7_copy_59 (by decide) ?_
      refine J_icmp_ge (tgt := 84) dX7_copy_60 (by decide) (fun c475 => ?_) (fun c475 => ?_)
      · replace E := xq_ep c475 E
        refine J_iconst (v := 0) dX7_copy_84 (by decide) ?_
        refine J_istore_n (i := 2) (lw := [(2, .int 0), (0, .ref 1), (1, .ref 110)]) dX7_copy_85 rfl (by decide) rfl ?_
        have lp624 : ∀ (n625 : Nat) (w589 : Int32) (u590 : Nat → Nat → Int32), Bd 0 3 w589 → (∀ c, nin c [(15, 26)] = true → u590 c = u268 c) → (∀ j, j ≠ 0 → u590 15 j = u268 15 j) → Bd 0 12 (u590 15 0) → (∀ j, j ≠ 0 → u590 19 j = u268 19 j) → Bd 0 12 (u590 19 0) → (∀ j, j ≠ 0 → u590 23 j = u268 23 j) → Bd 0 12 (u590 23 0) → KM u590 15 → KM u590 19 → KM u590 23 → (3 - w589.toInt).toNat < n625 → Fx_T_copyR_1_110X_L86 g n625 w589 u590 = Fx_T_copyR_1_110X u g → J x yX7_copy cX7_copy 3 none d 0 0 (Wd u g ex).length 86 [(0, .ref 1), (1, .ref 110), (2, .int w589)] [] (Wd u590 g ex) 0 0 := by
          intro n625
          induction n625 with
          | zero => intro w589 u590 bw589 fr591 fc592 bm593 fc594 bm595 fc596 bm597 km598 km599 km600 hm627 _; exact absurd hm627 (Nat.not_lt_zero _)
          | succ n625 ih626 =>
            intro w589 u590 bw589 fr591 fc592 bm593 fc594 bm595 fc596 bm597 km598 km599 km600 hm627 E
            replace E := Fx_T_copyR_1_110X_L86_s.symm.trans E
            refine J_iload_n (i := 2) (j := 2) dX7_copy_86 rfl rfl ?_
            refine J_iconst (v := 3) dX7_copy_87 (by decide) ?_
            refine J_icmp_ge (tgt := 112) dX7_copy_88 (by decide) (fun c628 => ?_) (fun c628 => ?_)
            · replace E := xq_ep c628 E
              exact J_vret hq dX7_copy_112 rfl wlen (Nat.le_refl _) (Nat.le_refl _) ⟨u590, rfl, rfl, (bd_r ((congrFun (fr591 1 rfl) 1).trans ((congrFun (fr269 1 rfl) 1).trans ((ms_i e12 (Nat.ne_of_beq_eq_false rfl)).trans ((ms_i e10 (Nat.ne_of_beq_eq_false rfl)).trans ((ms_i e8 (Nat.ne_of_beq_eq_false rfl)).trans ((ms_i e6 (Nat.ne_of_beq_eq_false rfl)).trans (ms_e e4))))))) hp0), (bd_r ((congrFun (fr591 1 rfl) 5).trans ((congrFun (fr269 1 rfl) 5).trans ((ms_i e12 (Nat.ne_of_beq_eq_false rfl)).trans (ms_e e10)))) hp1), (bd_r ((congrFun (fr591 1 rfl) 7).trans ((congrFun (fr269 1 rfl) 7).trans (ms_e e12))) hp2), (bf_c ((fr591 2 rfl).trans ((fr269 2 rfl).trans ((ms_c e12 (Nat.ne_of_beq_eq_false rfl)).trans ((ms_c e10 (Nat.ne_of_beq_eq_false rfl)).trans ((ms_c e8 (Nat.ne_of_beq_eq_false rfl)).trans ((ms_c e6 (Nat.ne_of_beq_eq_false rfl)).trans (ms_c e4 (Nat.ne_of_beq_eq_false rfl)))))))) (bf_cp e2 hp3 hp19)), (bd_r (congrFun (fr591 5 rfl) 0) bm275), (bd_r (congrFun (fr591 5 rfl) 2) bm276), (bd_r (congrFun (fr591 10 rfl) 0) bm271), (bd_r (congrFun (fr591 10 rfl) 2) bm272), (ab_c (fr591 6 rfl) ab277), (ab_c (fr591 11 rfl) ab273), bm593, bm595, bm597, km598, km599, km600, ((congrFun (fr591 1 rfl) 1).trans ((congrFun (fr269 1 rfl) 1).trans ((ms_i e12 (Nat.ne_of_beq_eq_false rfl)).trans ((ms_i e10 (Nat.ne_of_beq_eq_false rfl)).trans ((ms_i e8 (Nat.ne_of_beq_eq_false rfl)).trans ((ms_i e6 (Nat.ne_of_beq_eq_false rfl)).trans (ms_e e4))))))), E, (fun c k_ => ((fr591 c (nin_sub (M := [(15, 26)]) k_ rfl)).trans ((fr269 c (nin_sub (M := [(5, 14)]) k_ rfl)).trans ((ms_c e12 (nin_ne (a := 1) k_ rfl)).trans ((ms_c e10 (nin_ne (a := 1) k_ rfl)).trans ((ms_c e8 (nin_ne (a := 1) k_ rfl)).trans ((ms_c e6 (nin_ne (a := 1) k_ rfl)).trans ((ms_c e4 (nin_ne (a := 1) k_ rfl)).trans (mr_c e2 (nin_ne (a := 2) k_ rfl)))))))))), (fun j k1_ k2_ k3_ k5_ k7_ => ((congrFun (fr591 1 rfl) j).trans ((congrFun (fr269 1 rfl) j).trans ((ms_i e12 k7_).trans ((ms_i e10 k5_).trans ((ms_i e8 k3_).trans ((ms_i e6 k2_).trans ((ms_i e4 k1_).trans (congrFun (mr_c e2 (Nat.ne_of_beq_eq_false rfl)) j))))))))), (fun j k0_ k2_ => ((congrFun (fr591 5 rfl) j).trans ((fc274 j k0_ k2_).trans ((congrFun (ms_c e12 (Nat.ne_of_beq_eq_false rfl)) j).trans ((congrFun (ms_c e10 (Nat.ne_of_beq_eq_false rfl)) j).trans ((congrFun (ms_c e8 (Nat.ne_of_beq_eq_false rfl)) j).trans ((congrFun (ms_c e6 (Nat.ne_of_beq_eq_false rfl)) j).trans ((congrFun (ms_c e4 (Nat.ne_of_beq_eq_false rfl)) j).trans (congrFun (mr_c e2 (Nat.ne_of_beq_eq_false rfl)) j))))))))), (fun j k0_ k2_ => ((congrFun (fr591 10 rfl) j).trans ((fc270 j k0_ k2_).trans ((congrFun (ms_c e12 (Nat.ne_of_beq_eq_false rfl)) j).trans ((congrFun (ms_c e10 (Nat.ne_of_beq_eq_false rfl)) j).trans ((congrFun (ms_c e8 (Nat.ne_of_beq_eq_false rfl)) j).trans ((congrFun (ms_c e6 (Nat.ne_of_beq_eq_false rfl)) j).trans ((congrFun (ms_c e4 (Nat.ne_of_beq_eq_false rfl)) j).trans (congrFun (mr_c e2 (Nat.ne_of_beq_eq_false rfl)) j))))))))), (fun j k0_ => ((fc592 j k0_).trans ((congrFun (fr269 15 rfl) j).trans ((congrFun (ms_c e12 (Nat.ne_of_beq_eq_false rfl)) j).trans ((congrFun (ms_c e10 (Nat.ne_of_beq_eq_false rfl)) j).trans ((congrFun (ms_c e8 (Nat.ne_of_beq_eq_false rfl)) j).trans ((congrFun (ms_c e6 (Nat.ne_of_beq_eq_false rfl)) j).trans ((congrFun (ms_c e4 (Nat.ne_of_beq_eq_false rfl)) j).trans (congrFun (mr_c e2 (Nat.ne_of_beq_eq_false rfl)) j))))))))), (fun j k0_ => ((fc594 j k0_).trans ((congrFun (fr269 19 rfl) j).trans ((congrFun (ms_c e12 (Nat.ne_of_beq_eq_false rfl)) j).trans ((congrFun (ms_c e10 (Nat.ne_of_beq_eq_false rfl)) j).trans ((congrFun (ms_c e8 (Nat.ne_of_beq_eq_false rfl)) j).trans ((congrFun (ms_c e6 (Nat.ne_of_beq_eq_false rfl)) j).trans ((congrFun (ms_c e4 (Nat.ne_of_beq_eq_false rfl)) j).trans (congrFun (mr_c e2 (Nat.ne_of_beq_eq_false rfl)) j))))))))), (fun j k0_ => ((fc596 j k0_).trans ((congrFun (fr269 23 rfl) j).trans ((congrFun (ms_c e12 (Nat.ne_of_beq_eq_false rfl)) j).trans ((congrFun (ms_c e10 (Nat.ne_of_beq_eq_false rfl)) j).trans ((congrFun (ms_c e8 (Nat.ne_of_beq_eq_false rfl)) j).trans ((congrFun (ms_c e6 (Nat.ne_of_beq_eq_false rfl)) j).trans ((congrFun (ms_c e4 (Nat.ne_of_beq_eq_false rfl)) j).trans (congrFun (mr_c e2 (Nat.ne_of_beq_eq_false rfl)) j)))))))))⟩
            · replace E := xq_en c628 E
              refine J_aload_n (i := 0) (j := 0) dX7_copy_91 rfl rfl ?_
              refine J_get (C := RX7) (T := TX7) (Z := 8) (ci := 7) (f := 6) dX7_copy_92 inG7 rfl (by decide) k198 wc_1 rfl ?_
              refine J_iload_n (i := 2) (j := 2) dX7_copy_95 rfl rfl ?_
              have h629 := bd_cases3 (bd_lt_hi bw589 (i_nle c628) (bd_c (v := 3) (lo := 3) (hi := 3) (by decide)))
              rcases h629 with h629_0 | h629_1 | h629_2
              · replace E := xq_ep h629_0 E
                refine J_aald (q := 15) dX7_copy_96 wc_4 (fun _ => rfl) (vin (bd_lt_hi bw589 (i_nle c628) (bd_c (v := 3) (lo := 3) (hi := 3) (by decide))) (by decide)) (by rw [h629_0]; rfl) ?_
                refine J_aload_n (i := 1) (j := 1) dX7_copy_97 rfl rfl ?_
                refine J_get (C := RX7) (T := TX7) (Z := 8) (ci := 7) (f := 6) dX7_copy_98 inG7 rfl (by decide) k198 wc_110 rfl ?_
                refine J_iload_n (i := 2) (j := 2) dX7_copy_101 rfl rfl ?_
                refine J_aald (q := 124) dX7_copy_102 wc_113 (fun _ => rfl) (vin (bd_r h629_0 (bd_c (v := 0) (lo := 0) (hi := 0) (by decide))) (by decide)) (by rw [h629_0]; rfl) ?_
                refine J_callV (As := [.ref 124]) (rest := []) dX7_copy_103 (c_W_copyK_15_124X (d := 1) (u := u590) (g := g) (ex := ex)   (by decide) (bd_r ((congrFun (fr591 124 rfl) 0).trans ((congrFun (fr269 124 rfl) 0).trans ((congrFun (ms_c e12 (Nat.ne_of_beq_eq_false rfl)) 0).trans ((congrFun (ms_c e10 (Nat.ne_of_beq_eq_false rfl)) 0).trans ((congrFun (ms_c e8 (Nat.ne_of_beq_eq_false rfl)) 0).trans ((congrFun (ms_c e6 (Nat.ne_of_beq_eq_false rfl)) 0).trans ((congrFun (ms_c e4 (Nat.ne_of_beq_eq_false rfl)) 0).trans (congrFun (mr_c e2 (Nat.ne_of_beq_eq_false rfl)) 0)))))))) hp10) (km_c ((fr591 125 rfl).trans ((fr269 125 rfl).trans ((ms_c e12 (Nat.ne_of_beq_eq_false rfl)).trans ((ms_c e10 (Nat.ne_of_beq_eq_false rfl)).trans ((ms_c e8 (Nat.ne_of_beq_eq_false rfl)).trans ((ms_c e6 (Nat.ne_of_beq_eq_false rfl)).trans ((ms_c e4 (Nat.ne_of_beq_eq_false rfl)).trans (mr_c e2 (Nat.ne_of_beq_eq_false rfl))))))))) ((fr591 127 rfl).trans ((fr269 127 rfl).trans ((ms_c e12 (Nat.ne_of_beq_eq_false rfl)).trans ((ms_c e10 (Nat.ne_of_beq_eq_false rfl)).trans ((ms_c e8 (Nat.ne_of_beq_eq_false rfl)).trans ((ms_c e6 (Nat.ne_of_beq_eq_false rfl)).trans ((ms_c e4 (Nat.ne_of_beq_eq_false rfl)).trans (mr_c e2 (Nat.ne_of_beq_eq_false rfl))))))))) hp13) km598) hq.n k690 k691 k692 wc_15 rfl rfl k90 k693 np_X8_copy (Nat.le_trans (by decide) hd) (by decide) (Nat.le_refl _) (Nat.le_refl _) wlen rfl (Nat.le_of_ble_eq_true rfl) (fun r_ h_ p630 => ?_)
                obtain ⟨u631, rfl, rfl, h632, h633, hx634, fr635, fc636⟩ := p630
                replace E := xq_le hx634 E
                refine J_iinc (i := 2) (j := 2) (v := (w589 + 1)) (lw := [(2, .int (w589 + 1)), (0, .ref 1), (1, .ref 110)]) dX7_copy_106 rfl rfl (by decide) rfl ?_
                refine J_goto (tgt := 86) dX7_copy_109 (by decide) ?_
                refine J_lv [1, 2, 0] rfl ?_
                exact ih626 (w589 + 1) u631 (bd_w (l := 0) (h := 3) (bd_add (l := 1) (h := 1) (bd_r h629_0 (bd_c (v := 0) (lo := 0) (hi := 0) (by decide))) (bd_c (v := 1) (lo := 1) (hi := 1) (by decide)) (by decide)) (by decide)) (fun c k_ => ((fr635 c (nin_sub (M := [(15, 18)]) k_ rfl)).trans (fr591 c (nin_sub (M := [(15, 26)]) k_ rfl)))) (fun j k0_ => ((fc636 j k0_).trans (fc592 j k0_))) h632 (fun j k0_ => ((congrFun (fr635 19 rfl) j).trans (fc594 j k0_))) (bd_r (congrFun (fr635 19 rfl) 0) bm595) (fun j k0_ => ((congrFun (fr635 23 rfl) j).trans (fc596 j k0_))) (bd_r (congrFun (fr635 23 rfl) 0) bm597) h633 (km_c (fr635 20 rfl) (fr635 22 rfl) km599) (km_c (fr635 24 rfl) (fr635 26 rfl) km600) (mu_up 1 bw589 rfl (by decide) (bd_w (l := 1) (h := 3) (bd_add (l := 1) (h := 1) (bd_r h629_0 (bd_c (v := 0) (lo := 0) (hi := 0) (by decide))) (bd_c (v := 1) (lo := 1) (hi := 1) (by decide)) (by decide)) (by decide)) hm627) E
              · replace E := xq_en (fun z_ => absurd (z_.symm.trans h629_1) (by decide)) E
                replace E := xq_ep h629_1 E
                refine J_aald (q := 19) dX7_copy_96 wc_4 (fun _ => rfl) (vin (bd_lt_hi bw589 (i_nle c628) (bd_c (v := 3) (lo := 3) (hi := 3) (by decide))) (by decide)) (by rw [h629_1]; rfl) ?_
                refine J_aload_n (i := 1) (j := 1) dX7_copy_97 rfl rfl ?_
                refine J_get (C := RX7) (T := TX7) (Z := 8) (ci := 7) (f := 6) dX7_copy_98 inG7 rfl (by decide) k198 wc_110 rfl ?_
                refine J_iload_n (i := 2) (j := 2) dX7_copy_101 rfl rfl ?_
                refine J_aald (q := 128) dX7_copy_102 wc_113 (fun _ => rfl) (vin (bd_r h629_1 (bd_c (v := 1) (lo := 1) (hi := 1) (by decide))) (by decide)) (by rw [h629_1]; rfl) ?_
                refine J_callV (As := [.ref 128]) (rest := []) dX7_copy_103 (c_W_copyK_19_128X (d := 1) (u := u590) (g := g) (ex := ex)   (by decide) (bd_r ((congrFun (fr591 128 rfl) 0).trans ((congrFun (fr269 128 rfl) 0).trans ((congrFun (ms_c e12 (Nat.ne_of_beq_eq_false rfl)) 0).trans ((congrFun (ms_c e10 (Nat.ne_of_beq_eq_false rfl)) 0).trans ((congrFun (ms_c e8 (Nat.ne_of_beq_eq_false rfl)) 0).trans ((congrFun (ms_c e6 (Nat.ne_of_beq_eq_false rfl)) 0).trans ((congrFun (ms_c e4 (Nat.ne_of_beq_eq_false rfl)) 0).trans (congrFun (mr_c e2 (Nat.ne_of_beq_eq_false rfl)) 0)))))))) hp11) (km_c ((fr591 129 rfl).trans ((fr269 129 rfl).trans ((ms_c e12 (Nat.ne_of_beq_eq_false rfl)).trans ((ms_c e10 (Nat.ne_of_beq_eq_false rfl)).trans ((ms_c e8 (Nat.ne_of_beq_eq_false rfl)).trans ((ms_c e6 (Nat.ne_of_beq_eq_false rfl)).trans ((ms_c e4 (Nat.ne_of_beq_eq_false rfl)).trans (mr_c e2 (Nat.ne_of_beq_eq_false rfl))))))))) ((fr591 131 rfl).trans ((fr269 131 rfl).trans ((ms_c e12 (Nat.ne_of_beq_eq_false rfl)).trans ((ms_c e10 (Nat.ne_of_beq_eq_false rfl)).trans ((ms_c e8 (Nat.ne_of_beq_eq_false rfl)).trans ((ms_c e6 (Nat.ne_of_beq_eq_false rfl)).trans ((ms_c e4 (Nat.ne_of_beq_eq_false rfl)).trans (mr_c e2 (Nat.ne_of_beq_eq_false rfl))))))))) hp14) km599) hq.n k690 k691 k692 wc_19 rfl rfl k90 k693 np_X8_copy (Nat.le_trans (by decide) hd) (by decide) (Nat.le_refl _) (Nat.le_refl _) wlen rfl (Nat.le_of_ble_eq_true rfl) (fun r_ h_ p637 => ?_)
                obtain ⟨u638, rfl, rfl, h639, h640, hx641, fr642, fc643⟩ := p637
                replace E := xq_le hx641 E
                refine J_iinc (i := 2) (j := 2) (v := (w589 + 1)) (lw := [(2, .int (w589 + 1)), (0, .ref 1), (1, .ref 110)]) dX7_copy_106 rfl rfl (by decide) rfl ?_
                refine J_goto (tgt := 86) dX7_copy_109 (by decide) ?_
                refine J_lv [1, 2, 0] rfl ?_
                exact ih626 (w589 + 1) u638 (bd_w (l := 0) (h := 3) (bd_add (l := 2) (h := 2) (bd_r h629_1 (bd_c (v := 1) (lo := 1) (hi := 1) (by decide))) (bd_c (v := 1) (lo := 1) (hi := 1) (by decide)) (by decide)) (by decide)) (fun c k_ => ((fr642 c (nin_sub (M := [(19, 22)]) k_ rfl)).trans (fr591 c (nin_sub (M := [(15, 26)]) k_ rfl)))) (fun j k0_ => ((congrFun (fr642 15 rfl) j).trans (fc592 j k0_))) (bd_r (congrFun (fr642 15 rfl) 0) bm593) (fun j k0_ => ((fc643 j k0_).trans (fc594 j k0_))) h639 (fun j k0_ => ((congrFun (fr642 23 rfl) j).trans (fc596 j k0_))) (bd_r (congrFun (fr642 23 rfl) 0) bm597) (km_c (fr642 16 rfl) (fr642 18 rfl) km598) h640 (km_c (fr642 24 rfl) (fr642 26 rfl) km600) (mu_up 1 bw589 rfl (by decide) (bd_w (l := 2) (h := 3) (bd_add (l := 2) (h := 2) (bd_r h629_1 (bd_c (v := 1) (lo := 1) (hi := 1) (by decide))) (bd_c (v := 1) (lo := 1) (hi := 1) (by decide)) (by decide)) (by decide)) hm627) E
              · replace E := xq_en (fun z_ => absurd (z_.symm.trans h629_2) (by decide)) E
                replace E := xq_en (fun z_ => absurd (z_.symm.trans h629_2) (by decide)) E
                refine J_aald (q := 23) dX7_copy_96 wc_4 (fun _ => rfl) (vin (bd_lt_hi bw589 (i_nle c628) (bd_c (v := 3) (lo := 3) (hi := 3) (by decide))) (by decide)) (by rw [h629_2]; rfl) ?_
                refine J_aload_n (i := 1) (j := 1) dX7_copy_97 rfl rfl ?_
                refine J_get (C := RX7) (T := TX7) (Z := 8) (ci := 7) (f := 6) dX7_copy_98 inG7 rfl (by decide) k198 wc_110 rfl ?_
                refine J_iload_n (i := 2) (j := 2) dX7_copy_101 rfl rfl ?_
                refine J_aald (q := 132) dX7_copy_102 wc_113 (fun _ => rfl) (vin (bd_r h629_2 (bd_c (v := 2) (lo := 2) (hi := 2) (by decide))) (by decide)) (by rw [h629_2]; rfl) ?_
                refine J_callV (As := [.ref 132]) (rest := []) dX7_copy_103 (c_W_copyK_23_132X (d := 1) (u := u590) (g := g) (ex := ex)   (by decide) (bd_r ((congrFun (fr591 132 rfl) 0).trans ((congrFun (fr269 132 rfl) 0).trans ((congrFun (ms_c e12 (Nat.ne_of_beq_eq_false rfl)) 0).trans ((congrFun (ms_c e10 (Nat.ne_of_beq_eq_false rfl)) 0).trans ((congrFun (ms_c e8 (Nat.ne_of_beq_eq_false rfl)) 0).trans ((congrFun (ms_c e6 (Nat.ne_of_beq_eq_false rfl)) 0).trans ((congrFun (ms_c e4 (Nat.ne_of_beq_eq_false rfl)) 0).trans (congrFun (mr_c e2 (Nat.ne_of_beq_eq_false rfl)) 0)))))))) hp12) (km_c ((fr591 133 rfl).trans ((fr269 133 rfl).trans ((ms_c e12 (Nat.ne_of_beq_eq_false rfl)).trans ((ms_c e10 (Nat.ne_of_beq_eq_false rfl)).trans ((ms_c e8 (Nat.ne_of_beq_eq_false rfl)).trans ((ms_c e6 (Nat.ne_of_beq_eq_false rfl)).trans ((ms_c e4 (Nat.ne_of_beq_eq_false rfl)).trans (mr_c e2 (Nat.ne_of_beq_eq_false rfl))))))))) ((fr591 135 rfl).trans ((fr269 135 rfl).trans ((ms_c e12 (Nat.ne_of_beq_eq_false rfl)).trans ((ms_c e10 (Nat.ne_of_beq_eq_false rfl)).trans ((ms_c e8 (Nat.ne_of_beq_eq_false rfl)).trans ((ms_c e6 (Nat.ne_of_beq_eq_false rfl)).trans ((ms_c e4 (Nat.ne_of_beq_eq_false rfl)).trans (mr_c e2 (Nat.ne_of_beq_eq_false rfl))))))))) hp15) km600) hq.n k690 k691 k692 wc_23 rfl rfl k90 k693 np_X8_copy (Nat.le_trans (by decide) hd) (by decide) (Nat.le_refl _) (Nat.le_refl _) wlen rfl (Nat.le_of_ble_eq_true rfl) (fun r_ h_ p644 => ?_)
                obtain ⟨u645, rfl, rfl, h646, h647, hx648, fr649, fc650⟩ := p644
                replace E := xq_le hx648 E
                refine J_iinc (i := 2) (j := 2) (v := (w589 + 1)) (lw := [(2, .int (w589 + 1)), (0, .ref 1), (1, .ref 110)]) dX7_copy_106 rfl rfl (by decide) rfl ?_
                refine J_goto (tgt := 86) dX7_copy_109 (by decide) ?_
                refine J_lv [1, 2, 0] rfl ?_
                exact ih626 (w589 + 1) u645 (bd_w (l := 0) (h := 3) (bd_add (l := 3) (h := 3) (bd_r h629_2 (bd_c (v := 2) (lo := 2) (hi := 2) (by decide))) (bd_c (v := 1) (lo := 1) (hi := 1) (by decide)) (by decide)) (by decide)) (fun c k_ => ((fr649 c (nin_sub (M := [(23, 26)]) k_ rfl)).trans (fr591 c (nin_sub (M := [(15, 26)]) k_ rfl)))) (fun j k0_ => ((congrFun (fr649 15 rfl) j).trans (fc592 j k0_))) (bd_r (congrFun (fr649 15 rfl) 0) bm593) (fun j k0_ => ((congrFun (fr649 19 rfl) j).trans (fc594 j k0_))) (bd_r (congrFun (fr649 19 rfl) 0) bm595) (fun j k0_ => ((fc650 j k0_).trans (fc596 j k0_))) h646 (km_c (fr649 16 rfl) (fr649 18 rfl) km598) (km_c (fr649 20 rfl) (fr649 22 rfl) km599) h647 (mu_up 1 bw589 rfl (by decide) (bd_w (l := 3) (h := 3) (bd_add (l := 3) (h := 3) (bd_r h629_2 (bd_c (v := 2) (lo := 2) (hi := 2) (by decide))) (bd_c (v := 1) (lo := 1) (hi := 1) (by decide)) (by decide)) (by decide)) hm627) E
        refine J_lv [1, 2, 0] rfl ?_
        exact lp624 ((3 - (0 : Int32).toInt).toNat + 1) (0 : Int32) u268 (bd_w (l := 0) (h := 3) (bd_c (v := 0) (lo := 0) (hi := 0) (by decide)) (by decide)) (fun c k_ => rfl) (fun j k0_ => rfl) (bd_r ((congrFun (fr269 15 rfl) 0).trans ((congrFun (ms_c e12 (Nat.ne_of_beq_eq_false rfl)) 0).trans ((congrFun (ms_c e10 (Nat.ne_of_beq_eq_false rfl)) 0).trans ((congrFun (ms_c e8 (Nat.ne_of_beq_eq_false rfl)) 0).trans ((congrFun (ms_c e6 (Nat.ne_of_beq_eq_false rfl)) 0).trans ((congrFun (ms_c e4 (Nat.ne_of_beq_eq_false rfl)) 0).trans (congrFun (mr_c e2 (Nat.ne_of_beq_eq_false rfl)) 0))))))) hp26) (fun j k0_ => rfl) (bd_r ((congrFun (fr269 19 rfl) 0).trans ((congrFun (ms_c e12 (Nat.ne_of_beq_eq_false rfl)) 0).trans ((congrFun (ms_c e10 (Nat.ne_of_beq_eq_false rfl)) 0).trans ((congrFun (ms_c e8 (Nat.ne_of_beq_eq_false rfl)) 0).trans ((congrFun (ms_c e6 (Nat.ne_of_beq_eq_false rfl)) 0).trans ((congrFun (ms_c e4 (Nat.ne_of_beq_eq_false rfl)) 0).trans (congrFun (mr_c e2 (Nat.ne_of_beq_eq_false rfl)) 0))))))) hp27) (fun j k0_ => rfl) (bd_r ((congrFun (fr269 23 rfl) 0).trans ((congrFun (ms_c e12 (Nat.ne_of_beq_eq_false rfl)) 0).trans ((congrFun (ms_c e10 (Nat.ne_of_beq_eq_false rfl)) 0).trans ((congrFun (ms_c e8 (Nat.ne_of_beq_eq_false rfl)) 0).trans ((congrFun (ms_c e6 (Nat.ne_of_beq_eq_false rfl)) 0).trans ((congrFun (ms_c e4 (Nat.ne_of_beq_eq_false rfl)) 0).trans (congrFun (mr_c e2 (Nat.ne_of_beq_eq_false rfl)) 0))))))) hp28) (km_c ((fr269 16 rfl).trans ((ms_c e12 (Nat.ne_of_beq_eq_false rfl)).trans ((ms_c e10 (Nat.ne_of_beq_eq_false rfl)).trans ((ms_c e8 (Nat.ne_of_beq_eq_false rfl)).trans ((ms_c e6 (Nat.ne_of_beq_eq_false rfl)).trans ((ms_c e4 (Nat.ne_of_beq_eq_false rfl)).trans (mr_c e2 (Nat.ne_of_beq_eq_false rfl)))))))) ((fr269 18 rfl).trans ((ms_c e12 (Nat.ne_of_beq_eq_false rfl)).trans ((ms_c e10 (Nat.ne_of_beq_eq_false rfl)).trans ((ms_c e8 (Nat.ne_of_beq_eq_false rfl)).trans ((ms_c e6 (Nat.ne_of_beq_eq_false rfl)).trans ((ms_c e4 (Nat.ne_of_beq_eq_false rfl)).trans (mr_c e2 (Nat.ne_of_beq_eq_false rfl)))))))) hp29) (km_c ((fr269 20 rfl).trans ((ms_c e12 (Nat.ne_of_beq_eq_false rfl)).trans ((ms_c e10 (Nat.ne_of_beq_eq_false rfl)).trans ((ms_c e8 (Nat.ne_of_beq_eq_false rfl)).trans ((ms_c e6 (Nat.ne_of_beq_eq_false rfl)).trans ((ms_c e4 (Nat.ne_of_beq_eq_false rfl)).trans (mr_c e2 (Nat.ne_of_beq_eq_false rfl)))))))) ((fr269 22 rfl).trans ((ms_c e12 (Nat.ne_of_beq_eq_false rfl)).trans ((ms_c e10 (Nat.ne_of_beq_eq_false rfl)).trans ((ms_c e8 (Nat.ne_of_beq_eq_false rfl)).trans ((ms_c e6 (Nat.ne_of_beq_eq_false rfl)).trans ((ms_c e4 (Nat.ne_of_beq_eq_false rfl)).trans (mr_c e2 (Nat.ne_of_beq_eq_false rfl)))))))) hp30) (km_c ((fr269 24 rfl).trans ((ms_c e12 (Nat.ne_of_beq_eq_false rfl)).trans ((ms_c e10 (Nat.ne_of_beq_eq_false rfl)).trans ((ms_c e8 (Nat.ne_of_beq_eq_false rfl)).trans ((ms_c e6 (Nat.ne_of_beq_eq_false rfl)).trans ((ms_c e4 (Nat.ne_of_beq_eq_false rfl)).trans (mr_c e2 (Nat.ne_of_beq_eq_false rfl)))))))) ((fr269 26 rfl).trans ((ms_c e12 (Nat.ne_of_beq_eq_false rfl)).trans ((ms_c e10 (Nat.ne_of_beq_eq_false rfl)).trans ((ms_c e8 (Nat.ne_of_beq_eq_false rfl)).trans ((ms_c e6 (Nat.ne_of_beq_eq_false rfl)).trans ((ms_c e4 (Nat.ne_of_beq_eq_false rfl)).trans (mr_c e2 (Nat.ne_of_beq_eq_false rfl)))))))) hp31) (Nat.lt_succ_self _) E
      · replace E := xq_en c475 E
        refine J_aload_n (i := 0) (j := 0) dX7_copy_63 rfl rfl ?_
        refine J_get (C := RX7) (T := TX7) (Z := 8) (ci := 7) (f := 4) dX7_copy_64 inG7 rfl (by decide) k194 wc_1 rfl ?_
        refine J_iload_n (i := 2) (j := 2) dX7_copy_67 rfl rfl ?_
        have h651 := bd_cases2 (bd_lt_hi bw267 (i_nle c475) (bd_c (v := 2) (lo := 2) (hi := 2) (by decide)))
        rcases h651 with h651_0 | h651_1
        · replace E := xq_ep h651_0 E
          refine J_aald (q := 5) dX7_copy_68 wc_3 (fun _ => rfl) (vin (bd_lt_hi bw267 (i_nle c475) (bd_c (v := 2) (lo := 2) (hi := 2) (by decide))) (by decide)) (by rw [h651_0]; rfl) ?_
          refine J_aload_n (i := 1) (j := 1) dX7_copy_69 rfl rfl ?_
          refine J_get (C := RX7) (T := TX7) (Z := 8) (ci := 7) (f := 4) dX7_copy_70 inG7 rfl (by decide) k194 wc_110 rfl ?_
          refine J_iload_n (i := 2) (j := 2) dX7_copy_73 rfl rfl ?_
          refine J_aald (q := 114) dX7_copy_74 wc_112 (fun _ => rfl) (vin (bd_r h651_0 (bd_c (v := 0) (lo := 0) (hi := 0) (by decide))) (by decide)) (by rw [h651_0]; rfl) ?_
          refine J_callV (As := [.ref 114]) (rest := []) dX7_copy_75 (c_H_copyBX (d := 1) (u := u268) (g := g) (ex := ex)  (t := 5) (f := 114) (by decide) (by decide) (by decide) (Nat.ne_of_beq_eq_false rfl) (bd_r ((congrFun (fr269 114 rfl) 0).trans ((congrFun (ms_c e12 (Nat.ne_of_beq_eq_false rfl)) 0).trans ((congrFun (ms_c e10 (Nat.ne_of_beq_eq_false rfl)) 0).trans ((congrFun (ms_c e8 (Nat.ne_of_beq_eq_false rfl)) 0).trans ((congrFun (ms_c e6 (Nat.ne_of_beq_eq_false rfl)) 0).trans ((congrFun (ms_c e4 (Nat.ne_of_beq_eq_false rfl)) 0).trans (congrFun (mr_c e2 (Nat.ne_of_beq_eq_false rfl)) 0))))))) hp4) (bd_r ((congrFun (fr269 114 rfl) 2).trans ((congrFun (ms_c e12 (Nat.ne_of_beq_eq_false rfl)) 2).trans ((congrFun (ms_c e10 (Nat.ne_of_beq_eq_false rfl)) 2).trans ((congrFun (ms_c e8 (Nat.ne_of_beq_eq_false rfl)) 2).trans ((congrFun (ms_c e6 (Nat.ne_of_beq_eq_false rfl)) 2).trans ((congrFun (ms_c e4 (Nat.ne_of_beq_eq_false rfl)) 2).trans (congrFun (mr_c e2 (Nat.ne_of_beq_eq_false rfl)) 2))))))) hp5) ab277 (ab_c ((fr269 115 rfl).trans ((ms_c e12 (Nat.ne_of_beq_eq_false rfl)).trans ((ms_c e10 (Nat.ne_of_beq_eq_false rfl)).trans ((ms_c e8 (Nat.ne_of_beq_eq_false rfl)).trans ((ms_c e6 (Nat.ne_of_beq_eq_false rfl)).trans ((ms_c e4 (Nat.ne_of_beq_eq_false rfl)).trans (mr_c e2 (Nat.ne_of_beq_eq_false rfl)))))))) hp8)) hq.n k680 k681 k682 wc_5 rfl rfl k89 k683 np_X1_copy (Nat.le_trans (by decide) hd) (by decide) (Nat.le_refl _) (Nat.le_refl _) wlen rfl (Nat.le_of_ble_eq_true rfl) (fun r_ h_ p652 => ?_)
          obtain ⟨u653, rfl, rfl, h654, h655, h656, hx657, fr658, fc659⟩ := p652
          replace E := xq_le hx657 E
          refine J_iinc (i := 2) (j := 2) (v := (w267 + 1)) (lw := [(2, .int (w267 + 1)), (0, .ref 1), (1, .ref 110)]) dX7_copy_78 rfl rfl (by decide) rfl ?_
          refine J_goto (tgt := 58) dX7_copy_81 (by decide) ?_
          refine J_lv [1, 2, 0] rfl ?_
          exact ih473 (w267 + 1) u653 (bd_w (l := 0) (h := 2) (bd_add (l := 1) (h := 1) (bd_r h651_0 (bd_c (v := 0) (lo := 0) (hi := 0) (by decide))) (bd_c (v := 1) (lo := 1) (hi := 1) (by decide)) (by decide)) (by decide)) (fun c k_ => ((fr658 c (nin_ne (a := 5) k_ rfl) (nin_ne (a := 6) k_ rfl) (nin_ne (a := 7) k_ rfl) (nin_ne (a := 8) k_ rfl) (nin_ne (a := 9) k_ rfl)).trans (fr269 c (nin_sub (M := [(5, 14)]) k_ rfl)))) (fun j k0_ k2_ => ((congrFun (fr658 10 (Nat.ne_of_beq_eq_false rfl) (Nat.ne_of_beq_eq_false rfl) (Nat.ne_of_beq_eq_false rfl) (Nat.ne_of_beq_eq_false rfl) (Nat.ne_of_beq_eq_false rfl)) j).trans (fc270 j k0_ k2_))) (bd_r (congrFun (fr658 10 (Nat.ne_of_beq_eq_false rfl) (Nat.ne_of_beq_eq_false rfl) (Nat.ne_of_beq_eq_false rfl) (Nat.ne_of_beq_eq_false rfl) (Nat.ne_of_beq_eq_false rfl)) 0) bm271) (bd_r (congrFun (fr658 10 (Nat.ne_of_beq_eq_false rfl) (Nat.ne_of_beq_eq_false rfl) (Nat.ne_of_beq_eq_false rfl) (Nat.ne_of_beq_eq_false rfl) (Nat.ne_of_beq_eq_false rfl)) 2) bm272) (ab_c (fr658 11 (Nat.ne_of_beq_eq_false rfl) (Nat.ne_of_beq_eq_false rfl) (Nat.ne_of_beq_eq_false rfl) (Nat.ne_of_beq_eq_false rfl) (Nat.ne_of_beq_eq_false rfl)) ab273) (fun j k0_ k2_ => ((fc659 j k0_ k2_).trans (fc274 j k0_ k2_))) h654 h655 h656 (mu_up 1 bw267 rfl (by decide) (bd_w (l := 1) (h := 2) (bd_add (l := 1) (h := 1) (bd_r h651_0 (bd_c (v := 0) (lo := 0) (hi := 0) (by decide))) (bd_c (v := 1) (lo := 1) (hi := 1) (by decide)) (by decide)) (by decide)) hm474) E
        · replace E := xq_en (fun z_ => absurd (z_.symm.trans h651_1) (by decide)) E
          refine J_aald (q := 10) dX7_copy_68 wc_3 (fun _ => rfl) (vin (bd_lt_hi bw267 (i_nle c475) (bd_c (v := 2) (lo := 2) (hi := 2) (by decide))) (by decide)) (by rw [h651_1]; rfl) ?_
          refine J_aload_n (i := 1) (j := 1) dX7_copy_69 rfl rfl ?_
          refine J_get (C := RX7) (T := TX7) (Z := 8) (ci := 7) (f := 4) dX7_copy_70 inG7 rfl (by decide) k194 wc_110 rfl ?_
          refine J_iload_n (i := 2) (j := 2) dX7_copy_73 rfl rfl ?_
          refine J_aald (q := 119) dX7_copy_74 wc_112 (fun _ => rfl) (vin (bd_r h651_1 (bd_c (v := 1) (lo := 1) (hi := 1) (by decide))) (by decide)) (by rw [h651_1]; rfl) ?_
          refine J_callV (As := [.ref 119]) (rest := []) dX7_copy_75 (c_H_copyBX (d := 1) (u := u268) (g := g) (ex := ex)  (t := 10) (f := 119) (by decide) (by decide) (by decide) (Nat.ne_of_beq_eq_false rfl) (bd_r ((congrFun (fr269 119 rfl) 0).trans ((congrFun (ms_c e12 (Nat.ne_of_beq_eq_false rfl)) 0).trans ((congrFun (ms_c e10 (Nat.ne_of_beq_eq_false rfl)) 0).trans ((congrFun (ms_c e8 (Nat.ne_of_beq_eq_false rfl)) 0).trans ((congrFun (ms_c e6 (Nat.ne_of_beq_eq_false rfl)) 0).trans ((congrFun (ms_c e4 (Nat.ne_of_beq_eq_false rfl)) 0).trans (congrFun (mr_c e2 (Nat.ne_of_beq_eq_false rfl)) 0))))))) hp6) (bd_r ((congrFun (fr269 119 rfl) 2).trans ((congrFun (ms_c e12 (Nat.ne_of_beq_eq_false rfl)) 2).trans ((congrFun (ms_c e10 (Nat.ne_of_beq_eq_false rfl)) 2).trans ((congrFun (ms_c e8 (Nat.ne_of_beq_eq_false rfl)) 2).trans ((congrFun (ms_c e6 (Nat.ne_of_beq_eq_false rfl)) 2).trans ((congrFun (ms_c e4 (Nat.ne_of_beq_eq_false rfl)) 2).trans (congrFun (mr_c e2 (Nat.ne_of_beq_eq_false rfl)) 2))))))) hp7) ab273 (ab_c ((fr269 120 rfl).trans ((ms_c e12 (Nat.ne_of_beq_eq_false rfl)).trans ((ms_c e10 (Nat.ne_of_beq_eq_false rfl)).trans ((ms_c e8 (Nat.ne_of_beq_eq_false rfl)).trans ((ms_c e6 (Nat.ne_of_beq_eq_false rfl)).trans ((ms_c e4 (Nat.ne_of_beq_eq_false rfl)).trans (mr_c e2 (Nat.ne_of_beq_eq_false rfl)))))))) hp9)) hq.n k680 k681 k682 wc_10 rfl rfl k89 k683 np_X1_copy (Nat.le_trans (by decide) hd) (by decide) (Nat.le_refl _) (Nat.le_refl _) wlen rfl (Nat.le_of_ble_eq_true rfl) (fun r_ h_ p660 => ?_)
          obtain ⟨u661, rfl, rfl, h662, h663, h664, hx665, fr666, fc667⟩ := p660
          replace E := xq_le hx665 E
          refine J_iinc (i := 2) (j := 2) (v := (w267 + 1)) (lw := [(2, .int (w267 + 1)), (0, .ref 1), (1, .ref 110)]) dX7_copy_78 rfl rfl (by decide) rfl ?_
          refine J_goto (tgt := 58) dX7_copy_81 (by decide) ?_
          refine J_lv [1, 2, 0] rfl ?_
          exact ih473 (w267 + 1) u661 (bd_w (l := 0) (h := 2) (bd_add (l := 2) (h := 2) (bd_r h651_1 (bd_c (v := 1) (lo := 1) (hi := 1) (by decide))) (bd_c (v := 1) (lo := 1) (hi := 1) (by decide)) (by decide)) (by decide)) (fun c k_ => ((fr666 c (nin_ne (a := 10) k_ rfl) (nin_ne (a := 11) k_ rfl) (nin_ne (a := 12) k_ rfl) (nin_ne (a := 13) k_ rfl) (nin_ne (a := 14) k_ rfl)).trans (fr269 c (nin_sub (M := [(5, 14)]) k_ rfl)))) (fun j k0_ k2_ => ((fc667 j k0_ k2_).trans (fc270 j k0_ k2_))) h662 h663 h664 (fun j k0_ k2_ => ((congrFun (fr666 5 (Nat.ne_of_beq_eq_false rfl) (Nat.ne_of_beq_eq_false rfl) (Nat.ne_of_beq_eq_false rfl) (Nat.ne_of_beq_eq_false rfl) (Nat.ne_of_beq_eq_false rfl)) j).trans (fc274 j k0_ k2_))) (bd_r (congrFun (fr666 5 (Nat.ne_of_beq_eq_false rfl) (Nat.ne_of_beq_eq_false rfl) (Nat.ne_of_beq_eq_false rfl) (Nat.ne_of_beq_eq_false rfl) (Nat.ne_of_beq_eq_false rfl)) 0) bm275) (bd_r (congrFun (fr666 5 (Nat.ne_of_beq_eq_false rfl) (Nat.ne_of_beq_eq_false rfl) (Nat.ne_of_beq_eq_false rfl) (Nat.ne_of_beq_eq_false rfl) (Nat.ne_of_beq_eq_false rfl)) 2) bm276) (ab_c (fr666 6 (Nat.ne_of_beq_eq_false rfl) (Nat.ne_of_beq_eq_false rfl) (Nat.ne_of_beq_eq_false rfl) (Nat.ne_of_beq_eq_false rfl) (Nat.ne_of_beq_eq_false rfl)) ab277) (mu_up 1 bw267 rfl (by decide) (bd_w (l := 2) (h := 2) (bd_add (l := 2) (h := 2) (bd_r h651_1 (bd_c (v := 1) (lo := 1) (hi := 1) (by decide))) (bd_c (v := 1) (lo := 1) (hi := 1) (by decide)) (by decide)) (by decide)) hm474) E
  refine J_lv [1, 2, 0] rfl ?_
  exact lp471 ((2 - (0 : Int32).toInt).toNat + 1) (0 : Int32) u11 (bd_w (l := 0) (h := 2) (bd_c (v := 0) (lo := 0) (hi := 0) (by decide)) (by decide)) (fun c k_ => rfl) (fun j k0_ k2_ => rfl) (bd_r ((congrFun (ms_c e12 (Nat.ne_of_beq_eq_false rfl)) 0).trans ((congrFun (ms_c e10 (Nat.ne_of_beq_eq_false rfl)) 0).trans ((congrFun (ms_c e8 (Nat.ne_of_beq_eq_false rfl)) 0).trans ((congrFun (ms_c e6 (Nat.ne_of_beq_eq_false rfl)) 0).trans ((congrFun (ms_c e4 (Nat.ne_of_beq_eq_false rfl)) 0).trans (congrFun (mr_c e2 (Nat.ne_of_beq_eq_false rfl)) 0)))))) hp22) (bd_r ((congrFun (ms_c e12 (Nat.ne_of_beq_eq_false rfl)) 2).trans ((congrFun (ms_c e10 (Nat.ne_of_beq_eq_false rfl)) 2).trans ((congrFun (ms_c e8 (Nat.ne_of_beq_eq_false rfl)) 2).trans ((congrFun (ms_c e6 (Nat.ne_of_beq_eq_false rfl)) 2).trans ((congrFun (ms_c e4 (Nat.ne_of_beq_eq_false rfl)) 2).trans (congrFun (mr_c e2 (Nat.ne_of_beq_eq_false rfl)) 2)))))) hp23) (ab_c ((ms_c e12 (Nat.ne_of_beq_eq_false rfl)).trans ((ms_c e10 (Nat.ne_of_beq_eq_false rfl)).trans ((ms_c e8 (Nat.ne_of_beq_eq_false rfl)).trans ((ms_c e6 (Nat.ne_of_beq_eq_false rfl)).trans ((ms_c e4 (Nat.ne_of_beq_eq_false rfl)).trans (mr_c e2 (Nat.ne_of_beq_eq_false rfl))))))) hp25) (fun j k0_ k2_ => rfl) (bd_r ((congrFun (ms_c e12 (Nat.ne_of_beq_eq_false rfl)) 0).trans ((congrFun (ms_c e10 (Nat.ne_of_beq_eq_false rfl)) 0).trans ((congrFun (ms_c e8 (Nat.ne_of_beq_eq_false rfl)) 0).trans ((congrFun (ms_c e6 (Nat.ne_of_beq_eq_false rfl)) 0).trans ((congrFun (ms_c e4 (Nat.ne_of_beq_eq_false rfl)) 0).trans (congrFun (mr_c e2 (Nat.ne_of_beq_eq_false rfl)) 0)))))) hp20) (bd_r ((congrFun (ms_c e12 (Nat.ne_of_beq_eq_false rfl)) 2).trans ((congrFun (ms_c e10 (Nat.ne_of_beq_eq_false rfl)) 2).trans ((congrFun (ms_c e8 (Nat.ne_of_beq_eq_false rfl)) 2).trans ((congrFun (ms_c e6 (Nat.ne_of_beq_eq_false rfl)) 2).trans ((congrFun (ms_c e4 (Nat.ne_of_beq_eq_false rfl)) 2).trans (congrFun (mr_c e2 (Nat.ne_of_beq_eq_false rfl)) 2)))))) hp21) (ab_c ((ms_c e12 (Nat.ne_of_beq_eq_false rfl)).trans ((ms_c e10 (Nat.ne_of_beq_eq_false rfl)).trans ((ms_c e8 (Nat.ne_of_beq_eq_false rfl)).trans ((ms_c e6 (Nat.ne_of_beq_eq_false rfl)).trans ((ms_c e4 (Nat.ne_of_beq_eq_false rfl)).trans (mr_c e2 (Nat.ne_of_beq_eq_false rfl))))))) hp24) (Nat.lt_succ_self _) E
set_option maxRecDepth 100000 in
noncomputable def Fx_T_copyR_1_136X_L86 (g : Nat → Nat → Int64) (n_ : Nat) : (Int32) → (Nat → Nat → Int32) → (Nat → Nat → Int32) := Nat.rec (motive := fun _ => (Int32) → (Nat → Nat → Int32) → (Nat → Nat → Int32)) (fun _ _ => default) (fun n_ ih_ w589 u590 => if (3 : Int32) ≤ w589 then (u590) else (if w589 = 0 then (xq_lt (Fx_W_copyK_15_150X u590 g) fun u631 => ih_ (w589 + 1) u631) else (if w589 = 1 then (xq_lt (Fx_W_copyK_19_154X u590 g) fun u638 => ih_ (w589 + 1) u638) else (xq_lt (Fx_W_copyK_23_158X u590 g) fun u645 => ih_ (w589 + 1) u645)))) n_
set_option maxRecDepth 100000 in
theorem Fx_T_copyR_1_136X_L86_s {g : Nat → Nat → Int64} {w589 : Int32} {u590 : Nat → Nat → Int32} {n_ : Nat} : Fx_T_copyR_1_136X_L86 g (n_ + 1) w589 u590 = if (3 : Int32) ≤ w589 then (u590) else (if w589 = 0 then (xq_lt (Fx_W_copyK_15_150X u590 g) fun u631 => (Fx_T_copyR_1_136X_L86 g n_) (w589 + 1) u631) else (if w589 = 1 then (xq_lt (Fx_W_copyK_19_154X u590 g) fun u638 => (Fx_T_copyR_1_136X_L86 g n_) (w589 + 1) u638) else (xq_lt (Fx_W_copyK_23_158X u590 g) fun u645 => (Fx_T_copyR_1_136X_L86 g n_) (w589 + 1) u645))) := rfl
set_option maxRecDepth 100000 in
noncomputable def Fx_T_copyR_1_136X_L58 (g : Nat → Nat → Int64) (n_ : Nat) : (Int32) → (Nat → Nat → Int32) → (Nat → Nat → Int32) := Nat.rec (motive := fun _ => (Int32) → (Nat → Nat → Int32) → (Nat → Nat → Int32)) (fun _ _ => default) (fun n_ ih_ w267 u268 => if (2 : Int32) ≤ w267 then (Fx_T_copyR_1_136X_L86 g ((3 - (0 : Int32).toInt).toNat + 1) (0 : Int32) u268) else (if w267 = 0 then (xq_lt (Fx_H_copyBX 5 140 u268 g) fun u653 => ih_ (w267 + 1) u653) else (xq_lt (Fx_H_copyBX 10 145 u268 g) fun u661 => ih_ (w267 + 1) u661))) n_
set_option maxRecDepth 100000 in
theorem Fx_T_copyR_1_136X_L58_s {g : Nat → Nat → Int64} {w267 : Int32} {u268 : Nat → Nat → Int32} {n_ : Nat} : Fx_T_copyR_1_136X_L58 g (n_ + 1) w267 u268 = if (2 : Int32) ≤ w267 then (Fx_T_copyR_1_136X_L86 g ((3 - (0 : Int32).toInt).toNat + 1) (0 : Int32) u268) else (if w267 = 0 then (xq_lt (Fx_H_copyBX 5 140 u268 g) fun u653 => (Fx_T_copyR_1_136X_L58 g n_) (w267 + 1) u653) else (xq_lt (Fx_H_copyBX 10 145 u268 g) fun u661 => (Fx_T_copyR_1_136X_L58 g n_) (w267 + 1) u661)) := rfl
set_option maxRecDepth 100000 in
noncomputable def Fx_T_copyR_1_136X (u : Nat → Nat → Int32) (g : Nat → Nat → Int64) : (Nat → Nat → Int32) := xq_lt (mr u 2 (va_cpy (u 137) (u 2) 0 0 600)) fun u1 => xq_lt (ms u1 1 1 (u 136 1)) fun u3 => xq_lt (ms u3 1 2 (u 136 2)) fun u5 => xq_lt (ms u5 1 3 (u 136 3)) fun u7 => xq_lt (ms u7 1 5 (u 136 5)) fun u9 => xq_lt (ms u9 1 7 (u 136 7)) fun u11 => Fx_T_copyR_1_136X_L58 g ((2 - (0 : Int32).toInt).toNat + 1) (0 : Int32) u11
set_option maxHeartbeats 4000000 in
set_option maxRecDepth 100000 in
theorem c_T_copyR_1_136X {d : Nat} {u : Nat → Nat → Int32} {g : Nat → Nat → Int64} {ex : List MC}  (hd : 2 ≤ d) (hp0 : Bd 0 600 (u 136 1)) (hp1 : Bd 0 2 (u 136 5)) (hp2 : Bd 0 3 (u 136 7)) (hp3 : BF u 137) (hp4 : Bd 0 9 (u 140 0)) (hp5 : Bd 0 4 (u 140 2)) (hp6 : Bd 0 9 (u 145 0)) (hp7 : Bd 0 4 (u 145 2)) (hp8 : AB u 141 (-1) 999) (hp9 : AB u 146 (-1) 999) (hp10 : Bd 0 12 (u 150 0)) (hp11 : Bd 0 12 (u 154 0)) (hp12 : Bd 0 12 (u 158 0)) (hp13 : (KM u 150)) (hp14 : (KM u 154)) (hp15 : (KM u 158)) (hp16 : Bd 0 600 (u 1 1)) (hp17 : Bd 0 2 (u 1 5)) (hp18 : Bd 0 3 (u 1 7)) (hp19 : BF u 2) (hp20 : Bd 0 9 (u 5 0)) (hp21 : Bd 0 4 (u 5 2)) (hp22 : Bd 0 9 (u 10 0)) (hp23 : Bd 0 4 (u 10 2)) (hp24 : AB u 6 (-1) 999) (hp25 : AB u 11 (-1) 999) (hp26 : Bd 0 12 (u 15 0)) (hp27 : Bd 0 12 (u 19 0)) (hp28 : Bd 0 12 (u 23 0)) (hp29 : (KM u 15)) (hp30 : (KM u 19)) (hp31 : (KM u 23)) : CT con0 d 0 0 yX7_copy cX7_copy 3 none [.ref 1, .ref 136] (Wd u g ex) (fun r h2 => ∃ (u2 : Nat → Nat → Int32), r = none ∧ h2 = Wd u2 g ex ∧ Bd 0 600 (u2 1 1) ∧ Bd 0 2 (u2 1 5) ∧ Bd 0 3 (u2 1 7) ∧ BF u2 2 ∧ Bd 0 9 (u2 5 0) ∧ Bd 0 4 (u2 5 2) ∧ Bd 0 9 (u2 10 0) ∧ Bd 0 4 (u2 10 2) ∧ AB u2 6 (-1) 999 ∧ AB u2 11 (-1) 999 ∧ Bd 0 12 (u2 15 0) ∧ Bd 0 12 (u2 19 0) ∧ Bd 0 12 (u2 23 0) ∧ (KM u2 15) ∧ (KM u2 19) ∧ (KM u2 23) ∧ (u2 1 1 = u 136 1) ∧ u2 = Fx_T_copyR_1_136X u g ∧ (∀ c, nin c [(1, 2), (5, 26)] = true → u2 c = u c) ∧ (∀ j, j ≠ 1 → j ≠ 2 → j ≠ 3 → j ≠ 5 → j ≠ 7 → u2 1 j = u 1 j) ∧ (∀ j, j ≠ 0 → j ≠ 2 → u2 5 j = u 5 j) ∧ (∀ j, j ≠ 0 → j ≠ 2 → u2 10 j = u 10 j) ∧ (∀ j, j ≠ 0 → u2 15 j = u 15 j) ∧ (∀ j, j ≠ 0 → u2 19 j = u 19 j) ∧ (∀ j, j ≠ 0 → u2 23 j = u 23 j)) := by
  refine CT_of (by decide) (Nat.le_of_ble_eq_true rfl) (fun x hq => ?_)
  show J x yX7_copy cX7_copy 3 none d 0 0 (Wd u g ex).length 0 [(0, .ref 1), (1, .ref 136)] [] (Wd u g ex) 0 0
  have E : Fx_T_copyR_1_136X u g = Fx_T_copyR_1_136X u g := rfl
  refine J_aload_n (i := 1) (j := 1) dX7_copy_0 rfl rfl ?_
  refine J_get (C := RX7) (T := TX7) (Z := 8) (ci := 7) (f := 0) dX7_copy_1 inG7 rfl (by decide) k186 wc_136 rfl ?_
  refine J_iconst (v := 0) dX7_copy_4 (by decide) ?_
  refine J_aload_n (i := 0) (j := 0) dX7_copy_5 rfl rfl ?_
  refine J_get (C := RX7) (T := TX7) (Z := 8) (ci := 7) (f := 0) dX7_copy_6 inG7 rfl (by decide) k186 wc_1 rfl ?_
  refine J_iconst (v := 0) dX7_copy_9 (by decide) ?_
  refine J_sipush (v := 600) dX7_copy_10 (by decide) ?_
  obtain ⟨u1, e2⟩ : ∃ z, z = mr u 2 (va_cpy (u 137) (u 2) 0 0 600) := ⟨_, rfl⟩
  refine J_copyb (sp := 0) (dp := 0) (nn := 600) dX7_copy_13 k1253 k686 k685 k104 wc_137 wc_2 (by decide) (by decide) (by decide) (by decide) (by decide) (fun i _ => hp3 _) (Nat.le_trans (by decide) hd) (Nat.le_of_ble_eq_true rfl) (wsr e2 wk_2 rfl) ?_
  replace E := xq_le e2 E
  refine J_aload_n (i := 0) (j := 0) dX7_copy_16 rfl rfl ?_
  refine J_aload_n (i := 1) (j := 1) dX7_copy_17 rfl rfl ?_
  refine J_get (C := RX7) (T := TX7) (Z := 8) (ci := 7) (f := 1) dX7_copy_18 inG7 rfl (by decide) k188 wc_136 rfl ?_
  refine J_ci (v := u 136 1) (congrFun (mr_c e2 (Nat.ne_of_beq_eq_false rfl)) 1) ?_
  obtain ⟨u3, e4⟩ : ∃ z, z = ms u1 1 1 (u 136 1) := ⟨_, rfl⟩
  refine J_put (C := RX7) (T := TX7) (Z := 8) (ci := 7) (f := 1) (ty0 := tyX7) dX7_copy_21 inG7 rfl tyX7_ok nmX7 (by decide) k188 rfl rfl wc_1 (Nat.le_of_ble_eq_true rfl) (fun _ _ => ⟨rfl, rfl⟩) (ws e4 wk_1 rfl) ?_
  replace E := xq_le e4 E
  refine J_aload_n (i := 0) (j := 0) dX7_copy_24 rfl rfl ?_
  refine J_aload_n (i := 1) (j := 1) dX7_copy_25 rfl rfl ?_
  refine J_get (C := RX7) (T := TX7) (Z := 8) (ci := 7) (f := 2) dX7_copy_26 inG7 rfl (by decide) k190 wc_136 rfl ?_
  refine J_ci (v := u 136 2) ((congrFun (ms_c e4 (Nat.ne_of_beq_eq_false rfl)) 2).trans (congrFun (mr_c e2 (Nat.ne_of_beq_eq_false rfl)) 2)) ?_
  obtain ⟨u5, e6⟩ : ∃ z, z = ms u3 1 2 (u 136 2) := ⟨_, rfl⟩
  refine J_put (C := RX7) (T := TX7) (Z := 8) (ci := 7) (f := 2) (ty0 := tyX7) dX7_copy_29 inG7 rfl tyX7_ok nmX7 (by decide) k190 rfl rfl wc_1 (Nat.le_of_ble_eq_true rfl) (fun _ _ => ⟨rfl, rfl⟩) (ws e6 wk_1 rfl) ?_
  replace E := xq_le e6 E
  refine J_aload_n (i := 0) (j := 0) dX7_copy_32 rfl rfl ?_
  refine J_aload_n (i := 1) (j := 1) dX7_copy_33 rfl rfl ?_
  refine J_get (C := RX7) (T := TX7) (Z := 8) (ci := 7) (f := 3) dX7_copy_34 inG7 rfl (by decide) k192 wc_136 rfl ?_
  refine J_ci (v := u 136 3) ((congrFun (ms_c e6 (Nat.ne_of_beq_eq_false rfl)) 3).trans ((congrFun (ms_c e4 (Nat.ne_of_beq_eq_false rfl)) 3).trans (congrFun (mr_c e2 (Nat.ne_of_beq_eq_false rfl)) 3))) ?_
  obtain ⟨u7, e8⟩ : ∃ z, z = ms u5 1 3 (u 136 3) := ⟨_, rfl⟩
  refine J_put (C := RX7) (T := TX7) (Z := 8) (ci := 7) (f := 3) (ty0 := tyX7) dX7_copy_37 inG7 rfl tyX7_ok nmX7 (by decide) k192 rfl rfl wc_1 (Nat.le_of_ble_eq_true rfl) (fun _ _ => ⟨rfl, rfl⟩) (ws e8 wk_1 rfl) ?_
  replace E := xq_le e8 E
  refine J_aload_n (i := 0) (j := 0) dX7_copy_40 rfl rfl ?_
  refine J_aload_n (i := 1) (j := 1) dX7_copy_41 rfl rfl ?_
  refine J_get (C := RX7) (T := TX7) (Z := 8) (ci := 7) (f := 5) dX7_copy_42 inG7 rfl (by decide) k196 wc_136 rfl ?_
  refine J_ci (v := u 136 5) ((congrFun (ms_c e8 (Nat.ne_of_beq_eq_false rfl)) 5).trans ((congrFun (ms_c e6 (Nat.ne_of_beq_eq_false rfl)) 5).trans ((congrFun (ms_c e4 (Nat.ne_of_beq_eq_false rfl)) 5).trans (congrFun (mr_c e2 (Nat.ne_of_beq_eq_false rfl)) 5)))) ?_
  obtain ⟨u9, e10⟩ : ∃ z, z = ms u7 1 5 (u 136 5) := ⟨_, rfl⟩
  refine J_put (C := RX7) (T := TX7) (Z := 8) (ci := 7) (f := 5) (ty0 := tyX7) dX7_copy_45 inG7 rfl tyX7_ok nmX7 (by decide) k196 rfl rfl wc_1 (Nat.le_of_ble_eq_true rfl) (fun _ _ => ⟨rfl, rfl⟩) (ws e10 wk_1 rfl) ?_
  replace E := xq_le e10 E
  refine J_aload_n (i := 0) (j := 0) dX7_copy_48 rfl rfl ?_
  refine J_aload_n (i := 1) (j := 1) dX7_copy_49 rfl rfl ?_
  refine J_get (C := RX7) (T := TX7) (Z := 8) (ci := 7) (f := 7) dX7_copy_50 inG7 rfl (by decide) k200 wc_136 rfl ?_
  refine J_ci (v := u 136 7) ((congrFun (ms_c e10 (Nat.ne_of_beq_eq_false rfl)) 7).trans ((congrFun (ms_c e8 (Nat.ne_of_beq_eq_false rfl)) 7).trans ((congrFun (ms_c e6 (Nat.ne_of_beq_eq_false rfl)) 7).trans ((congrFun (ms_c e4 (Nat.ne_of_beq_eq_false rfl)) 7).trans (congrFun (mr_c e2 (Nat.ne_of_beq_eq_false rfl)) 7))))) ?_
  obtain ⟨u11, e12⟩ : ∃ z, z = ms u9 1 7 (u 136 7) := ⟨_, rfl⟩
  refine J_put (C := RX7) (T := TX7) (Z := 8) (ci := 7) (f := 7) (ty0 := tyX7) dX7_copy_53 inG7 rfl tyX7_ok nmX7 (by decide) k200 rfl rfl wc_1 (Nat.le_of_ble_eq_true rfl) (fun _ _ => ⟨rfl, rfl⟩) (ws e12 wk_1 rfl) ?_
  replace E := xq_le e12 E
  refine J_iconst (v := 0) dX7_copy_56 (by decide) ?_
  refine J_istore_n (i := 2) (lw := [(2, .int 0), (0, .ref 1), (1, .ref 136)]) dX7_copy_57 rfl (by decide) rfl ?_
  have lp471 : ∀ (n472 : Nat) (w267 : Int32) (u268 : Nat → Nat → Int32), Bd 0 2 w267 → (∀ c, nin c [(5, 14)] = true → u268 c = u11 c) → (∀ j, j ≠ 0 → j ≠ 2 → u268 10 j = u11 10 j) → Bd 0 9 (u268 10 0) → Bd 0 4 (u268 10 2) → AB u268 11 (-1) 999 → (∀ j, j ≠ 0 → j ≠ 2 → u268 5 j = u11 5 j) → Bd 0 9 (u268 5 0) → Bd 0 4 (u268 5 2) → AB u268 6 (-1) 999 → (2 - w267.toInt).toNat < n472 → Fx_T_copyR_1_136X_L58 g n472 w267 u268 = Fx_T_copyR_1_136X u g → J x yX7_copy cX7_copy 3 none d 0 0 (Wd u g ex).length 58 [(0, .ref 1), (1, .ref 136), (2, .int w267)] [] (Wd u268 g ex) 0 0 := by
    intro n472
    induction n472 with
    | zero => intro w267 u268 bw267 fr269 fc270 bm271 bm272 ab273 fc274 bm275 bm276 ab277 hm474 _; exact absurd hm474 (Nat.not_lt_zero _)
    | succ n472 ih473 =>
      intro w267 u268 bw267 fr269 fc270 bm271 bm272 ab273 fc274 bm275 bm276 ab277 hm474 E
      replace E := Fx_T_copyR_1_136X_L58_s.symm.trans E
      refine J_iload_n (i := 2) (j := 2) dX7_copy_58 rfl rfl ?_
      refine J_iconst (v := 2) dX7_copy_59 (by decide) ?_
      refine J_icmp_ge (tgt := 84) dX7_copy_60 (by decide) (fun c475 => ?_) (fun c475 => ?_)
      · replace E := xq_ep c475 E
        refine J_iconst (v := 0) dX7_copy_84 (by decide) ?_
        refine J_istore_n (i := 2) (lw := [(2, .int 0), (0, .ref 1), (1, .ref 136)]) dX7_copy_85 rfl (by decide) rfl ?_
        have lp624 : ∀ (n625 : Nat) (w589 : Int32) (u590 : Nat → Nat → Int32), Bd 0 3 w589 → (∀ c, nin c [(15, 26)] = true → u590 c = u268 c) → (∀ j, j ≠ 0 → u590 15 j = u268 15 j) → Bd 0 12 (u590 15 0) → (∀ j, j ≠ 0 → u590 19 j = u268 19 j) → Bd 0 12 (u590 19 0) → (∀ j, j ≠ 0 → u590 23 j = u268 23 j) → Bd 0 12 (u590 23 0) → KM u590 15 → KM u590 19 → KM u590 23 → (3 - w589.toInt).toNat < n625 → Fx_T_copyR_1_136X_L86 g n625 w589 u590 = Fx_T_copyR_1_136X u g → J x yX7_copy cX7_copy 3 none d 0 0 (Wd u g ex).length 86 [(0, .ref 1), (1, .ref 136), (2, .int w589)] [] (Wd u590 g ex) 0 0 := by
          intro n625
          induction n625 with
          | zero => intro w589 u590 bw589 fr591 fc592 bm593 fc594 bm595 fc596 bm597 km598 km599 km600 hm627 _; exact absurd hm627 (Nat.not_lt_zero _)
          | succ n625 ih626 =>
            intro w589 u590 bw589 fr591 fc592 bm593 fc594 bm595 fc596 bm597 km598 km599 km600 hm627 E
            replace E := Fx_T_copyR_1_136X_L86_s.symm.trans E
            refine J_iload_n (i := 2) (j := 2) dX7_copy_86 rfl rfl ?_
            refine J_iconst (v := 3) dX7_copy_87 (by decide) ?_
            refine J_icmp_ge (tgt := 112) dX7_copy_88 (by decide) (fun c628 => ?_) (fun c628 => ?_)
            · replace E := xq_ep c628 E
              exact J_vret hq dX7_copy_112 rfl wlen (Nat.le_refl _) (Nat.le_refl _) ⟨u590, rfl, rfl, (bd_r ((congrFun (fr591 1 rfl) 1).trans ((congrFun (fr269 1 rfl) 1).trans ((ms_i e12 (Nat.ne_of_beq_eq_false rfl)).trans ((ms_i e10 (Nat.ne_of_beq_eq_false rfl)).trans ((ms_i e8 (Nat.ne_of_beq_eq_false rfl)).trans ((ms_i e6 (Nat.ne_of_beq_eq_false rfl)).trans (ms_e e4))))))) hp0), (bd_r ((congrFun (fr591 1 rfl) 5).trans ((congrFun (fr269 1 rfl) 5).trans ((ms_i e12 (Nat.ne_of_beq_eq_false rfl)).trans (ms_e e10)))) hp1), (bd_r ((congrFun (fr591 1 rfl) 7).trans ((congrFun (fr269 1 rfl) 7).trans (ms_e e12))) hp2), (bf_c ((fr591 2 rfl).trans ((fr269 2 rfl).trans ((ms_c e12 (Nat.ne_of_beq_eq_false rfl)).trans ((ms_c e10 (Nat.ne_of_beq_eq_false rfl)).trans ((ms_c e8 (Nat.ne_of_beq_eq_false rfl)).trans ((ms_c e6 (Nat.ne_of_beq_eq_false rfl)).trans (ms_c e4 (Nat.ne_of_beq_eq_false rfl)))))))) (bf_cp e2 hp3 hp19)), (bd_r (congrFun (fr591 5 rfl) 0) bm275), (bd_r (congrFun (fr591 5 rfl) 2) bm276), (bd_r (congrFun (fr591 10 rfl) 0) bm271), (bd_r (congrFun (fr591 10 rfl) 2) bm272), (ab_c (fr591 6 rfl) ab277), (ab_c (fr591 11 rfl) ab273), bm593, bm595, bm597, km598, km599, km600, ((congrFun (fr591 1 rfl) 1).trans ((congrFun (fr269 1 rfl) 1).trans ((ms_i e12 (Nat.ne_of_beq_eq_false rfl)).trans ((ms_i e10 (Nat.ne_of_beq_eq_false rfl)).trans ((ms_i e8 (Nat.ne_of_beq_eq_false rfl)).trans ((ms_i e6 (Nat.ne_of_beq_eq_false rfl)).trans (ms_e e4))))))), E, (fun c k_ => ((fr591 c (nin_sub (M := [(15, 26)]) k_ rfl)).trans ((fr269 c (nin_sub (M := [(5, 14)]) k_ rfl)).trans ((ms_c e12 (nin_ne (a := 1) k_ rfl)).trans ((ms_c e10 (nin_ne (a := 1) k_ rfl)).trans ((ms_c e8 (nin_ne (a := 1) k_ rfl)).trans ((ms_c e6 (nin_ne (a := 1) k_ rfl)).trans ((ms_c e4 (nin_ne (a := 1) k_ rfl)).trans (mr_c e2 (nin_ne (a := 2) k_ rfl)))))))))), (fun j k1_ k2_ k3_ k5_ k7_ => ((congrFun (fr591 1 rfl) j).trans ((congrFun (fr269 1 rfl) j).trans ((ms_i e12 k7_).trans ((ms_i e10 k5_).trans ((ms_i e8 k3_).trans ((ms_i e6 k2_).trans ((ms_i e4 k1_).trans (congrFun (mr_c e2 (Nat.ne_of_beq_eq_false rfl)) j))))))))), (fun j k0_ k2_ => ((congrFun (fr591 5 rfl) j).trans ((fc274 j k0_ k2_).trans ((congrFun (ms_c e12 (Nat.ne_of_beq_eq_false rfl)) j).trans ((congrFun (ms_c e10 (Nat.ne_of_beq_eq_false rfl)) j).trans ((congrFun (ms_c e8 (Nat.ne_of_beq_eq_false rfl)) j).trans ((congrFun (ms_c e6 (Nat.ne_of_beq_eq_false rfl)) j).trans ((congrFun (ms_c e4 (Nat.ne_of_beq_eq_false rfl)) j).trans (congrFun (mr_c e2 (Nat.ne_of_beq_eq_false rfl)) j))))))))), (fun j k0_ k2_ => ((congrFun (fr591 10 rfl) j).trans ((fc270 j k0_ k2_).trans ((congrFun (ms_c e12 (Nat.ne_of_beq_eq_false rfl)) j).trans ((congrFun (ms_c e10 (Nat.ne_of_beq_eq_false rfl)) j).trans ((congrFun (ms_c e8 (Nat.ne_of_beq_eq_false rfl)) j).trans ((congrFun (ms_c e6 (Nat.ne_of_beq_eq_false rfl)) j).trans ((congrFun (ms_c e4 (Nat.ne_of_beq_eq_false rfl)) j).trans (congrFun (mr_c e2 (Nat.ne_of_beq_eq_false rfl)) j))))))))), (fun j k0_ => ((fc592 j k0_).trans ((congrFun (fr269 15 rfl) j).trans ((congrFun (ms_c e12 (Nat.ne_of_beq_eq_false rfl)) j).trans ((congrFun (ms_c e10 (Nat.ne_of_beq_eq_false rfl)) j).trans ((congrFun (ms_c e8 (Nat.ne_of_beq_eq_false rfl)) j).trans ((congrFun (ms_c e6 (Nat.ne_of_beq_eq_false rfl)) j).trans ((congrFun (ms_c e4 (Nat.ne_of_beq_eq_false rfl)) j).trans (congrFun (mr_c e2 (Nat.ne_of_beq_eq_false rfl)) j))))))))), (fun j k0_ => ((fc594 j k0_).trans ((congrFun (fr269 19 rfl) j).trans ((congrFun (ms_c e12 (Nat.ne_of_beq_eq_false rfl)) j).trans ((congrFun (ms_c e10 (Nat.ne_of_beq_eq_false rfl)) j).trans ((congrFun (ms_c e8 (Nat.ne_of_beq_eq_false rfl)) j).trans ((congrFun (ms_c e6 (Nat.ne_of_beq_eq_false rfl)) j).trans ((congrFun (ms_c e4 (Nat.ne_of_beq_eq_false rfl)) j).trans (congrFun (mr_c e2 (Nat.ne_of_beq_eq_false rfl)) j))))))))), (fun j k0_ => ((fc596 j k0_).trans ((congrFun (fr269 23 rfl) j).trans ((congrFun (ms_c e12 (Nat.ne_of_beq_eq_false rfl)) j).trans ((congrFun (ms_c e10 (Nat.ne_of_beq_eq_false rfl)) j).trans ((congrFun (ms_c e8 (Nat.ne_of_beq_eq_false rfl)) j).trans ((congrFun (ms_c e6 (Nat.ne_of_beq_eq_false rfl)) j).trans ((congrFun (ms_c e4 (Nat.ne_of_beq_eq_false rfl)) j).trans (congrFun (mr_c e2 (Nat.ne_of_beq_eq_false rfl)) j)))))))))⟩
            · replace E := xq_en c628 E
              refine J_aload_n (i := 0) (j := 0) dX7_copy_91 rfl rfl ?_
              refine J_get (C := RX7) (T := TX7) (Z := 8) (ci := 7) (f := 6) dX7_copy_92 inG7 rfl (by decide) k198 wc_1 rfl ?_
              refine J_iload_n (i := 2) (j := 2) dX7_copy_95 rfl rfl ?_
              have h629 := bd_cases3 (bd_lt_hi bw589 (i_nle c628) (bd_c (v := 3) (lo := 3) (hi := 3) (by decide)))
              rcases h629 with h629_0 | h629_1 | h629_2
              · replace E := xq_ep h629_0 E
                refine J_aald (q := 15) dX7_copy_96 wc_4 (fun _ => rfl) (vin (bd_lt_hi bw589 (i_nle c628) (bd_c (v := 3) (lo := 3) (hi := 3) (by decide))) (by decide)) (by rw [h629_0]; rfl) ?_
                refine J_aload_n (i := 1) (j := 1) dX7_copy_97 rfl rfl ?_
                refine J_get (C := RX7) (T := TX7) (Z := 8) (ci := 7) (f := 6) dX7_copy_98 inG7 rfl (by decide) k198 wc_136 rfl ?_
                refine J_iload_n (i := 2) (j := 2) dX7_copy_101 rfl rfl ?_
                refine J_aald (q := 150) dX7_copy_102 wc_139 (fun _ => rfl) (vin (bd_r h629_0 (bd_c (v := 0) (lo := 0) (hi := 0) (by decide))) (by decide)) (by rw [h629_0]; rfl) ?_
                refine J_callV (As := [.ref 150]) (rest := []) dX7_copy_103 (c_W_copyK_15_150X (d := 1) (u := u590) (g := g) (ex := ex)   (by decide) (bd_r ((congrFun (fr591 150 rfl) 0).trans ((congrFun (fr269 150 rfl) 0).trans ((congrFun (ms_c e12 (Nat.ne_of_beq_eq_false rfl)) 0).trans ((congrFun (ms_c e10 (Nat.ne_of_beq_eq_false rfl)) 0).trans ((congrFun (ms_c e8 (Nat.ne_of_beq_eq_false rfl)) 0).trans ((congrFun (ms_c e6 (Nat.ne_of_beq_eq_false rfl)) 0).trans ((congrFun (ms_c e4 (Nat.ne_of_beq_eq_false rfl)) 0).trans (congrFun (mr_c e2 (Nat.ne_of_beq_eq_false rfl)) 0)))))))) hp10) (km_c ((fr591 151 rfl).trans ((fr269 151 rfl).trans ((ms_c e12 (Nat.ne_of_beq_eq_false rfl)).trans ((ms_c e10 (Nat.ne_of_beq_eq_false rfl)).trans ((ms_c e8 (Nat.ne_of_beq_eq_false rfl)).trans ((ms_c e6 (Nat.ne_of_beq_eq_false rfl)).trans ((ms_c e4 (Nat.ne_of_beq_eq_false rfl)).trans (mr_c e2 (Nat.ne_of_beq_eq_false rfl))))))))) ((fr591 153 rfl).trans ((fr269 153 rfl).trans ((ms_c e12 (Nat.ne_of_beq_eq_false rfl)).trans ((ms_c e10 (Nat.ne_of_beq_eq_false rfl)).trans ((ms_c e8 (Nat.ne_of_beq_eq_false rfl)).trans ((ms_c e6 (Nat.ne_of_beq_eq_false rfl)).trans ((ms_c e4 (Nat.ne_of_beq_eq_false rfl)).trans (mr_c e2 (Nat.ne_of_beq_eq_false rfl))))))))) hp13) km598) hq.n k690 k691 k692 wc_15 rfl rfl k90 k693 np_X8_copy (Nat.le_trans (by decide) hd) (by decide) (Nat.le_refl _) (Nat.le_refl _) wlen rfl (Nat.le_of_ble_eq_true rfl) (fun r_ h_ p630 => ?_)
                obtain ⟨u631, rfl, rfl, h632, h633, hx634, fr635, fc636⟩ := p630
                replace E := xq_le hx634 E
                refine J_iinc (i := 2) (j := 2) (v := (w589 + 1)) (lw := [(2, .int (w589 + 1)), (0, .ref 1), (1, .ref 136)]) dX7_copy_106 rfl rfl (by decide) rfl ?_
                refine J_goto (tgt := 86) dX7_copy_109 (by decide) ?_
                refine J_lv [1, 2, 0] rfl ?_
                exact ih626 (w589 + 1) u631 (bd_w (l := 0) (h := 3) (bd_add (l := 1) (h := 1) (bd_r h629_0 (bd_c (v := 0) (lo := 0) (hi := 0) (by decide))) (bd_c (v := 1) (lo := 1) (hi := 1) (by decide)) (by decide)) (by decide)) (fun c k_ => ((fr635 c (nin_sub (M := [(15, 18)]) k_ rfl)).trans (fr591 c (nin_sub (M := [(15, 26)]) k_ rfl)))) (fun j k0_ => ((fc636 j k0_).trans (fc592 j k0_))) h632 (fun j k0_ => ((congrFun (fr635 19 rfl) j).trans (fc594 j k0_))) (bd_r (congrFun (fr635 19 rfl) 0) bm595) (fun j k0_ => ((congrFun (fr635 23 rfl) j).trans (fc596 j k0_))) (bd_r (congrFun (fr635 23 rfl) 0) bm597) h633 (km_c (fr635 20 rfl) (fr635 22 rfl) km599) (km_c (fr635 24 rfl) (fr635 26 rfl) km600) (mu_up 1 bw589 rfl (by decide) (bd_w (l := 1) (h := 3) (bd_add (l := 1) (h := 1) (bd_r h629_0 (bd_c (v := 0) (lo := 0) (hi := 0) (by decide))) (bd_c (v := 1) (lo := 1) (hi := 1) (by decide)) (by decide)) (by decide)) hm627) E
              · replace E := xq_en (fun z_ => absurd (z_.symm.trans h629_1) (by decide)) E
                replace E := xq_ep h629_1 E
                refine J_aald (q := 19) dX7_copy_96 wc_4 (fun _ => rfl) (vin (bd_lt_hi bw589 (i_nle c628) (bd_c (v := 3) (lo := 3) (hi := 3) (by decide))) (by decide)) (by rw [h629_1]; rfl) ?_
                refine J_aload_n (i := 1) (j := 1) dX7_copy_97 rfl rfl ?_
                refine J_get (C := RX7) (T := TX7) (Z := 8) (ci := 7) (f := 6) dX7_copy_98 inG7 rfl (by decide) k198 wc_136 rfl ?_
                refine J_iload_n (i := 2) (j := 2) dX7_copy_101 rfl rfl ?_
                refine J_aald (q := 154) dX7_copy_102 wc_139 (fun _ => rfl) (vin (bd_r h629_1 (bd_c (v := 1) (lo := 1) (hi := 1) (by decide))) (by decide)) (by rw [h629_1]; rfl) ?_
                refine J_callV (As := [.ref 154]) (rest := []) dX7_copy_103 (c_W_copyK_19_154X (d := 1) (u := u590) (g := g) (ex := ex)   (by decide) (bd_r ((congrFun (fr591 154 rfl) 0).trans ((congrFun (fr269 154 rfl) 0).trans ((congrFun (ms_c e12 (Nat.ne_of_beq_eq_false rfl)) 0).trans ((congrFun (ms_c e10 (Nat.ne_of_beq_eq_false rfl)) 0).trans ((congrFun (ms_c e8 (Nat.ne_of_beq_eq_false rfl)) 0).trans ((congrFun (ms_c e6 (Nat.ne_of_beq_eq_false rfl)) 0).trans ((congrFun (ms_c e4 (Nat.ne_of_beq_eq_false rfl)) 0).trans (congrFun (mr_c e2 (Nat.ne_of_beq_eq_false rfl)) 0)))))))) hp11) (km_c ((fr591 155 rfl).trans ((fr269 155 rfl).trans ((ms_c e12 (Nat.ne_of_beq_eq_false rfl)).trans ((ms_c e10 (Nat.ne_of_beq_eq_false rfl)).trans ((ms_c e8 (Nat.ne_of_beq_eq_false rfl)).trans ((ms_c e6 (Nat.ne_of_beq_eq_false rfl)).trans ((ms_c e4 (Nat.ne_of_beq_eq_false rfl)).trans (mr_c e2 (Nat.ne_of_beq_eq_false rfl))))))))) ((fr591 157 rfl).trans ((fr269 157 rfl).trans ((ms_c e12 (Nat.ne_of_beq_eq_false rfl)).trans ((ms_c e10 (Nat.ne_of_beq_eq_false rfl)).trans ((ms_c e8 (Nat.ne_of_beq_eq_false rfl)).trans ((ms_c e6 (Nat.ne_of_beq_eq_false rfl)).trans ((ms_c e4 (Nat.ne_of_beq_eq_false rfl)).trans (mr_c e2 (Nat.ne_of_beq_eq_false rfl))))))))) hp14) km599) hq.n k690 k691 k692 wc_19 rfl rfl k90 k693 np_X8_copy (Nat.le_trans (by decide) hd) (by decide) (Nat.le_refl _) (Nat.le_refl _) wlen rfl (Nat.le_of_ble_eq_true rfl) (fun r_ h_ p637 => ?_)
                obtain ⟨u638, rfl, rfl, h639, h640, hx641, fr642, fc643⟩ := p637
                replace E := xq_le hx641 E
                refine J_iinc (i := 2) (j := 2) (v := (w589 + 1)) (lw := [(2, .int (w589 + 1)), (0, .ref 1), (1, .ref 136)]) dX7_copy_106 rfl rfl (by decide) rfl ?_
                refine J_goto (tgt := 86) dX7_copy_109 (by decide) ?_
                refine J_lv [1, 2, 0] rfl ?_
                exact ih626 (w589 + 1) u638 (bd_w (l := 0) (h := 3) (bd_add (l := 2) (h := 2) (bd_r h629_1 (bd_c (v := 1) (lo := 1) (hi := 1) (by decide))) (bd_c (v := 1) (lo := 1) (hi := 1) (by decide)) (by decide)) (by decide)) (fun c k_ => ((fr642 c (nin_sub (M := [(19, 22)]) k_ rfl)).trans (fr591 c (nin_sub (M := [(15, 26)]) k_ rfl)))) (fun j k0_ => ((congrFun (fr642 15 rfl) j).trans (fc592 j k0_))) (bd_r (congrFun (fr642 15 rfl) 0) bm593) (fun j k0_ => ((fc643 j k0_).trans (fc594 j k0_))) h639 (fun j k0_ => ((congrFun (fr642 23 rfl) j).trans (fc596 j k0_))) (bd_r (congrFun (fr642 23 rfl) 0) bm597) (km_c (fr642 16 rfl) (fr642 18 rfl) km598) h640 (km_c (fr642 24 rfl) (fr642 26 rfl) km600) (mu_up 1 bw589 rfl (by decide) (bd_w (l := 2) (h := 3) (bd_add (l := 2) (h := 2) (bd_r h629_1 (bd_c (v := 1) (lo := 1) (hi := 1) (by decide))) (bd_c (v := 1) (lo := 1) (hi := 1) (by decide)) (by decide)) (by decide)) hm627) E
              · replace E := xq_en (fun z_ => absurd (z_.symm.trans h629_2) (by decide)) E
                replace E := xq_en (fun z_ => absurd (z_.symm.trans h629_2) (by decide)) E
                refine J_aald (q := 23) dX7_copy_96 wc_4 (fun _ => rfl) (vin (bd_lt_hi bw589 (i_nle c628) (bd_c (v := 3) (lo := 3) (hi := 3) (by decide))) (by decide)) (by rw [h629_2]; rfl) ?_
                refine J_aload_n (i := 1) (j := 1) dX7_copy_97 rfl rfl ?_
                refine J_get (C := RX7) (T := TX7) (Z := 8) (ci := 7) (f := 6) dX7_copy_98 inG7 rfl (by decide) k198 wc_136 rfl ?_
                refine J_iload_n (i := 2) (j := 2) dX7_copy_101 rfl rfl ?_
                refine J_aald (q := 158) dX7_copy_102 wc_139 (fun _ => rfl) (vin (bd_r h629_2 (bd_c (v := 2) (lo := 2) (hi := 2) (by decide))) (by decide)) (by rw [h629_2]; rfl) ?_
                refine J_callV (As := [.ref 158]) (rest := []) dX7_copy_103 (c_W_copyK_23_158X (d := 1) (u := u590) (g := g) (ex := ex)   (by decide) (bd_r ((congrFun (fr591 158 rfl) 0).trans ((congrFun (fr269 158 rfl) 0).trans ((congrFun (ms_c e12 (Nat.ne_of_beq_eq_false rfl)) 0).trans ((congrFun (ms_c e10 (Nat.ne_of_beq_eq_false rfl)) 0).trans ((congrFun (ms_c e8 (Nat.ne_of_beq_eq_false rfl)) 0).trans ((congrFun (ms_c e6 (Nat.ne_of_beq_eq_false rfl)) 0).trans ((congrFun (ms_c e4 (Nat.ne_of_beq_eq_false rfl)) 0).trans (congrFun (mr_c e2 (Nat.ne_of_beq_eq_false rfl)) 0)))))))) hp12) (km_c ((fr591 159 rfl).trans ((fr269 159 rfl).trans ((ms_c e12 (Nat.ne_of_beq_eq_false rfl)).trans ((ms_c e10 (Nat.ne_of_beq_eq_false rfl)).trans ((ms_c e8 (Nat.ne_of_beq_eq_false rfl)).trans ((ms_c e6 (Nat.ne_of_beq_eq_false rfl)).trans ((ms_c e4 (Nat.ne_of_beq_eq_false rfl)).trans (mr_c e2 (Nat.ne_of_beq_eq_false rfl))))))))) ((fr591 161 rfl).trans ((fr269 161 rfl).trans ((ms_c e12 (Nat.ne_of_beq_eq_false rfl)).trans ((ms_c e10 (Nat.ne_of_beq_eq_false rfl)).trans ((ms_c e8 (Nat.ne_of_beq_eq_false rfl)).trans ((ms_c e6 (Nat.ne_of_beq_eq_false rfl)).trans ((ms_c e4 (Nat.ne_of_beq_eq_false rfl)).trans (mr_c e2 (Nat.ne_of_beq_eq_false rfl))))))))) hp15) km600) hq.n k690 k691 k692 wc_23 rfl rfl k90 k693 np_X8_copy (Nat.le_trans (by decide) hd) (by decide) (Nat.le_refl _) (Nat.le_refl _) wlen rfl (Nat.le_of_ble_eq_true rfl) (fun r_ h_ p644 => ?_)
                obtain ⟨u645, rfl, rfl, h646, h647, hx648, fr649, fc650⟩ := p644
                replace E := xq_le hx648 E
                refine J_iinc (i := 2) (j := 2) (v := (w589 + 1)) (lw := [(2, .int (w589 + 1)), (0, .ref 1), (1, .ref 136)]) dX7_copy_106 rfl rfl (by decide) rfl ?_
                refine J_goto (tgt := 86) dX7_copy_109 (by decide) ?_
                refine J_lv [1, 2, 0] rfl ?_
                exact ih626 (w589 + 1) u645 (bd_w (l := 0) (h := 3) (bd_add (l := 3) (h := 3) (bd_r h629_2 (bd_c (v := 2) (lo := 2) (hi := 2) (by decide))) (bd_c (v := 1) (lo := 1) (hi := 1) (by decide)) (by decide)) (by decide)) (fun c k_ => ((fr649 c (nin_sub (M := [(23, 26)]) k_ rfl)).trans (fr591 c (nin_sub (M := [(15, 26)]) k_ rfl)))) (fun j k0_ => ((congrFun (fr649 15 rfl) j).trans (fc592 j k0_))) (bd_r (congrFun (fr649 15 rfl) 0) bm593) (fun j k0_ => ((congrFun (fr649 19 rfl) j).trans (fc594 j k0_))) (bd_r (congrFun (fr649 19 rfl) 0) bm595) (fun j k0_ => ((fc650 j k0_).trans (fc596 j k0_))) h646 (km_c (fr649 16 rfl) (fr649 18 rfl) km598) (km_c (fr649 20 rfl) (fr649 22 rfl) km599) h647 (mu_up 1 bw589 rfl (by decide) (bd_w (l := 3) (h := 3) (bd_add (l := 3) (h := 3) (bd_r h629_2 (bd_c (v := 2) (lo := 2) (hi := 2) (by decide))) (bd_c (v := 1) (lo := 1) (hi := 1) (by decide)) (by decide)) (by decide)) hm627) E
        refine J_lv [1, 2, 0] rfl ?_
        exact lp624 ((3 - (0 : Int32).toInt).toNat + 1) (0 : Int32) u268 (bd_w (l := 0) (h := 3) (bd_c (v := 0) (lo := 0) (hi := 0) (by decide)) (by decide)) (fun c k_ => rfl) (fun j k0_ => rfl) (bd_r ((congrFun (fr269 15 rfl) 0).trans ((congrFun (ms_c e12 (Nat.ne_of_beq_eq_false rfl)) 0).trans ((congrFun (ms_c e10 (Nat.ne_of_beq_eq_false rfl)) 0).trans ((congrFun (ms_c e8 (Nat.ne_of_beq_eq_false rfl)) 0).trans ((congrFun (ms_c e6 (Nat.ne_of_beq_eq_false rfl)) 0).trans ((congrFun (ms_c e4 (Nat.ne_of_beq_eq_false rfl)) 0).trans (congrFun (mr_c e2 (Nat.ne_of_beq_eq_false rfl)) 0))))))) hp26) (fun j k0_ => rfl) (bd_r ((congrFun (fr269 19 rfl) 0).trans ((congrFun (ms_c e12 (Nat.ne_of_beq_eq_false rfl)) 0).trans ((congrFun (ms_c e10 (Nat.ne_of_beq_eq_false rfl)) 0).trans ((congrFun (ms_c e8 (Nat.ne_of_beq_eq_false rfl)) 0).trans ((congrFun (ms_c e6 (Nat.ne_of_beq_eq_false rfl)) 0).trans ((congrFun (ms_c e4 (Nat.ne_of_beq_eq_false rfl)) 0).trans (congrFun (mr_c e2 (Nat.ne_of_beq_eq_false rfl)) 0))))))) hp27) (fun j k0_ => rfl) (bd_r ((congrFun (fr269 23 rfl) 0).trans ((congrFun (ms_c e12 (Nat.ne_of_beq_eq_false rfl)) 0).trans ((congrFun (ms_c e10 (Nat.ne_of_beq_eq_false rfl)) 0).trans ((congrFun (ms_c e8 (Nat.ne_of_beq_eq_false rfl)) 0).trans ((congrFun (ms_c e6 (Nat.ne_of_beq_eq_false rfl)) 0).trans ((congrFun (ms_c e4 (Nat.ne_of_beq_eq_false rfl)) 0).trans (congrFun (mr_c e2 (Nat.ne_of_beq_eq_false rfl)) 0))))))) hp28) (km_c ((fr269 16 rfl).trans ((ms_c e12 (Nat.ne_of_beq_eq_false rfl)).trans ((ms_c e10 (Nat.ne_of_beq_eq_false rfl)).trans ((ms_c e8 (Nat.ne_of_beq_eq_false rfl)).trans ((ms_c e6 (Nat.ne_of_beq_eq_false rfl)).trans ((ms_c e4 (Nat.ne_of_beq_eq_false rfl)).trans (mr_c e2 (Nat.ne_of_beq_eq_false rfl)))))))) ((fr269 18 rfl).trans ((ms_c e12 (Nat.ne_of_beq_eq_false rfl)).trans ((ms_c e10 (Nat.ne_of_beq_eq_false rfl)).trans ((ms_c e8 (Nat.ne_of_beq_eq_false rfl)).trans ((ms_c e6 (Nat.ne_of_beq_eq_false rfl)).trans ((ms_c e4 (Nat.ne_of_beq_eq_false rfl)).trans (mr_c e2 (Nat.ne_of_beq_eq_false rfl)))))))) hp29) (km_c ((fr269 20 rfl).trans ((ms_c e12 (Nat.ne_of_beq_eq_false rfl)).trans ((ms_c e10 (Nat.ne_of_beq_eq_false rfl)).trans ((ms_c e8 (Nat.ne_of_beq_eq_false rfl)).trans ((ms_c e6 (Nat.ne_of_beq_eq_false rfl)).trans ((ms_c e4 (Nat.ne_of_beq_eq_false rfl)).trans (mr_c e2 (Nat.ne_of_beq_eq_false rfl)))))))) ((fr269 22 rfl).trans ((ms_c e12 (Nat.ne_of_beq_eq_false rfl)).trans ((ms_c e10 (Nat.ne_of_beq_eq_false rfl)).trans ((ms_c e8 (Nat.ne_of_beq_eq_false rfl)).trans ((ms_c e6 (Nat.ne_of_beq_eq_false rfl)).trans ((ms_c e4 (Nat.ne_of_beq_eq_false rfl)).trans (mr_c e2 (Nat.ne_of_beq_eq_false rfl)))))))) hp30) (km_c ((fr269 24 rfl).trans ((ms_c e12 (Nat.ne_of_beq_eq_false rfl)).trans ((ms_c e10 (Nat.ne_of_beq_eq_false rfl)).trans ((ms_c e8 (Nat.ne_of_beq_eq_false rfl)).trans ((ms_c e6 (Nat.ne_of_beq_eq_false rfl)).trans ((ms_c e4 (Nat.ne_of_beq_eq_false rfl)).trans (mr_c e2 (Nat.ne_of_beq_eq_false rfl)))))))) ((fr269 26 rfl).trans ((ms_c e12 (Nat.ne_of_beq_eq_false rfl)).trans ((ms_c e10 (Nat.ne_of_beq_eq_false rfl)).trans ((ms_c e8 (Nat.ne_of_beq_eq_false rfl)).trans ((ms_c e6 (Nat.ne_of_beq_eq_false rfl)).trans ((ms_c e4 (Nat.ne_of_beq_eq_false rfl)).trans (mr_c e2 (Nat.ne_of_beq_eq_false rfl)))))))) hp31) (Nat.lt_succ_self _) E
      · replace E := xq_en c475 E
        refine J_aload_n (i := 0) (j := 0) dX7_copy_63 rfl rfl ?_
        refine J_get (C := RX7) (T := TX7) (Z := 8) (ci := 7) (f := 4) dX7_copy_64 inG7 rfl (by decide) k194 wc_1 rfl ?_
        refine J_iload_n (i := 2) (j := 2) dX7_copy_67 rfl rfl ?_
        have h651 := bd_cases2 (bd_lt_hi bw267 (i_nle c475) (bd_c (v := 2) (lo := 2) (hi := 2) (by decide)))
        rcases h651 with h651_0 | h651_1
        · replace E := xq_ep h651_0 E
          refine J_aald (q := 5) dX7_copy_68 wc_3 (fun _ => rfl) (vin (bd_lt_hi bw267 (i_nle c475) (bd_c (v := 2) (lo := 2) (hi := 2) (by decide))) (by decide)) (by rw [h651_0]; rfl) ?_
          refine J_aload_n (i := 1) (j := 1) dX7_copy_69 rfl rfl ?_
          refine J_get (C := RX7) (T := TX7) (Z := 8) (ci := 7) (f := 4) dX7_copy_70 inG7 rfl (by decide) k194 wc_136 rfl ?_
          refine J_iload_n (i := 2) (j := 2) dX7_copy_73 rfl rfl ?_
          refine J_aald (q := 140) dX7_copy_74 wc_138 (fun _ => rfl) (vin (bd_r h651_0 (bd_c (v := 0) (lo := 0) (hi := 0) (by decide))) (by decide)) (by rw [h651_0]; rfl) ?_
          refine J_callV (As := [.ref 140]) (rest := []) dX7_copy_75 (c_H_copyBX (d := 1) (u := u268) (g := g) (ex := ex)  (t := 5) (f := 140) (by decide) (by decide) (by decide) (Nat.ne_of_beq_eq_false rfl) (bd_r ((congrFun (fr269 140 rfl) 0).trans ((congrFun (ms_c e12 (Nat.ne_of_beq_eq_false rfl)) 0).trans ((congrFun (ms_c e10 (Nat.ne_of_beq_eq_false rfl)) 0).trans ((congrFun (ms_c e8 (Nat.ne_of_beq_eq_false rfl)) 0).trans ((congrFun (ms_c e6 (Nat.ne_of_beq_eq_false rfl)) 0).trans ((congrFun (ms_c e4 (Nat.ne_of_beq_eq_false rfl)) 0).trans (congrFun (mr_c e2 (Nat.ne_of_beq_eq_false rfl)) 0))))))) hp4) (bd_r ((congrFun (fr269 140 rfl) 2).trans ((congrFun (ms_c e12 (Nat.ne_of_beq_eq_false rfl)) 2).trans ((congrFun (ms_c e10 (Nat.ne_of_beq_eq_false rfl)) 2).trans ((congrFun (ms_c e8 (Nat.ne_of_beq_eq_false rfl)) 2).trans ((congrFun (ms_c e6 (Nat.ne_of_beq_eq_false rfl)) 2).trans ((congrFun (ms_c e4 (Nat.ne_of_beq_eq_false rfl)) 2).trans (congrFun (mr_c e2 (Nat.ne_of_beq_eq_false rfl)) 2))))))) hp5) ab277 (ab_c ((fr269 141 rfl).trans ((ms_c e12 (Nat.ne_of_beq_eq_false rfl)).trans ((ms_c e10 (Nat.ne_of_beq_eq_false rfl)).trans ((ms_c e8 (Nat.ne_of_beq_eq_false rfl)).trans ((ms_c e6 (Nat.ne_of_beq_eq_false rfl)).trans ((ms_c e4 (Nat.ne_of_beq_eq_false rfl)).trans (mr_c e2 (Nat.ne_of_beq_eq_false rfl)))))))) hp8)) hq.n k680 k681 k682 wc_5 rfl rfl k89 k683 np_X1_copy (Nat.le_trans (by decide) hd) (by decide) (Nat.le_refl _) (Nat.le_refl _) wlen rfl (Nat.le_of_ble_eq_true rfl) (fun r_ h_ p652 => ?_)
          obtain ⟨u653, rfl, rfl, h654, h655, h656, hx657, fr658, fc659⟩ := p652
          replace E := xq_le hx657 E
          refine J_iinc (i := 2) (j := 2) (v := (w267 + 1)) (lw := [(2, .int (w267 + 1)), (0, .ref 1), (1, .ref 136)]) dX7_copy_78 rfl rfl (by decide) rfl ?_
          refine J_goto (tgt := 58) dX7_copy_81 (by decide) ?_
          refine J_lv [1, 2, 0] rfl ?_
          exact ih473 (w267 + 1) u653 (bd_w (l := 0) (h := 2) (bd_add (l := 1) (h := 1) (bd_r h651_0 (bd_c (v := 0) (lo := 0) (hi := 0) (by decide))) (bd_c (v := 1) (lo := 1) (hi := 1) (by decide)) (by decide)) (by decide)) (fun c k_ => ((fr658 c (nin_ne (a := 5) k_ rfl) (nin_ne (a := 6) k_ rfl) (nin_ne (a := 7) k_ rfl) (nin_ne (a := 8) k_ rfl) (nin_ne (a := 9) k_ rfl)).trans (fr269 c (nin_sub (M := [(5, 14)]) k_ rfl)))) (fun j k0_ k2_ => ((congrFun (fr658 10 (Nat.ne_of_beq_eq_false rfl) (Nat.ne_of_beq_eq_false rfl) (Nat.ne_of_beq_eq_false rfl) (Nat.ne_of_beq_eq_false rfl) (Nat.ne_of_beq_eq_false rfl)) j).trans (fc270 j k0_ k2_))) (bd_r (congrFun (fr658 10 (Nat.ne_of_beq_eq_false rfl) (Nat.ne_of_beq_eq_false rfl) (Nat.ne_of_beq_eq_false rfl) (Nat.ne_of_beq_eq_false rfl) (Nat.ne_of_beq_eq_false rfl)) 0) bm271) (bd_r (congrFun (fr658 10 (Nat.ne_of_beq_eq_false rfl) (Nat.ne_of_beq_eq_false rfl) (Nat.ne_of_beq_eq_false rfl) (Nat.ne_of_beq_eq_false rfl) (Nat.ne_of_beq_eq_false rfl)) 2) bm272) (ab_c (fr658 11 (Nat.ne_of_beq_eq_false rfl) (Nat.ne_of_beq_eq_false rfl) (Nat.ne_of_beq_eq_false rfl) (Nat.ne_of_beq_eq_false rfl) (Nat.ne_of_beq_eq_false rfl)) ab273) (fun j k0_ k2_ => ((fc659 j k0_ k2_).trans (fc274 j k0_ k2_))) h654 h655 h656 (mu_up 1 bw267 rfl (by decide) (bd_w (l := 1) (h := 2) (bd_add (l := 1) (h := 1) (bd_r h651_0 (bd_c (v := 0) (lo := 0) (hi := 0) (by decide))) (bd_c (v := 1) (lo := 1) (hi := 1) (by decide)) (by decide)) (by decide)) hm474) E
        · replace E := xq_en (fun z_ => absurd (z_.symm.trans h651_1) (by decide)) E
          refine J_aald (q := 10) dX7_copy_68 wc_3 (fun _ => rfl) (vin (bd_lt_hi bw267 (i_nle c475) (bd_c (v := 2) (lo := 2) (hi := 2) (by decide))) (by decide)) (by rw [h651_1]; rfl) ?_
          refine J_aload_n (i := 1) (j := 1) dX7_copy_69 rfl rfl ?_
          refine J_get (C := RX7) (T := TX7) (Z := 8) (ci := 7) (f := 4) dX7_copy_70 inG7 rfl (by decide) k194 wc_136 rfl ?_
          refine J_iload_n (i := 2) (j := 2) dX7_copy_73 rfl rfl ?_
          refine J_aald (q := 145) dX7_copy_74 wc_138 (fun _ => rfl) (vin (bd_r h651_1 (bd_c (v := 1) (lo := 1) (hi := 1) (by decide))) (by decide)) (by rw [h651_1]; rfl) ?_
          refine J_callV (As := [.ref 145]) (rest := []) dX7_copy_75 (c_H_copyBX (d := 1) (u := u268) (g := g) (ex := ex)  (t := 10) (f := 145) (by decide) (by decide) (by decide) (Nat.ne_of_beq_eq_false rfl) (bd_r ((congrFun (fr269 145 rfl) 0).trans ((congrFun (ms_c e12 (Nat.ne_of_beq_eq_false rfl)) 0).trans ((congrFun (ms_c e10 (Nat.ne_of_beq_eq_false rfl)) 0).trans ((congrFun (ms_c e8 (Nat.ne_of_beq_eq_false rfl)) 0).trans ((congrFun (ms_c e6 (Nat.ne_of_beq_eq_false rfl)) 0).trans ((congrFun (ms_c e4 (Nat.ne_of_beq_eq_false rfl)) 0).trans (congrFun (mr_c e2 (Nat.ne_of_beq_eq_false rfl)) 0))))))) hp6) (bd_r ((congrFun (fr269 145 rfl) 2).trans ((congrFun (ms_c e12 (Nat.ne_of_beq_eq_false rfl)) 2).trans ((congrFun (ms_c e10 (Nat.ne_of_beq_eq_false rfl)) 2).trans ((congrFun (ms_c e8 (Nat.ne_of_beq_eq_false rfl)) 2).trans ((congrFun (ms_c e6 (Nat.ne_of_beq_eq_false rfl)) 2).trans ((congrFun (ms_c e4 (Nat.ne_of_beq_eq_false rfl)) 2).trans (congrFun (mr_c e2 (Nat.ne_of_beq_eq_false rfl)) 2))))))) hp7) ab273 (ab_c ((fr269 146 rfl).trans ((ms_c e12 (Nat.ne_of_beq_eq_false rfl)).trans ((ms_c e10 (Nat.ne_of_beq_eq_false rfl)).trans ((ms_c e8 (Nat.ne_of_beq_eq_false rfl)).trans ((ms_c e6 (Nat.ne_of_beq_eq_false rfl)).trans ((ms_c e4 (Nat.ne_of_beq_eq_false rfl)).trans (mr_c e2 (Nat.ne_of_beq_eq_false rfl)))))))) hp9)) hq.n k680 k681 k682 wc_10 rfl rfl k89 k683 np_X1_copy (Nat.le_trans (by decide) hd) (by decide) (Nat.le_refl _) (Nat.le_refl _) wlen rfl (Nat.le_of_ble_eq_true rfl) (fun r_ h_ p660 => ?_)
          obtain ⟨u661, rfl, rfl, h662, h663, h664, hx665, fr666, fc667⟩ := p660
          replace E := xq_le hx665 E
          refine J_iinc (i := 2) (j := 2) (v := (w267 + 1)) (lw := [(2, .int (w267 + 1)), (0, .ref 1), (1, .ref 136)]) dX7_copy_78 rfl rfl (by decide) rfl ?_
          refine J_goto (tgt := 58) dX7_copy_81 (by decide) ?_
          refine J_lv [1, 2, 0] rfl ?_
          exact ih473 (w267 + 1) u661 (bd_w (l := 0) (h := 2) (bd_add (l := 2) (h := 2) (bd_r h651_1 (bd_c (v := 1) (lo := 1) (hi := 1) (by decide))) (bd_c (v := 1) (lo := 1) (hi := 1) (by decide)) (by decide)) (by decide)) (fun c k_ => ((fr666 c (nin_ne (a := 10) k_ rfl) (nin_ne (a := 11) k_ rfl) (nin_ne (a := 12) k_ rfl) (nin_ne (a := 13) k_ rfl) (nin_ne (a := 14) k_ rfl)).trans (fr269 c (nin_sub (M := [(5, 14)]) k_ rfl)))) (fun j k0_ k2_ => ((fc667 j k0_ k2_).trans (fc270 j k0_ k2_))) h662 h663 h664 (fun j k0_ k2_ => ((congrFun (fr666 5 (Nat.ne_of_beq_eq_false rfl) (Nat.ne_of_beq_eq_false rfl) (Nat.ne_of_beq_eq_false rfl) (Nat.ne_of_beq_eq_false rfl) (Nat.ne_of_beq_eq_false rfl)) j).trans (fc274 j k0_ k2_))) (bd_r (congrFun (fr666 5 (Nat.ne_of_beq_eq_false rfl) (Nat.ne_of_beq_eq_false rfl) (Nat.ne_of_beq_eq_false rfl) (Nat.ne_of_beq_eq_false rfl) (Nat.ne_of_beq_eq_false rfl)) 0) bm275) (bd_r (congrFun (fr666 5 (Nat.ne_of_beq_eq_false rfl) (Nat.ne_of_beq_eq_false rfl) (Nat.ne_of_beq_eq_false rfl) (Nat.ne_of_beq_eq_false rfl) (Nat.ne_of_beq_eq_false rfl)) 2) bm276) (ab_c (fr666 6 (Nat.ne_of_beq_eq_false rfl) (Nat.ne_of_beq_eq_false rfl) (Nat.ne_of_beq_eq_false rfl) (Nat.ne_of_beq_eq_false rfl) (Nat.ne_of_beq_eq_false rfl)) ab277) (mu_up 1 bw267 rfl (by decide) (bd_w (l := 2) (h := 2) (bd_add (l := 2) (h := 2) (bd_r h651_1 (bd_c (v := 1) (lo := 1) (hi := 1) (by decide))) (bd_c (v := 1) (lo := 1) (hi := 1) (by decide)) (by decide)) (by decide)) hm474) E
  refine J_lv [1, 2, 0] rfl ?_
  exact lp471 ((2 - (0 : Int32).toInt).toNat + 1) (0 : Int32) u11 (bd_w (l := 0) (h := 2) (bd_c (v := 0) (lo := 0) (hi := 0) (by decide)) (by decide)) (fun c k_ => rfl) (fun j k0_ k2_ => rfl) (bd_r ((congrFun (ms_c e12 (Nat.ne_of_beq_eq_false rfl)) 0).trans ((congrFun (ms_c e10 (Nat.ne_of_beq_eq_false rfl)) 0).trans ((congrFun (ms_c e8 (Nat.ne_of_beq_eq_false rfl)) 0).trans ((congrFun (ms_c e6 (Nat.ne_of_beq_eq_false rfl)) 0).trans ((congrFun (ms_c e4 (Nat.ne_of_beq_eq_false rfl)) 0).trans (congrFun (mr_c e2 (Nat.ne_of_beq_eq_false rfl)) 0)))))) hp22) (bd_r ((congrFun (ms_c e12 (Nat.ne_of_beq_eq_false rfl)) 2).trans ((congrFun (ms_c e10 (Nat.ne_of_beq_eq_false rfl)) 2).trans ((congrFun (ms_c e8 (Nat.ne_of_beq_eq_false rfl)) 2).trans ((congrFun (ms_c e6 (Nat.ne_of_beq_eq_false rfl)) 2).trans ((congrFun (ms_c e4 (Nat.ne_of_beq_eq_false rfl)) 2).trans (congrFun (mr_c e2 (Nat.ne_of_beq_eq_false rfl)) 2)))))) hp23) (ab_c ((ms_c e12 (Nat.ne_of_beq_eq_false rfl)).trans ((ms_c e10 (Nat.ne_of_beq_eq_false rfl)).trans ((ms_c e8 (Nat.ne_of_beq_eq_false rfl)).trans ((ms_c e6 (Nat.ne_of_beq_eq_false rfl)).trans ((ms_c e4 (Nat.ne_of_beq_eq_false rfl)).trans (mr_c e2 (Nat.ne_of_beq_eq_false rfl))))))) hp25) (fun j k0_ k2_ => rfl) (bd_r ((congrFun (ms_c e12 (Nat.ne_of_beq_eq_false rfl)) 0).trans ((congrFun (ms_c e10 (Nat.ne_of_beq_eq_false rfl)) 0).trans ((congrFun (ms_c e8 (Nat.ne_of_beq_eq_false rfl)) 0).trans ((congrFun (ms_c e6 (Nat.ne_of_beq_eq_false rfl)) 0).trans ((congrFun (ms_c e4 (Nat.ne_of_beq_eq_false rfl)) 0).trans (congrFun (mr_c e2 (Nat.ne_of_beq_eq_false rfl)) 0)))))) hp20) (bd_r ((congrFun (ms_c e12 (Nat.ne_of_beq_eq_false rfl)) 2).trans ((congrFun (ms_c e10 (Nat.ne_of_beq_eq_false rfl)) 2).trans ((congrFun (ms_c e8 (Nat.ne_of_beq_eq_false rfl)) 2).trans ((congrFun (ms_c e6 (Nat.ne_of_beq_eq_false rfl)) 2).trans ((congrFun (ms_c e4 (Nat.ne_of_beq_eq_false rfl)) 2).trans (congrFun (mr_c e2 (Nat.ne_of_beq_eq_false rfl)) 2)))))) hp21) (ab_c ((ms_c e12 (Nat.ne_of_beq_eq_false rfl)).trans ((ms_c e10 (Nat.ne_of_beq_eq_false rfl)).trans ((ms_c e8 (Nat.ne_of_beq_eq_false rfl)).trans ((ms_c e6 (Nat.ne_of_beq_eq_false rfl)).trans ((ms_c e4 (Nat.ne_of_beq_eq_false rfl)).trans (mr_c e2 (Nat.ne_of_beq_eq_false rfl))))))) hp24) (Nat.lt_succ_self _) E
set_option maxRecDepth 100000 in
noncomputable def Fx_P_imageRX (k : Int32) (u : Nat → Nat → Int32) (g : Nat → Nat → Int64) : Bool × (Nat → Nat → Int32) := if k < (0 : Int32) then ((false, u)) else (if k < (3 : Int32) then (if k = 0 then (xq_lt (Fx_T_copyR_84_1X u g) fun u5 => xq_lt (ms u5 28 k.toNatClampNeg (vp_nar .boolean (1 : Int32))) fun u31 => (true, u31)) else (if k = 1 then (xq_lt (Fx_T_copyR_110_1X u g) fun u34 => xq_lt (ms u34 28 k.toNatClampNeg (vp_nar .boolean (1 : Int32))) fun u60 => (true, u60)) else (xq_lt (Fx_T_copyR_136_1X u g) fun u63 => xq_lt (ms u63 28 k.toNatClampNeg (vp_nar .boolean (1 : Int32))) fun u89 => (true, u89)))) else ((false, u)))
set_option maxHeartbeats 4000000 in
set_option maxRecDepth 100000 in
theorem c_P_imageRX {d : Nat} {u : Nat → Nat → Int32} {g : Nat → Nat → Int64} {ex : List MC} {k : Int32} (hd : 3 ≤ d) (hp0 : Bd 0 600 (u 1 1)) (hp1 : Bd 0 2 (u 1 5)) (hp2 : Bd 0 3 (u 1 7)) (hp3 : BF u 2) (hp4 : Bd 0 9 (u 5 0)) (hp5 : Bd 0 4 (u 5 2)) (hp6 : Bd 0 9 (u 10 0)) (hp7 : Bd 0 4 (u 10 2)) (hp8 : AB u 6 (-1) 999) (hp9 : AB u 11 (-1) 999) (hp10 : Bd 0 12 (u 15 0)) (hp11 : Bd 0 12 (u 19 0)) (hp12 : Bd 0 12 (u 23 0)) (hp13 : (KM u 15)) (hp14 : (KM u 19)) (hp15 : (KM u 23)) (hp16 : Bd 0 600 (u 84 1)) (hp17 : Bd 0 2 (u 84 5)) (hp18 : Bd 0 3 (u 84 7)) (hp19 : BF u 85) (hp20 : Bd 0 9 (u 88 0)) (hp21 : Bd 0 4 (u 88 2)) (hp22 : Bd 0 9 (u 93 0)) (hp23 : Bd 0 4 (u 93 2)) (hp24 : AB u 89 (-1) 999) (hp25 : AB u 94 (-1) 999) (hp26 : Bd 0 12 (u 98 0)) (hp27 : Bd 0 12 (u 102 0)) (hp28 : Bd 0 12 (u 106 0)) (hp29 : (KM u 98)) (hp30 : (KM u 102)) (hp31 : (KM u 106)) (hp32 : Bd 0 600 (u 110 1)) (hp33 : Bd 0 2 (u 110 5)) (hp34 : Bd 0 3 (u 110 7)) (hp35 : BF u 111) (hp36 : Bd 0 9 (u 114 0)) (hp37 : Bd 0 4 (u 114 2)) (hp38 : Bd 0 9 (u 119 0)) (hp39 : Bd 0 4 (u 119 2)) (hp40 : AB u 115 (-1) 999) (hp41 : AB u 120 (-1) 999) (hp42 : Bd 0 12 (u 124 0)) (hp43 : Bd 0 12 (u 128 0)) (hp44 : Bd 0 12 (u 132 0)) (hp45 : (KM u 124)) (hp46 : (KM u 128)) (hp47 : (KM u 132)) (hp48 : Bd 0 600 (u 136 1)) (hp49 : Bd 0 2 (u 136 5)) (hp50 : Bd 0 3 (u 136 7)) (hp51 : BF u 137) (hp52 : Bd 0 9 (u 140 0)) (hp53 : Bd 0 4 (u 140 2)) (hp54 : Bd 0 9 (u 145 0)) (hp55 : Bd 0 4 (u 145 2)) (hp56 : AB u 141 (-1) 999) (hp57 : AB u 146 (-1) 999) (hp58 : Bd 0 12 (u 150 0)) (hp59 : Bd 0 12 (u 154 0)) (hp60 : Bd 0 12 (u 158 0)) (hp61 : (KM u 150)) (hp62 : (KM u 154)) (hp63 : (KM u 158)) : CT con0 d 0 0 yX10_image cX10_image 2 (some .boolean) [.ref 0, .int k] (Wd u g ex) (fun r h2 => ∃ (z : Bool) (u2 : Nat → Nat → Int32), r = some (.int (bI z)) ∧ h2 = Wd u2 g ex ∧ (z = true → Bd 0 2 k) ∧ Bd 0 600 (u2 84 1) ∧ Bd 0 2 (u2 84 5) ∧ Bd 0 3 (u2 84 7) ∧ BF u2 85 ∧ Bd 0 9 (u2 88 0) ∧ Bd 0 4 (u2 88 2) ∧ Bd 0 9 (u2 93 0) ∧ Bd 0 4 (u2 93 2) ∧ AB u2 89 (-1) 999 ∧ AB u2 94 (-1) 999 ∧ Bd 0 12 (u2 98 0) ∧ Bd 0 12 (u2 102 0) ∧ Bd 0 12 (u2 106 0) ∧ (KM u2 98) ∧ (KM u2 102) ∧ (KM u2 106) ∧ Bd 0 600 (u2 110 1) ∧ Bd 0 2 (u2 110 5) ∧ Bd 0 3 (u2 110 7) ∧ BF u2 111 ∧ Bd 0 9 (u2 114 0) ∧ Bd 0 4 (u2 114 2) ∧ Bd 0 9 (u2 119 0) ∧ Bd 0 4 (u2 119 2) ∧ AB u2 115 (-1) 999 ∧ AB u2 120 (-1) 999 ∧ Bd 0 12 (u2 124 0) ∧ Bd 0 12 (u2 128 0) ∧ Bd 0 12 (u2 132 0) ∧ (KM u2 124) ∧ (KM u2 128) ∧ (KM u2 132) ∧ Bd 0 600 (u2 136 1) ∧ Bd 0 2 (u2 136 5) ∧ Bd 0 3 (u2 136 7) ∧ BF u2 137 ∧ Bd 0 9 (u2 140 0) ∧ Bd 0 4 (u2 140 2) ∧ Bd 0 9 (u2 145 0) ∧ Bd 0 4 (u2 145 2) ∧ AB u2 141 (-1) 999 ∧ AB u2 146 (-1) 999 ∧ Bd 0 12 (u2 150 0) ∧ Bd 0 12 (u2 154 0) ∧ Bd 0 12 (u2 158 0) ∧ (KM u2 150) ∧ (KM u2 154) ∧ (KM u2 158) ∧ (z = true ↔ (0 ≤ k ∧ k ≤ 2)) ∧ (IMGL u2 u k) ∧ (TKN u2 u 28 k) ∧ (z, u2) = Fx_P_imageRX k u g ∧ (∀ c, nin c [(28, 28), (84, 85), (88, 111), (114, 137), (140, 161)] = true → u2 c = u c) ∧ (∀ j, j ≠ 1 → j ≠ 2 → j ≠ 3 → j ≠ 5 → j ≠ 7 → u2 84 j = u 84 j) ∧ (∀ j, j ≠ 0 → j ≠ 2 → u2 88 j = u 88 j) ∧ (∀ j, j ≠ 0 → j ≠ 2 → u2 93 j = u 93 j) ∧ (∀ j, j ≠ 0 → u2 98 j = u 98 j) ∧ (∀ j, j ≠ 0 → u2 102 j = u 102 j) ∧ (∀ j, j ≠ 0 → u2 106 j = u 106 j) ∧ (∀ j, j ≠ 1 → j ≠ 2 → j ≠ 3 → j ≠ 5 → j ≠ 7 → u2 110 j = u 110 j) ∧ (∀ j, j ≠ 0 → j ≠ 2 → u2 114 j = u 114 j) ∧ (∀ j, j ≠ 0 → j ≠ 2 → u2 119 j = u 119 j) ∧ (∀ j, j ≠ 0 → u2 124 j = u 124 j) ∧ (∀ j, j ≠ 0 → u2 128 j = u 128 j) ∧ (∀ j, j ≠ 0 → u2 132 j = u 132 j) ∧ (∀ j, j ≠ 1 → j ≠ 2 → j ≠ 3 → j ≠ 5 → j ≠ 7 → u2 136 j = u 136 j) ∧ (∀ j, j ≠ 0 → j ≠ 2 → u2 140 j = u 140 j) ∧ (∀ j, j ≠ 0 → j ≠ 2 → u2 145 j = u 145 j) ∧ (∀ j, j ≠ 0 → u2 150 j = u 150 j) ∧ (∀ j, j ≠ 0 → u2 154 j = u 154 j) ∧ (∀ j, j ≠ 0 → u2 158 j = u 158 j)) := by
  refine CT_of (by decide) (Nat.le_of_ble_eq_true rfl) (fun x hq => ?_)
  show J x yX10_image cX10_image 2 (some .boolean) d 0 0 (Wd u g ex).length 0 [(0, .ref 0), (1, .int k)] [] (Wd u g ex) 0 0
  have E : Fx_P_imageRX k u g = Fx_P_imageRX k u g := rfl
  refine J_iload_n (i := 1) (j := 1) dX10_image_0 rfl rfl ?_
  refine J_if_lt (tgt := 9) dX10_image_1 (by decide) (fun c1 => ?_) (fun c1 => ?_)
  · replace E := xq_ep c1 E
    refine J_iconst (v := 0) dX10_image_9 (by decide) ?_
    exact J_zret hq dX10_image_10 rfl rfl wlen (Nat.le_refl _) (Nat.le_refl _) ⟨false, u, rfl, rfl, (fun q => absurd q (by decide)), hp16, hp17, hp18, hp19, hp20, hp21, hp22, hp23, hp24, hp25, hp26, hp27, hp28, hp29, hp30, hp31, hp32, hp33, hp34, hp35, hp36, hp37, hp38, hp39, hp40, hp41, hp42, hp43, hp44, hp45, hp46, hp47, hp48, hp49, hp50, hp51, hp52, hp53, hp54, hp55, hp56, hp57, hp58, hp59, hp60, hp61, hp62, hp63, ⟨fun q => absurd q (by decide), fun q => absurd q (nok (Or.inl c1)).2.2.2⟩, (imgl_n (Or.inl c1)), (tkn_n (nok (Or.inl c1)).2.2.2 rfl), E, (fun c k_ => rfl), (fun j k1_ k2_ k3_ k5_ k7_ => rfl), (fun j k0_ k2_ => rfl), (fun j k0_ k2_ => rfl), (fun j k0_ => rfl), (fun j k0_ => rfl), (fun j k0_ => rfl), (fun j k1_ k2_ k3_ k5_ k7_ => rfl), (fun j k0_ k2_ => rfl), (fun j k0_ k2_ => rfl), (fun j k0_ => rfl), (fun j k0_ => rfl), (fun j k0_ => rfl), (fun j k1_ k2_ k3_ k5_ k7_ => rfl), (fun j k0_ k2_ => rfl), (fun j k0_ k2_ => rfl), (fun j k0_ => rfl), (fun j k0_ => rfl), (fun j k0_ => rfl)⟩
  · replace E := xq_en c1 E
    refine J_iload_n (i := 1) (j := 1) dX10_image_4 rfl rfl ?_
    refine J_iconst (v := 3) dX10_image_5 (by decide) ?_
    refine J_icmp_lt (tgt := 11) dX10_image_6 (by decide) (fun c2 => ?_) (fun c2 => ?_)
    · replace E := xq_ep c2 E
      refine J_aload_n (i := 0) (j := 0) dX10_image_11 rfl rfl ?_
      refine J_get (C := RX10) (T := TX10) (Z := 10) (ci := 10) (f := 1) dX10_image_12 inG10 rfl (by decide) k424 wc_0 rfl ?_
      refine J_iload_n (i := 1) (j := 1) dX10_image_15 rfl rfl ?_
      have h3 := bd_cases3 (bd_lt_hi (bd_le_lo (bd_any k) (i_nlt c1) (bd_c (v := 0) (lo := 0) (hi := 0) (by decide))) c2 (bd_c (v := 3) (lo := 3) (hi := 3) (by decide)))
      rcases h3 with h3_0 | h3_1 | h3_2
      · replace E := xq_ep h3_0 E
        refine J_aald (q := 84) dX10_image_16 wc_27 (fun _ => rfl) (vin (bd_lt_hi (bd_le_lo (bd_any k) (i_nlt c1) (bd_c (v := 0) (lo := 0) (hi := 0) (by decide))) c2 (bd_c (v := 3) (lo := 3) (hi := 3) (by decide))) (by decide)) (by rw [h3_0]; rfl) ?_
        refine J_aload_n (i := 0) (j := 0) dX10_image_17 rfl rfl ?_
        refine J_get (C := RX10) (T := TX10) (Z := 10) (ci := 10) (f := 0) dX10_image_18 inG10 rfl (by decide) k423 wc_0 rfl ?_
        refine J_callV (As := [.ref 1]) (rest := []) dX10_image_21 (c_T_copyR_84_1X (d := 2) (u := u) (g := g) (ex := ex)   (by decide) hp0 hp1 hp2 hp3 hp4 hp5 hp6 hp7 hp8 hp9 hp10 hp11 hp12 hp13 hp14 hp15 hp16 hp17 hp18 hp19 hp20 hp21 hp22 hp23 hp24 hp25 hp26 hp27 hp28 hp29 hp30 hp31) hq.n k1249 k1250 k1251 wc_84 rfl rfl k88 k1252 np_X7_copy (Nat.le_trans (by decide) hd) (by decide) (Nat.le_refl _) (Nat.le_refl _) wlen rfl (Nat.le_of_ble_eq_true rfl) (fun r_ h_ p4 => ?_)
        obtain ⟨u5, rfl, rfl, h6, h7, h8, h9, h10, h11, h12, h13, h14, h15, h16, h17, h18, h19, h20, h21, h22, hx23, fr24, fc25, fc26, fc27, fc28, fc29, fc30⟩ := p4
        replace E := xq_le hx23 E
        refine J_aload_n (i := 0) (j := 0) dX10_image_24 rfl rfl ?_
        refine J_get (C := RX10) (T := TX10) (Z := 10) (ci := 10) (f := 2) dX10_image_25 inG10 rfl (by decide) k425 wc_0 rfl ?_
        refine J_iload_n (i := 1) (j := 1) dX10_image_28 rfl rfl ?_
        refine J_iconst (v := 1) dX10_image_29 (by decide) ?_
        obtain ⟨u31, e32⟩ : ∃ z, z = ms u5 28 k.toNatClampNeg (vp_nar .boolean (1 : Int32)) := ⟨_, rfl⟩
        refine J_zast dX10_image_30 wc_28 (vin (bd_r h3_0 (bd_c (v := 0) (lo := 0) (hi := 0) (by decide))) (by decide)) (ws e32 wk_28 rfl) ?_
        replace E := xq_le e32 E
        refine J_iconst (v := 1) dX10_image_31 (by decide) ?_
        exact J_zret hq dX10_image_32 rfl rfl wlen (Nat.le_refl _) (Nat.le_refl _) ⟨true, u31, rfl, rfl, (fun qb => (bd_w (l := 0) (h := 2) (bd_r h3_0 (bd_c (v := 0) (lo := 0) (hi := 0) (by decide))) (by decide))), (bd_r ((congrFun (ms_c e32 (Nat.ne_of_beq_eq_false rfl)) 1).trans h22) hp0), (bd_r (congrFun (ms_c e32 (Nat.ne_of_beq_eq_false rfl)) 5) h7), (bd_r (congrFun (ms_c e32 (Nat.ne_of_beq_eq_false rfl)) 7) h8), (bf_c (ms_c e32 (Nat.ne_of_beq_eq_false rfl)) h9), (bd_r (congrFun (ms_c e32 (Nat.ne_of_beq_eq_false rfl)) 0) h10), (bd_r (congrFun (ms_c e32 (Nat.ne_of_beq_eq_false rfl)) 2) h11), (bd_r (congrFun (ms_c e32 (Nat.ne_of_beq_eq_false rfl)) 0) h12), (bd_r (congrFun (ms_c e32 (Nat.ne_of_beq_eq_false rfl)) 2) h13), (ab_c (ms_c e32 (Nat.ne_of_beq_eq_false rfl)) h14), (ab_c (ms_c e32 (Nat.ne_of_beq_eq_false rfl)) h15), (bd_r (congrFun (ms_c e32 (Nat.ne_of_beq_eq_false rfl)) 0) h16), (bd_r (congrFun (ms_c e32 (Nat.ne_of_beq_eq_false rfl)) 0) h17), (bd_r (congrFun (ms_c e32 (Nat.ne_of_beq_eq_false rfl)) 0) h18), (km_c (ms_c e32 (Nat.ne_of_beq_eq_false rfl)) (ms_c e32 (Nat.ne_of_beq_eq_false rfl)) h19), (km_c (ms_c e32 (Nat.ne_of_beq_eq_false rfl)) (ms_c e32 (Nat.ne_of_beq_eq_false rfl)) h20), (km_c (ms_c e32 (Nat.ne_of_beq_eq_false rfl)) (ms_c e32 (Nat.ne_of_beq_eq_false rfl)) h21), (bd_r ((congrFun (ms_c e32 (Nat.ne_of_beq_eq_false rfl)) 1).trans (congrFun (fr24 110 rfl) 1)) hp32), (bd_r ((congrFun (ms_c e32 (Nat.ne_of_beq_eq_false rfl)) 5).trans (congrFun (fr24 110 rfl) 5)) hp33), (bd_r ((congrFun (ms_c e32 (Nat.ne_of_beq_eq_false rfl)) 7).trans (congrFun (fr24 110 rfl) 7)) hp34), (bf_c ((ms_c e32 (Nat.ne_of_beq_eq_false rfl)).trans (fr24 111 rfl)) hp35), (bd_r ((congrFun (ms_c e32 (Nat.ne_of_beq_eq_false rfl)) 0).trans (congrFun (fr24 114 rfl) 0)) hp36), (bd_r ((congrFun (ms_c e32 (Nat.ne_of_beq_eq_false rfl)) 2).trans (congrFun (fr24 114 rfl) 2)) hp37), (bd_r ((congrFun (ms_c e32 (Nat.ne_of_beq_eq_false rfl)) 0).trans (congrFun (fr24 119 rfl) 0)) hp38), (bd_r ((congrFun (ms_c e32 (Nat.ne_of_beq_eq_false rfl)) 2).trans (congrFun (fr24 119 rfl) 2)) hp39), (ab_c ((ms_c e32 (Nat.ne_of_beq_eq_false rfl)).trans (fr24 115 rfl)) hp40), (ab_c ((ms_c e32 (Nat.ne_of_beq_eq_false rfl)).trans (fr24 120 rfl)) hp41), (bd_r ((congrFun (ms_c e32 (Nat.ne_of_beq_eq_false rfl)) 0).trans (congrFun (fr24 124 rfl) 0)) hp42), (bd_r ((congrFun (ms_c e32 (Nat.ne_of_beq_eq_false rfl)) 0).trans (congrFun (fr24 128 rfl) 0)) hp43), (bd_r ((congrFun (ms_c e32 (Nat.ne_of_beq_eq_false rfl)) 0).trans (congrFun (fr24 132 rfl) 0)) hp44), (km_c ((ms_c e32 (Nat.ne_of_beq_eq_false rfl)).trans (fr24 125 rfl)) ((ms_c e32 (Nat.ne_of_beq_eq_false rfl)).trans (fr24 127 rfl)) hp45), (km_c ((ms_c e32 (Nat.ne_of_beq_eq_false rfl)).trans (fr24 129 rfl)) ((ms_c e32 (Nat.ne_of_beq_eq_false rfl)).trans (fr24 131 rfl)) hp46), (km_c ((ms_c e32 (Nat.ne_of_beq_eq_false rfl)).trans (fr24 133 rfl)) ((ms_c e32 (Nat.ne_of_beq_eq_false rfl)).trans (fr24 135 rfl)) hp47), (bd_r ((congrFun (ms_c e32 (Nat.ne_of_beq_eq_false rfl)) 1).trans (congrFun (fr24 136 rfl) 1)) hp48), (bd_r ((congrFun (ms_c e32 (Nat.ne_of_beq_eq_false rfl)) 5).trans (congrFun (fr24 136 rfl) 5)) hp49), (bd_r ((congrFun (ms_c e32 (Nat.ne_of_beq_eq_false rfl)) 7).trans (congrFun (fr24 136 rfl) 7)) hp50), (bf_c ((ms_c e32 (Nat.ne_of_beq_eq_false rfl)).trans (fr24 137 rfl)) hp51), (bd_r ((congrFun (ms_c e32 (Nat.ne_of_beq_eq_false rfl)) 0).trans (congrFun (fr24 140 rfl) 0)) hp52), (bd_r ((congrFun (ms_c e32 (Nat.ne_of_beq_eq_false rfl)) 2).trans (congrFun (fr24 140 rfl) 2)) hp53), (bd_r ((congrFun (ms_c e32 (Nat.ne_of_beq_eq_false rfl)) 0).trans (congrFun (fr24 145 rfl) 0)) hp54), (bd_r ((congrFun (ms_c e32 (Nat.ne_of_beq_eq_false rfl)) 2).trans (congrFun (fr24 145 rfl) 2)) hp55), (ab_c ((ms_c e32 (Nat.ne_of_beq_eq_false rfl)).trans (fr24 141 rfl)) hp56), (ab_c ((ms_c e32 (Nat.ne_of_beq_eq_false rfl)).trans (fr24 146 rfl)) hp57), (bd_r ((congrFun (ms_c e32 (Nat.ne_of_beq_eq_false rfl)) 0).trans (congrFun (fr24 150 rfl) 0)) hp58), (bd_r ((congrFun (ms_c e32 (Nat.ne_of_beq_eq_false rfl)) 0).trans (congrFun (fr24 154 rfl) 0)) hp59), (bd_r ((congrFun (ms_c e32 (Nat.ne_of_beq_eq_false rfl)) 0).trans (congrFun (fr24 158 rfl) 0)) hp60), (km_c ((ms_c e32 (Nat.ne_of_beq_eq_false rfl)).trans (fr24 151 rfl)) ((ms_c e32 (Nat.ne_of_beq_eq_false rfl)).trans (fr24 153 rfl)) hp61), (km_c ((ms_c e32 (Nat.ne_of_beq_eq_false rfl)).trans (fr24 155 rfl)) ((ms_c e32 (Nat.ne_of_beq_eq_false rfl)).trans (fr24 157 rfl)) hp62), (km_c ((ms_c e32 (Nat.ne_of_beq_eq_false rfl)).trans (fr24 159 rfl)) ((ms_c e32 (Nat.ne_of_beq_eq_false rfl)).trans (fr24 161 rfl)) hp63), ⟨fun _ => (img_t (bd_w (l := 0) (h := 2) (bd_r h3_0 (bd_c (v := 0) (lo := 0) (hi := 0) (by decide))) (by decide))), fun _ => rfl⟩, (imgl_0 h3_0 ((congrFun (ms_c e32 (Nat.ne_of_beq_eq_false rfl)) 1).trans h22) ((congrFun (ms_c e32 (Nat.ne_of_beq_eq_false rfl)) 1).trans (congrFun (fr24 110 rfl) 1)) ((congrFun (ms_c e32 (Nat.ne_of_beq_eq_false rfl)) 1).trans (congrFun (fr24 136 rfl) 1))), (tkn_s (img_t (bd_w (l := 0) (h := 2) (bd_r h3_0 (bd_c (v := 0) (lo := 0) (hi := 0) (by decide))) (by decide))) e32 (fr24 28 rfl)), E, (fun c k_ => ((ms_c e32 (nin_ne (a := 28) k_ rfl)).trans (fr24 c (nin_sub (M := [(84, 85), (88, 109)]) k_ rfl)))), (fun j k1_ k2_ k3_ k5_ k7_ => ((congrFun (ms_c e32 (Nat.ne_of_beq_eq_false rfl)) j).trans (fc25 j k1_ k2_ k3_ k5_ k7_))), (fun j k0_ k2_ => ((congrFun (ms_c e32 (Nat.ne_of_beq_eq_false rfl)) j).trans (fc26 j k0_ k2_))), (fun j k0_ k2_ => ((congrFun (ms_c e32 (Nat.ne_of_beq_eq_false rfl)) j).trans (fc27 j k0_ k2_))), (fun j k0_ => ((congrFun (ms_c e32 (Nat.ne_of_beq_eq_false rfl)) j).trans (fc28 j k0_))), (fun j k0_ => ((congrFun (ms_c e32 (Nat.ne_of_beq_eq_false rfl)) j).trans (fc29 j k0_))), (fun j k0_ => ((congrFun (ms_c e32 (Nat.ne_of_beq_eq_false rfl)) j).trans (fc30 j k0_))), (fun j k1_ k2_ k3_ k5_ k7_ => ((congrFun (ms_c e32 (Nat.ne_of_beq_eq_false rfl)) j).trans (congrFun (fr24 110 rfl) j))), (fun j k0_ k2_ => ((congrFun (ms_c e32 (Nat.ne_of_beq_eq_false rfl)) j).trans (congrFun (fr24 114 rfl) j))), (fun j k0_ k2_ => ((congrFun (ms_c e32 (Nat.ne_of_beq_eq_false rfl)) j).trans (congrFun (fr24 119 rfl) j))), (fun j k0_ => ((congrFun (ms_c e32 (Nat.ne_of_beq_eq_false rfl)) j).trans (congrFun (fr24 124 rfl) j))), (fun j k0_ => ((congrFun (ms_c e32 (Nat.ne_of_beq_eq_false rfl)) j).trans (congrFun (fr24 128 rfl) j))), (fun j k0_ => ((congrFun (ms_c e32 (Nat.ne_of_beq_eq_false rfl)) j).trans (congrFun (fr24 132 rfl) j))), (fun j k1_ k2_ k3_ k5_ k7_ => ((congrFun (ms_c e32 (Nat.ne_of_beq_eq_false rfl)) j).trans (congrFun (fr24 136 rfl) j))), (fun j k0_ k2_ => ((congrFun (ms_c e32 (Nat.ne_of_beq_eq_false rfl)) j).trans (congrFun (fr24 140 rfl) j))), (fun j k0_ k2_ => ((congrFun (ms_c e32 (Nat.ne_of_beq_eq_false rfl)) j).trans (congrFun (fr24 145 rfl) j))), (fun j k0_ => ((congrFun (ms_c e32 (Nat.ne_of_beq_eq_false rfl)) j).trans (congrFun (fr24 150 rfl) j))), (fun j k0_ => ((congrFun (ms_c e32 (Nat.ne_of_beq_eq_false rfl)) j).trans (congrFun (fr24 154 rfl) j))), (fun j k0_ => ((congrFun (ms_c e32 (Nat.ne_of_beq_eq_false rfl)) j).trans (congrFun (fr24 158 rfl) j)))⟩
      · replace E := xq_en (fun z_ => absurd (z_.symm.trans h3_1) (by decide)) E
        replace E := xq_ep h3_1 E
        refine J_aald (q := 110) dX10_image_16 wc_27 (fun _ => rfl) (vin (bd_lt_hi (bd_le_lo (bd_any k) (i_nlt c1) (bd_c (v := 0) (lo := 0) (hi := 0) (by decide))) c2 (bd_c (v := 3) (lo := 3) (hi := 3) (by decide))) (by decide)) (by rw [h3_1]; rfl) ?_
        refine J_aload_n (i := 0) (j := 0) dX10_image_17 rfl rfl ?_
        refine J_get (C := RX10) (T := TX10) (Z := 10) (ci := 10) (f := 0) dX10_image_18 inG10 rfl (by decide) k423 wc_0 rfl ?_
        refine J_callV (As := [.ref 1]) (rest := []) dX10_image_21 (c_T_copyR_110_1X (d := 2) (u := u) (g := g) (ex := ex)   (by decide) hp0 hp1 hp2 hp3 hp4 hp5 hp6 hp7 hp8 hp9 hp10 hp11 hp12 hp13 hp14 hp15 hp32 hp33 hp34 hp35 hp36 hp37 hp38 hp39 hp40 hp41 hp42 hp43 hp44 hp45 hp46 hp47) hq.n k1249 k1250 k1251 wc_110 rfl rfl k88 k1252 np_X7_copy (Nat.le_trans (by decide) hd) (by decide) (Nat.le_refl _) (Nat.le_refl _) wlen rfl (Nat.le_of_ble_eq_true rfl) (fun r_ h_ p33 => ?_)
        obtain ⟨u34, rfl, rfl, h35, h36, h37, h38, h39, h40, h41, h42, h43, h44, h45, h46, h47, h48, h49, h50, h51, hx52, fr53, fc54, fc55, fc56, fc57, fc58, fc59⟩ := p33
        replace E := xq_le hx52 E
        refine J_aload_n (i := 0) (j := 0) dX10_image_24 rfl rfl ?_
        refine J_get (C := RX10) (T := TX10) (Z := 10) (ci := 10) (f := 2) dX10_image_25 inG10 rfl (by decide) k425 wc_0 rfl ?_
        refine J_iload_n (i := 1) (j := 1) dX10_image_28 rfl rfl ?_
        refine J_iconst (v := 1) dX10_image_29 (by decide) ?_
        obtain ⟨u60, e61⟩ : ∃ z, z = ms u34 28 k.toNatClampNeg (vp_nar .boolean (1 : Int32)) := ⟨_, rfl⟩
        refine J_zast dX10_image_30 wc_28 (vin (bd_r h3_1 (bd_c (v := 1) (lo := 1) (hi := 1) (by decide))) (by decide)) (ws e61 wk_28 rfl) ?_
        replace E := xq_le e61 E
        refine J_iconst (v := 1) dX10_image_31 (by decide) ?_
        exact J_zret hq dX10_image_32 rfl rfl wlen (Nat.le_refl _) (Nat.le_refl _) ⟨true, u60, rfl, rfl, (fun qb => (bd_w (l := 0) (h := 2) (bd_r h3_1 (bd_c (v := 1) (lo := 1) (hi := 1) (by decide))) (by decide))), (bd_r ((congrFun (ms_c e61 (Nat.ne_of_beq_eq_false rfl)) 1).trans (congrFun (fr53 84 rfl) 1)) hp16), (bd_r ((congrFun (ms_c e61 (Nat.ne_of_beq_eq_false rfl)) 5).trans (congrFun (fr53 84 rfl) 5)) hp17), (bd_r ((congrFun (ms_c e61 (Nat.ne_of_beq_eq_false rfl)) 7).trans (congrFun (fr53 84 rfl) 7)) hp18), (bf_c ((ms_c e61 (Nat.ne_of_beq_eq_false rfl)).trans (fr53 85 rfl)) hp19), (bd_r ((congrFun (ms_c e61 (Nat.ne_of_beq_eq_false rfl)) 0).trans (congrFun (fr53 88 rfl) 0)) hp20), (bd_r ((congrFun (ms_c e61 (Nat.ne_of_beq_eq_false rfl)) 2).trans (congrFun (fr53 88 rfl) 2)) hp21), (bd_r ((congrFun (ms_c e61 (Nat.ne_of_beq_eq_false rfl)) 0).trans (congrFun (fr53 93 rfl) 0)) hp22), (bd_r ((congrFun (ms_c e61 (Nat.ne_of_beq_eq_false rfl)) 2).trans (congrFun (fr53 93 rfl) 2)) hp23), (ab_c ((ms_c e61 (Nat.ne_of_beq_eq_false rfl)).trans (fr53 89 rfl)) hp24), (ab_c ((ms_c e61 (Nat.ne_of_beq_eq_false rfl)).trans (fr53 94 rfl)) hp25), (bd_r ((congrFun (ms_c e61 (Nat.ne_of_beq_eq_false rfl)) 0).trans (congrFun (fr53 98 rfl) 0)) hp26), (bd_r ((congrFun (ms_c e61 (Nat.ne_of_beq_eq_false rfl)) 0).trans (congrFun (fr53 102 rfl) 0)) hp27), (bd_r ((congrFun (ms_c e61 (Nat.ne_of_beq_eq_false rfl)) 0).trans (congrFun (fr53 106 rfl) 0)) hp28), (km_c ((ms_c e61 (Nat.ne_of_beq_eq_false rfl)).trans (fr53 99 rfl)) ((ms_c e61 (Nat.ne_of_beq_eq_false rfl)).trans (fr53 101 rfl)) hp29), (km_c ((ms_c e61 (Nat.ne_of_beq_eq_false rfl)).trans (fr53 103 rfl)) ((ms_c e61 (Nat.ne_of_beq_eq_false rfl)).trans (fr53 105 rfl)) hp30), (km_c ((ms_c e61 (Nat.ne_of_beq_eq_false rfl)).trans (fr53 107 rfl)) ((ms_c e61 (Nat.ne_of_beq_eq_false rfl)).trans (fr53 109 rfl)) hp31), (bd_r ((congrFun (ms_c e61 (Nat.ne_of_beq_eq_false rfl)) 1).trans h51) hp0), (bd_r (congrFun (ms_c e61 (Nat.ne_of_beq_eq_false rfl)) 5) h36), (bd_r (congrFun (ms_c e61 (Nat.ne_of_beq_eq_false rfl)) 7) h37), (bf_c (ms_c e61 (Nat.ne_of_beq_eq_false rfl)) h38), (bd_r (congrFun (ms_c e61 (Nat.ne_of_beq_eq_false rfl)) 0) h39), (bd_r (congrFun (ms_c e61 (Nat.ne_of_beq_eq_false rfl)) 2) h40), (bd_r (congrFun (ms_c e61 (Nat.ne_of_beq_eq_false rfl)) 0) h41), (bd_r (congrFun (ms_c e61 (Nat.ne_of_beq_eq_false rfl)) 2) h42), (ab_c (ms_c e61 (Nat.ne_of_beq_eq_false rfl)) h43), (ab_c (ms_c e61 (Nat.ne_of_beq_eq_false rfl)) h44), (bd_r (congrFun (ms_c e61 (Nat.ne_of_beq_eq_false rfl)) 0) h45), (bd_r (congrFun (ms_c e61 (Nat.ne_of_beq_eq_false rfl)) 0) h46), (bd_r (congrFun (ms_c e61 (Nat.ne_of_beq_eq_false rfl)) 0) h47), (km_c (ms_c e61 (Nat.ne_of_beq_eq_false rfl)) (ms_c e61 (Nat.ne_of_beq_eq_false rfl)) h48), (km_c (ms_c e61 (Nat.ne_of_beq_eq_false rfl)) (ms_c e61 (Nat.ne_of_beq_eq_false rfl)) h49), (km_c (ms_c e61 (Nat.ne_of_beq_eq_false rfl)) (ms_c e61 (Nat.ne_of_beq_eq_false rfl)) h50), (bd_r ((congrFun (ms_c e61 (Nat.ne_of_beq_eq_false rfl)) 1).trans (congrFun (fr53 136 rfl) 1)) hp48), (bd_r ((congrFun (ms_c e61 (Nat.ne_of_beq_eq_false rfl)) 5).trans (congrFun (fr53 136 rfl) 5)) hp49), (bd_r ((congrFun (ms_c e61 (Nat.ne_of_beq_eq_false rfl)) 7).trans (congrFun (fr53 136 rfl) 7)) hp50), (bf_c ((ms_c e61 (Nat.ne_of_beq_eq_false rfl)).trans (fr53 137 rfl)) hp51), (bd_r ((congrFun (ms_c e61 (Nat.ne_of_beq_eq_false rfl)) 0).trans (congrFun (fr53 140 rfl) 0)) hp52), (bd_r ((congrFun (ms_c e61 (Nat.ne_of_beq_eq_false rfl)) 2).trans (congrFun (fr53 140 rfl) 2)) hp53), (bd_r ((congrFun (ms_c e61 (Nat.ne_of_beq_eq_false rfl)) 0).trans (congrFun (fr53 145 rfl) 0)) hp54), (bd_r ((congrFun (ms_c e61 (Nat.ne_of_beq_eq_false rfl)) 2).trans (congrFun (fr53 145 rfl) 2)) hp55), (ab_c ((ms_c e61 (Nat.ne_of_beq_eq_false rfl)).trans (fr53 141 rfl)) hp56), (ab_c ((ms_c e61 (Nat.ne_of_beq_eq_false rfl)).trans (fr53 146 rfl)) hp57), (bd_r ((congrFun (ms_c e61 (Nat.ne_of_beq_eq_false rfl)) 0).trans (congrFun (fr53 150 rfl) 0)) hp58), (bd_r ((congrFun (ms_c e61 (Nat.ne_of_beq_eq_false rfl)) 0).trans (congrFun (fr53 154 rfl) 0)) hp59), (bd_r ((congrFun (ms_c e61 (Nat.ne_of_beq_eq_false rfl)) 0).trans (congrFun (fr53 158 rfl) 0)) hp60), (km_c ((ms_c e61 (Nat.ne_of_beq_eq_false rfl)).trans (fr53 151 rfl)) ((ms_c e61 (Nat.ne_of_beq_eq_false rfl)).trans (fr53 153 rfl)) hp61), (km_c ((ms_c e61 (Nat.ne_of_beq_eq_false rfl)).trans (fr53 155 rfl)) ((ms_c e61 (Nat.ne_of_beq_eq_false rfl)).trans (fr53 157 rfl)) hp62), (km_c ((ms_c e61 (Nat.ne_of_beq_eq_false rfl)).trans (fr53 159 rfl)) ((ms_c e61 (Nat.ne_of_beq_eq_false rfl)).trans (fr53 161 rfl)) hp63), ⟨fun _ => (img_t (bd_w (l := 0) (h := 2) (bd_r h3_1 (bd_c (v := 1) (lo := 1) (hi := 1) (by decide))) (by decide))), fun _ => rfl⟩, (imgl_1 h3_1 ((congrFun (ms_c e61 (Nat.ne_of_beq_eq_false rfl)) 1).trans (congrFun (fr53 84 rfl) 1)) ((congrFun (ms_c e61 (Nat.ne_of_beq_eq_false rfl)) 1).trans h51) ((congrFun (ms_c e61 (Nat.ne_of_beq_eq_false rfl)) 1).trans (congrFun (fr53 136 rfl) 1))), (tkn_s (img_t (bd_w (l := 0) (h := 2) (bd_r h3_1 (bd_c (v := 1) (lo := 1) (hi := 1) (by decide))) (by decide))) e61 (fr53 28 rfl)), E, (fun c k_ => ((ms_c e61 (nin_ne (a := 28) k_ rfl)).trans (fr53 c (nin_sub (M := [(110, 111), (114, 135)]) k_ rfl)))), (fun j k1_ k2_ k3_ k5_ k7_ => ((congrFun (ms_c e61 (Nat.ne_of_beq_eq_false rfl)) j).trans (congrFun (fr53 84 rfl) j))), (fun j k0_ k2_ => ((congrFun (ms_c e61 (Nat.ne_of_beq_eq_false rfl)) j).trans (congrFun (fr53 88 rfl) j))), (fun j k0_ k2_ => ((congrFun (ms_c e61 (Nat.ne_of_beq_eq_false rfl)) j).trans (congrFun (fr53 93 rfl) j))), (fun j k0_ => ((congrFun (ms_c e61 (Nat.ne_of_beq_eq_false rfl)) j).trans (congrFun (fr53 98 rfl) j))), (fun j k0_ => ((congrFun (ms_c e61 (Nat.ne_of_beq_eq_false rfl)) j).trans (congrFun (fr53 102 rfl) j))), (fun j k0_ => ((congrFun (ms_c e61 (Nat.ne_of_beq_eq_false rfl)) j).trans (congrFun (fr53 106 rfl) j))), (fun j k1_ k2_ k3_ k5_ k7_ => ((congrFun (ms_c e61 (Nat.ne_of_beq_eq_false rfl)) j).trans (fc54 j k1_ k2_ k3_ k5_ k7_))), (fun j k0_ k2_ => ((congrFun (ms_c e61 (Nat.ne_of_beq_eq_false rfl)) j).trans (fc55 j k0_ k2_))), (fun j k0_ k2_ => ((congrFun (ms_c e61 (Nat.ne_of_beq_eq_false rfl)) j).trans (fc56 j k0_ k2_))), (fun j k0_ => ((congrFun (ms_c e61 (Nat.ne_of_beq_eq_false rfl)) j).trans (fc57 j k0_))), (fun j k0_ => ((congrFun (ms_c e61 (Nat.ne_of_beq_eq_false rfl)) j).trans (fc58 j k0_))), (fun j k0_ => ((congrFun (ms_c e61 (Nat.ne_of_beq_eq_false rfl)) j).trans (fc59 j k0_))), (fun j k1_ k2_ k3_ k5_ k7_ => ((congrFun (ms_c e61 (Nat.ne_of_beq_eq_false rfl)) j).trans (congrFun (fr53 136 rfl) j))), (fun j k0_ k2_ => ((congrFun (ms_c e61 (Nat.ne_of_beq_eq_false rfl)) j).trans (congrFun (fr53 140 rfl) j))), (fun j k0_ k2_ => ((congrFun (ms_c e61 (Nat.ne_of_beq_eq_false rfl)) j).trans (congrFun (fr53 145 rfl) j))), (fun j k0_ => ((congrFun (ms_c e61 (Nat.ne_of_beq_eq_false rfl)) j).trans (congrFun (fr53 150 rfl) j))), (fun j k0_ => ((congrFun (ms_c e61 (Nat.ne_of_beq_eq_false rfl)) j).trans (congrFun (fr53 154 rfl) j))), (fun j k0_ => ((congrFun (ms_c e61 (Nat.ne_of_beq_eq_false rfl)) j).trans (congrFun (fr53 158 rfl) j)))⟩
      · replace E := xq_en (fun z_ => absurd (z_.symm.trans h3_2) (by decide)) E
        replace E := xq_en (fun z_ => absurd (z_.symm.trans h3_2) (by decide)) E
        refine J_aald (q := 136) dX10_image_16 wc_27 (fun _ => rfl) (vin (bd_lt_hi (bd_le_lo (bd_any k) (i_nlt c1) (bd_c (v := 0) (lo := 0) (hi := 0) (by decide))) c2 (bd_c (v := 3) (lo := 3) (hi := 3) (by decide))) (by decide)) (by rw [h3_2]; rfl) ?_
        refine J_aload_n (i := 0) (j := 0) dX10_image_17 rfl rfl ?_
        refine J_get (C := RX10) (T := TX10) (Z := 10) (ci := 10) (f := 0) dX10_image_18 inG10 rfl (by decide) k423 wc_0 rfl ?_
        refine J_callV (As := [.ref 1]) (rest := []) dX10_image_21 (c_T_copyR_136_1X (d := 2) (u := u) (g := g) (ex := ex)   (by decide) hp0 hp1 hp2 hp3 hp4 hp5 hp6 hp7 hp8 hp9 hp10 hp11 hp12 hp13 hp14 hp15 hp48 hp49 hp50 hp51 hp52 hp53 hp54 hp55 hp56 hp57 hp58 hp59 hp60 hp61 hp62 hp63) hq.n k1249 k1250 k1251 wc_136 rfl rfl k88 k1252 np_X7_copy (Nat.le_trans (by decide) hd) (by decide) (Nat.le_refl _) (Nat.le_refl _) wlen rfl (Nat.le_of_ble_eq_true rfl) (fun r_ h_ p62 => ?_)
        obtain ⟨u63, rfl, rfl, h64, h65, h66, h67, h68, h69, h70, h71, h72, h73, h74, h75, h76, h77, h78, h79, h80, hx81, fr82, fc83, fc84, fc85, fc86, fc87, fc88⟩ := p62
        replace E := xq_le hx81 E
        refine J_aload_n (i := 0) (j := 0) dX10_image_24 rfl rfl ?_
        refine J_get (C := RX10) (T := TX10) (Z := 10) (ci := 10) (f := 2) dX10_image_25 inG10 rfl (by decide) k425 wc_0 rfl ?_
        refine J_iload_n (i := 1) (j := 1) dX10_image_28 rfl rfl ?_
        refine J_iconst (v := 1) dX10_image_29 (by decide) ?_
        obtain ⟨u89, e90⟩ : ∃ z, z = ms u63 28 k.toNatClampNeg (vp_nar .boolean (1 : Int32)) := ⟨_, rfl⟩
        refine J_zast dX10_image_30 wc_28 (vin (bd_r h3_2 (bd_c (v := 2) (lo := 2) (hi := 2) (by decide))) (by decide)) (ws e90 wk_28 rfl) ?_
        replace E := xq_le e90 E
        refine J_iconst (v := 1) dX10_image_31 (by decide) ?_
        exact J_zret hq dX10_image_32 rfl rfl wlen (Nat.le_refl _) (Nat.le_refl _) ⟨true, u89, rfl, rfl, (fun qb => (bd_w (l := 0) (h := 2) (bd_r h3_2 (bd_c (v := 2) (lo := 2) (hi := 2) (by decide))) (by decide))), (bd_r ((congrFun (ms_c e90 (Nat.ne_of_beq_eq_false rfl)) 1).trans (congrFun (fr82 84 rfl) 1)) hp16), (bd_r ((congrFun (ms_c e90 (Nat.ne_of_beq_eq_false rfl)) 5).trans (congrFun (fr82 84 rfl) 5)) hp17), (bd_r ((congrFun (ms_c e90 (Nat.ne_of_beq_eq_false rfl)) 7).trans (congrFun (fr82 84 rfl) 7)) hp18), (bf_c ((ms_c e90 (Nat.ne_of_beq_eq_false rfl)).trans (fr82 85 rfl)) hp19), (bd_r ((congrFun (ms_c e90 (Nat.ne_of_beq_eq_false rfl)) 0).trans (congrFun (fr82 88 rfl) 0)) hp20), (bd_r ((congrFun (ms_c e90 (Nat.ne_of_beq_eq_false rfl)) 2).trans (congrFun (fr82 88 rfl) 2)) hp21), (bd_r ((congrFun (ms_c e90 (Nat.ne_of_beq_eq_false rfl)) 0).trans (congrFun (fr82 93 rfl) 0)) hp22), (bd_r ((congrFun (ms_c e90 (Nat.ne_of_beq_eq_false rfl)) 2).trans (congrFun (fr82 93 rfl) 2)) hp23), (ab_c ((ms_c e90 (Nat.ne_of_beq_eq_false rfl)).trans (fr82 89 rfl)) hp24), (ab_c ((ms_c e90 (Nat.ne_of_beq_eq_false rfl)).trans (fr82 94 rfl)) hp25), (bd_r ((congrFun (ms_c e90 (Nat.ne_of_beq_eq_false rfl)) 0).trans (congrFun (fr82 98 rfl) 0)) hp26), (bd_r ((congrFun (ms_c e90 (Nat.ne_of_beq_eq_false rfl)) 0).trans (congrFun (fr82 102 rfl) 0)) hp27), (bd_r ((congrFun (ms_c e90 (Nat.ne_of_beq_eq_false rfl)) 0).trans (congrFun (fr82 106 rfl) 0)) hp28), (km_c ((ms_c e90 (Nat.ne_of_beq_eq_false rfl)).trans (fr82 99 rfl)) ((ms_c e90 (Nat.ne_of_beq_eq_false rfl)).trans (fr82 101 rfl)) hp29), (km_c ((ms_c e90 (Nat.ne_of_beq_eq_false rfl)).trans (fr82 103 rfl)) ((ms_c e90 (Nat.ne_of_beq_eq_false rfl)).trans (fr82 105 rfl)) hp30), (km_c ((ms_c e90 (Nat.ne_of_beq_eq_false rfl)).trans (fr82 107 rfl)) ((ms_c e90 (Nat.ne_of_beq_eq_false rfl)).trans (fr82 109 rfl)) hp31), (bd_r ((congrFun (ms_c e90 (Nat.ne_of_beq_eq_false rfl)) 1).trans (congrFun (fr82 110 rfl) 1)) hp32), (bd_r ((congrFun (ms_c e90 (Nat.ne_of_beq_eq_false rfl)) 5).trans (congrFun (fr82 110 rfl) 5)) hp33), (bd_r ((congrFun (ms_c e90 (Nat.ne_of_beq_eq_false rfl)) 7).trans (congrFun (fr82 110 rfl) 7)) hp34), (bf_c ((ms_c e90 (Nat.ne_of_beq_eq_false rfl)).trans (fr82 111 rfl)) hp35), (bd_r ((congrFun (ms_c e90 (Nat.ne_of_beq_eq_false rfl)) 0).trans (congrFun (fr82 114 rfl) 0)) hp36), (bd_r ((congrFun (ms_c e90 (Nat.ne_of_beq_eq_false rfl)) 2).trans (congrFun (fr82 114 rfl) 2)) hp37), (bd_r ((congrFun (ms_c e90 (Nat.ne_of_beq_eq_false rfl)) 0).trans (congrFun (fr82 119 rfl) 0)) hp38), (bd_r ((congrFun (ms_c e90 (Nat.ne_of_beq_eq_false rfl)) 2).trans (congrFun (fr82 119 rfl) 2)) hp39), (ab_c ((ms_c e90 (Nat.ne_of_beq_eq_false rfl)).trans (fr82 115 rfl)) hp40), (ab_c ((ms_c e90 (Nat.ne_of_beq_eq_false rfl)).trans (fr82 120 rfl)) hp41), (bd_r ((congrFun (ms_c e90 (Nat.ne_of_beq_eq_false rfl)) 0).trans (congrFun (fr82 124 rfl) 0)) hp42), (bd_r ((congrFun (ms_c e90 (Nat.ne_of_beq_eq_false rfl)) 0).trans (congrFun (fr82 128 rfl) 0)) hp43), (bd_r ((congrFun (ms_c e90 (Nat.ne_of_beq_eq_false rfl)) 0).trans (congrFun (fr82 132 rfl) 0)) hp44), (km_c ((ms_c e90 (Nat.ne_of_beq_eq_false rfl)).trans (fr82 125 rfl)) ((ms_c e90 (Nat.ne_of_beq_eq_false rfl)).trans (fr82 127 rfl)) hp45), (km_c ((ms_c e90 (Nat.ne_of_beq_eq_false rfl)).trans (fr82 129 rfl)) ((ms_c e90 (Nat.ne_of_beq_eq_false rfl)).trans (fr82 131 rfl)) hp46), (km_c ((ms_c e90 (Nat.ne_of_beq_eq_false rfl)).trans (fr82 133 rfl)) ((ms_c e90 (Nat.ne_of_beq_eq_false rfl)).trans (fr82 135 rfl)) hp47), (bd_r ((congrFun (ms_c e90 (Nat.ne_of_beq_eq_false rfl)) 1).trans h80) hp0), (bd_r (congrFun (ms_c e90 (Nat.ne_of_beq_eq_false rfl)) 5) h65), (bd_r (congrFun (ms_c e90 (Nat.ne_of_beq_eq_false rfl)) 7) h66), (bf_c (ms_c e90 (Nat.ne_of_beq_eq_false rfl)) h67), (bd_r (congrFun (ms_c e90 (Nat.ne_of_beq_eq_false rfl)) 0) h68), (bd_r (congrFun (ms_c e90 (Nat.ne_of_beq_eq_false rfl)) 2) h69), (bd_r (congrFun (ms_c e90 (Nat.ne_of_beq_eq_false rfl)) 0) h70), (bd_r (congrFun (ms_c e90 (Nat.ne_of_beq_eq_false rfl)) 2) h71), (ab_c (ms_c e90 (Nat.ne_of_beq_eq_false rfl)) h72), (ab_c (ms_c e90 (Nat.ne_of_beq_eq_false rfl)) h73), (bd_r (congrFun (ms_c e90 (Nat.ne_of_beq_eq_false rfl)) 0) h74), (bd_r (congrFun (ms_c e90 (Nat.ne_of_beq_eq_false rfl)) 0) h75), (bd_r (congrFun (ms_c e90 (Nat.ne_of_beq_eq_false rfl)) 0) h76), (km_c (ms_c e90 (Nat.ne_of_beq_eq_false rfl)) (ms_c e90 (Nat.ne_of_beq_eq_false rfl)) h77), (km_c (ms_c e90 (Nat.ne_of_beq_eq_false rfl)) (ms_c e90 (Nat.ne_of_beq_eq_false rfl)) h78), (km_c (ms_c e90 (Nat.ne_of_beq_eq_false rfl)) (ms_c e90 (Nat.ne_of_beq_eq_false rfl)) h79), ⟨fun _ => (img_t (bd_w (l := 0) (h := 2) (bd_r h3_2 (bd_c (v := 2) (lo := 2) (hi := 2) (by decide))) (by decide))), fun _ => rfl⟩, (imgl_2 h3_2 ((congrFun (ms_c e90 (Nat.ne_of_beq_eq_false rfl)) 1).trans (congrFun (fr82 84 rfl) 1)) ((congrFun (ms_c e90 (Nat.ne_of_beq_eq_false rfl)) 1).trans (congrFun (fr82 110 rfl) 1)) ((congrFun (ms_c e90 (Nat.ne_of_beq_eq_false rfl)) 1).trans h80)), (tkn_s (img_t (bd_w (l := 0) (h := 2) (bd_r h3_2 (bd_c (v := 2) (lo := 2) (hi := 2) (by decide))) (by decide))) e90 (fr82 28 rfl)), E, (fun c k_ => ((ms_c e90 (nin_ne (a := 28) k_ rfl)).trans (fr82 c (nin_sub (M := [(136, 137), (140, 161)]) k_ rfl)))), (fun j k1_ k2_ k3_ k5_ k7_ => ((congrFun (ms_c e90 (Nat.ne_of_beq_eq_false rfl)) j).trans (congrFun (fr82 84 rfl) j))), (fun j k0_ k2_ => ((congrFun (ms_c e90 (Nat.ne_of_beq_eq_false rfl)) j).trans (congrFun (fr82 88 rfl) j))), (fun j k0_ k2_ => ((congrFun (ms_c e90 (Nat.ne_of_beq_eq_false rfl)) j).trans (congrFun (fr82 93 rfl) j))), (fun j k0_ => ((congrFun (ms_c e90 (Nat.ne_of_beq_eq_false rfl)) j).trans (congrFun (fr82 98 rfl) j))), (fun j k0_ => ((congrFun (ms_c e90 (Nat.ne_of_beq_eq_false rfl)) j).trans (congrFun (fr82 102 rfl) j))), (fun j k0_ => ((congrFun (ms_c e90 (Nat.ne_of_beq_eq_false rfl)) j).trans (congrFun (fr82 106 rfl) j))), (fun j k1_ k2_ k3_ k5_ k7_ => ((congrFun (ms_c e90 (Nat.ne_of_beq_eq_false rfl)) j).trans (congrFun (fr82 110 rfl) j))), (fun j k0_ k2_ => ((congrFun (ms_c e90 (Nat.ne_of_beq_eq_false rfl)) j).trans (congrFun (fr82 114 rfl) j))), (fun j k0_ k2_ => ((congrFun (ms_c e90 (Nat.ne_of_beq_eq_false rfl)) j).trans (congrFun (fr82 119 rfl) j))), (fun j k0_ => ((congrFun (ms_c e90 (Nat.ne_of_beq_eq_false rfl)) j).trans (congrFun (fr82 124 rfl) j))), (fun j k0_ => ((congrFun (ms_c e90 (Nat.ne_of_beq_eq_false rfl)) j).trans (congrFun (fr82 128 rfl) j))), (fun j k0_ => ((congrFun (ms_c e90 (Nat.ne_of_beq_eq_false rfl)) j).trans (congrFun (fr82 132 rfl) j))), (fun j k1_ k2_ k3_ k5_ k7_ => ((congrFun (ms_c e90 (Nat.ne_of_beq_eq_false rfl)) j).trans (fc83 j k1_ k2_ k3_ k5_ k7_))), (fun j k0_ k2_ => ((congrFun (ms_c e90 (Nat.ne_of_beq_eq_false rfl)) j).trans (fc84 j k0_ k2_))), (fun j k0_ k2_ => ((congrFun (ms_c e90 (Nat.ne_of_beq_eq_false rfl)) j).trans (fc85 j k0_ k2_))), (fun j k0_ => ((congrFun (ms_c e90 (Nat.ne_of_beq_eq_false rfl)) j).trans (fc86 j k0_))), (fun j k0_ => ((congrFun (ms_c e90 (Nat.ne_of_beq_eq_false rfl)) j).trans (fc87 j k0_))), (fun j k0_ => ((congrFun (ms_c e90 (Nat.ne_of_beq_eq_false rfl)) j).trans (fc88 j k0_)))⟩
    · replace E := xq_en c2 E
      refine J_iconst (v := 0) dX10_image_9 (by decide) ?_
      exact J_zret hq dX10_image_10 rfl rfl wlen (Nat.le_refl _) (Nat.le_refl _) ⟨false, u, rfl, rfl, (fun q => absurd q (by decide)), hp16, hp17, hp18, hp19, hp20, hp21, hp22, hp23, hp24, hp25, hp26, hp27, hp28, hp29, hp30, hp31, hp32, hp33, hp34, hp35, hp36, hp37, hp38, hp39, hp40, hp41, hp42, hp43, hp44, hp45, hp46, hp47, hp48, hp49, hp50, hp51, hp52, hp53, hp54, hp55, hp56, hp57, hp58, hp59, hp60, hp61, hp62, hp63, ⟨fun q => absurd q (by decide), fun q => absurd q (nok (Or.inr (i_nlt c2))).2.2.2⟩, (imgl_n (Or.inr (i_nlt c2))), (tkn_n (nok (Or.inr (i_nlt c2))).2.2.2 rfl), E, (fun c k_ => rfl), (fun j k1_ k2_ k3_ k5_ k7_ => rfl), (fun j k0_ k2_ => rfl), (fun j k0_ k2_ => rfl), (fun j k0_ => rfl), (fun j k0_ => rfl), (fun j k0_ => rfl), (fun j k1_ k2_ k3_ k5_ k7_ => rfl), (fun j k0_ k2_ => rfl), (fun j k0_ k2_ => rfl), (fun j k0_ => rfl), (fun j k0_ => rfl), (fun j k0_ => rfl), (fun j k1_ k2_ k3_ k5_ k7_ => rfl), (fun j k0_ k2_ => rfl), (fun j k0_ k2_ => rfl), (fun j k0_ => rfl), (fun j k0_ => rfl), (fun j k0_ => rfl)⟩
set_option maxRecDepth 100000 in
noncomputable def Fx_P_againRX (k : Int32) (u : Nat → Nat → Int32) (g : Nat → Nat → Int64) : Bool × (Nat → Nat → Int32) := if k < (0 : Int32) then ((false, u)) else (if (3 : Int32) ≤ k then ((false, u)) else (xq_lt (u 28 k.toNatClampNeg) fun v3 => if v3 = (0 : Int32) then ((false, u)) else (if k = 0 then (xq_lt (Fx_T_copyR_1_84X u g) fun u7 => (true, u7)) else (if k = 1 then (xq_lt (Fx_T_copyR_1_110X u g) fun u34 => (true, u34)) else (xq_lt (Fx_T_copyR_1_136X u g) fun u61 => (true, u61))))))
set_option maxHeartbeats 4000000 in
set_option maxRecDepth 100000 in
theorem c_P_againRX {d : Nat} {u : Nat → Nat → Int32} {g : Nat → Nat → Int64} {ex : List MC} {k : Int32} (hd : 3 ≤ d) (hp0 : Bd 0 600 (u 1 1)) (hp1 : Bd 0 2 (u 1 5)) (hp2 : Bd 0 3 (u 1 7)) (hp3 : BF u 2) (hp4 : Bd 0 9 (u 5 0)) (hp5 : Bd 0 4 (u 5 2)) (hp6 : Bd 0 9 (u 10 0)) (hp7 : Bd 0 4 (u 10 2)) (hp8 : AB u 6 (-1) 999) (hp9 : AB u 11 (-1) 999) (hp10 : Bd 0 12 (u 15 0)) (hp11 : Bd 0 12 (u 19 0)) (hp12 : Bd 0 12 (u 23 0)) (hp13 : (KM u 15)) (hp14 : (KM u 19)) (hp15 : (KM u 23)) (hp16 : Bd 0 600 (u 84 1)) (hp17 : Bd 0 2 (u 84 5)) (hp18 : Bd 0 3 (u 84 7)) (hp19 : BF u 85) (hp20 : Bd 0 9 (u 88 0)) (hp21 : Bd 0 4 (u 88 2)) (hp22 : Bd 0 9 (u 93 0)) (hp23 : Bd 0 4 (u 93 2)) (hp24 : AB u 89 (-1) 999) (hp25 : AB u 94 (-1) 999) (hp26 : Bd 0 12 (u 98 0)) (hp27 : Bd 0 12 (u 102 0)) (hp28 : Bd 0 12 (u 106 0)) (hp29 : (KM u 98)) (hp30 : (KM u 102)) (hp31 : (KM u 106)) (hp32 : Bd 0 600 (u 110 1)) (hp33 : Bd 0 2 (u 110 5)) (hp34 : Bd 0 3 (u 110 7)) (hp35 : BF u 111) (hp36 : Bd 0 9 (u 114 0)) (hp37 : Bd 0 4 (u 114 2)) (hp38 : Bd 0 9 (u 119 0)) (hp39 : Bd 0 4 (u 119 2)) (hp40 : AB u 115 (-1) 999) (hp41 : AB u 120 (-1) 999) (hp42 : Bd 0 12 (u 124 0)) (hp43 : Bd 0 12 (u 128 0)) (hp44 : Bd 0 12 (u 132 0)) (hp45 : (KM u 124)) (hp46 : (KM u 128)) (hp47 : (KM u 132)) (hp48 : Bd 0 600 (u 136 1)) (hp49 : Bd 0 2 (u 136 5)) (hp50 : Bd 0 3 (u 136 7)) (hp51 : BF u 137) (hp52 : Bd 0 9 (u 140 0)) (hp53 : Bd 0 4 (u 140 2)) (hp54 : Bd 0 9 (u 145 0)) (hp55 : Bd 0 4 (u 145 2)) (hp56 : AB u 141 (-1) 999) (hp57 : AB u 146 (-1) 999) (hp58 : Bd 0 12 (u 150 0)) (hp59 : Bd 0 12 (u 154 0)) (hp60 : Bd 0 12 (u 158 0)) (hp61 : (KM u 150)) (hp62 : (KM u 154)) (hp63 : (KM u 158)) : CT con0 d 0 0 yX10_again cX10_again 2 (some .boolean) [.ref 0, .int k] (Wd u g ex) (fun r h2 => ∃ (z : Bool) (u2 : Nat → Nat → Int32), r = some (.int (bI z)) ∧ h2 = Wd u2 g ex ∧ (z = true → Bd 0 2 k) ∧ Bd 0 600 (u2 1 1) ∧ Bd 0 2 (u2 1 5) ∧ Bd 0 3 (u2 1 7) ∧ BF u2 2 ∧ Bd 0 9 (u2 5 0) ∧ Bd 0 4 (u2 5 2) ∧ Bd 0 9 (u2 10 0) ∧ Bd 0 4 (u2 10 2) ∧ AB u2 6 (-1) 999 ∧ AB u2 11 (-1) 999 ∧ Bd 0 12 (u2 15 0) ∧ Bd 0 12 (u2 19 0) ∧ Bd 0 12 (u2 23 0) ∧ (KM u2 15) ∧ (KM u2 19) ∧ (KM u2 23) ∧ (AGZ u 28 k z) ∧ (AGL u2 u k z) ∧ (z, u2) = Fx_P_againRX k u g ∧ (∀ c, nin c [(1, 2), (5, 26)] = true → u2 c = u c) ∧ (∀ j, j ≠ 1 → j ≠ 2 → j ≠ 3 → j ≠ 5 → j ≠ 7 → u2 1 j = u 1 j) ∧ (∀ j, j ≠ 0 → j ≠ 2 → u2 5 j = u 5 j) ∧ (∀ j, j ≠ 0 → j ≠ 2 → u2 10 j = u 10 j) ∧ (∀ j, j ≠ 0 → u2 15 j = u 15 j) ∧ (∀ j, j ≠ 0 → u2 19 j = u 19 j) ∧ (∀ j, j ≠ 0 → u2 23 j = u 23 j)) := by
  refine CT_of (by decide) (Nat.le_of_ble_eq_true rfl) (fun x hq => ?_)
  show J x yX10_again cX10_again 2 (some .boolean) d 0 0 (Wd u g ex).length 0 [(0, .ref 0), (1, .int k)] [] (Wd u g ex) 0 0
  have E : Fx_P_againRX k u g = Fx_P_againRX k u g := rfl
  refine J_iload_n (i := 1) (j := 1) dX10_again_0 rfl rfl ?_
  refine J_if_lt (tgt := 18) dX10_again_1 (by decide) (fun c1 => ?_) (fun c1 => ?_)
  · replace E := xq_ep c1 E
    refine J_iconst (v := 0) dX10_again_18 (by decide) ?_
    exact J_zret hq dX10_again_19 rfl rfl wlen (Nat.le_refl _) (Nat.le_refl _) ⟨false, u, rfl, rfl, (fun q => absurd q (by decide)), hp0, hp1, hp2, hp3, hp4, hp5, hp6, hp7, hp8, hp9, hp10, hp11, hp12, hp13, hp14, hp15, (agz_n (nok (Or.inl c1)).2.2.2), rfl, E, (fun c k_ => rfl), (fun j k1_ k2_ k3_ k5_ k7_ => rfl), (fun j k0_ k2_ => rfl), (fun j k0_ k2_ => rfl), (fun j k0_ => rfl), (fun j k0_ => rfl), (fun j k0_ => rfl)⟩
  · replace E := xq_en c1 E
    refine J_iload_n (i := 1) (j := 1) dX10_again_4 rfl rfl ?_
    refine J_iconst (v := 3) dX10_again_5 (by decide) ?_
    refine J_icmp_ge (tgt := 18) dX10_again_6 (by decide) (fun c2 => ?_) (fun c2 => ?_)
    · replace E := xq_ep c2 E
      refine J_iconst (v := 0) dX10_again_18 (by decide) ?_
      exact J_zret hq dX10_again_19 rfl rfl wlen (Nat.le_refl _) (Nat.le_refl _) ⟨false, u, rfl, rfl, (fun q => absurd q (by decide)), hp0, hp1, hp2, hp3, hp4, hp5, hp6, hp7, hp8, hp9, hp10, hp11, hp12, hp13, hp14, hp15, (agz_n (nok (Or.inr c2)).2.2.2), rfl, E, (fun c k_ => rfl), (fun j k1_ k2_ k3_ k5_ k7_ => rfl), (fun j k0_ k2_ => rfl), (fun j k0_ k2_ => rfl), (fun j k0_ => rfl), (fun j k0_ => rfl), (fun j k0_ => rfl)⟩
    · replace E := xq_en c2 E
      refine J_aload_n (i := 0) (j := 0) dX10_again_9 rfl rfl ?_
      refine J_get (C := RX10) (T := TX10) (Z := 10) (ci := 10) (f := 2) dX10_again_10 inG10 rfl (by decide) k425 wc_0 rfl ?_
      refine J_iload_n (i := 1) (j := 1) dX10_again_13 rfl rfl ?_
      refine J_zald dX10_again_14 wc_28 (vin (bd_lt_hi (bd_le_lo (bd_any k) (i_nlt c1) (bd_c (v := 0) (lo := 0) (hi := 0) (by decide))) (i_nle c2) (bd_c (v := 3) (lo := 3) (hi := 3) (by decide))) (by decide)) ?_
      refine J_topi (fun v3 qv3 => ?_)
      replace E := xq_le qv3 E
      refine J_if_ne (tgt := 20) dX10_again_15 (by decide) (fun c4 => ?_) (fun c4 => ?_)
      · replace E := xq_en c4 E
        refine J_aload_n (i := 0) (j := 0) dX10_again_20 rfl rfl ?_
        refine J_get (C := RX10) (T := TX10) (Z := 10) (ci := 10) (f := 0) dX10_again_21 inG10 rfl (by decide) k423 wc_0 rfl ?_
        refine J_aload_n (i := 0) (j := 0) dX10_again_24 rfl rfl ?_
        refine J_get (C := RX10) (T := TX10) (Z := 10) (ci := 10) (f := 1) dX10_again_25 inG10 rfl (by decide) k424 wc_0 rfl ?_
        refine J_iload_n (i := 1) (j := 1) dX10_again_28 rfl rfl ?_
        have h5 := bd_cases3 (bd_lt_hi (bd_le_lo (bd_any k) (i_nlt c1) (bd_c (v := 0) (lo := 0) (hi := 0) (by decide))) (i_nle c2) (bd_c (v := 3) (lo := 3) (hi := 3) (by decide)))
        rcases h5 with h5_0 | h5_1 | h5_2
        · replace E := xq_ep h5_0 E
          refine J_aald (q := 84) dX10_again_29 wc_27 (fun _ => rfl) (vin (bd_lt_hi (bd_le_lo (bd_any k) (i_nlt c1) (bd_c (v := 0) (lo := 0) (hi := 0) (by decide))) (i_nle c2) (bd_c (v := 3) (lo := 3) (hi := 3) (by decide))) (by decide)) (by rw [h5_0]; rfl) ?_
          refine J_callV (As := [.ref 84]) (rest := []) dX10_again_30 (c_T_copyR_1_84X (d := 2) (u := u) (g := g) (ex := ex)   (by decide) hp16 hp17 hp18 hp19 hp20 hp21 hp22 hp23 hp24 hp25 hp26 hp27 hp28 hp29 hp30 hp31 hp0 hp1 hp2 hp3 hp4 hp5 hp6 hp7 hp8 hp9 hp10 hp11 hp12 hp13 hp14 hp15) hq.n k1249 k1250 k1251 wc_1 rfl rfl k88 k1252 np_X7_copy (Nat.le_trans (by decide) hd) (by decide) (Nat.le_refl _) (Nat.le_refl _) wlen rfl (Nat.le_of_ble_eq_true rfl) (fun r_ h_ p6 => ?_)
          obtain ⟨u7, rfl, rfl, h8, h9, h10, h11, h12, h13, h14, h15, h16, h17, h18, h19, h20, h21, h22, h23, h24, hx25, fr26, fc27, fc28, fc29, fc30, fc31, fc32⟩ := p6
          replace E := xq_le hx25 E
          refine J_iconst (v := 1) dX10_again_33 (by decide) ?_
          exact J_zret hq dX10_again_34 rfl rfl wlen (Nat.le_refl _) (Nat.le_refl _) ⟨true, u7, rfl, rfl, (fun qb => (bd_w (l := 0) (h := 2) (bd_r h5_0 (bd_c (v := 0) (lo := 0) (hi := 0) (by decide))) (by decide))), (bd_r h24 hp16), h9, h10, h11, h12, h13, h14, h15, h16, h17, h18, h19, h20, h21, h22, h23, (agz_t (img_t (bd_w (l := 0) (h := 2) (bd_r h5_0 (bd_c (v := 0) (lo := 0) (hi := 0) (by decide))) (by decide))) qv3 c4), (agl_0 h5_0 h24), E, (fun c k_ => (fr26 c (nin_sub (M := [(1, 2), (5, 26)]) k_ rfl))), (fun j k1_ k2_ k3_ k5_ k7_ => (fc27 j k1_ k2_ k3_ k5_ k7_)), (fun j k0_ k2_ => (fc28 j k0_ k2_)), (fun j k0_ k2_ => (fc29 j k0_ k2_)), (fun j k0_ => (fc30 j k0_)), (fun j k0_ => (fc31 j k0_)), (fun j k0_ => (fc32 j k0_))⟩
        · replace E := xq_en (fun z_ => absurd (z_.symm.trans h5_1) (by decide)) E
          replace E := xq_ep h5_1 E
          refine J_aald (q := 110) dX10_again_29 wc_27 (fun _ => rfl) (vin (bd_lt_hi (bd_le_lo (bd_any k) (i_nlt c1) (bd_c (v := 0) (lo := 0) (hi := 0) (by decide))) (i_nle c2) (bd_c (v := 3) (lo := 3) (hi := 3) (by decide))) (by decide)) (by rw [h5_1]; rfl) ?_
          refine J_callV (As := [.ref 110]) (rest := []) dX10_again_30 (c_T_copyR_1_110X (d := 2) (u := u) (g := g) (ex := ex)   (by decide) hp32 hp33 hp34 hp35 hp36 hp37 hp38 hp39 hp40 hp41 hp42 hp43 hp44 hp45 hp46 hp47 hp0 hp1 hp2 hp3 hp4 hp5 hp6 hp7 hp8 hp9 hp10 hp11 hp12 hp13 hp14 hp15) hq.n k1249 k1250 k1251 wc_1 rfl rfl k88 k1252 np_X7_copy (Nat.le_trans (by decide) hd) (by decide) (Nat.le_refl _) (Nat.le_refl _) wlen rfl (Nat.le_of_ble_eq_true rfl) (fun r_ h_ p33 => ?_)
          obtain ⟨u34, rfl, rfl, h35, h36, h37, h38, h39, h40, h41, h42, h43, h44, h45, h46, h47, h48, h49, h50, h51, hx52, fr53, fc54, fc55, fc56, fc57, fc58, fc59⟩ := p33
          replace E := xq_le hx52 E
          refine J_iconst (v := 1) dX10_again_33 (by decide) ?_
          exact J_zret hq dX10_again_34 rfl rfl wlen (Nat.le_refl _) (Nat.le_refl _) ⟨true, u34, rfl, rfl, (fun qb => (bd_w (l := 0) (h := 2) (bd_r h5_1 (bd_c (v := 1) (lo := 1) (hi := 1) (by decide))) (by decide))), (bd_r h51 hp32), h36, h37, h38, h39, h40, h41, h42, h43, h44, h45, h46, h47, h48, h49, h50, (agz_t (img_t (bd_w (l := 0) (h := 2) (bd_r h5_1 (bd_c (v := 1) (lo := 1) (hi := 1) (by decide))) (by decide))) qv3 c4), (agl_1 h5_1 h51), E, (fun c k_ => (fr53 c (nin_sub (M := [(1, 2), (5, 26)]) k_ rfl))), (fun j k1_ k2_ k3_ k5_ k7_ => (fc54 j k1_ k2_ k3_ k5_ k7_)), (fun j k0_ k2_ => (fc55 j k0_ k2_)), (fun j k0_ k2_ => (fc56 j k0_ k2_)), (fun j k0_ => (fc57 j k0_)), (fun j k0_ => (fc58 j k0_)), (fun j k0_ => (fc59 j k0_))⟩
        · replace E := xq_en (fun z_ => absurd (z_.symm.trans h5_2) (by decide)) E
          replace E := xq_en (fun z_ => absurd (z_.symm.trans h5_2) (by decide)) E
          refine J_aald (q := 136) dX10_again_29 wc_27 (fun _ => rfl) (vin (bd_lt_hi (bd_le_lo (bd_any k) (i_nlt c1) (bd_c (v := 0) (lo := 0) (hi := 0) (by decide))) (i_nle c2) (bd_c (v := 3) (lo := 3) (hi := 3) (by decide))) (by decide)) (by rw [h5_2]; rfl) ?_
          refine J_callV (As := [.ref 136]) (rest := []) dX10_again_30 (c_T_copyR_1_136X (d := 2) (u := u) (g := g) (ex := ex)   (by decide) hp48 hp49 hp50 hp51 hp52 hp53 hp54 hp55 hp56 hp57 hp58 hp59 hp60 hp61 hp62 hp63 hp0 hp1 hp2 hp3 hp4 hp5 hp6 hp7 hp8 hp9 hp10 hp11 hp12 hp13 hp14 hp15) hq.n k1249 k1250 k1251 wc_1 rfl rfl k88 k1252 np_X7_copy (Nat.le_trans (by decide) hd) (by decide) (Nat.le_refl _) (Nat.le_refl _) wlen rfl (Nat.le_of_ble_eq_true rfl) (fun r_ h_ p60 => ?_)
          obtain ⟨u61, rfl, rfl, h62, h63, h64, h65, h66, h67, h68, h69, h70, h71, h72, h73, h74, h75, h76, h77, h78, hx79, fr80, fc81, fc82, fc83, fc84, fc85, fc86⟩ := p60
          replace E := xq_le hx79 E
          refine J_iconst (v := 1) dX10_again_33 (by decide) ?_
          exact J_zret hq dX10_again_34 rfl rfl wlen (Nat.le_refl _) (Nat.le_refl _) ⟨true, u61, rfl, rfl, (fun qb => (bd_w (l := 0) (h := 2) (bd_r h5_2 (bd_c (v := 2) (lo := 2) (hi := 2) (by decide))) (by decide))), (bd_r h78 hp48), h63, h64, h65, h66, h67, h68, h69, h70, h71, h72, h73, h74, h75, h76, h77, (agz_t (img_t (bd_w (l := 0) (h := 2) (bd_r h5_2 (bd_c (v := 2) (lo := 2) (hi := 2) (by decide))) (by decide))) qv3 c4), (agl_2 h5_2 h78), E, (fun c k_ => (fr80 c (nin_sub (M := [(1, 2), (5, 26)]) k_ rfl))), (fun j k1_ k2_ k3_ k5_ k7_ => (fc81 j k1_ k2_ k3_ k5_ k7_)), (fun j k0_ k2_ => (fc82 j k0_ k2_)), (fun j k0_ k2_ => (fc83 j k0_ k2_)), (fun j k0_ => (fc84 j k0_)), (fun j k0_ => (fc85 j k0_)), (fun j k0_ => (fc86 j k0_))⟩
      · replace E := xq_ep c4 E
        refine J_iconst (v := 0) dX10_again_18 (by decide) ?_
        exact J_zret hq dX10_again_19 rfl rfl wlen (Nat.le_refl _) (Nat.le_refl _) ⟨false, u, rfl, rfl, (fun q => absurd q (by decide)), hp0, hp1, hp2, hp3, hp4, hp5, hp6, hp7, hp8, hp9, hp10, hp11, hp12, hp13, hp14, hp15, (agz_0 qv3 c4), rfl, E, (fun c k_ => rfl), (fun j k1_ k2_ k3_ k5_ k7_ => rfl), (fun j k0_ k2_ => rfl), (fun j k0_ k2_ => rfl), (fun j k0_ => rfl), (fun j k0_ => rfl), (fun j k0_ => rfl)⟩
set_option maxRecDepth 100000 in
noncomputable def Fx_T_appendRX (number : Int32) (u : Nat → Nat → Int32) (g : Nat → Nat → Int64) : (Nat → Nat → Int32) := if (600 : Int32) ≤ (u 1 1) then (default) else (xq_lt ((number >>> (24 &&& 31)).toInt8.toInt32) fun v2 => xq_lt (ms u 2 ((u 1 1).toNatClampNeg) (vp_nar .byte v2)) fun u3 => xq_lt (ms u3 1 1 ((u 1 1) + 1)) fun u5 => if (600 : Int32) ≤ ((u 1 1) + 1) then (default) else (xq_lt ((number >>> (16 &&& 31)).toInt8.toInt32) fun v8 => xq_lt (ms u5 2 (((u 1 1) + 1).toNatClampNeg) (vp_nar .byte v8)) fun u9 => xq_lt (ms u9 1 1 (((u 1 1) + 1) + 1)) fun u11 => if (600 : Int32) ≤ (((u 1 1) + 1) + 1) then (default) else (xq_lt ((number >>> (8 &&& 31)).toInt8.toInt32) fun v14 => xq_lt (ms u11 2 ((((u 1 1) + 1) + 1).toNatClampNeg) (vp_nar .byte v14)) fun u15 => xq_lt (ms u15 1 1 ((((u 1 1) + 1) + 1) + 1)) fun u17 => if (600 : Int32) ≤ ((((u 1 1) + 1) + 1) + 1) then (default) else (xq_lt ((number >>> (0 &&& 31)).toInt8.toInt32) fun v20 => xq_lt (ms u17 2 (((((u 1 1) + 1) + 1) + 1).toNatClampNeg) (vp_nar .byte v20)) fun u21 => xq_lt (ms u21 1 1 (((((u 1 1) + 1) + 1) + 1) + 1)) fun u23 => u23))))
set_option maxHeartbeats 4000000 in
set_option maxRecDepth 100000 in
theorem c_T_appendRX {d : Nat} {u : Nat → Nat → Int32} {g : Nat → Nat → Int64} {ex : List MC} {number : Int32} (hd : 0 ≤ d) (hp0 : Bd 0 596 (u 1 1)) (hp1 : BF u 2) : CT con0 d 0 0 yX7_append cX7_append 3 none [.ref 1, .int number] (Wd u g ex) (fun r h2 => ∃ (u2 : Nat → Nat → Int32), r = none ∧ h2 = Wd u2 g ex ∧ Bd 4 600 (u2 1 1) ∧ BF u2 2 ∧ (u2 1 1 = u 1 1 + 1 + 1 + 1 + 1) ∧ u2 = Fx_T_appendRX number u g ∧ (∀ c, c ≠ 1 → c ≠ 2 → u2 c = u c) ∧ (∀ j, j ≠ 1 → u2 1 j = u 1 j)) := by
  refine CT_of (by decide) (Nat.le_of_ble_eq_true rfl) (fun x hq => ?_)
  show J x yX7_append cX7_append 3 none d 0 0 (Wd u g ex).length 0 [(0, .ref 1), (1, .int number)] [] (Wd u g ex) 0 0
  have E : Fx_T_appendRX number u g = Fx_T_appendRX number u g := rfl
  refine J_bipush (v := 24) dX7_append_0 (by decide) ?_
  refine J_istore_n (i := 2) (lw := [(2, .int 24), (0, .ref 1), (1, .int number)]) dX7_append_2 rfl (by decide) rfl ?_
  refine J_iload_n (i := 2) (j := 0) dX7_append_3 rfl rfl ?_
  refine J_if_lt (tgt := 46) dX7_append_4 (by decide) (fun q => absurd q (by decide)) (fun _ => ?_)
  refine J_aload_n (i := 0) (j := 1) dX7_append_7 rfl rfl ?_
  refine J_get (C := RX7) (T := TX7) (Z := 8) (ci := 7) (f := 1) dX7_append_8 inG7 rfl (by decide) k188 wc_1 rfl ?_
  refine J_sipush (v := 600) dX7_append_11 (by decide) ?_
  refine J_icmp_ge (tgt := 46) dX7_append_14 (by decide) (fun c1 => ?_) (fun c1 => ?_)
  · exact (bd_no (bd_le_lo hp0 c1 (bd_c (v := 600) (lo := 600) (hi := 600) (by decide))) (by decide)).elim
  · replace E := xq_en c1 E
    refine J_aload_n (i := 0) (j := 1) dX7_append_17 rfl rfl ?_
    refine J_get (C := RX7) (T := TX7) (Z := 8) (ci := 7) (f := 0) dX7_append_18 inG7 rfl (by decide) k186 wc_1 rfl ?_
    refine J_aload_n (i := 0) (j := 1) dX7_append_21 rfl rfl ?_
    refine J_get (C := RX7) (T := TX7) (Z := 8) (ci := 7) (f := 1) dX7_append_22 inG7 rfl (by decide) k188 wc_1 rfl ?_
    refine J_iload_n (i := 1) (j := 2) dX7_append_25 rfl rfl ?_
    refine J_iload_n (i := 2) (j := 0) dX7_append_26 rfl rfl ?_
    refine J_ishr dX7_append_27 ?_
    obtain ⟨v2, qv2⟩ : ∃ z : Int32, z = (number >>> (24 &&& 31)).toInt8.toInt32 := ⟨_, rfl⟩
    refine J_i2b dX7_append_28 qv2.symm ?_
    replace E := xq_le qv2 E
    obtain ⟨u3, e4⟩ : ∃ z, z = ms u 2 ((u 1 1).toNatClampNeg) (vp_nar .byte v2) := ⟨_, rfl⟩
    refine J_bast dX7_append_29 wc_2 (vin hp0 (by decide)) (ws e4 wk_2 rfl) ?_
    replace E := xq_le e4 E
    refine J_aload_n (i := 0) (j := 1) dX7_append_30 rfl rfl ?_
    refine J_dup dX7_append_31 rfl ?_
    refine J_get (C := RX7) (T := TX7) (Z := 8) (ci := 7) (f := 1) dX7_append_32 inG7 rfl (by decide) k188 wc_1 rfl ?_
    refine J_ci (v := u 1 1) (congrFun (ms_c e4 (Nat.ne_of_beq_eq_false rfl)) 1) ?_
    refine J_iconst (v := 1) dX7_append_35 (by decide) ?_
    refine J_iadd dX7_append_36 ?_
    obtain ⟨u5, e6⟩ : ∃ z, z = ms u3 1 1 ((u 1 1) + 1) := ⟨_, rfl⟩
    refine J_put (C := RX7) (T := TX7) (Z := 8) (ci := 7) (f := 1) (ty0 := tyX7) dX7_append_37 inG7 rfl tyX7_ok nmX7 (by decide) k188 rfl rfl wc_1 (Nat.le_of_ble_eq_true rfl) (fun _ _ => ⟨rfl, rfl⟩) (ws e6 wk_1 rfl) ?_
    replace E := xq_le e6 E
    refine J_iinc (i := 2) (j := 0) (v := 16) (lw := [(2, .int 16), (0, .ref 1), (1, .int number)]) dX7_append_40 rfl (by decide) (by decide) rfl ?_
    refine J_goto (tgt := 3) dX7_append_43 (by decide) ?_
    refine J_iload_n (i := 2) (j := 0) dX7_append_3 rfl rfl ?_
    refine J_if_lt (tgt := 46) dX7_append_4 (by decide) (fun q => absurd q (by decide)) (fun _ => ?_)
    refine J_aload_n (i := 0) (j := 1) dX7_append_7 rfl rfl ?_
    refine J_get (C := RX7) (T := TX7) (Z := 8) (ci := 7) (f := 1) dX7_append_8 inG7 rfl (by decide) k188 wc_1 rfl ?_
    refine J_ci (v := ((u 1 1) + 1)) (ms_e e6) ?_
    refine J_sipush (v := 600) dX7_append_11 (by decide) ?_
    refine J_icmp_ge (tgt := 46) dX7_append_14 (by decide) (fun c7 => ?_) (fun c7 => ?_)
    · exact (bd_no (bd_le_lo (bd_add (l := 1) (h := 597) hp0 (bd_c (v := 1) (lo := 1) (hi := 1) (by decide)) (by decide)) c7 (bd_c (v := 600) (lo := 600) (hi := 600) (by decide))) (by decide)).elim
    · replace E := xq_en c7 E
      refine J_aload_n (i := 0) (j := 1) dX7_append_17 rfl rfl ?_
      refine J_get (C := RX7) (T := TX7) (Z := 8) (ci := 7) (f := 0) dX7_append_18 inG7 rfl (by decide) k186 wc_1 rfl ?_
      refine J_aload_n (i := 0) (j := 1) dX7_append_21 rfl rfl ?_
      refine J_get (C := RX7) (T := TX7) (Z := 8) (ci := 7) (f := 1) dX7_append_22 inG7 rfl (by decide) k188 wc_1 rfl ?_
      refine J_ci (v := ((u 1 1) + 1)) (ms_e e6) ?_
      refine J_iload_n (i := 1) (j := 2) dX7_append_25 rfl rfl ?_
      refine J_iload_n (i := 2) (j := 0) dX7_append_26 rfl rfl ?_
      refine J_ishr dX7_append_27 ?_
      obtain ⟨v8, qv8⟩ : ∃ z : Int32, z = (number >>> (16 &&& 31)).toInt8.toInt32 := ⟨_, rfl⟩
      refine J_i2b dX7_append_28 qv8.symm ?_
      replace E := xq_le qv8 E
      obtain ⟨u9, e10⟩ : ∃ z, z = ms u5 2 (((u 1 1) + 1).toNatClampNeg) (vp_nar .byte v8) := ⟨_, rfl⟩
      refine J_bast dX7_append_29 wc_2 (vin (bd_add (l := 1) (h := 597) hp0 (bd_c (v := 1) (lo := 1) (hi := 1) (by decide)) (by decide)) (by decide)) (ws e10 wk_2 rfl) ?_
      replace E := xq_le e10 E
      refine J_aload_n (i := 0) (j := 1) dX7_append_30 rfl rfl ?_
      refine J_dup dX7_append_31 rfl ?_
      refine J_get (C := RX7) (T := TX7) (Z := 8) (ci := 7) (f := 1) dX7_append_32 inG7 rfl (by decide) k188 wc_1 rfl ?_
      refine J_ci (v := ((u 1 1) + 1)) ((congrFun (ms_c e10 (Nat.ne_of_beq_eq_false rfl)) 1).trans (ms_e e6)) ?_
      refine J_iconst (v := 1) dX7_append_35 (by decide) ?_
      refine J_iadd dX7_append_36 ?_
      obtain ⟨u11, e12⟩ : ∃ z, z = ms u9 1 1 (((u 1 1) + 1) + 1) := ⟨_, rfl⟩
      refine J_put (C := RX7) (T := TX7) (Z := 8) (ci := 7) (f := 1) (ty0 := tyX7) dX7_append_37 inG7 rfl tyX7_ok nmX7 (by decide) k188 rfl rfl wc_1 (Nat.le_of_ble_eq_true rfl) (fun _ _ => ⟨rfl, rfl⟩) (ws e12 wk_1 rfl) ?_
      replace E := xq_le e12 E
      refine J_iinc (i := 2) (j := 0) (v := 8) (lw := [(2, .int 8), (0, .ref 1), (1, .int number)]) dX7_append_40 rfl (by decide) (by decide) rfl ?_
      refine J_goto (tgt := 3) dX7_append_43 (by decide) ?_
      refine J_iload_n (i := 2) (j := 0) dX7_append_3 rfl rfl ?_
      refine J_if_lt (tgt := 46) dX7_append_4 (by decide) (fun q => absurd q (by decide)) (fun _ => ?_)
      refine J_aload_n (i := 0) (j := 1) dX7_append_7 rfl rfl ?_
      refine J_get (C := RX7) (T := TX7) (Z := 8) (ci := 7) (f := 1) dX7_append_8 inG7 rfl (by decide) k188 wc_1 rfl ?_
      refine J_ci (v := (((u 1 1) + 1) + 1)) (ms_e e12) ?_
      refine J_sipush (v := 600) dX7_append_11 (by decide) ?_
      refine J_icmp_ge (tgt := 46) dX7_append_14 (by decide) (fun c13 => ?_) (fun c13 => ?_)
      · exact (bd_no (bd_le_lo (bd_add (l := 2) (h := 598) (bd_add (l := 1) (h := 597) hp0 (bd_c (v := 1) (lo := 1) (hi := 1) (by decide)) (by decide)) (bd_c (v := 1) (lo := 1) (hi := 1) (by decide)) (by decide)) c13 (bd_c (v := 600) (lo := 600) (hi := 600) (by decide))) (by decide)).elim
      · replace E := xq_en c13 E
        refine J_aload_n (i := 0) (j := 1) dX7_append_17 rfl rfl ?_
        refine J_get (C := RX7) (T := TX7) (Z := 8) (ci := 7) (f := 0) dX7_append_18 inG7 rfl (by decide) k186 wc_1 rfl ?_
        refine J_aload_n (i := 0) (j := 1) dX7_append_21 rfl rfl ?_
        refine J_get (C := RX7) (T := TX7) (Z := 8) (ci := 7) (f := 1) dX7_append_22 inG7 rfl (by decide) k188 wc_1 rfl ?_
        refine J_ci (v := (((u 1 1) + 1) + 1)) (ms_e e12) ?_
        refine J_iload_n (i := 1) (j := 2) dX7_append_25 rfl rfl ?_
        refine J_iload_n (i := 2) (j := 0) dX7_append_26 rfl rfl ?_
        refine J_ishr dX7_append_27 ?_
        obtain ⟨v14, qv14⟩ : ∃ z : Int32, z = (number >>> (8 &&& 31)).toInt8.toInt32 := ⟨_, rfl⟩
        refine J_i2b dX7_append_28 qv14.symm ?_
        replace E := xq_le qv14 E
        obtain ⟨u15, e16⟩ : ∃ z, z = ms u11 2 ((((u 1 1) + 1) + 1).toNatClampNeg) (vp_nar .byte v14) := ⟨_, rfl⟩
        refine J_bast dX7_append_29 wc_2 (vin (bd_add (l := 2) (h := 598) (bd_add (l := 1) (h := 597) hp0 (bd_c (v := 1) (lo := 1) (hi := 1) (by decide)) (by decide)) (bd_c (v := 1) (lo := 1) (hi := 1) (by decide)) (by decide)) (by decide)) (ws e16 wk_2 rfl) ?_
        replace E := xq_le e16 E
        refine J_aload_n (i := 0) (j := 1) dX7_append_30 rfl rfl ?_
        refine J_dup dX7_append_31 rfl ?_
        refine J_get (C := RX7) (T := TX7) (Z := 8) (ci := 7) (f := 1) dX7_append_32 inG7 rfl (by decide) k188 wc_1 rfl ?_
        refine J_ci (v := (((u 1 1) + 1) + 1)) ((congrFun (ms_c e16 (Nat.ne_of_beq_eq_false rfl)) 1).trans (ms_e e12)) ?_
        refine J_iconst (v := 1) dX7_append_35 (by decide) ?_
        refine J_iadd dX7_append_36 ?_
        obtain ⟨u17, e18⟩ : ∃ z, z = ms u15 1 1 ((((u 1 1) + 1) + 1) + 1) := ⟨_, rfl⟩
        refine J_put (C := RX7) (T := TX7) (Z := 8) (ci := 7) (f := 1) (ty0 := tyX7) dX7_append_37 inG7 rfl tyX7_ok nmX7 (by decide) k188 rfl rfl wc_1 (Nat.le_of_ble_eq_true rfl) (fun _ _ => ⟨rfl, rfl⟩) (ws e18 wk_1 rfl) ?_
        replace E := xq_le e18 E
        refine J_iinc (i := 2) (j := 0) (v := 0) (lw := [(2, .int 0), (0, .ref 1), (1, .int number)]) dX7_append_40 rfl (by decide) (by decide) rfl ?_
        refine J_goto (tgt := 3) dX7_append_43 (by decide) ?_
        refine J_iload_n (i := 2) (j := 0) dX7_append_3 rfl rfl ?_
        refine J_if_lt (tgt := 46) dX7_append_4 (by decide) (fun q => absurd q (by decide)) (fun _ => ?_)
        refine J_aload_n (i := 0) (j := 1) dX7_append_7 rfl rfl ?_
        refine J_get (C := RX7) (T := TX7) (Z := 8) (ci := 7) (f := 1) dX7_append_8 inG7 rfl (by decide) k188 wc_1 rfl ?_
        refine J_ci (v := ((((u 1 1) + 1) + 1) + 1)) (ms_e e18) ?_
        refine J_sipush (v := 600) dX7_append_11 (by decide) ?_
        refine J_icmp_ge (tgt := 46) dX7_append_14 (by decide) (fun c19 => ?_) (fun c19 => ?_)
        · exact (bd_no (bd_le_lo (bd_add (l := 3) (h := 599) (bd_add (l := 2) (h := 598) (bd_add (l := 1) (h := 597) hp0 (bd_c (v := 1) (lo := 1) (hi := 1) (by decide)) (by decide)) (bd_c (v := 1) (lo := 1) (hi := 1) (by decide)) (by decide)) (bd_c (v := 1) (lo := 1) (hi := 1) (by decide)) (by decide)) c19 (bd_c (v := 600) (lo := 600) (hi := 600) (by decide))) (by decide)).elim
        · replace E := xq_en c19 E
          refine J_aload_n (i := 0) (j := 1) dX7_append_17 rfl rfl ?_
          refine J_get (C := RX7) (T := TX7) (Z := 8) (ci := 7) (f := 0) dX7_append_18 inG7 rfl (by decide) k186 wc_1 rfl ?_
          refine J_aload_n (i := 0) (j := 1) dX7_append_21 rfl rfl ?_
          refine J_get (C := RX7) (T := TX7) (Z := 8) (ci := 7) (f := 1) dX7_append_22 inG7 rfl (by decide) k188 wc_1 rfl ?_
          refine J_ci (v := ((((u 1 1) + 1) + 1) + 1)) (ms_e e18) ?_
          refine J_iload_n (i := 1) (j := 2) dX7_append_25 rfl rfl ?_
          refine J_iload_n (i := 2) (j := 0) dX7_append_26 rfl rfl ?_
          refine J_ishr dX7_append_27 ?_
          obtain ⟨v20, qv20⟩ : ∃ z : Int32, z = (number >>> (0 &&& 31)).toInt8.toInt32 := ⟨_, rfl⟩
          refine J_i2b dX7_append_28 qv20.symm ?_
          replace E := xq_le qv20 E
          obtain ⟨u21, e22⟩ : ∃ z, z = ms u17 2 (((((u 1 1) + 1) + 1) + 1).toNatClampNeg) (vp_nar .byte v20) := ⟨_, rfl⟩
          refine J_bast dX7_append_29 wc_2 (vin (bd_add (l := 3) (h := 599) (bd_add (l := 2) (h := 598) (bd_add (l := 1) (h := 597) hp0 (bd_c (v := 1) (lo := 1) (hi := 1) (by decide)) (by decide)) (bd_c (v := 1) (lo := 1) (hi := 1) (by decide)) (by decide)) (bd_c (v := 1) (lo := 1) (hi := 1) (by decide)) (by decide)) (by decide)) (ws e22 wk_2 rfl) ?_
          replace E := xq_le e22 E
          refine J_aload_n (i := 0) (j := 1) dX7_append_30 rfl rfl ?_
          refine J_dup dX7_append_31 rfl ?_
          refine J_get (C := RX7) (T := TX7) (Z := 8) (ci := 7) (f := 1) dX7_append_32 inG7 rfl (by decide) k188 wc_1 rfl ?_
          refine J_ci (v := ((((u 1 1) + 1) + 1) + 1)) ((congrFun (ms_c e22 (Nat.ne_of_beq_eq_false rfl)) 1).trans (ms_e e18)) ?_
          refine J_iconst (v := 1) dX7_append_35 (by decide) ?_
          refine J_iadd dX7_append_36 ?_
          obtain ⟨u23, e24⟩ : ∃ z, z = ms u21 1 1 (((((u 1 1) + 1) + 1) + 1) + 1) := ⟨_, rfl⟩
          refine J_put (C := RX7) (T := TX7) (Z := 8) (ci := 7) (f := 1) (ty0 := tyX7) dX7_append_37 inG7 rfl tyX7_ok nmX7 (by decide) k188 rfl rfl wc_1 (Nat.le_of_ble_eq_true rfl) (fun _ _ => ⟨rfl, rfl⟩) (ws e24 wk_1 rfl) ?_
          replace E := xq_le e24 E
          refine J_iinc (i := 2) (j := 0) (v := (-8)) (lw := [(2, .int (-8)), (0, .ref 1), (1, .int number)]) dX7_append_40 rfl (by decide) (by decide) rfl ?_
          refine J_goto (tgt := 3) dX7_append_43 (by decide) ?_
          refine J_iload_n (i := 2) (j := 0) dX7_append_3 rfl rfl ?_
          refine J_if_lt (tgt := 46) dX7_append_4 (by decide) (fun _ => ?_) (fun q => absurd (by decide) q)
          exact J_vret hq dX7_append_46 rfl wlen (Nat.le_refl _) (Nat.le_refl _) ⟨u23, rfl, rfl, (bd_r (ms_e e24) (bd_add (l := 4) (h := 600) (bd_add (l := 3) (h := 599) (bd_add (l := 2) (h := 598) (bd_add (l := 1) (h := 597) hp0 (bd_c (v := 1) (lo := 1) (hi := 1) (by decide)) (by decide)) (bd_c (v := 1) (lo := 1) (hi := 1) (by decide)) (by decide)) (bd_c (v := 1) (lo := 1) (hi := 1) (by decide)) (by decide)) (bd_c (v := 1) (lo := 1) (hi := 1) (by decide)) (by decide))), (bf_c (ms_c e24 (Nat.ne_of_beq_eq_false rfl)) (bf_s e22 (bf_c (ms_c e18 (Nat.ne_of_beq_eq_false rfl)) (bf_s e16 (bf_c (ms_c e12 (Nat.ne_of_beq_eq_false rfl)) (bf_s e10 (bf_c (ms_c e6 (Nat.ne_of_beq_eq_false rfl)) (bf_s e4 hp1)))))))), (ms_e e24), E, (fun c k0_ k1_ => ((ms_c e24 k0_).trans ((ms_c e22 k1_).trans ((ms_c e18 k0_).trans ((ms_c e16 k1_).trans ((ms_c e12 k0_).trans ((ms_c e10 k1_).trans ((ms_c e6 k0_).trans (ms_c e4 k1_))))))))), (fun j k1_ => ((ms_i e24 k1_).trans ((congrFun (ms_c e22 (Nat.ne_of_beq_eq_false rfl)) j).trans ((ms_i e18 k1_).trans ((congrFun (ms_c e16 (Nat.ne_of_beq_eq_false rfl)) j).trans ((ms_i e12 k1_).trans ((congrFun (ms_c e10 (Nat.ne_of_beq_eq_false rfl)) j).trans ((ms_i e6 k1_).trans (congrFun (ms_c e4 (Nat.ne_of_beq_eq_false rfl)) j)))))))))⟩
set_option maxRecDepth 100000 in
noncomputable def Fx_P_feedRX (a : Int32) (b : Int32) (c : Int32) (d0 : Int32) (e : Int32) (u : Nat → Nat → Int32) (g : Nat → Nat → Int64) : Int32 × (Nat → Nat → Int32) := if (u 1 1) ≤ (580 : Int32) then (xq_lt (Fx_T_appendRX a u g) fun u3 => xq_lt (Fx_T_appendRX b u3 g) fun u11 => xq_lt (Fx_T_appendRX c u11 g) fun u19 => xq_lt (Fx_T_appendRX d0 u19 g) fun u27 => xq_lt (Fx_T_appendRX e u27 g) fun u35 => (((((((((((((((((((((u 1 1 + 1) + 1) + 1) + 1) + 1) + 1) + 1) + 1) + 1) + 1) + 1) + 1) + 1) + 1) + 1) + 1) + 1) + 1) + 1) + 1), u35)) else ((((-1) : Int32), u))
set_option maxHeartbeats 4000000 in
set_option maxRecDepth 100000 in
theorem c_P_feedRX {d : Nat} {u : Nat → Nat → Int32} {g : Nat → Nat → Int64} {ex : List MC} {a : Int32} {b : Int32} {c : Int32} {d0 : Int32} {e : Int32} (hd : 1 ≤ d) (hp0 : Bd 0 600 (u 1 1)) (hp1 : BF u 2) : CT con0 d 0 0 yX10_feed cX10_feed 6 (some .int) [.ref 0, .int a, .int b, .int c, .int d0, .int e] (Wd u g ex) (fun r h2 => ∃ (z : Int32) (u2 : Nat → Nat → Int32), r = some (.int z) ∧ h2 = Wd u2 g ex ∧ Bd 0 600 (u2 1 1) ∧ BF u2 2 ∧ (FEX (u 1 1) (u2 1 1) z) ∧ (z, u2) = Fx_P_feedRX a b c d0 e u g ∧ (∀ c, c ≠ 1 → c ≠ 2 → u2 c = u c) ∧ (∀ j, j ≠ 1 → u2 1 j = u 1 j)) := by
  refine CT_of (by decide) (Nat.le_of_ble_eq_true rfl) (fun x hq => ?_)
  show J x yX10_feed cX10_feed 6 (some .int) d 0 0 (Wd u g ex).length 0 [(0, .ref 0), (1, .int a), (2, .int b), (3, .int c), (4, .int d0), (5, .int e)] [] (Wd u g ex) 0 0
  have E : Fx_P_feedRX a b c d0 e u g = Fx_P_feedRX a b c d0 e u g := rfl
  refine J_aload_n (i := 0) (j := 0) dX10_feed_0 rfl rfl ?_
  refine J_get (C := RX10) (T := TX10) (Z := 10) (ci := 10) (f := 0) dX10_feed_1 inG10 rfl (by decide) k423 wc_0 rfl ?_
  refine J_getN (C := RX7) (T := TX7) (Z := 8) (ci := 7) (f := 1) dX10_feed_4 inG7 rfl (by decide) k189 wc_1 rfl ?_
  refine J_sipush (v := 580) dX10_feed_7 (by decide) ?_
  refine J_icmp_le (tgt := 15) dX10_feed_10 (by decide) (fun c1 => ?_) (fun c1 => ?_)
  · replace E := xq_ep c1 E
    refine J_aload_n (i := 0) (j := 0) dX10_feed_15 rfl rfl ?_
    refine J_get (C := RX10) (T := TX10) (Z := 10) (ci := 10) (f := 0) dX10_feed_16 inG10 rfl (by decide) k423 wc_0 rfl ?_
    refine J_iload_n (i := 1) (j := 1) dX10_feed_19 rfl rfl ?_
    refine J_callV (As := [.int a]) (rest := []) dX10_feed_20 (c_T_appendRX (d := 0) (u := u) (g := g) (ex := ex) (number := a)  (by decide) (bd_w (l := 0) (h := 596) (bd_le_hi hp0 c1 (bd_c (v := 580) (lo := 580) (hi := 580) (by decide))) (by decide)) hp1) hq.n k458 k459 k460 wc_1 rfl rfl k88 k461 np_X7_append (Nat.le_trans (by decide) hd) (by decide) (Nat.le_refl _) (Nat.le_refl _) wlen rfl (Nat.le_of_ble_eq_true rfl) (fun r_ h_ p2 => ?_)
    obtain ⟨u3, rfl, rfl, h4, h5, h6, hx7, fr8, fc9⟩ := p2
    replace E := xq_le hx7 E
    refine J_aload_n (i := 0) (j := 0) dX10_feed_23 rfl rfl ?_
    refine J_get (C := RX10) (T := TX10) (Z := 10) (ci := 10) (f := 0) dX10_feed_24 inG10 rfl (by decide) k423 wc_0 rfl ?_
    refine J_iload_n (i := 2) (j := 2) dX10_feed_27 rfl rfl ?_
    refine J_callV (As := [.int b]) (rest := []) dX10_feed_28 (c_T_appendRX (d := 0) (u := u3) (g := g) (ex := ex) (number := b)  (by decide) (bd_r h6 (bd_w (l := 0) (h := 596) (bd_add (l := 4) (h := 584) (bd_add (l := 3) (h := 583) (bd_add (l := 2) (h := 582) (bd_add (l := 1) (h := 581) (bd_le_hi hp0 c1 (bd_c (v := 580) (lo := 580) (hi := 580) (by decide))) (bd_c (v := 1) (lo := 1) (hi := 1) (by decide)) (by decide)) (bd_c (v := 1) (lo := 1) (hi := 1) (by decide)) (by decide)) (bd_c (v := 1) (lo := 1) (hi := 1) (by decide)) (by decide)) (bd_c (v := 1) (lo := 1) (hi := 1) (by decide)) (by decide)) (by decide))) h5) hq.n k458 k459 k460 wc_1 rfl rfl k88 k461 np_X7_append (Nat.le_trans (by decide) hd) (by decide) (Nat.le_refl _) (Nat.le_refl _) wlen rfl (Nat.le_of_ble_eq_true rfl) (fun r_ h_ p10 => ?_)
    obtain ⟨u11, rfl, rfl, h12, h13, h14, hx15, fr16, fc17⟩ := p10
    replace E := xq_le hx15 E
    refine J_aload_n (i := 0) (j := 0) dX10_feed_31 rfl rfl ?_
    refine J_get (C := RX10) (T := TX10) (Z := 10) (ci := 10) (f := 0) dX10_feed_32 inG10 rfl (by decide) k423 wc_0 rfl ?_
    refine J_iload_n (i := 3) (j := 3) dX10_feed_35 rfl rfl ?_
    refine J_callV (As := [.int c]) (rest := []) dX10_feed_36 (c_T_appendRX (d := 0) (u := u11) (g := g) (ex := ex) (number := c)  (by decide) (bd_r (h14.trans (congrArg (fun z : Int32 => z + 1 + 1 + 1 + 1) h6)) (bd_w (l := 0) (h := 596) (bd_add (l := 8) (h := 588) (bd_add (l := 7) (h := 587) (bd_add (l := 6) (h := 586) (bd_add (l := 5) (h := 585) (bd_add (l := 4) (h := 584) (bd_add (l := 3) (h := 583) (bd_add (l := 2) (h := 582) (bd_add (l := 1) (h := 581) (bd_le_hi hp0 c1 (bd_c (v := 580) (lo := 580) (hi := 580) (by decide))) (bd_c (v := 1) (lo := 1) (hi := 1) (by decide)) (by decide)) (bd_c (v := 1) (lo := 1) (hi := 1) (by decide)) (by decide)) (bd_c (v := 1) (lo := 1) (hi := 1) (by decide)) (by decide)) (bd_c (v := 1) (lo := 1) (hi := 1) (by decide)) (by decide)) (bd_c (v := 1) (lo := 1) (hi := 1) (by decide)) (by decide)) (bd_c (v := 1) (lo := 1) (hi := 1) (by decide)) (by decide)) (bd_c (v := 1) (lo := 1) (hi := 1) (by decide)) (by decide)) (bd_c (v := 1) (lo := 1) (hi := 1) (by decide)) (by decide)) (by decide))) h13) hq.n k458 k459 k460 wc_1 rfl rfl k88 k461 np_X7_append (Nat.le_trans (by decide) hd) (by decide) (Nat.le_refl _) (Nat.le_refl _) wlen rfl (Nat.le_of_ble_eq_true rfl) (fun r_ h_ p18 => ?_)
    obtain ⟨u19, rfl, rfl, h20, h21, h22, hx23, fr24, fc25⟩ := p18
    replace E := xq_le hx23 E
    refine J_aload_n (i := 0) (j := 0) dX10_feed_39 rfl rfl ?_
    refine J_get (C := RX10) (T := TX10) (Z := 10) (ci := 10) (f := 0) dX10_feed_40 inG10 rfl (by decide) k423 wc_0 rfl ?_
    refine J_iload (i := 4) (j := 4) dX10_feed_43 rfl ?_
    refine J_callV (As := [.int d0]) (rest := []) dX10_feed_45 (c_T_appendRX (d := 0) (u := u19) (g := g) (ex := ex) (number := d0)  (by decide) (bd_r (h22.trans (congrArg (fun z : Int32 => z + 1 + 1 + 1 + 1) (h14.trans (congrArg (fun z : Int32 => z + 1 + 1 + 1 + 1) h6)))) (bd_w (l := 0) (h := 596) (bd_add (l := 12) (h := 592) (bd_add (l := 11) (h := 591) (bd_add (l := 10) (h := 590) (bd_add (l := 9) (h := 589) (bd_add (l := 8) (h := 588) (bd_add (l := 7) (h := 587) (bd_add (l := 6) (h := 586) (bd_add (l := 5) (h := 585) (bd_add (l := 4) (h := 584) (bd_add (l := 3) (h := 583) (bd_add (l := 2) (h := 582) (bd_add (l := 1) (h := 581) (bd_le_hi hp0 c1 (bd_c (v := 580) (lo := 580) (hi := 580) (by decide))) (bd_c (v := 1) (lo := 1) (hi := 1) (by decide)) (by decide)) (bd_c (v := 1) (lo := 1) (hi := 1) (by decide)) (by decide)) (bd_c (v := 1) (lo := 1) (hi := 1) (by decide)) (by decide)) (bd_c (v := 1) (lo := 1) (hi := 1) (by decide)) (by decide)) (bd_c (v := 1) (lo := 1) (hi := 1) (by decide)) (by decide)) (bd_c (v := 1) (lo := 1) (hi := 1) (by decide)) (by decide)) (bd_c (v := 1) (lo := 1) (hi := 1) (by decide)) (by decide)) (bd_c (v := 1) (lo := 1) (hi := 1) (by decide)) (by decide)) (bd_c (v := 1) (lo := 1) (hi := 1) (by decide)) (by decide)) (bd_c (v := 1) (lo := 1) (hi := 1) (by decide)) (by decide)) (bd_c (v := 1) (lo := 1) (hi := 1) (by decide)) (by decide)) (bd_c (v := 1) (lo := 1) (hi := 1) (by decide)) (by decide)) (by decide))) h21) hq.n k458 k459 k460 wc_1 rfl rfl k88 k461 np_X7_append (Nat.le_trans (by decide) hd) (by decide) (Nat.le_refl _) (Nat.le_refl _) wlen rfl (Nat.le_of_ble_eq_true rfl) (fun r_ h_ p26 => ?_)
    obtain ⟨u27, rfl, rfl, h28, h29, h30, hx31, fr32, fc33⟩ := p26
    replace E := xq_le hx31 E
    refine J_aload_n (i := 0) (j := 0) dX10_feed_48 rfl rfl ?_
    refine J_get (C := RX10) (T := TX10) (Z := 10) (ci := 10) (f := 0) dX10_feed_49 inG10 rfl (by decide) k423 wc_0 rfl ?_
    refine J_iload (i := 5) (j := 5) dX10_feed_52 rfl ?_
    refine J_callV (As := [.int e]) (rest := []) dX10_feed_54 (c_T_appendRX (d := 0) (u := u27) (g := g) (ex := ex) (number := e)  (by decide) (bd_r (h30.trans (congrArg (fun z : Int32 => z + 1 + 1 + 1 + 1) (h22.trans (congrArg (fun z : Int32 => z + 1 + 1 + 1 + 1) (h14.trans (congrArg (fun z : Int32 => z + 1 + 1 + 1 + 1) h6)))))) (bd_w (l := 0) (h := 596) (bd_add (l := 16) (h := 596) (bd_add (l := 15) (h := 595) (bd_add (l := 14) (h := 594) (bd_add (l := 13) (h := 593) (bd_add (l := 12) (h := 592) (bd_add (l := 11) (h := 591) (bd_add (l := 10) (h := 590) (bd_add (l := 9) (h := 589) (bd_add (l := 8) (h := 588) (bd_add (l := 7) (h := 587) (bd_add (l := 6) (h := 586) (bd_add (l := 5) (h := 585) (bd_add (l := 4) (h := 584) (bd_add (l := 3) (h := 583) (bd_add (l := 2) (h := 582) (bd_add (l := 1) (h := 581) (bd_le_hi hp0 c1 (bd_c (v := 580) (lo := 580) (hi := 580) (by decide))) (bd_c (v := 1) (lo := 1) (hi := 1) (by decide)) (by decide)) (bd_c (v := 1) (lo := 1) (hi := 1) (by decide)) (by decide)) (bd_c (v := 1) (lo := 1) (hi := 1) (by decide)) (by decide)) (bd_c (v := 1) (lo := 1) (hi := 1) (by decide)) (by decide)) (bd_c (v := 1) (lo := 1) (hi := 1) (by decide)) (by decide)) (bd_c (v := 1) (lo := 1) (hi := 1) (by decide)) (by decide)) (bd_c (v := 1) (lo := 1) (hi := 1) (by decide)) (by decide)) (bd_c (v := 1) (lo := 1) (hi := 1) (by decide)) (by decide)) (bd_c (v := 1) (lo := 1) (hi := 1) (by decide)) (by decide)) (bd_c (v := 1) (lo := 1) (hi := 1) (by decide)) (by decide)) (bd_c (v := 1) (lo := 1) (hi := 1) (by decide)) (by decide)) (bd_c (v := 1) (lo := 1) (hi := 1) (by decide)) (by decide)) (bd_c (v := 1) (lo := 1) (hi := 1) (by decide)) (by decide)) (bd_c (v := 1) (lo := 1) (hi := 1) (by decide)) (by decide)) (bd_c (v := 1) (lo := 1) (hi := 1) (by decide)) (by decide)) (bd_c (v := 1) (lo := 1) (hi := 1) (by decide)) (by decide)) (by decide))) h29) hq.n k458 k459 k460 wc_1 rfl rfl k88 k461 np_X7_append (Nat.le_trans (by decide) hd) (by decide) (Nat.le_refl _) (Nat.le_refl _) wlen rfl (Nat.le_of_ble_eq_true rfl) (fun r_ h_ p34 => ?_)
    obtain ⟨u35, rfl, rfl, h36, h37, h38, hx39, fr40, fc41⟩ := p34
    replace E := xq_le hx39 E
    refine J_aload_n (i := 0) (j := 0) dX10_feed_57 rfl rfl ?_
    refine J_get (C := RX10) (T := TX10) (Z := 10) (ci := 10) (f := 0) dX10_feed_58 inG10 rfl (by decide) k423 wc_0 rfl ?_
    refine J_getN (C := RX7) (T := TX7) (Z := 8) (ci := 7) (f := 1) dX10_feed_61 inG7 rfl (by decide) k189 wc_1 rfl ?_
    refine J_ci (v := ((((((((((((((((((((u 1 1 + 1) + 1) + 1) + 1) + 1) + 1) + 1) + 1) + 1) + 1) + 1) + 1) + 1) + 1) + 1) + 1) + 1) + 1) + 1) + 1)) (h38.trans (congrArg (fun z : Int32 => z + 1 + 1 + 1 + 1) (h30.trans (congrArg (fun z : Int32 => z + 1 + 1 + 1 + 1) (h22.trans (congrArg (fun z : Int32 => z + 1 + 1 + 1 + 1) (h14.trans (congrArg (fun z : Int32 => z + 1 + 1 + 1 + 1) h6)))))))) ?_
    exact J_iret hq dX10_feed_64 rfl wlen (Nat.le_refl _) (Nat.le_refl _) ⟨((((((((((((((((((((u 1 1 + 1) + 1) + 1) + 1) + 1) + 1) + 1) + 1) + 1) + 1) + 1) + 1) + 1) + 1) + 1) + 1) + 1) + 1) + 1) + 1), u35, rfl, rfl, (bd_r (h38.trans (congrArg (fun z : Int32 => z + 1 + 1 + 1 + 1) (h30.trans (congrArg (fun z : Int32 => z + 1 + 1 + 1 + 1) (h22.trans (congrArg (fun z : Int32 => z + 1 + 1 + 1 + 1) (h14.trans (congrArg (fun z : Int32 => z + 1 + 1 + 1 + 1) h6)))))))) (bd_w (l := 0) (h := 600) (bd_add (l := 20) (h := 600) (bd_add (l := 19) (h := 599) (bd_add (l := 18) (h := 598) (bd_add (l := 17) (h := 597) (bd_add (l := 16) (h := 596) (bd_add (l := 15) (h := 595) (bd_add (l := 14) (h := 594) (bd_add (l := 13) (h := 593) (bd_add (l := 12) (h := 592) (bd_add (l := 11) (h := 591) (bd_add (l := 10) (h := 590) (bd_add (l := 9) (h := 589) (bd_add (l := 8) (h := 588) (bd_add (l := 7) (h := 587) (bd_add (l := 6) (h := 586) (bd_add (l := 5) (h := 585) (bd_add (l := 4) (h := 584) (bd_add (l := 3) (h := 583) (bd_add (l := 2) (h := 582) (bd_add (l := 1) (h := 581) (bd_le_hi hp0 c1 (bd_c (v := 580) (lo := 580) (hi := 580) (by decide))) (bd_c (v := 1) (lo := 1) (hi := 1) (by decide)) (by decide)) (bd_c (v := 1) (lo := 1) (hi := 1) (by decide)) (by decide)) (bd_c (v := 1) (lo := 1) (hi := 1) (by decide)) (by decide)) (bd_c (v := 1) (lo := 1) (hi := 1) (by decide)) (by decide)) (bd_c (v := 1) (lo := 1) (hi := 1) (by decide)) (by decide)) (bd_c (v := 1) (lo := 1) (hi := 1) (by decide)) (by decide)) (bd_c (v := 1) (lo := 1) (hi := 1) (by decide)) (by decide)) (bd_c (v := 1) (lo := 1) (hi := 1) (by decide)) (by decide)) (bd_c (v := 1) (lo := 1) (hi := 1) (by decide)) (by decide)) (bd_c (v := 1) (lo := 1) (hi := 1) (by decide)) (by decide)) (bd_c (v := 1) (lo := 1) (hi := 1) (by decide)) (by decide)) (bd_c (v := 1) (lo := 1) (hi := 1) (by decide)) (by decide)) (bd_c (v := 1) (lo := 1) (hi := 1) (by decide)) (by decide)) (bd_c (v := 1) (lo := 1) (hi := 1) (by decide)) (by decide)) (bd_c (v := 1) (lo := 1) (hi := 1) (by decide)) (by decide)) (bd_c (v := 1) (lo := 1) (hi := 1) (by decide)) (by decide)) (bd_c (v := 1) (lo := 1) (hi := 1) (by decide)) (by decide)) (bd_c (v := 1) (lo := 1) (hi := 1) (by decide)) (by decide)) (bd_c (v := 1) (lo := 1) (hi := 1) (by decide)) (by decide)) (bd_c (v := 1) (lo := 1) (hi := 1) (by decide)) (by decide)) (by decide))), h37, (Or.inr ⟨c1, (h38.trans (congrArg (fun z : Int32 => z + 1 + 1 + 1 + 1) (h30.trans (congrArg (fun z : Int32 => z + 1 + 1 + 1 + 1) (h22.trans (congrArg (fun z : Int32 => z + 1 + 1 + 1 + 1) (h14.trans (congrArg (fun z : Int32 => z + 1 + 1 + 1 + 1) h6)))))))).symm, (h38.trans (congrArg (fun z : Int32 => z + 1 + 1 + 1 + 1) (h30.trans (congrArg (fun z : Int32 => z + 1 + 1 + 1 + 1) (h22.trans (congrArg (fun z : Int32 => z + 1 + 1 + 1 + 1) (h14.trans (congrArg (fun z : Int32 => z + 1 + 1 + 1 + 1) h6))))))))⟩), E, (fun c k0_ k1_ => ((fr40 c k0_ k1_).trans ((fr32 c k0_ k1_).trans ((fr24 c k0_ k1_).trans ((fr16 c k0_ k1_).trans (fr8 c k0_ k1_)))))), (fun j k1_ => ((fc41 j k1_).trans ((fc33 j k1_).trans ((fc25 j k1_).trans ((fc17 j k1_).trans (fc9 j k1_))))))⟩
  · replace E := xq_en c1 E
    refine J_iconst (v := (-1)) dX10_feed_13 (by decide) ?_
    exact J_iret hq dX10_feed_14 rfl wlen (Nat.le_refl _) (Nat.le_refl _) ⟨((-1) : Int32), u, rfl, rfl, (bd_w (l := 0) (h := 600) (bd_lt_lo hp0 (i_nle c1) (bd_c (v := 580) (lo := 580) (hi := 580) (by decide))) (by decide)), hp1, (Or.inl ⟨(i_nle c1), rfl, rfl⟩), E, (fun c k0_ k1_ => rfl), (fun j k1_ => rfl)⟩
set_option maxRecDepth 100000 in
noncomputable def Fx_P_endRX (n : Int32) (u : Nat → Nat → Int32) (g : Nat → Nat → Int64) : Int32 × (Nat → Nat → Int32) := if n < (0 : Int32) then ((((-1) : Int32), u)) else (if n ≤ (u 1 1) then (xq_lt (ms u 1 1 n) fun u3 => (n, u3)) else ((((-1) : Int32), u)))
set_option maxHeartbeats 4000000 in
set_option maxRecDepth 100000 in
theorem c_P_endRX {d : Nat} {u : Nat → Nat → Int32} {g : Nat → Nat → Int64} {ex : List MC} {n : Int32} (hd : 0 ≤ d) (hp0 : Bd 0 600 (u 1 1)) (hp1 : BF u 2) : CT con0 d 0 0 yX10_end cX10_end 2 (some .int) [.ref 0, .int n] (Wd u g ex) (fun r h2 => ∃ (z : Int32) (u2 : Nat → Nat → Int32), r = some (.int z) ∧ h2 = Wd u2 g ex ∧ Bd 0 600 (u2 1 1) ∧ (ENX (u 1 1) (u2 1 1) n z) ∧ (z, u2) = Fx_P_endRX n u g ∧ (∀ c, c ≠ 1 → u2 c = u c) ∧ (∀ j, j ≠ 1 → u2 1 j = u 1 j)) := by
  refine CT_of (by decide) (Nat.le_of_ble_eq_true rfl) (fun x hq => ?_)
  show J x yX10_end cX10_end 2 (some .int) d 0 0 (Wd u g ex).length 0 [(0, .ref 0), (1, .int n)] [] (Wd u g ex) 0 0
  have E : Fx_P_endRX n u g = Fx_P_endRX n u g := rfl
  refine J_iload_n (i := 1) (j := 1) dX10_end_0 rfl rfl ?_
  refine J_if_lt (tgt := 15) dX10_end_1 (by decide) (fun c1 => ?_) (fun c1 => ?_)
  · replace E := xq_ep c1 E
    refine J_iconst (v := (-1)) dX10_end_15 (by decide) ?_
    exact J_iret hq dX10_end_16 rfl wlen (Nat.le_refl _) (Nat.le_refl _) ⟨((-1) : Int32), u, rfl, rfl, hp0, (enx_1 c1), E, (fun c k0_ => rfl), (fun j k1_ => rfl)⟩
  · replace E := xq_en c1 E
    refine J_iload_n (i := 1) (j := 1) dX10_end_4 rfl rfl ?_
    refine J_aload_n (i := 0) (j := 0) dX10_end_5 rfl rfl ?_
    refine J_get (C := RX10) (T := TX10) (Z := 10) (ci := 10) (f := 0) dX10_end_6 inG10 rfl (by decide) k423 wc_0 rfl ?_
    refine J_getN (C := RX7) (T := TX7) (Z := 8) (ci := 7) (f := 1) dX10_end_9 inG7 rfl (by decide) k189 wc_1 rfl ?_
    refine J_icmp_le (tgt := 17) dX10_end_12 (by decide) (fun c2 => ?_) (fun c2 => ?_)
    · replace E := xq_ep c2 E
      refine J_aload_n (i := 0) (j := 0) dX10_end_17 rfl rfl ?_
      refine J_get (C := RX10) (T := TX10) (Z := 10) (ci := 10) (f := 0) dX10_end_18 inG10 rfl (by decide) k423 wc_0 rfl ?_
      refine J_iload_n (i := 1) (j := 1) dX10_end_21 rfl rfl ?_
      obtain ⟨u3, e4⟩ : ∃ z, z = ms u 1 1 n := ⟨_, rfl⟩
      refine J_putN (C := RX7) (T := TX7) (Z := 8) (ci := 7) (f := 1) (ty0 := tyX7) dX10_end_22 inG7 rfl tyX7_ok nmX7 (by decide) k189 rfl rfl wc_1 (Nat.le_of_ble_eq_true rfl) (fun _ _ => ⟨rfl, rfl⟩) (ws e4 wk_1 rfl) ?_
      replace E := xq_le e4 E
      refine J_iload_n (i := 1) (j := 1) dX10_end_25 rfl rfl ?_
      exact J_iret hq dX10_end_26 rfl wlen (Nat.le_refl _) (Nat.le_refl _) ⟨n, u3, rfl, rfl, (bd_r (ms_e e4) (bd_le_hi (bd_le_lo (bd_any n) (i_nlt c1) (bd_c (v := 0) (lo := 0) (hi := 0) (by decide))) c2 hp0)), (Or.inr ⟨⟨(i_nlt c1), c2⟩, rfl, (ms_e e4)⟩), E, (fun c k0_ => (ms_c e4 k0_)), (fun j k1_ => (ms_i e4 k1_))⟩
    · replace E := xq_en c2 E
      refine J_iconst (v := (-1)) dX10_end_15 (by decide) ?_
      exact J_iret hq dX10_end_16 rfl wlen (Nat.le_refl _) (Nat.le_refl _) ⟨((-1) : Int32), u, rfl, rfl, hp0, (enx_2 (i_nle c2)), E, (fun c k0_ => rfl), (fun j k1_ => rfl)⟩
