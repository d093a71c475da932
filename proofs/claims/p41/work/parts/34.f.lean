set_option maxRecDepth 100000 in
noncomputable def Fx_M_move_164X_L3 (from0 : Int32) (to0 : Int32) (n_ : Nat) : (Int32) → (Nat → Nat → Int32) → (Nat → Nat → Int32) := Nat.rec (motive := fun _ => (Int32) → (Nat → Nat → Int32) → (Nat → Nat → Int32)) (fun _ _ => default) (fun n_ ih_ w4 u5 => if (1 : Int32) ≤ w4 then (u5) else (xq_lt (u5 164 (((1 : Int32) * from0) + w4).toNatClampNeg) fun v18 => xq_lt (ms u5 164 ((((1 : Int32) * to0) + w4).toNatClampNeg) v18) fun u19 => ih_ (w4 + 1) u19)) n_
set_option maxRecDepth 100000 in
theorem Fx_M_move_164X_L3_s {from0 : Int32} {to0 : Int32} {w4 : Int32} {u5 : Nat → Nat → Int32} {n_ : Nat} : Fx_M_move_164X_L3 from0 to0 (n_ + 1) w4 u5 = if (1 : Int32) ≤ w4 then (u5) else (xq_lt (u5 164 (((1 : Int32) * from0) + w4).toNatClampNeg) fun v18 => xq_lt (ms u5 164 ((((1 : Int32) * to0) + w4).toNatClampNeg) v18) fun u19 => (Fx_M_move_164X_L3 from0 to0 n_) (w4 + 1) u19) := rfl
set_option maxRecDepth 100000 in
noncomputable def Fx_M_move_164X (from0 : Int32) (to0 : Int32) (u : Nat → Nat → Int32) (g : Nat → Nat → Int64) : (Nat → Nat → Int32) := Fx_M_move_164X_L3 from0 to0 ((1 - (0 : Int32).toInt).toNat + 1) (0 : Int32) u
set_option maxHeartbeats 4000000 in
set_option maxRecDepth 100000 in
theorem c_M_move_164X {d : Nat} {u : Nat → Nat → Int32} {g : Nat → Nat → Int64} {ex : List MC} {from0 : Int32} {to0 : Int32} (hd : 0 ≤ d) (hp0 : Bd 0 3 from0) (hp1 : Bd 0 3 to0) (hp2 : AB u 164 0 600) : CT con0 d 0 0 yX11_move cX11_move 5 none [.ref 164, .int 1, .int from0, .int to0] (Wd u g ex) (fun r h2 => ∃ (u2 : Nat → Nat → Int32), r = none ∧ h2 = Wd u2 g ex ∧ AB u2 164 0 600 ∧ (MVD u2 u 164 1 from0.toInt.toNat to0.toInt.toNat) ∧ u2 = Fx_M_move_164X from0 to0 u g ∧ (∀ c, c ≠ 164 → u2 c = u c)) := by
  refine CT_of (by decide) (Nat.le_of_ble_eq_true rfl) (fun x hq => ?_)
  show J x yX11_move cX11_move 5 none d 0 0 (Wd u g ex).length 0 [(0, .ref 164), (1, .int 1), (2, .int from0), (3, .int to0)] [] (Wd u g ex) 0 0
  have E : Fx_M_move_164X from0 to0 u g = Fx_M_move_164X from0 to0 u g := rfl
  refine J_iconst (v := 0) dX11_move_0 (by decide) ?_
  refine J_istore (i := 4) (lw := [(4, .int 0), (0, .ref 164), (1, .int 1), (2, .int from0), (3, .int to0)]) dX11_move_1 (by decide) rfl ?_
  have lp12 : ∀ (n13 : Nat) (w4 : Int32) (u5 : Nat → Nat → Int32), Bd 0 1 w4 → (∀ c, c ≠ 164 → u5 c = u c) → AB u5 164 0 600 → MVI u5 u 164 1 from0.toInt.toNat to0.toInt.toNat w4.toInt.toNat → (1 - w4.toInt).toNat < n13 → Fx_M_move_164X_L3 from0 to0 n13 w4 u5 = Fx_M_move_164X from0 to0 u g → J x yX11_move cX11_move 5 none d 0 0 (Wd u g ex).length 3 [(0, .ref 164), (1, .int 1), (2, .int from0), (3, .int to0), (4, .int w4)] [] (Wd u5 g ex) 0 0 := by
    intro n13
    induction n13 with
    | zero => intro w4 u5 bw4 fr6 ab7 hI16 hm15 _; exact absurd hm15 (Nat.not_lt_zero _)
    | succ n13 ih14 =>
      intro w4 u5 bw4 fr6 ab7 hI16 hm15 E
      replace E := Fx_M_move_164X_L3_s.symm.trans E
      refine J_iload (i := 4) (j := 4) dX11_move_3 rfl ?_
      refine J_iload_n (i := 1) (j := 1) dX11_move_5 rfl rfl ?_
      refine J_icmp_ge (tgt := 31) dX11_move_6 (by decide) (fun c17 => ?_) (fun c17 => ?_)
      · replace E := xq_ep c17 E
        exact J_vret hq dX11_move_31 rfl wlen (Nat.le_refl _) (Nat.le_refl _) ⟨u5, rfl, rfl, ab7, (mvi_e (N := 1) hI16 rfl (bd_w (l := 0) (h := 1) (bd_le_lo bw4 c17 (bd_c (v := 1) (lo := 1) (hi := 1) (by decide))) (by decide)) c17), E, (fun c k0_ => (fr6 c k0_))⟩
      · replace E := xq_en c17 E
        refine J_aload_n (i := 0) (j := 0) dX11_move_9 rfl rfl ?_
        refine J_iload_n (i := 1) (j := 1) dX11_move_10 rfl rfl ?_
        refine J_iload_n (i := 3) (j := 3) dX11_move_11 rfl rfl ?_
        refine J_imul dX11_move_12 ?_
        refine J_iload (i := 4) (j := 4) dX11_move_13 rfl ?_
        refine J_iadd dX11_move_15 ?_
        refine J_aload_n (i := 0) (j := 0) dX11_move_16 rfl rfl ?_
        refine J_iload_n (i := 1) (j := 1) dX11_move_17 rfl rfl ?_
        refine J_iload_n (i := 2) (j := 2) dX11_move_18 rfl rfl ?_
        refine J_imul dX11_move_19 ?_
        refine J_iload (i := 4) (j := 4) dX11_move_20 rfl ?_
        refine J_iadd dX11_move_22 ?_
        refine J_iald dX11_move_23 wc_164 (vin (bd_add (l := 0) (h := 3) (bd_mul (l := 0) (h := 3) (bd_c (v := 1) (lo := 1) (hi := 1) (by decide)) hp0 (by decide)) (bd_lt_hi bw4 (i_nle c17) (bd_c (v := 1) (lo := 1) (hi := 1) (by decide))) (by decide)) (by decide)) ?_
        refine J_topi (fun v18 qv18 => ?_)
        replace E := xq_le qv18 E
        obtain ⟨u19, e20⟩ : ∃ z, z = ms u5 164 ((((1 : Int32) * to0) + w4).toNatClampNeg) v18 := ⟨_, rfl⟩
        refine J_iast dX11_move_24 wc_164 (vin (bd_add (l := 0) (h := 3) (bd_mul (l := 0) (h := 3) (bd_c (v := 1) (lo := 1) (hi := 1) (by decide)) hp1 (by decide)) (bd_lt_hi bw4 (i_nle c17) (bd_c (v := 1) (lo := 1) (hi := 1) (by decide))) (by decide)) (by decide)) (ws e20 wk_164 rfl) ?_
        replace E := xq_le e20 E
        refine J_iinc (i := 4) (j := 4) (v := (w4 + 1)) (lw := [(4, .int (w4 + 1)), (0, .ref 164), (1, .int 1), (2, .int from0), (3, .int to0)]) dX11_move_25 rfl rfl (by decide) rfl ?_
        refine J_goto (tgt := 3) dX11_move_28 (by decide) ?_
        refine J_lv [1, 2, 3, 4, 0] rfl ?_
        exact ih14 (w4 + 1) u19 (bd_w (l := 0) (h := 1) (bd_add (l := 1) (h := 1) (bd_lt_hi bw4 (i_nle c17) (bd_c (v := 1) (lo := 1) (hi := 1) (by decide))) (bd_c (v := 1) (lo := 1) (hi := 1) (by decide)) (by decide)) (by decide)) (fun c k0_ => ((ms_c e20 k0_).trans (fr6 c k0_))) (ab_s e20 ab7 (bd_r qv18 (ab7 ((((1 : Int32) * from0) + w4).toNatClampNeg)))) (mvi_st (n := 1) (N := 1) hI16 rfl (by decide) hp0 hp1 (bd_w (l := 0) (h := 600) (bd_lt_hi bw4 (i_nle c17) (bd_c (v := 1) (lo := 1) (hi := 1) (by decide))) (by decide)) (i_nle c17) e20 qv18) (mu_up 1 bw4 rfl (by decide) (bd_w (l := 1) (h := 1) (bd_add (l := 1) (h := 1) (bd_lt_hi bw4 (i_nle c17) (bd_c (v := 1) (lo := 1) (hi := 1) (by decide))) (bd_c (v := 1) (lo := 1) (hi := 1) (by decide)) (by decide)) (by decide)) hm15) E
  refine J_lv [1, 2, 3, 4, 0] rfl ?_
  exact lp12 ((1 - (0 : Int32).toInt).toNat + 1) (0 : Int32) u (bd_w (l := 0) (h := 1) (bd_c (v := 0) (lo := 0) (hi := 0) (by decide)) (by decide)) (fun c k0_ => rfl) hp2 (mvi_0 rfl) (Nat.lt_succ_self _) E
set_option maxRecDepth 100000 in
noncomputable def Fx_M_move_165X_L3 (from0 : Int32) (to0 : Int32) (n_ : Nat) : (Int32) → (Nat → Nat → Int32) → (Nat → Nat → Int32) := Nat.rec (motive := fun _ => (Int32) → (Nat → Nat → Int32) → (Nat → Nat → Int32)) (fun _ _ => default) (fun n_ ih_ w4 u5 => if (1 : Int32) ≤ w4 then (u5) else (xq_lt (u5 165 (((1 : Int32) * from0) + w4).toNatClampNeg) fun v17 => xq_lt (ms u5 165 ((((1 : Int32) * to0) + w4).toNatClampNeg) v17) fun u18 => ih_ (w4 + 1) u18)) n_
set_option maxRecDepth 100000 in
theorem Fx_M_move_165X_L3_s {from0 : Int32} {to0 : Int32} {w4 : Int32} {u5 : Nat → Nat → Int32} {n_ : Nat} : Fx_M_move_165X_L3 from0 to0 (n_ + 1) w4 u5 = if (1 : Int32) ≤ w4 then (u5) else (xq_lt (u5 165 (((1 : Int32) * from0) + w4).toNatClampNeg) fun v17 => xq_lt (ms u5 165 ((((1 : Int32) * to0) + w4).toNatClampNeg) v17) fun u18 => (Fx_M_move_165X_L3 from0 to0 n_) (w4 + 1) u18) := rfl
set_option maxRecDepth 100000 in
noncomputable def Fx_M_move_165X (from0 : Int32) (to0 : Int32) (u : Nat → Nat → Int32) (g : Nat → Nat → Int64) : (Nat → Nat → Int32) := Fx_M_move_165X_L3 from0 to0 ((1 - (0 : Int32).toInt).toNat + 1) (0 : Int32) u
set_option maxHeartbeats 4000000 in
set_option maxRecDepth 100000 in
theorem c_M_move_165X {d : Nat} {u : Nat → Nat → Int32} {g : Nat → Nat → Int64} {ex : List MC} {from0 : Int32} {to0 : Int32} (hd : 0 ≤ d) (hp0 : Bd 0 3 from0) (hp1 : Bd 0 3 to0) : CT con0 d 0 0 yX11_move cX11_move 5 none [.ref 165, .int 1, .int from0, .int to0] (Wd u g ex) (fun r h2 => ∃ (u2 : Nat → Nat → Int32), r = none ∧ h2 = Wd u2 g ex ∧ (MVD u2 u 165 1 from0.toInt.toNat to0.toInt.toNat) ∧ u2 = Fx_M_move_165X from0 to0 u g ∧ (∀ c, c ≠ 165 → u2 c = u c)) := by
  refine CT_of (by decide) (Nat.le_of_ble_eq_true rfl) (fun x hq => ?_)
  show J x yX11_move cX11_move 5 none d 0 0 (Wd u g ex).length 0 [(0, .ref 165), (1, .int 1), (2, .int from0), (3, .int to0)] [] (Wd u g ex) 0 0
  have E : Fx_M_move_165X from0 to0 u g = Fx_M_move_165X from0 to0 u g := rfl
  refine J_iconst (v := 0) dX11_move_0 (by decide) ?_
  refine J_istore (i := 4) (lw := [(4, .int 0), (0, .ref 165), (1, .int 1), (2, .int from0), (3, .int to0)]) dX11_move_1 (by decide) rfl ?_
  have lp11 : ∀ (n12 : Nat) (w4 : Int32) (u5 : Nat → Nat → Int32), Bd 0 1 w4 → (∀ c, c ≠ 165 → u5 c = u c) → MVI u5 u 165 1 from0.toInt.toNat to0.toInt.toNat w4.toInt.toNat → (1 - w4.toInt).toNat < n12 → Fx_M_move_165X_L3 from0 to0 n12 w4 u5 = Fx_M_move_165X from0 to0 u g → J x yX11_move cX11_move 5 none d 0 0 (Wd u g ex).length 3 [(0, .ref 165), (1, .int 1), (2, .int from0), (3, .int to0), (4, .int w4)] [] (Wd u5 g ex) 0 0 := by
    intro n12
    induction n12 with
    | zero => intro w4 u5 bw4 fr6 hI15 hm14 _; exact absurd hm14 (Nat.not_lt_zero _)
    | succ n12 ih13 =>
      intro w4 u5 bw4 fr6 hI15 hm14 E
      replace E := Fx_M_move_165X_L3_s.symm.trans E
      refine J_iload (i := 4) (j := 4) dX11_move_3 rfl ?_
      refine J_iload_n (i := 1) (j := 1) dX11_move_5 rfl rfl ?_
      refine J_icmp_ge (tgt := 31) dX11_move_6 (by decide) (fun c16 => ?_) (fun c16 => ?_)
      · replace E := xq_ep c16 E
        exact J_vret hq dX11_move_31 rfl wlen (Nat.le_refl _) (Nat.le_refl _) ⟨u5, rfl, rfl, (mvi_e (N := 1) hI15 rfl (bd_w (l := 0) (h := 1) (bd_le_lo bw4 c16 (bd_c (v := 1) (lo := 1) (hi := 1) (by decide))) (by decide)) c16), E, (fun c k0_ => (fr6 c k0_))⟩
      · replace E := xq_en c16 E
        refine J_aload_n (i := 0) (j := 0) dX11_move_9 rfl rfl ?_
        refine J_iload_n (i := 1) (j := 1) dX11_move_10 rfl rfl ?_
        refine J_iload_n (i := 3) (j := 3) dX11_move_11 rfl rfl ?_
        refine J_imul dX11_move_12 ?_
        refine J_iload (i := 4) (j := 4) dX11_move_13 rfl ?_
        refine J_iadd dX11_move_15 ?_
        refine J_aload_n (i := 0) (j := 0) dX11_move_16 rfl rfl ?_
        refine J_iload_n (i := 1) (j := 1) dX11_move_17 rfl rfl ?_
        refine J_iload_n (i := 2) (j := 2) dX11_move_18 rfl rfl ?_
        refine J_imul dX11_move_19 ?_
        refine J_iload (i := 4) (j := 4) dX11_move_20 rfl ?_
        refine J_iadd dX11_move_22 ?_
        refine J_iald dX11_move_23 wc_165 (vin (bd_add (l := 0) (h := 3) (bd_mul (l := 0) (h := 3) (bd_c (v := 1) (lo := 1) (hi := 1) (by decide)) hp0 (by decide)) (bd_lt_hi bw4 (i_nle c16) (bd_c (v := 1) (lo := 1) (hi := 1) (by decide))) (by decide)) (by decide)) ?_
        refine J_topi (fun v17 qv17 => ?_)
        replace E := xq_le qv17 E
        obtain ⟨u18, e19⟩ : ∃ z, z = ms u5 165 ((((1 : Int32) * to0) + w4).toNatClampNeg) v17 := ⟨_, rfl⟩
        refine J_iast dX11_move_24 wc_165 (vin (bd_add (l := 0) (h := 3) (bd_mul (l := 0) (h := 3) (bd_c (v := 1) (lo := 1) (hi := 1) (by decide)) hp1 (by decide)) (bd_lt_hi bw4 (i_nle c16) (bd_c (v := 1) (lo := 1) (hi := 1) (by decide))) (by decide)) (by decide)) (ws e19 wk_165 rfl) ?_
        replace E := xq_le e19 E
        refine J_iinc (i := 4) (j := 4) (v := (w4 + 1)) (lw := [(4, .int (w4 + 1)), (0, .ref 165), (1, .int 1), (2, .int from0), (3, .int to0)]) dX11_move_25 rfl rfl (by decide) rfl ?_
        refine J_goto (tgt := 3) dX11_move_28 (by decide) ?_
        refine J_lv [1, 2, 3, 4, 0] rfl ?_
        exact ih13 (w4 + 1) u18 (bd_w (l := 0) (h := 1) (bd_add (l := 1) (h := 1) (bd_lt_hi bw4 (i_nle c16) (bd_c (v := 1) (lo := 1) (hi := 1) (by decide))) (bd_c (v := 1) (lo := 1) (hi := 1) (by decide)) (by decide)) (by decide)) (fun c k0_ => ((ms_c e19 k0_).trans (fr6 c k0_))) (mvi_st (n := 1) (N := 1) hI15 rfl (by decide) hp0 hp1 (bd_w (l := 0) (h := 600) (bd_lt_hi bw4 (i_nle c16) (bd_c (v := 1) (lo := 1) (hi := 1) (by decide))) (by decide)) (i_nle c16) e19 qv17) (mu_up 1 bw4 rfl (by decide) (bd_w (l := 1) (h := 1) (bd_add (l := 1) (h := 1) (bd_lt_hi bw4 (i_nle c16) (bd_c (v := 1) (lo := 1) (hi := 1) (by decide))) (bd_c (v := 1) (lo := 1) (hi := 1) (by decide)) (by decide)) (by decide)) hm14) E
  refine J_lv [1, 2, 3, 4, 0] rfl ?_
  exact lp11 ((1 - (0 : Int32).toInt).toNat + 1) (0 : Int32) u (bd_w (l := 0) (h := 1) (bd_c (v := 0) (lo := 0) (hi := 0) (by decide)) (by decide)) (fun c k0_ => rfl) (mvi_0 rfl) (Nat.lt_succ_self _) E
set_option maxRecDepth 100000 in
noncomputable def Fx_M_move_166X_L3 (from0 : Int32) (to0 : Int32) (n_ : Nat) : (Int32) → (Nat → Nat → Int32) → (Nat → Nat → Int32) := Nat.rec (motive := fun _ => (Int32) → (Nat → Nat → Int32) → (Nat → Nat → Int32)) (fun _ _ => default) (fun n_ ih_ w4 u5 => if (1 : Int32) ≤ w4 then (u5) else (xq_lt (u5 166 (((1 : Int32) * from0) + w4).toNatClampNeg) fun v17 => xq_lt (ms u5 166 ((((1 : Int32) * to0) + w4).toNatClampNeg) v17) fun u18 => ih_ (w4 + 1) u18)) n_
set_option maxRecDepth 100000 in
theorem Fx_M_move_166X_L3_s {from0 : Int32} {to0 : Int32} {w4 : Int32} {u5 : Nat → Nat → Int32} {n_ : Nat} : Fx_M_move_166X_L3 from0 to0 (n_ + 1) w4 u5 = if (1 : Int32) ≤ w4 then (u5) else (xq_lt (u5 166 (((1 : Int32) * from0) + w4).toNatClampNeg) fun v17 => xq_lt (ms u5 166 ((((1 : Int32) * to0) + w4).toNatClampNeg) v17) fun u18 => (Fx_M_move_166X_L3 from0 to0 n_) (w4 + 1) u18) := rfl
set_option maxRecDepth 100000 in
noncomputable def Fx_M_move_166X (from0 : Int32) (to0 : Int32) (u : Nat → Nat → Int32) (g : Nat → Nat → Int64) : (Nat → Nat → Int32) := Fx_M_move_166X_L3 from0 to0 ((1 - (0 : Int32).toInt).toNat + 1) (0 : Int32) u
set_option maxHeartbeats 4000000 in
set_option maxRecDepth 100000 in
theorem c_M_move_166X {d : Nat} {u : Nat → Nat → Int32} {g : Nat → Nat → Int64} {ex : List MC} {from0 : Int32} {to0 : Int32} (hd : 0 ≤ d) (hp0 : Bd 0 3 from0) (hp1 : Bd 0 3 to0) : CT con0 d 0 0 yX11_move cX11_move 5 none [.ref 166, .int 1, .int from0, .int to0] (Wd u g ex) (fun r h2 => ∃ (u2 : Nat → Nat → Int32), r = none ∧ h2 = Wd u2 g ex ∧ (MVD u2 u 166 1 from0.toInt.toNat to0.toInt.toNat) ∧ u2 = Fx_M_move_166X from0 to0 u g ∧ (∀ c, c ≠ 166 → u2 c = u c)) := by
  refine CT_of (by decide) (Nat.le_of_ble_eq_true rfl) (fun x hq => ?_)
  show J x yX11_move cX11_move 5 none d 0 0 (Wd u g ex).length 0 [(0, .ref 166), (1, .int 1), (2, .int from0), (3, .int to0)] [] (Wd u g ex) 0 0
  have E : Fx_M_move_166X from0 to0 u g = Fx_M_move_166X from0 to0 u g := rfl
  refine J_iconst (v := 0) dX11_move_0 (by decide) ?_
  refine J_istore (i := 4) (lw := [(4, .int 0), (0, .ref 166), (1, .int 1), (2, .int from0), (3, .int to0)]) dX11_move_1 (by decide) rfl ?_
  have lp11 : ∀ (n12 : Nat) (w4 : Int32) (u5 : Nat → Nat → Int32), Bd 0 1 w4 → (∀ c, c ≠ 166 → u5 c = u c) → MVI u5 u 166 1 from0.toInt.toNat to0.toInt.toNat w4.toInt.toNat → (1 - w4.toInt).toNat < n12 → Fx_M_move_166X_L3 from0 to0 n12 w4 u5 = Fx_M_move_166X from0 to0 u g → J x yX11_move cX11_move 5 none d 0 0 (Wd u g ex).length 3 [(0, .ref 166), (1, .int 1), (2, .int from0), (3, .int to0), (4, .int w4)] [] (Wd u5 g ex) 0 0 := by
    intro n12
    induction n12 with
    | zero => intro w4 u5 bw4 fr6 hI15 hm14 _; exact absurd hm14 (Nat.not_lt_zero _)
    | succ n12 ih13 =>
      intro w4 u5 bw4 fr6 hI15 hm14 E
      replace E := Fx_M_move_166X_L3_s.symm.trans E
      refine J_iload (i := 4) (j := 4) dX11_move_3 rfl ?_
      refine J_iload_n (i := 1) (j := 1) dX11_move_5 rfl rfl ?_
      refine J_icmp_ge (tgt := 31) dX11_move_6 (by decide) (fun c16 => ?_) (fun c16 => ?_)
      · replace E := xq_ep c16 E
        exact J_vret hq dX11_move_31 rfl wlen (Nat.le_refl _) (Nat.le_refl _) ⟨u5, rfl, rfl, (mvi_e (N := 1) hI15 rfl (bd_w (l := 0) (h := 1) (bd_le_lo bw4 c16 (bd_c (v := 1) (lo := 1) (hi := 1) (by decide))) (by decide)) c16), E, (fun c k0_ => (fr6 c k0_))⟩
      · replace E := xq_en c16 E
        refine J_aload_n (i := 0) (j := 0) dX11_move_9 rfl rfl ?_
        refine J_iload_n (i := 1) (j := 1) dX11_move_10 rfl rfl ?_
        refine J_iload_n (i := 3) (j := 3) dX11_move_11 rfl rfl ?_
        refine J_imul dX11_move_12 ?_
        refine J_iload (i := 4) (j := 4) dX11_move_13 rfl ?_
        refine J_iadd dX11_move_15 ?_
        refine J_aload_n (i := 0) (j := 0) dX11_move_16 rfl rfl ?_
        refine J_iload_n (i := 1) (j := 1) dX11_move_17 rfl rfl ?_
        refine J_iload_n (i := 2) (j := 2) dX11_move_18 rfl rfl ?_
        refine J_imul dX11_move_19 ?_
        refine J_iload (i := 4) (j := 4) dX11_move_20 rfl ?_
        refine J_iadd dX11_move_22 ?_
        refine J_iald dX11_move_23 wc_166 (vin (bd_add (l := 0) (h := 3) (bd_mul (l := 0) (h := 3) (bd_c (v := 1) (lo := 1) (hi := 1) (by decide)) hp0 (by decide)) (bd_lt_hi bw4 (i_nle c16) (bd_c (v := 1) (lo := 1) (hi := 1) (by decide))) (by decide)) (by decide)) ?_
        refine J_topi (fun v17 qv17 => ?_)
        replace E := xq_le qv17 E
        obtain ⟨u18, e19⟩ : ∃ z, z = ms u5 166 ((((1 : Int32) * to0) + w4).toNatClampNeg) v17 := ⟨_, rfl⟩
        refine J_iast dX11_move_24 wc_166 (vin (bd_add (l := 0) (h := 3) (bd_mul (l := 0) (h := 3) (bd_c (v := 1) (lo := 1) (hi := 1) (by decide)) hp1 (by decide)) (bd_lt_hi bw4 (i_nle c16) (bd_c (v := 1) (lo := 1) (hi := 1) (by decide))) (by decide)) (by decide)) (ws e19 wk_166 rfl) ?_
        replace E := xq_le e19 E
        refine J_iinc (i := 4) (j := 4) (v := (w4 + 1)) (lw := [(4, .int (w4 + 1)), (0, .ref 166), (1, .int 1), (2, .int from0), (3, .int to0)]) dX11_move_25 rfl rfl (by decide) rfl ?_
        refine J_goto (tgt := 3) dX11_move_28 (by decide) ?_
        refine J_lv [1, 2, 3, 4, 0] rfl ?_
        exact ih13 (w4 + 1) u18 (bd_w (l := 0) (h := 1) (bd_add (l := 1) (h := 1) (bd_lt_hi bw4 (i_nle c16) (bd_c (v := 1) (lo := 1) (hi := 1) (by decide))) (bd_c (v := 1) (lo := 1) (hi := 1) (by decide)) (by decide)) (by decide)) (fun c k0_ => ((ms_c e19 k0_).trans (fr6 c k0_))) (mvi_st (n := 1) (N := 1) hI15 rfl (by decide) hp0 hp1 (bd_w (l := 0) (h := 600) (bd_lt_hi bw4 (i_nle c16) (bd_c (v := 1) (lo := 1) (hi := 1) (by decide))) (by decide)) (i_nle c16) e19 qv17) (mu_up 1 bw4 rfl (by decide) (bd_w (l := 1) (h := 1) (bd_add (l := 1) (h := 1) (bd_lt_hi bw4 (i_nle c16) (bd_c (v := 1) (lo := 1) (hi := 1) (by decide))) (bd_c (v := 1) (lo := 1) (hi := 1) (by decide)) (by decide)) (by decide)) hm14) E
  refine J_lv [1, 2, 3, 4, 0] rfl ?_
  exact lp11 ((1 - (0 : Int32).toInt).toNat + 1) (0 : Int32) u (bd_w (l := 0) (h := 1) (bd_c (v := 0) (lo := 0) (hi := 0) (by decide)) (by decide)) (fun c k0_ => rfl) (mvi_0 rfl) (Nat.lt_succ_self _) E
set_option maxRecDepth 100000 in
noncomputable def Fx_M_move_167X_L3 (from0 : Int32) (to0 : Int32) (n_ : Nat) : (Int32) → (Nat → Nat → Int32) → (Nat → Nat → Int32) := Nat.rec (motive := fun _ => (Int32) → (Nat → Nat → Int32) → (Nat → Nat → Int32)) (fun _ _ => default) (fun n_ ih_ w18 u19 => if (2 : Int32) ≤ w18 then (u19) else (xq_lt (u19 167 (((2 : Int32) * from0) + w18).toNatClampNeg) fun v31 => xq_lt (ms u19 167 ((((2 : Int32) * to0) + w18).toNatClampNeg) v31) fun u32 => ih_ (w18 + 1) u32)) n_
set_option maxRecDepth 100000 in
theorem Fx_M_move_167X_L3_s {from0 : Int32} {to0 : Int32} {w18 : Int32} {u19 : Nat → Nat → Int32} {n_ : Nat} : Fx_M_move_167X_L3 from0 to0 (n_ + 1) w18 u19 = if (2 : Int32) ≤ w18 then (u19) else (xq_lt (u19 167 (((2 : Int32) * from0) + w18).toNatClampNeg) fun v31 => xq_lt (ms u19 167 ((((2 : Int32) * to0) + w18).toNatClampNeg) v31) fun u32 => (Fx_M_move_167X_L3 from0 to0 n_) (w18 + 1) u32) := rfl
set_option maxRecDepth 100000 in
noncomputable def Fx_M_move_167X (from0 : Int32) (to0 : Int32) (u : Nat → Nat → Int32) (g : Nat → Nat → Int64) : (Nat → Nat → Int32) := Fx_M_move_167X_L3 from0 to0 ((2 - (0 : Int32).toInt).toNat + 1) (0 : Int32) u
set_option maxHeartbeats 4000000 in
set_option maxRecDepth 100000 in
theorem c_M_move_167X {d : Nat} {u : Nat → Nat → Int32} {g : Nat → Nat → Int64} {ex : List MC} {from0 : Int32} {to0 : Int32} (hd : 0 ≤ d) (hp0 : Bd 0 3 from0) (hp1 : Bd 0 3 to0) : CT con0 d 0 0 yX11_move cX11_move 5 none [.ref 167, .int 2, .int from0, .int to0] (Wd u g ex) (fun r h2 => ∃ (u2 : Nat → Nat → Int32), r = none ∧ h2 = Wd u2 g ex ∧ (MVD u2 u 167 2 from0.toInt.toNat to0.toInt.toNat) ∧ u2 = Fx_M_move_167X from0 to0 u g ∧ (∀ c, c ≠ 167 → u2 c = u c)) := by
  refine CT_of (by decide) (Nat.le_of_ble_eq_true rfl) (fun x hq => ?_)
  show J x yX11_move cX11_move 5 none d 0 0 (Wd u g ex).length 0 [(0, .ref 167), (1, .int 2), (2, .int from0), (3, .int to0)] [] (Wd u g ex) 0 0
  have E : Fx_M_move_167X from0 to0 u g = Fx_M_move_167X from0 to0 u g := rfl
  refine J_iconst (v := 0) dX11_move_0 (by decide) ?_
  refine J_istore (i := 4) (lw := [(4, .int 0), (0, .ref 167), (1, .int 2), (2, .int from0), (3, .int to0)]) dX11_move_1 (by decide) rfl ?_
  have lp25 : ∀ (n26 : Nat) (w18 : Int32) (u19 : Nat → Nat → Int32), Bd 0 2 w18 → (∀ c, c ≠ 167 → u19 c = u c) → MVI u19 u 167 2 from0.toInt.toNat to0.toInt.toNat w18.toInt.toNat → (2 - w18.toInt).toNat < n26 → Fx_M_move_167X_L3 from0 to0 n26 w18 u19 = Fx_M_move_167X from0 to0 u g → J x yX11_move cX11_move 5 none d 0 0 (Wd u g ex).length 3 [(0, .ref 167), (1, .int 2), (2, .int from0), (3, .int to0), (4, .int w18)] [] (Wd u19 g ex) 0 0 := by
    intro n26
    induction n26 with
    | zero => intro w18 u19 bw18 fr20 hI29 hm28 _; exact absurd hm28 (Nat.not_lt_zero _)
    | succ n26 ih27 =>
      intro w18 u19 bw18 fr20 hI29 hm28 E
      replace E := Fx_M_move_167X_L3_s.symm.trans E
      refine J_iload (i := 4) (j := 4) dX11_move_3 rfl ?_
      refine J_iload_n (i := 1) (j := 1) dX11_move_5 rfl rfl ?_
      refine J_icmp_ge (tgt := 31) dX11_move_6 (by decide) (fun c30 => ?_) (fun c30 => ?_)
      · replace E := xq_ep c30 E
        exact J_vret hq dX11_move_31 rfl wlen (Nat.le_refl _) (Nat.le_refl _) ⟨u19, rfl, rfl, (mvi_e (N := 2) hI29 rfl (bd_w (l := 0) (h := 2) (bd_le_lo bw18 c30 (bd_c (v := 2) (lo := 2) (hi := 2) (by decide))) (by decide)) c30), E, (fun c k0_ => (fr20 c k0_))⟩
      · replace E := xq_en c30 E
        refine J_aload_n (i := 0) (j := 0) dX11_move_9 rfl rfl ?_
        refine J_iload_n (i := 1) (j := 1) dX11_move_10 rfl rfl ?_
        refine J_iload_n (i := 3) (j := 3) dX11_move_11 rfl rfl ?_
        refine J_imul dX11_move_12 ?_
        refine J_iload (i := 4) (j := 4) dX11_move_13 rfl ?_
        refine J_iadd dX11_move_15 ?_
        refine J_aload_n (i := 0) (j := 0) dX11_move_16 rfl rfl ?_
        refine J_iload_n (i := 1) (j := 1) dX11_move_17 rfl rfl ?_
        refine J_iload_n (i := 2) (j := 2) dX11_move_18 rfl rfl ?_
        refine J_imul dX11_move_19 ?_
        refine J_iload (i := 4) (j := 4) dX11_move_20 rfl ?_
        refine J_iadd dX11_move_22 ?_
        refine J_iald dX11_move_23 wc_167 (vin (bd_add (l := 0) (h := 7) (bd_mul (l := 0) (h := 6) (bd_c (v := 2) (lo := 2) (hi := 2) (by decide)) hp0 (by decide)) (bd_lt_hi bw18 (i_nle c30) (bd_c (v := 2) (lo := 2) (hi := 2) (by decide))) (by decide)) (by decide)) ?_
        refine J_topi (fun v31 qv31 => ?_)
        replace E := xq_le qv31 E
        obtain ⟨u32, e33⟩ : ∃ z, z = ms u19 167 ((((2 : Int32) * to0) + w18).toNatClampNeg) v31 := ⟨_, rfl⟩
        refine J_iast dX11_move_24 wc_167 (vin (bd_add (l := 0) (h := 7) (bd_mul (l := 0) (h := 6) (bd_c (v := 2) (lo := 2) (hi := 2) (by decide)) hp1 (by decide)) (bd_lt_hi bw18 (i_nle c30) (bd_c (v := 2) (lo := 2) (hi := 2) (by decide))) (by decide)) (by decide)) (ws e33 wk_167 rfl) ?_
        replace E := xq_le e33 E
        refine J_iinc (i := 4) (j := 4) (v := (w18 + 1)) (lw := [(4, .int (w18 + 1)), (0, .ref 167), (1, .int 2), (2, .int from0), (3, .int to0)]) dX11_move_25 rfl rfl (by decide) rfl ?_
        refine J_goto (tgt := 3) dX11_move_28 (by decide) ?_
        refine J_lv [1, 2, 3, 4, 0] rfl ?_
        exact ih27 (w18 + 1) u32 (bd_w (l := 0) (h := 2) (bd_add (l := 1) (h := 2) (bd_lt_hi bw18 (i_nle c30) (bd_c (v := 2) (lo := 2) (hi := 2) (by decide))) (bd_c (v := 1) (lo := 1) (hi := 1) (by decide)) (by decide)) (by decide)) (fun c k0_ => ((ms_c e33 k0_).trans (fr20 c k0_))) (mvi_st (n := 2) (N := 2) hI29 rfl (by decide) hp0 hp1 (bd_w (l := 0) (h := 600) (bd_lt_hi bw18 (i_nle c30) (bd_c (v := 2) (lo := 2) (hi := 2) (by decide))) (by decide)) (i_nle c30) e33 qv31) (mu_up 1 bw18 rfl (by decide) (bd_w (l := 1) (h := 2) (bd_add (l := 1) (h := 2) (bd_lt_hi bw18 (i_nle c30) (bd_c (v := 2) (lo := 2) (hi := 2) (by decide))) (bd_c (v := 1) (lo := 1) (hi := 1) (by decide)) (by decide)) (by decide)) hm28) E
  refine J_lv [1, 2, 3, 4, 0] rfl ?_
  exact lp25 ((2 - (0 : Int32).toInt).toNat + 1) (0 : Int32) u (bd_w (l := 0) (h := 2) (bd_c (v := 0) (lo := 0) (hi := 0) (by decide)) (by decide)) (fun c k0_ => rfl) (mvi_0 rfl) (Nat.lt_succ_self _) E
set_option maxRecDepth 100000 in
noncomputable def Fx_M_move_168X_L3 (from0 : Int32) (to0 : Int32) (n_ : Nat) : (Int32) → (Nat → Nat → Int32) → (Nat → Nat → Int32) := Nat.rec (motive := fun _ => (Int32) → (Nat → Nat → Int32) → (Nat → Nat → Int32)) (fun _ _ => default) (fun n_ ih_ w44 u45 => if (314 : Int32) ≤ w44 then (u45) else (xq_lt (u45 168 (((314 : Int32) * from0) + w44).toNatClampNeg) fun v58 => xq_lt (ms u45 168 ((((314 : Int32) * to0) + w44).toNatClampNeg) v58) fun u59 => ih_ (w44 + 1) u59)) n_
set_option maxRecDepth 100000 in
theorem Fx_M_move_168X_L3_s {from0 : Int32} {to0 : Int32} {w44 : Int32} {u45 : Nat → Nat → Int32} {n_ : Nat} : Fx_M_move_168X_L3 from0 to0 (n_ + 1) w44 u45 = if (314 : Int32) ≤ w44 then (u45) else (xq_lt (u45 168 (((314 : Int32) * from0) + w44).toNatClampNeg) fun v58 => xq_lt (ms u45 168 ((((314 : Int32) * to0) + w44).toNatClampNeg) v58) fun u59 => (Fx_M_move_168X_L3 from0 to0 n_) (w44 + 1) u59) := rfl
set_option maxRecDepth 100000 in
noncomputable def Fx_M_move_168X (from0 : Int32) (to0 : Int32) (u : Nat → Nat → Int32) (g : Nat → Nat → Int64) : (Nat → Nat → Int32) := Fx_M_move_168X_L3 from0 to0 ((314 - (0 : Int32).toInt).toNat + 1) (0 : Int32) u
set_option maxHeartbeats 4000000 in
set_option maxRecDepth 100000 in
theorem c_M_move_168X {d : Nat} {u : Nat → Nat → Int32} {g : Nat → Nat → Int64} {ex : List MC} {from0 : Int32} {to0 : Int32} (hd : 0 ≤ d) (hp0 : Bd 0 3 from0) (hp1 : Bd 0 3 to0) (hp2 : AB u 168 (-1) 999) : CT con0 d 0 0 yX11_move cX11_move 5 none [.ref 168, .int 314, .int from0, .int to0] (Wd u g ex) (fun r h2 => ∃ (u2 : Nat → Nat → Int32), r = none ∧ h2 = Wd u2 g ex ∧ AB u2 168 (-1) 999 ∧ (MVD u2 u 168 314 from0.toInt.toNat to0.toInt.toNat) ∧ u2 = Fx_M_move_168X from0 to0 u g ∧ (∀ c, c ≠ 168 → u2 c = u c)) := by
  refine CT_of (by decide) (Nat.le_of_ble_eq_true rfl) (fun x hq => ?_)
  show J x yX11_move cX11_move 5 none d 0 0 (Wd u g ex).length 0 [(0, .ref 168), (1, .int 314), (2, .int from0), (3, .int to0)] [] (Wd u g ex) 0 0
  have E : Fx_M_move_168X from0 to0 u g = Fx_M_move_168X from0 to0 u g := rfl
  refine J_iconst (v := 0) dX11_move_0 (by decide) ?_
  refine J_istore (i := 4) (lw := [(4, .int 0), (0, .ref 168), (1, .int 314), (2, .int from0), (3, .int to0)]) dX11_move_1 (by decide) rfl ?_
  have lp52 : ∀ (n53 : Nat) (w44 : Int32) (u45 : Nat → Nat → Int32), Bd 0 314 w44 → (∀ c, c ≠ 168 → u45 c = u c) → AB u45 168 (-1) 999 → MVI u45 u 168 314 from0.toInt.toNat to0.toInt.toNat w44.toInt.toNat → (314 - w44.toInt).toNat < n53 → Fx_M_move_168X_L3 from0 to0 n53 w44 u45 = Fx_M_move_168X from0 to0 u g → J x yX11_move cX11_move 5 none d 0 0 (Wd u g ex).length 3 [(0, .ref 168), (1, .int 314), (2, .int from0), (3, .int to0), (4, .int w44)] [] (Wd u45 g ex) 0 0 := by
    intro n53
    induction n53 with
    | zero => intro w44 u45 bw44 fr46 ab47 hI56 hm55 _; exact absurd hm55 (Nat.not_lt_zero _)
    | succ n53 ih54 =>
      intro w44 u45 bw44 fr46 ab47 hI56 hm55 E
      replace E := Fx_M_move_168X_L3_s.symm.trans E
      refine J_iload (i := 4) (j := 4) dX11_move_3 rfl ?_
      refine J_iload_n (i := 1) (j := 1) dX11_move_5 rfl rfl ?_
      refine J_icmp_ge (tgt := 31) dX11_move_6 (by decide) (fun c57 => ?_) (fun c57 => ?_)
      · replace E := xq_ep c57 E
        exact J_vret hq dX11_move_31 rfl wlen (Nat.le_refl _) (Nat.le_refl _) ⟨u45, rfl, rfl, ab47, (mvi_e (N := 314) hI56 rfl (bd_w (l := 0) (h := 314) (bd_le_lo bw44 c57 (bd_c (v := 314) (lo := 314) (hi := 314) (by decide))) (by decide)) c57), E, (fun c k0_ => (fr46 c k0_))⟩
      · replace E := xq_en c57 E
        refine J_aload_n (i := 0) (j := 0) dX11_move_9 rfl rfl ?_
        refine J_iload_n (i := 1) (j := 1) dX11_move_10 rfl rfl ?_
        refine J_iload_n (i := 3) (j := 3) dX11_move_11 rfl rfl ?_
        refine J_imul dX11_move_12 ?_
        refine J_iload (i := 4) (j := 4) dX11_move_13 rfl ?_
        refine J_iadd dX11_move_15 ?_
        refine J_aload_n (i := 0) (j := 0) dX11_move_16 rfl rfl ?_
        refine J_iload_n (i := 1) (j := 1) dX11_move_17 rfl rfl ?_
        refine J_iload_n (i := 2) (j := 2) dX11_move_18 rfl rfl ?_
        refine J_imul dX11_move_19 ?_
        refine J_iload (i := 4) (j := 4) dX11_move_20 rfl ?_
        refine J_iadd dX11_move_22 ?_
        refine J_iald dX11_move_23 wc_168 (vin (bd_add (l := 0) (h := 1255) (bd_mul (l := 0) (h := 942) (bd_c (v := 314) (lo := 314) (hi := 314) (by decide)) hp0 (by decide)) (bd_lt_hi bw44 (i_nle c57) (bd_c (v := 314) (lo := 314) (hi := 314) (by decide))) (by decide)) (by decide)) ?_
        refine J_topi (fun v58 qv58 => ?_)
        replace E := xq_le qv58 E
        obtain ⟨u59, e60⟩ : ∃ z, z = ms u45 168 ((((314 : Int32) * to0) + w44).toNatClampNeg) v58 := ⟨_, rfl⟩
        refine J_iast dX11_move_24 wc_168 (vin (bd_add (l := 0) (h := 1255) (bd_mul (l := 0) (h := 942) (bd_c (v := 314) (lo := 314) (hi := 314) (by decide)) hp1 (by decide)) (bd_lt_hi bw44 (i_nle c57) (bd_c (v := 314) (lo := 314) (hi := 314) (by decide))) (by decide)) (by decide)) (ws e60 wk_168 rfl) ?_
        replace E := xq_le e60 E
        refine J_iinc (i := 4) (j := 4) (v := (w44 + 1)) (lw := [(4, .int (w44 + 1)), (0, .ref 168), (1, .int 314), (2, .int from0), (3, .int to0)]) dX11_move_25 rfl rfl (by decide) rfl ?_
        refine J_goto (tgt := 3) dX11_move_28 (by decide) ?_
        refine J_lv [1, 2, 3, 4, 0] rfl ?_
        exact ih54 (w44 + 1) u59 (bd_w (l := 0) (h := 314) (bd_add (l := 1) (h := 314) (bd_lt_hi bw44 (i_nle c57) (bd_c (v := 314) (lo := 314) (hi := 314) (by decide))) (bd_c (v := 1) (lo := 1) (hi := 1) (by decide)) (by decide)) (by decide)) (fun c k0_ => ((ms_c e60 k0_).trans (fr46 c k0_))) (ab_s e60 ab47 (bd_r qv58 (ab47 ((((314 : Int32) * from0) + w44).toNatClampNeg)))) (mvi_st (n := 314) (N := 314) hI56 rfl (by decide) hp0 hp1 (bd_w (l := 0) (h := 600) (bd_lt_hi bw44 (i_nle c57) (bd_c (v := 314) (lo := 314) (hi := 314) (by decide))) (by decide)) (i_nle c57) e60 qv58) (mu_up 1 bw44 rfl (by decide) (bd_w (l := 1) (h := 314) (bd_add (l := 1) (h := 314) (bd_lt_hi bw44 (i_nle c57) (bd_c (v := 314) (lo := 314) (hi := 314) (by decide))) (bd_c (v := 1) (lo := 1) (hi := 1) (by decide)) (by decide)) (by decide)) hm55) E
  refine J_lv [1, 2, 3, 4, 0] rfl ?_
  exact lp52 ((314 - (0 : Int32).toInt).toNat + 1) (0 : Int32) u (bd_w (l := 0) (h := 314) (bd_c (v := 0) (lo := 0) (hi := 0) (by decide)) (by decide)) (fun c k0_ => rfl) hp2 (mvi_0 rfl) (Nat.lt_succ_self _) E
set_option maxRecDepth 100000 in
noncomputable def Fx_M_move_169X_L3 (from0 : Int32) (to0 : Int32) (n_ : Nat) : (Int32) → (Nat → Nat → Int32) → (Nat → Nat → Int32) := Nat.rec (motive := fun _ => (Int32) → (Nat → Nat → Int32) → (Nat → Nat → Int32)) (fun _ _ => default) (fun n_ ih_ w44 u45 => if (111 : Int32) ≤ w44 then (u45) else (xq_lt (u45 169 (((111 : Int32) * from0) + w44).toNatClampNeg) fun v58 => xq_lt (ms u45 169 ((((111 : Int32) * to0) + w44).toNatClampNeg) v58) fun u59 => ih_ (w44 + 1) u59)) n_
set_option maxRecDepth 100000 in
theorem Fx_M_move_169X_L3_s {from0 : Int32} {to0 : Int32} {w44 : Int32} {u45 : Nat → Nat → Int32} {n_ : Nat} : Fx_M_move_169X_L3 from0 to0 (n_ + 1) w44 u45 = if (111 : Int32) ≤ w44 then (u45) else (xq_lt (u45 169 (((111 : Int32) * from0) + w44).toNatClampNeg) fun v58 => xq_lt (ms u45 169 ((((111 : Int32) * to0) + w44).toNatClampNeg) v58) fun u59 => (Fx_M_move_169X_L3 from0 to0 n_) (w44 + 1) u59) := rfl
set_option maxRecDepth 100000 in
noncomputable def Fx_M_move_169X (from0 : Int32) (to0 : Int32) (u : Nat → Nat → Int32) (g : Nat → Nat → Int64) : (Nat → Nat → Int32) := Fx_M_move_169X_L3 from0 to0 ((111 - (0 : Int32).toInt).toNat + 1) (0 : Int32) u
set_option maxHeartbeats 4000000 in
set_option maxRecDepth 100000 in
theorem c_M_move_169X {d : Nat} {u : Nat → Nat → Int32} {g : Nat → Nat → Int64} {ex : List MC} {from0 : Int32} {to0 : Int32} (hd : 0 ≤ d) (hp0 : Bd 0 3 from0) (hp1 : Bd 0 3 to0) (hp2 : AB u 169 (-1) 999) : CT con0 d 0 0 yX11_move cX11_move 5 none [.ref 169, .int 111, .int from0, .int to0] (Wd u g ex) (fun r h2 => ∃ (u2 : Nat → Nat → Int32), r = none ∧ h2 = Wd u2 g ex ∧ AB u2 169 (-1) 999 ∧ (MVD u2 u 169 111 from0.toInt.toNat to0.toInt.toNat) ∧ u2 = Fx_M_move_169X from0 to0 u g ∧ (∀ c, c ≠ 169 → u2 c = u c)) := by
  refine CT_of (by decide) (Nat.le_of_ble_eq_true rfl) (fun x hq => ?_)
  show J x yX11_move cX11_move 5 none d 0 0 (Wd u g ex).length 0 [(0, .ref 169), (1, .int 111), (2, .int from0), (3, .int to0)] [] (Wd u g ex) 0 0
  have E : Fx_M_move_169X from0 to0 u g = Fx_M_move_169X from0 to0 u g := rfl
  refine J_iconst (v := 0) dX11_move_0 (by decide) ?_
  refine J_istore (i := 4) (lw := [(4, .int 0), (0, .ref 169), (1, .int 111), (2, .int from0), (3, .int to0)]) dX11_move_1 (by decide) rfl ?_
  have lp52 : ∀ (n53 : Nat) (w44 : Int32) (u45 : Nat → Nat → Int32), Bd 0 111 w44 → (∀ c, c ≠ 169 → u45 c = u c) → AB u45 169 (-1) 999 → MVI u45 u 169 111 from0.toInt.toNat to0.toInt.toNat w44.toInt.toNat → (111 - w44.toInt).toNat < n53 → Fx_M_move_169X_L3 from0 to0 n53 w44 u45 = Fx_M_move_169X from0 to0 u g → J x yX11_move cX11_move 5 none d 0 0 (Wd u g ex).length 3 [(0, .ref 169), (1, .int 111), (2, .int from0), (3, .int to0), (4, .int w44)] [] (Wd u45 g ex) 0 0 := by
    intro n53
    induction n53 with
    | zero => intro w44 u45 bw44 fr46 ab47 hI56 hm55 _; exact absurd hm55 (Nat.not_lt_zero _)
    | succ n53 ih54 =>
      intro w44 u45 bw44 fr46 ab47 hI56 hm55 E
      replace E := Fx_M_move_169X_L3_s.symm.trans E
      refine J_iload (i := 4) (j := 4) dX11_move_3 rfl ?_
      refine J_iload_n (i := 1) (j := 1) dX11_move_5 rfl rfl ?_
      refine J_icmp_ge (tgt := 31) dX11_move_6 (by decide) (fun c57 => ?_) (fun c57 => ?_)
      · replace E := xq_ep c57 E
        exact J_vret hq dX11_move_31 rfl wlen (Nat.le_refl _) (Nat.le_refl _) ⟨u45, rfl, rfl, ab47, (mvi_e (N := 111) hI56 rfl (bd_w (l := 0) (h := 111) (bd_le_lo bw44 c57 (bd_c (v := 111) (lo := 111) (hi := 111) (by decide))) (by decide)) c57), E, (fun c k0_ => (fr46 c k0_))⟩
      · replace E := xq_en c57 E
        refine J_aload_n (i := 0) (j := 0) dX11_move_9 rfl rfl ?_
        refine J_iload_n (i := 1) (j := 1) dX11_move_10 rfl rfl ?_
        refine J_iload_n (i := 3) (j := 3) dX11_move_11 rfl rfl ?_
        refine J_imul dX11_move_12 ?_
        refine J_iload (i := 4) (j := 4) dX11_move_13 rfl ?_
        refine J_iadd dX11_move_15 ?_
        refine J_aload_n (i := 0) (j := 0) dX11_move_16 rfl rfl ?_
        refine J_iload_n (i := 1) (j := 1) dX11_move_17 rfl rfl ?_
        refine J_iload_n (i := 2) (j := 2) dX11_move_18 rfl rfl ?_
        refine J_imul dX11_move_19 ?_
        refine J_iload (i := 4) (j := 4) dX11_move_20 rfl ?_
        refine J_iadd dX11_move_22 ?_
        refine J_iald dX11_move_23 wc_169 (vin (bd_add (l := 0) (h := 443) (bd_mul (l := 0) (h := 333) (bd_c (v := 111) (lo := 111) (hi := 111) (by decide)) hp0 (by decide)) (bd_lt_hi bw44 (i_nle c57) (bd_c (v := 111) (lo := 111) (hi := 111) (by decide))) (by decide)) (by decide)) ?_
        refine J_topi (fun v58 qv58 => ?_)
        replace E := xq_le qv58 E
        obtain ⟨u59, e60⟩ : ∃ z, z = ms u45 169 ((((111 : Int32) * to0) + w44).toNatClampNeg) v58 := ⟨_, rfl⟩
        refine J_iast dX11_move_24 wc_169 (vin (bd_add (l := 0) (h := 443) (bd_mul (l := 0) (h := 333) (bd_c (v := 111) (lo := 111) (hi := 111) (by decide)) hp1 (by decide)) (bd_lt_hi bw44 (i_nle c57) (bd_c (v := 111) (lo := 111) (hi := 111) (by decide))) (by decide)) (by decide)) (ws e60 wk_169 rfl) ?_
        replace E := xq_le e60 E
        refine J_iinc (i := 4) (j := 4) (v := (w44 + 1)) (lw := [(4, .int (w44 + 1)), (0, .ref 169), (1, .int 111), (2, .int from0), (3, .int to0)]) dX11_move_25 rfl rfl (by decide) rfl ?_
        refine J_goto (tgt := 3) dX11_move_28 (by decide) ?_
        refine J_lv [1, 2, 3, 4, 0] rfl ?_
        exact ih54 (w44 + 1) u59 (bd_w (l := 0) (h := 111) (bd_add (l := 1) (h := 111) (bd_lt_hi bw44 (i_nle c57) (bd_c (v := 111) (lo := 111) (hi := 111) (by decide))) (bd_c (v := 1) (lo := 1) (hi := 1) (by decide)) (by decide)) (by decide)) (fun c k0_ => ((ms_c e60 k0_).trans (fr46 c k0_))) (ab_s e60 ab47 (bd_r qv58 (ab47 ((((111 : Int32) * from0) + w44).toNatClampNeg)))) (mvi_st (n := 111) (N := 111) hI56 rfl (by decide) hp0 hp1 (bd_w (l := 0) (h := 600) (bd_lt_hi bw44 (i_nle c57) (bd_c (v := 111) (lo := 111) (hi := 111) (by decide))) (by decide)) (i_nle c57) e60 qv58) (mu_up 1 bw44 rfl (by decide) (bd_w (l := 1) (h := 111) (bd_add (l := 1) (h := 111) (bd_lt_hi bw44 (i_nle c57) (bd_c (v := 111) (lo := 111) (hi := 111) (by decide))) (bd_c (v := 1) (lo := 1) (hi := 1) (by decide)) (by decide)) (by decide)) hm55) E
  refine J_lv [1, 2, 3, 4, 0] rfl ?_
  exact lp52 ((111 - (0 : Int32).toInt).toNat + 1) (0 : Int32) u (bd_w (l := 0) (h := 111) (bd_c (v := 0) (lo := 0) (hi := 0) (by decide)) (by decide)) (fun c k0_ => rfl) hp2 (mvi_0 rfl) (Nat.lt_succ_self _) E
set_option maxRecDepth 100000 in
noncomputable def Fx_M_copyRX_L2 (from0 : Int32) (to0 : Int32) (g : Nat → Nat → Int64) (n_ : Nat) : (Int32) → (Nat → Nat → Int32) → (Nat → Nat → Int32) := Nat.rec (motive := fun _ => (Int32) → (Nat → Nat → Int32) → (Nat → Nat → Int32)) (fun _ _ => default) (fun n_ ih_ w64 u65 => if (600 : Int32) ≤ w64 then (xq_lt (Fx_M_move_164X from0 to0 u65 g) fun u116 => xq_lt (Fx_M_move_165X from0 to0 u116 g) fun u122 => xq_lt (Fx_M_move_166X from0 to0 u122 g) fun u127 => xq_lt (Fx_M_move_167X from0 to0 u127 g) fun u132 => xq_lt (Fx_M_move_168X from0 to0 u132 g) fun u137 => xq_lt (Fx_M_move_169X from0 to0 u137 g) fun u143 => u143) else (xq_lt (u65 163 (((600 : Int32) * from0) + w64).toNatClampNeg) fun v148 => xq_lt (ms u65 163 ((((600 : Int32) * to0) + w64).toNatClampNeg) (vp_nar .byte v148)) fun u149 => ih_ (w64 + 1) u149)) n_
set_option maxRecDepth 100000 in
theorem Fx_M_copyRX_L2_s {from0 : Int32} {to0 : Int32} {g : Nat → Nat → Int64} {w64 : Int32} {u65 : Nat → Nat → Int32} {n_ : Nat} : Fx_M_copyRX_L2 from0 to0 g (n_ + 1) w64 u65 = if (600 : Int32) ≤ w64 then (xq_lt (Fx_M_move_164X from0 to0 u65 g) fun u116 => xq_lt (Fx_M_move_165X from0 to0 u116 g) fun u122 => xq_lt (Fx_M_move_166X from0 to0 u122 g) fun u127 => xq_lt (Fx_M_move_167X from0 to0 u127 g) fun u132 => xq_lt (Fx_M_move_168X from0 to0 u132 g) fun u137 => xq_lt (Fx_M_move_169X from0 to0 u137 g) fun u143 => u143) else (xq_lt (u65 163 (((600 : Int32) * from0) + w64).toNatClampNeg) fun v148 => xq_lt (ms u65 163 ((((600 : Int32) * to0) + w64).toNatClampNeg) (vp_nar .byte v148)) fun u149 => (Fx_M_copyRX_L2 from0 to0 g n_) (w64 + 1) u149) := rfl
set_option maxRecDepth 100000 in
noncomputable def Fx_M_copyRX (from0 : Int32) (to0 : Int32) (u : Nat → Nat → Int32) (g : Nat → Nat → Int64) : (Nat → Nat → Int32) := Fx_M_copyRX_L2 from0 to0 g ((600 - (0 : Int32).toInt).toNat + 1) (0 : Int32) u
set_option maxHeartbeats 4000000 in
set_option maxRecDepth 100000 in
theorem c_M_copyRX {d : Nat} {u : Nat → Nat → Int32} {g : Nat → Nat → Int64} {ex : List MC} {from0 : Int32} {to0 : Int32} (hd : 1 ≤ d) (hp0 : Bd 0 3 from0) (hp1 : Bd 0 3 to0) (hp2 : AB u 164 0 600) (hp3 : AB u 168 (-1) 999) (hp4 : AB u 169 (-1) 999) (hp5 : (MY u)) (hp6 : (HD u)) (hp7 : (HC u)) (hp8 : (PL u)) : CT con0 d 0 0 yX11_copy cX11_copy 4 none [.ref 162, .int from0, .int to0] (Wd u g ex) (fun r h2 => ∃ (u2 : Nat → Nat → Int32), r = none ∧ h2 = Wd u2 g ex ∧ AB u2 164 0 600 ∧ AB u2 168 (-1) 999 ∧ AB u2 169 (-1) 999 ∧ (MY u2) ∧ (HD u2) ∧ (HC u2) ∧ (PL u2) ∧ (MVD u2 u 164 1 from0.toInt.toNat to0.toInt.toNat) ∧ u2 = Fx_M_copyRX from0 to0 u g ∧ (∀ c, nin c [(163, 169)] = true → u2 c = u c)) := by
  refine CT_of (by decide) (Nat.le_of_ble_eq_true rfl) (fun x hq => ?_)
  show J x yX11_copy cX11_copy 4 none d 0 0 (Wd u g ex).length 0 [(0, .ref 162), (1, .int from0), (2, .int to0)] [] (Wd u g ex) 0 0
  have E : Fx_M_copyRX from0 to0 u g = Fx_M_copyRX from0 to0 u g := rfl
  refine J_iconst (v := 0) dX11_copy_0 (by decide) ?_
  refine J_istore_n (i := 3) (lw := [(3, .int 0), (0, .ref 162), (1, .int from0), (2, .int to0)]) dX11_copy_1 rfl (by decide) rfl ?_
  have lp107 : ∀ (n108 : Nat) (w64 : Int32) (u65 : Nat → Nat → Int32), Bd 0 600 w64 → (∀ c, c ≠ 163 → u65 c = u c) → (600 - w64.toInt).toNat < n108 → Fx_M_copyRX_L2 from0 to0 g n108 w64 u65 = Fx_M_copyRX from0 to0 u g → J x yX11_copy cX11_copy 4 none d 0 0 (Wd u g ex).length 2 [(0, .ref 162), (1, .int from0), (2, .int to0), (3, .int w64)] [] (Wd u65 g ex) 0 0 := by
    intro n108
    induction n108 with
    | zero => intro w64 u65 bw64 fr66 hm110 _; exact absurd hm110 (Nat.not_lt_zero _)
    | succ n108 ih109 =>
      intro w64 u65 bw64 fr66 hm110 E
      replace E := Fx_M_copyRX_L2_s.symm.trans E
      refine J_iload_n (i := 3) (j := 3) dX11_copy_2 rfl rfl ?_
      refine J_sipush (v := 600) dX11_copy_3 (by decide) ?_
      refine J_icmp_ge (tgt := 39) dX11_copy_6 (by decide) (fun c111 => ?_) (fun c111 => ?_)
      · replace E := xq_ep c111 E
        refine J_aload_n (i := 0) (j := 0) dX11_copy_39 rfl rfl ?_
        refine J_get (C := RX11) (T := TX11) (Z := 43) (ci := 11) (f := 2) dX11_copy_40 inG11 rfl (by decide) k1266 wc_162 rfl ?_
        refine J_iconst (v := 1) dX11_copy_43 (by decide) ?_
        refine J_iload_n (i := 1) (j := 1) dX11_copy_44 rfl rfl ?_
        refine J_iload_n (i := 2) (j := 2) dX11_copy_45 rfl rfl ?_
        refine J_callS (As := [.ref 164, .int 1, .int from0, .int to0]) (rest := []) dX11_copy_46 (c_M_move_164X (d := 0) (u := u65) (g := g) (ex := ex) (from0 := from0) (to0 := to0)  (by decide) hp0 hp1 (ab_c (fr66 164 (Nat.ne_of_beq_eq_false rfl)) hp2)) hq.n k1806 k1807 k97 k1808 np_X11_move (Nat.le_trans (by decide) hd) (by decide) (Nat.le_refl _) (Nat.le_refl _) wlen rfl (Nat.le_of_ble_eq_true rfl) (fun r_ h_ p115 => ?_)
        obtain ⟨u116, rfl, rfl, h117, h118, hx119, fr120⟩ := p115
        replace E := xq_le hx119 E
        refine J_aload_n (i := 0) (j := 0) dX11_copy_49 rfl rfl ?_
        refine J_get (C := RX11) (T := TX11) (Z := 43) (ci := 11) (f := 3) dX11_copy_50 inG11 rfl (by decide) k1267 wc_162 rfl ?_
        refine J_iconst (v := 1) dX11_copy_53 (by decide) ?_
        refine J_iload_n (i := 1) (j := 1) dX11_copy_54 rfl rfl ?_
        refine J_iload_n (i := 2) (j := 2) dX11_copy_55 rfl rfl ?_
        refine J_callS (As := [.ref 165, .int 1, .int from0, .int to0]) (rest := []) dX11_copy_56 (c_M_move_165X (d := 0) (u := u116) (g := g) (ex := ex) (from0 := from0) (to0 := to0)  (by decide) hp0 hp1) hq.n k1806 k1807 k97 k1808 np_X11_move (Nat.le_trans (by decide) hd) (by decide) (Nat.le_refl _) (Nat.le_refl _) wlen rfl (Nat.le_of_ble_eq_true rfl) (fun r_ h_ p121 => ?_)
        obtain ⟨u122, rfl, rfl, h123, hx124, fr125⟩ := p121
        replace E := xq_le hx124 E
        refine J_aload_n (i := 0) (j := 0) dX11_copy_59 rfl rfl ?_
        refine J_get (C := RX11) (T := TX11) (Z := 43) (ci := 11) (f := 4) dX11_copy_60 inG11 rfl (by decide) k1268 wc_162 rfl ?_
        refine J_iconst (v := 1) dX11_copy_63 (by decide) ?_
        refine J_iload_n (i := 1) (j := 1) dX11_copy_64 rfl rfl ?_
        refine J_iload_n (i := 2) (j := 2) dX11_copy_65 rfl rfl ?_
        refine J_callS (As := [.ref 166, .int 1, .int from0, .int to0]) (rest := []) dX11_copy_66 (c_M_move_166X (d := 0) (u := u122) (g := g) (ex := ex) (from0 := from0) (to0 := to0)  (by decide) hp0 hp1) hq.n k1806 k1807 k97 k1808 np_X11_move (Nat.le_trans (by decide) hd) (by decide) (Nat.le_refl _) (Nat.le_refl _) wlen rfl (Nat.le_of_ble_eq_true rfl) (fun r_ h_ p126 => ?_)
        obtain ⟨u127, rfl, rfl, h128, hx129, fr130⟩ := p126
        replace E := xq_le hx129 E
        refine J_aload_n (i := 0) (j := 0) dX11_copy_69 rfl rfl ?_
        refine J_get (C := RX11) (T := TX11) (Z := 43) (ci := 11) (f := 5) dX11_copy_70 inG11 rfl (by decide) k1269 wc_162 rfl ?_
        refine J_iconst (v := 2) dX11_copy_73 (by decide) ?_
        refine J_iload_n (i := 1) (j := 1) dX11_copy_74 rfl rfl ?_
        refine J_iload_n (i := 2) (j := 2) dX11_copy_75 rfl rfl ?_
        refine J_callS (As := [.ref 167, .int 2, .int from0, .int to0]) (rest := []) dX11_copy_76 (c_M_move_167X (d := 0) (u := u127) (g := g) (ex := ex) (from0 := from0) (to0 := to0)  (by decide) hp0 hp1) hq.n k1806 k1807 k97 k1808 np_X11_move (Nat.le_trans (by decide) hd) (by decide) (Nat.le_refl _) (Nat.le_refl _) wlen rfl (Nat.le_of_ble_eq_true rfl) (fun r_ h_ p131 => ?_)
        obtain ⟨u132, rfl, rfl, h133, hx134, fr135⟩ := p131
        replace E := xq_le hx134 E
        refine J_aload_n (i := 0) (j := 0) dX11_copy_79 rfl rfl ?_
        refine J_get (C := RX11) (T := TX11) (Z := 43) (ci := 11) (f := 6) dX11_copy_80 inG11 rfl (by decide) k1270 wc_162 rfl ?_
        refine J_sipush (v := 314) dX11_copy_83 (by decide) ?_
        refine J_iload_n (i := 1) (j := 1) dX11_copy_86 rfl rfl ?_
        refine J_iload_n (i := 2) (j := 2) dX11_copy_87 rfl rfl ?_
        refine J_callS (As := [.ref 168, .int 314, .int from0, .int to0]) (rest := []) dX11_copy_88 (c_M_move_168X (d := 0) (u := u132) (g := g) (ex := ex) (from0 := from0) (to0 := to0)  (by decide) hp0 hp1 (ab_c ((fr135 168 (Nat.ne_of_beq_eq_false rfl)).trans ((fr130 168 (Nat.ne_of_beq_eq_false rfl)).trans ((fr125 168 (Nat.ne_of_beq_eq_false rfl)).trans ((fr120 168 (Nat.ne_of_beq_eq_false rfl)).trans (fr66 168 (Nat.ne_of_beq_eq_false rfl)))))) hp3)) hq.n k1806 k1807 k97 k1808 np_X11_move (Nat.le_trans (by decide) hd) (by decide) (Nat.le_refl _) (Nat.le_refl _) wlen rfl (Nat.le_of_ble_eq_true rfl) (fun r_ h_ p136 => ?_)
        obtain ⟨u137, rfl, rfl, h138, h139, hx140, fr141⟩ := p136
        replace E := xq_le hx140 E
        refine J_aload_n (i := 0) (j := 0) dX11_copy_91 rfl rfl ?_
        refine J_get (C := RX11) (T := TX11) (Z := 43) (ci := 11) (f := 7) dX11_copy_92 inG11 rfl (by decide) k1271 wc_162 rfl ?_
        refine J_bipush (v := 111) dX11_copy_95 (by decide) ?_
        refine J_iload_n (i := 1) (j := 1) dX11_copy_97 rfl rfl ?_
        refine J_iload_n (i := 2) (j := 2) dX11_copy_98 rfl rfl ?_
        refine J_callS (As := [.ref 169, .int 111, .int from0, .int to0]) (rest := []) dX11_copy_99 (c_M_move_169X (d := 0) (u := u137) (g := g) (ex := ex) (from0 := from0) (to0 := to0)  (by decide) hp0 hp1 (ab_c ((fr141 169 (Nat.ne_of_beq_eq_false rfl)).trans ((fr135 169 (Nat.ne_of_beq_eq_false rfl)).trans ((fr130 169 (Nat.ne_of_beq_eq_false rfl)).trans ((fr125 169 (Nat.ne_of_beq_eq_false rfl)).trans ((fr120 169 (Nat.ne_of_beq_eq_false rfl)).trans (fr66 169 (Nat.ne_of_beq_eq_false rfl))))))) hp4)) hq.n k1806 k1807 k97 k1808 np_X11_move (Nat.le_trans (by decide) hd) (by decide) (Nat.le_refl _) (Nat.le_refl _) wlen rfl (Nat.le_of_ble_eq_true rfl) (fun r_ h_ p142 => ?_)
        obtain ⟨u143, rfl, rfl, h144, h145, hx146, fr147⟩ := p142
        replace E := xq_le hx146 E
        exact J_vret hq dX11_copy_102 rfl wlen (Nat.le_refl _) (Nat.le_refl _) ⟨u143, rfl, rfl, (ab_c ((fr147 164 (Nat.ne_of_beq_eq_false rfl)).trans ((fr141 164 (Nat.ne_of_beq_eq_false rfl)).trans ((fr135 164 (Nat.ne_of_beq_eq_false rfl)).trans ((fr130 164 (Nat.ne_of_beq_eq_false rfl)).trans (fr125 164 (Nat.ne_of_beq_eq_false rfl)))))) h117), (ab_c (fr147 168 (Nat.ne_of_beq_eq_false rfl)) h138), h144, (my_m (by have := hp0.1; have := hp0.2; omega) (mvd_c ((fr147 167 (Nat.ne_of_beq_eq_false rfl)).trans (fr141 167 (Nat.ne_of_beq_eq_false rfl))) ((fr130 167 (Nat.ne_of_beq_eq_false rfl)).trans ((fr125 167 (Nat.ne_of_beq_eq_false rfl)).trans ((fr120 167 (Nat.ne_of_beq_eq_false rfl)).trans (fr66 167 (Nat.ne_of_beq_eq_false rfl))))) h133) hp5), (hd_m (by have := hp0.1; have := hp0.2; omega) (mvd_c (fr147 168 (Nat.ne_of_beq_eq_false rfl)) ((fr135 168 (Nat.ne_of_beq_eq_false rfl)).trans ((fr130 168 (Nat.ne_of_beq_eq_false rfl)).trans ((fr125 168 (Nat.ne_of_beq_eq_false rfl)).trans ((fr120 168 (Nat.ne_of_beq_eq_false rfl)).trans (fr66 168 (Nat.ne_of_beq_eq_false rfl)))))) h139) hp6), (hc_m (by have := hp0.1; have := hp0.2; omega) (mvd_c ((fr147 167 (Nat.ne_of_beq_eq_false rfl)).trans (fr141 167 (Nat.ne_of_beq_eq_false rfl))) ((fr130 167 (Nat.ne_of_beq_eq_false rfl)).trans ((fr125 167 (Nat.ne_of_beq_eq_false rfl)).trans ((fr120 167 (Nat.ne_of_beq_eq_false rfl)).trans (fr66 167 (Nat.ne_of_beq_eq_false rfl))))) h133) (mvd_c (fr147 168 (Nat.ne_of_beq_eq_false rfl)) ((fr135 168 (Nat.ne_of_beq_eq_false rfl)).trans ((fr130 168 (Nat.ne_of_beq_eq_false rfl)).trans ((fr125 168 (Nat.ne_of_beq_eq_false rfl)).trans ((fr120 168 (Nat.ne_of_beq_eq_false rfl)).trans (fr66 168 (Nat.ne_of_beq_eq_false rfl)))))) h139) hp7), (pl_m (by have := hp0.1; have := hp0.2; omega) (mvd_c rfl ((fr141 169 (Nat.ne_of_beq_eq_false rfl)).trans ((fr135 169 (Nat.ne_of_beq_eq_false rfl)).trans ((fr130 169 (Nat.ne_of_beq_eq_false rfl)).trans ((fr125 169 (Nat.ne_of_beq_eq_false rfl)).trans ((fr120 169 (Nat.ne_of_beq_eq_false rfl)).trans (fr66 169 (Nat.ne_of_beq_eq_false rfl))))))) h145) hp8), (mvd_c ((fr147 164 (Nat.ne_of_beq_eq_false rfl)).trans ((fr141 164 (Nat.ne_of_beq_eq_false rfl)).trans ((fr135 164 (Nat.ne_of_beq_eq_false rfl)).trans ((fr130 164 (Nat.ne_of_beq_eq_false rfl)).trans (fr125 164 (Nat.ne_of_beq_eq_false rfl)))))) (fr66 164 (Nat.ne_of_beq_eq_false rfl)) h118), E, (fun c k_ => ((fr147 c (nin_ne (a := 169) k_ rfl)).trans ((fr141 c (nin_ne (a := 168) k_ rfl)).trans ((fr135 c (nin_ne (a := 167) k_ rfl)).trans ((fr130 c (nin_ne (a := 166) k_ rfl)).trans ((fr125 c (nin_ne (a := 165) k_ rfl)).trans ((fr120 c (nin_ne (a := 164) k_ rfl)).trans (fr66 c (nin_ne (a := 163) k_ rfl)))))))))⟩
      · replace E := xq_en c111 E
        refine J_aload_n (i := 0) (j := 0) dX11_copy_9 rfl rfl ?_
        refine J_get (C := RX11) (T := TX11) (Z := 43) (ci := 11) (f := 1) dX11_copy_10 inG11 rfl (by decide) k1265 wc_162 rfl ?_
        refine J_sipush (v := 600) dX11_copy_13 (by decide) ?_
        refine J_iload_n (i := 2) (j := 2) dX11_copy_16 rfl rfl ?_
        refine J_imul dX11_copy_17 ?_
        refine J_iload_n (i := 3) (j := 3) dX11_copy_18 rfl rfl ?_
        refine J_iadd dX11_copy_19 ?_
        refine J_aload_n (i := 0) (j := 0) dX11_copy_20 rfl rfl ?_
        refine J_get (C := RX11) (T := TX11) (Z := 43) (ci := 11) (f := 1) dX11_copy_21 inG11 rfl (by decide) k1265 wc_162 rfl ?_
        refine J_sipush (v := 600) dX11_copy_24 (by decide) ?_
        refine J_iload_n (i := 1) (j := 1) dX11_copy_27 rfl rfl ?_
        refine J_imul dX11_copy_28 ?_
        refine J_iload_n (i := 3) (j := 3) dX11_copy_29 rfl rfl ?_
        refine J_iadd dX11_copy_30 ?_
        refine J_bald dX11_copy_31 wc_163 (vin (bd_add (l := 0) (h := 2399) (bd_mul (l := 0) (h := 1800) (bd_c (v := 600) (lo := 600) (hi := 600) (by decide)) hp0 (by decide)) (bd_lt_hi bw64 (i_nle c111) (bd_c (v := 600) (lo := 600) (hi := 600) (by decide))) (by decide)) (by decide)) ?_
        refine J_topi (fun v148 qv148 => ?_)
        replace E := xq_le qv148 E
        obtain ⟨u149, e150⟩ : ∃ z, z = ms u65 163 ((((600 : Int32) * to0) + w64).toNatClampNeg) (vp_nar .byte v148) := ⟨_, rfl⟩
        refine J_bast dX11_copy_32 wc_163 (vin (bd_add (l := 0) (h := 2399) (bd_mul (l := 0) (h := 1800) (bd_c (v := 600) (lo := 600) (hi := 600) (by decide)) hp1 (by decide)) (bd_lt_hi bw64 (i_nle c111) (bd_c (v := 600) (lo := 600) (hi := 600) (by decide))) (by decide)) (by decide)) (ws e150 wk_163 rfl) ?_
        replace E := xq_le e150 E
        refine J_iinc (i := 3) (j := 3) (v := (w64 + 1)) (lw := [(3, .int (w64 + 1)), (0, .ref 162), (1, .int from0), (2, .int to0)]) dX11_copy_33 rfl rfl (by decide) rfl ?_
        refine J_goto (tgt := 2) dX11_copy_36 (by decide) ?_
        refine J_lv [1, 2, 3, 0] rfl ?_
        exact ih109 (w64 + 1) u149 (bd_w (l := 0) (h := 600) (bd_add (l := 1) (h := 600) (bd_lt_hi bw64 (i_nle c111) (bd_c (v := 600) (lo := 600) (hi := 600) (by decide))) (bd_c (v := 1) (lo := 1) (hi := 1) (by decide)) (by decide)) (by decide)) (fun c k0_ => ((ms_c e150 k0_).trans (fr66 c k0_))) (mu_up 1 bw64 rfl (by decide) (bd_w (l := 1) (h := 600) (bd_add (l := 1) (h := 600) (bd_lt_hi bw64 (i_nle c111) (bd_c (v := 600) (lo := 600) (hi := 600) (by decide))) (bd_c (v := 1) (lo := 1) (hi := 1) (by decide)) (by decide)) (by decide)) hm110) E
  refine J_lv [1, 2, 3, 0] rfl ?_
  exact lp107 ((600 - (0 : Int32).toInt).toNat + 1) (0 : Int32) u (bd_w (l := 0) (h := 600) (bd_c (v := 0) (lo := 0) (hi := 0) (by decide)) (by decide)) (fun c k0_ => rfl) (Nat.lt_succ_self _) E
set_option maxRecDepth 100000 in
noncomputable def Fx_M_imageRX (k : Int32) (u : Nat → Nat → Int32) (g : Nat → Nat → Int64) : Bool × (Nat → Nat → Int32) := xq_lt (ms u 162 0 0) fun u1 => xq_lt (Fx_M_inEX k (0 : Int32) (2 : Int32) u1 g) fun t4 => if t4 = true then (xq_lt (Fx_M_copyRX (0 : Int32) (k + 1) u1 g) fun u11 => xq_lt (ms u11 181 k.toNatClampNeg (vp_nar .boolean (1 : Int32))) fun u22 => (true, u22)) else ((false, u1))
set_option maxHeartbeats 4000000 in
set_option maxRecDepth 100000 in
theorem c_M_imageRX {d : Nat} {u : Nat → Nat → Int32} {g : Nat → Nat → Int64} {ex : List MC} {k : Int32} (hd : 2 ≤ d) (hp0 : AB u 164 0 600) (hp1 : AB u 168 (-1) 999) (hp2 : AB u 169 (-1) 999) (hp3 : (MY u)) (hp4 : (HD u)) (hp5 : (HC u)) (hp6 : (PL u)) : CT con0 d 0 0 yX11_image cX11_image 2 (some .boolean) [.ref 162, .int k] (Wd u g ex) (fun r h2 => ∃ (z : Bool) (u2 : Nat → Nat → Int32), r = some (.int (bI z)) ∧ h2 = Wd u2 g ex ∧ (z = true → Bd 0 2 k) ∧ AB u2 164 0 600 ∧ AB u2 168 (-1) 999 ∧ AB u2 169 (-1) 999 ∧ (MY u2) ∧ (HD u2) ∧ (HC u2) ∧ (PL u2) ∧ (z = true ↔ (0 ≤ k ∧ k ≤ 2)) ∧ (IMGM u2 u k) ∧ (TKN u2 u 181 k) ∧ (z, u2) = Fx_M_imageRX k u g ∧ (∀ c, nin c [(162, 169), (181, 181)] = true → u2 c = u c) ∧ (∀ j, j ≠ 0 → u2 162 j = u 162 j)) := by
  refine CT_of (by decide) (Nat.le_of_ble_eq_true rfl) (fun x hq => ?_)
  show J x yX11_image cX11_image 2 (some .boolean) d 0 0 (Wd u g ex).length 0 [(0, .ref 162), (1, .int k)] [] (Wd u g ex) 0 0
  have E : Fx_M_imageRX k u g = Fx_M_imageRX k u g := rfl
  refine J_aload_n (i := 0) (j := 0) dX11_image_0 rfl rfl ?_
  refine J_iconst (v := 0) dX11_image_1 (by decide) ?_
  obtain ⟨u1, e2⟩ : ∃ z, z = ms u 162 0 0 := ⟨_, rfl⟩
  refine J_put (C := RX11) (T := TX11) (Z := 43) (ci := 11) (f := 0) (ty0 := tyX11) dX11_image_2 inG11 rfl tyX11_ok nmX11 (by decide) k1264 rfl rfl wc_162 (Nat.le_of_ble_eq_true rfl) (fun _ _ => ⟨rfl, rfl⟩) (ws e2 wk_162 rfl) ?_
  replace E := xq_le e2 E
  refine J_iload_n (i := 1) (j := 1) dX11_image_5 rfl rfl ?_
  refine J_iconst (v := 0) dX11_image_6 (by decide) ?_
  refine J_iconst (v := 2) dX11_image_7 (by decide) ?_
  refine J_callS (As := [.int k, .int 0, .int 2]) (rest := []) dX11_image_8 (c_M_inEX (d := 0) (u := u1) (g := g) (ex := ex) (v := k) (low := 0) (high := 2)  (by decide) ) hq.n k1406 k1407 k97 k1408 np_X11_in (Nat.le_trans (by decide) hd) (by decide) (Nat.le_refl _) (Nat.le_refl _) wlen rfl (Nat.le_of_ble_eq_true rfl) (fun r_ h_ p3 => ?_)
  obtain ⟨t4, rfl, rfl, h5, h6, h7, hx8⟩ := p3
  replace E := xq_le hx8 E
  refine J_ifB_ne (tgt := 16) dX11_image_11 (by decide) (fun c9 => ?_) (fun c9 => ?_)
  · replace E := xq_ep c9 E
    refine J_aload_n (i := 0) (j := 0) dX11_image_16 rfl rfl ?_
    refine J_iconst (v := 0) dX11_image_17 (by decide) ?_
    refine J_iload_n (i := 1) (j := 1) dX11_image_18 rfl rfl ?_
    refine J_iconst (v := 1) dX11_image_19 (by decide) ?_
    refine J_iadd dX11_image_20 ?_
    refine J_callV (As := [.int 0, .int (k + 1)]) (rest := []) dX11_image_21 (c_M_copyRX (d := 1) (u := u1) (g := g) (ex := ex) (from0 := 0) (to0 := (k + 1))  (by decide) (bd_w (l := 0) (h := 3) (bd_c (v := 0) (lo := 0) (hi := 0) (by decide)) (by decide)) (bd_w (l := 0) (h := 3) (bd_add (l := 1) (h := 3) (bd_le_hi (bd_le_lo (bd_any k) (h5 c9) (bd_c (v := 0) (lo := 0) (hi := 0) (by decide))) (h6 c9) (bd_c (v := 2) (lo := 2) (hi := 2) (by decide))) (bd_c (v := 1) (lo := 1) (hi := 1) (by decide)) (by decide)) (by decide)) (ab_c (ms_c e2 (Nat.ne_of_beq_eq_false rfl)) hp0) (ab_c (ms_c e2 (Nat.ne_of_beq_eq_false rfl)) hp1) (ab_c (ms_c e2 (Nat.ne_of_beq_eq_false rfl)) hp2) (my_c (ms_c e2 (Nat.ne_of_beq_eq_false rfl)) hp3) (hd_c (ms_c e2 (Nat.ne_of_beq_eq_false rfl)) hp4) (hc_c (ms_c e2 (Nat.ne_of_beq_eq_false rfl)) (ms_c e2 (Nat.ne_of_beq_eq_false rfl)) hp5) (pl_c (ms_c e2 (Nat.ne_of_beq_eq_false rfl)) hp6)) hq.n k1802 k1804 k85 wc_162 rfl rfl k97 k1805 np_X11_copy (Nat.le_trans (by decide) hd) (by decide) (Nat.le_refl _) (Nat.le_refl _) wlen rfl (Nat.le_of_ble_eq_true rfl) (fun r_ h_ p10 => ?_)
    obtain ⟨u11, rfl, rfl, h12, h13, h14, h15, h16, h17, h18, h19, hx20, fr21⟩ := p10
    replace E := xq_le hx20 E
    refine J_aload_n (i := 0) (j := 0) dX11_image_24 rfl rfl ?_
    refine J_get (C := RX11) (T := TX11) (Z := 43) (ci := 11) (f := 42) dX11_image_25 inG11 rfl (by decide) k1306 wc_162 rfl ?_
    refine J_iload_n (i := 1) (j := 1) dX11_image_28 rfl rfl ?_
    refine J_iconst (v := 1) dX11_image_29 (by decide) ?_
    obtain ⟨u22, e23⟩ : ∃ z, z = ms u11 181 k.toNatClampNeg (vp_nar .boolean (1 : Int32)) := ⟨_, rfl⟩
    refine J_zast dX11_image_30 wc_181 (vin (bd_le_hi (bd_le_lo (bd_any k) (h5 c9) (bd_c (v := 0) (lo := 0) (hi := 0) (by decide))) (h6 c9) (bd_c (v := 2) (lo := 2) (hi := 2) (by decide))) (by decide)) (ws e23 wk_181 rfl) ?_
    replace E := xq_le e23 E
    refine J_iconst (v := 1) dX11_image_31 (by decide) ?_
    exact J_zret hq dX11_image_32 rfl rfl wlen (Nat.le_refl _) (Nat.le_refl _) ⟨true, u22, rfl, rfl, (fun qb => (bd_le_hi (bd_le_lo (bd_any k) (h5 c9) (bd_c (v := 0) (lo := 0) (hi := 0) (by decide))) (h6 c9) (bd_c (v := 2) (lo := 2) (hi := 2) (by decide)))), (ab_c (ms_c e23 (Nat.ne_of_beq_eq_false rfl)) h12), (ab_c (ms_c e23 (Nat.ne_of_beq_eq_false rfl)) h13), (ab_c (ms_c e23 (Nat.ne_of_beq_eq_false rfl)) h14), (my_c (ms_c e23 (Nat.ne_of_beq_eq_false rfl)) h15), (hd_c (ms_c e23 (Nat.ne_of_beq_eq_false rfl)) h16), (hc_c (ms_c e23 (Nat.ne_of_beq_eq_false rfl)) (ms_c e23 (Nat.ne_of_beq_eq_false rfl)) h17), (pl_c (ms_c e23 (Nat.ne_of_beq_eq_false rfl)) h18), ⟨fun _ => ⟨(h5 c9), (h6 c9)⟩, fun _ => rfl⟩, (imgm_s ⟨(h5 c9), (h6 c9)⟩ rfl (mvd_c (ms_c e23 (Nat.ne_of_beq_eq_false rfl)) (ms_c e2 (Nat.ne_of_beq_eq_false rfl)) h19)), (tkn_s ⟨(h5 c9), (h6 c9)⟩ e23 ((fr21 181 rfl).trans (ms_c e2 (Nat.ne_of_beq_eq_false rfl)))), E, (fun c k_ => ((ms_c e23 (nin_ne (a := 181) k_ rfl)).trans ((fr21 c (nin_sub (M := [(163, 169)]) k_ rfl)).trans (ms_c e2 (nin_ne (a := 162) k_ rfl))))), (fun j k0_ => ((congrFun (ms_c e23 (Nat.ne_of_beq_eq_false rfl)) j).trans ((congrFun (fr21 162 rfl) j).trans (ms_i e2 k0_))))⟩
  · replace E := xq_ef c9 E
    refine J_iconst (v := 0) dX11_image_14 (by decide) ?_
    exact J_zret hq dX11_image_15 rfl rfl wlen (Nat.le_refl _) (Nat.le_refl _) ⟨false, u1, rfl, rfl, (fun q => absurd q (by decide)), (ab_c (ms_c e2 (Nat.ne_of_beq_eq_false rfl)) hp0), (ab_c (ms_c e2 (Nat.ne_of_beq_eq_false rfl)) hp1), (ab_c (ms_c e2 (Nat.ne_of_beq_eq_false rfl)) hp2), (my_c (ms_c e2 (Nat.ne_of_beq_eq_false rfl)) hp3), (hd_c (ms_c e2 (Nat.ne_of_beq_eq_false rfl)) hp4), (hc_c (ms_c e2 (Nat.ne_of_beq_eq_false rfl)) (ms_c e2 (Nat.ne_of_beq_eq_false rfl)) hp5), (pl_c (ms_c e2 (Nat.ne_of_beq_eq_false rfl)) hp6), ⟨fun q => absurd q (by decide), fun q => absurd ((fun e => (h7.mpr e).symm.trans c9) q) (by decide)⟩, (imgm_n (fun q => absurd ((fun e => (h7.mpr e).symm.trans c9) q) (by decide)) (ms_c e2 (Nat.ne_of_beq_eq_false rfl))), (tkn_n (fun q => absurd ((fun e => (h7.mpr e).symm.trans c9) q) (by decide)) (ms_c e2 (Nat.ne_of_beq_eq_false rfl))), E, (fun c k_ => (ms_c e2 (nin_ne (a := 162) k_ rfl))), (fun j k0_ => (ms_i e2 k0_))⟩
set_option maxRecDepth 100000 in
noncomputable def Fx_M_againRX (k : Int32) (u : Nat → Nat → Int32) (g : Nat → Nat → Int64) : Bool × (Nat → Nat → Int32) := xq_lt (ms u 162 0 0) fun u1 => xq_lt (Fx_M_inEX k (0 : Int32) (2 : Int32) u1 g) fun t4 => if t4 = true then (xq_lt (u1 181 k.toNatClampNeg) fun v10 => if v10 = (0 : Int32) then ((false, u1)) else (xq_lt (Fx_M_copyRX (k + 1) (0 : Int32) u1 g) fun u13 => (true, u13))) else ((false, u1))
set_option maxHeartbeats 4000000 in
set_option maxRecDepth 100000 in
theorem c_M_againRX {d : Nat} {u : Nat → Nat → Int32} {g : Nat → Nat → Int64} {ex : List MC} {k : Int32} (hd : 2 ≤ d) (hp0 : AB u 164 0 600) (hp1 : AB u 168 (-1) 999) (hp2 : AB u 169 (-1) 999) (hp3 : (MY u)) (hp4 : (HD u)) (hp5 : (HC u)) (hp6 : (PL u)) : CT con0 d 0 0 yX11_again cX11_again 2 (some .boolean) [.ref 162, .int k] (Wd u g ex) (fun r h2 => ∃ (z : Bool) (u2 : Nat → Nat → Int32), r = some (.int (bI z)) ∧ h2 = Wd u2 g ex ∧ (z = true → Bd 0 2 k) ∧ AB u2 164 0 600 ∧ AB u2 168 (-1) 999 ∧ AB u2 169 (-1) 999 ∧ (MY u2) ∧ (HD u2) ∧ (HC u2) ∧ (PL u2) ∧ (AGZ u 181 k z) ∧ (AGM u2 u k z) ∧ (z, u2) = Fx_M_againRX k u g ∧ (∀ c, nin c [(162, 169)] = true → u2 c = u c) ∧ (∀ j, j ≠ 0 → u2 162 j = u 162 j)) := by
  refine CT_of (by decide) (Nat.le_of_ble_eq_true rfl) (fun x hq => ?_)
  show J x yX11_again cX11_again 2 (some .boolean) d 0 0 (Wd u g ex).length 0 [(0, .ref 162), (1, .int k)] [] (Wd u g ex) 0 0
  have E : Fx_M_againRX k u g = Fx_M_againRX k u g := rfl
  refine J_aload_n (i := 0) (j := 0) dX11_again_0 rfl rfl ?_
  refine J_iconst (v := 0) dX11_again_1 (by decide) ?_
  obtain ⟨u1, e2⟩ : ∃ z, z = ms u 162 0 0 := ⟨_, rfl⟩
  refine J_put (C := RX11) (T := TX11) (Z := 43) (ci := 11) (f := 0) (ty0 := tyX11) dX11_again_2 inG11 rfl tyX11_ok nmX11 (by decide) k1264 rfl rfl wc_162 (Nat.le_of_ble_eq_true rfl) (fun _ _ => ⟨rfl, rfl⟩) (ws e2 wk_162 rfl) ?_
  replace E := xq_le e2 E
  refine J_iload_n (i := 1) (j := 1) dX11_again_5 rfl rfl ?_
  refine J_iconst (v := 0) dX11_again_6 (by decide) ?_
  refine J_iconst (v := 2) dX11_again_7 (by decide) ?_
  refine J_callS (As := [.int k, .int 0, .int 2]) (rest := []) dX11_again_8 (c_M_inEX (d := 0) (u := u1) (g := g) (ex := ex) (v := k) (low := 0) (high := 2)  (by decide) ) hq.n k1406 k1407 k97 k1408 np_X11_in (Nat.le_trans (by decide) hd) (by decide) (Nat.le_refl _) (Nat.le_refl _) wlen rfl (Nat.le_of_ble_eq_true rfl) (fun r_ h_ p3 => ?_)
  obtain ⟨t4, rfl, rfl, h5, h6, h7, hx8⟩ := p3
  replace E := xq_le hx8 E
  refine J_ifB_eq (tgt := 23) dX11_again_11 (by decide) (fun c9 => ?_) (fun c9 => ?_)
  · replace E := xq_ef c9 E
    refine J_iconst (v := 0) dX11_again_23 (by decide) ?_
    exact J_zret hq dX11_again_24 rfl rfl wlen (Nat.le_refl _) (Nat.le_refl _) ⟨false, u1, rfl, rfl, (fun q => absurd q (by decide)), (ab_c (ms_c e2 (Nat.ne_of_beq_eq_false rfl)) hp0), (ab_c (ms_c e2 (Nat.ne_of_beq_eq_false rfl)) hp1), (ab_c (ms_c e2 (Nat.ne_of_beq_eq_false rfl)) hp2), (my_c (ms_c e2 (Nat.ne_of_beq_eq_false rfl)) hp3), (hd_c (ms_c e2 (Nat.ne_of_beq_eq_false rfl)) hp4), (hc_c (ms_c e2 (Nat.ne_of_beq_eq_false rfl)) (ms_c e2 (Nat.ne_of_beq_eq_false rfl)) hp5), (pl_c (ms_c e2 (Nat.ne_of_beq_eq_false rfl)) hp6), (agz_n (fun q => absurd ((fun e => (h7.mpr e).symm.trans c9) q) (by decide))), (agm_f (ms_c e2 (Nat.ne_of_beq_eq_false rfl))), E, (fun c k_ => (ms_c e2 (nin_ne (a := 162) k_ rfl))), (fun j k0_ => (ms_i e2 k0_))⟩
  · replace E := xq_ep c9 E
    refine J_aload_n (i := 0) (j := 0) dX11_again_14 rfl rfl ?_
    refine J_get (C := RX11) (T := TX11) (Z := 43) (ci := 11) (f := 42) dX11_again_15 inG11 rfl (by decide) k1306 wc_162 rfl ?_
    refine J_iload_n (i := 1) (j := 1) dX11_again_18 rfl rfl ?_
    refine J_zald dX11_again_19 wc_181 (vin (bd_le_hi (bd_le_lo (bd_any k) (h5 c9) (bd_c (v := 0) (lo := 0) (hi := 0) (by decide))) (h6 c9) (bd_c (v := 2) (lo := 2) (hi := 2) (by decide))) (by decide)) ?_
    refine J_topi (fun v10 qv10 => ?_)
    replace E := xq_le qv10 E
    refine J_if_ne (tgt := 25) dX11_again_20 (by decide) (fun c11 => ?_) (fun c11 => ?_)
    · replace E := xq_en c11 E
      refine J_aload_n (i := 0) (j := 0) dX11_again_25 rfl rfl ?_
      refine J_iload_n (i := 1) (j := 1) dX11_again_26 rfl rfl ?_
      refine J_iconst (v := 1) dX11_again_27 (by decide) ?_
      refine J_iadd dX11_again_28 ?_
      refine J_iconst (v := 0) dX11_again_29 (by decide) ?_
      refine J_callV (As := [.int (k + 1), .int 0]) (rest := []) dX11_again_30 (c_M_copyRX (d := 1) (u := u1) (g := g) (ex := ex) (from0 := (k + 1)) (to0 := 0)  (by decide) (bd_w (l := 0) (h := 3) (bd_add (l := 1) (h := 3) (bd_le_hi (bd_le_lo (bd_any k) (h5 c9) (bd_c (v := 0) (lo := 0) (hi := 0) (by decide))) (h6 c9) (bd_c (v := 2) (lo := 2) (hi := 2) (by decide))) (bd_c (v := 1) (lo := 1) (hi := 1) (by decide)) (by decide)) (by decide)) (bd_w (l := 0) (h := 3) (bd_c (v := 0) (lo := 0) (hi := 0) (by decide)) (by decide)) (ab_c (ms_c e2 (Nat.ne_of_beq_eq_false rfl)) hp0) (ab_c (ms_c e2 (Nat.ne_of_beq_eq_false rfl)) hp1) (ab_c (ms_c e2 (Nat.ne_of_beq_eq_false rfl)) hp2) (my_c (ms_c e2 (Nat.ne_of_beq_eq_false rfl)) hp3) (hd_c (ms_c e2 (Nat.ne_of_beq_eq_false rfl)) hp4) (hc_c (ms_c e2 (Nat.ne_of_beq_eq_false rfl)) (ms_c e2 (Nat.ne_of_beq_eq_false rfl)) hp5) (pl_c (ms_c e2 (Nat.ne_of_beq_eq_false rfl)) hp6)) hq.n k1802 k1804 k85 wc_162 rfl rfl k97 k1805 np_X11_copy (Nat.le_trans (by decide) hd) (by decide) (Nat.le_refl _) (Nat.le_refl _) wlen rfl (Nat.le_of_ble_eq_true rfl) (fun r_ h_ p12 => ?_)
      obtain ⟨u13, rfl, rfl, h14, h15, h16, h17, h18, h19, h20, h21, hx22, fr23⟩ := p12
      replace E := xq_le hx22 E
      refine J_iconst (v := 1) dX11_again_33 (by decide) ?_
      exact J_zret hq dX11_again_34 rfl rfl wlen (Nat.le_refl _) (Nat.le_refl _) ⟨true, u13, rfl, rfl, (fun qb => (bd_le_hi (bd_le_lo (bd_any k) (h5 c9) (bd_c (v := 0) (lo := 0) (hi := 0) (by decide))) (h6 c9) (bd_c (v := 2) (lo := 2) (hi := 2) (by decide)))), h14, h15, h16, h17, h18, h19, h20, (agz_t ⟨(h5 c9), (h6 c9)⟩ (qv10.trans (congrFun (ms_c e2 (Nat.ne_of_beq_eq_false rfl)) _)) c11), (agm_s ⟨(h5 c9), (h6 c9)⟩ rfl (mvd_c rfl (ms_c e2 (Nat.ne_of_beq_eq_false rfl)) h21)), E, (fun c k_ => ((fr23 c (nin_sub (M := [(163, 169)]) k_ rfl)).trans (ms_c e2 (nin_ne (a := 162) k_ rfl)))), (fun j k0_ => ((congrFun (fr23 162 rfl) j).trans (ms_i e2 k0_)))⟩
    · replace E := xq_ep c11 E
      refine J_iconst (v := 0) dX11_again_23 (by decide) ?_
      exact J_zret hq dX11_again_24 rfl rfl wlen (Nat.le_refl _) (Nat.le_refl _) ⟨false, u1, rfl, rfl, (fun q => absurd q (by decide)), (ab_c (ms_c e2 (Nat.ne_of_beq_eq_false rfl)) hp0), (ab_c (ms_c e2 (Nat.ne_of_beq_eq_false rfl)) hp1), (ab_c (ms_c e2 (Nat.ne_of_beq_eq_false rfl)) hp2), (my_c (ms_c e2 (Nat.ne_of_beq_eq_false rfl)) hp3), (hd_c (ms_c e2 (Nat.ne_of_beq_eq_false rfl)) hp4), (hc_c (ms_c e2 (Nat.ne_of_beq_eq_false rfl)) (ms_c e2 (Nat.ne_of_beq_eq_false rfl)) hp5), (pl_c (ms_c e2 (Nat.ne_of_beq_eq_false rfl)) hp6), (agz_0 (qv10.trans (congrFun (ms_c e2 (Nat.ne_of_beq_eq_false rfl)) _)) c11), (agm_f (ms_c e2 (Nat.ne_of_beq_eq_false rfl))), E, (fun c k_ => (ms_c e2 (nin_ne (a := 162) k_ rfl))), (fun j k0_ => (ms_i e2 k0_))⟩
set_option maxRecDepth 100000 in
noncomputable def Fx_M_fourX (v : Int32) (u : Nat → Nat → Int32) (g : Nat → Nat → Int64) : (Nat → Nat → Int32) := xq_lt ((v >>> (24 &&& 31)).toInt8.toInt32) fun v1 => xq_lt (ms u 163 ((u 164 0).toNatClampNeg) (vp_nar .byte v1)) fun u2 => xq_lt (ms u2 164 0 ((u 164 0) + 1)) fun u4 => xq_lt ((v >>> (16 &&& 31)).toInt8.toInt32) fun v6 => xq_lt (ms u4 163 (((u 164 0) + 1).toNatClampNeg) (vp_nar .byte v6)) fun u7 => xq_lt (ms u7 164 0 (((u 164 0) + 1) + 1)) fun u9 => xq_lt ((v >>> (8 &&& 31)).toInt8.toInt32) fun v11 => xq_lt (ms u9 163 ((((u 164 0) + 1) + 1).toNatClampNeg) (vp_nar .byte v11)) fun u12 => xq_lt (ms u12 164 0 ((((u 164 0) + 1) + 1) + 1)) fun u14 => xq_lt ((v >>> (0 &&& 31)).toInt8.toInt32) fun v16 => xq_lt (ms u14 163 (((((u 164 0) + 1) + 1) + 1).toNatClampNeg) (vp_nar .byte v16)) fun u17 => xq_lt (ms u17 164 0 (((((u 164 0) + 1) + 1) + 1) + 1)) fun u19 => u19
set_option maxHeartbeats 4000000 in
set_option maxRecDepth 100000 in
theorem c_M_fourX {d : Nat} {u : Nat → Nat → Int32} {g : Nat → Nat → Int64} {ex : List MC} {v : Int32} (hd : 0 ≤ d) (hp0 : Bd 0 596 (u 164 0)) : CT con0 d 0 0 yX11_four cX11_four 3 none [.ref 162, .int v] (Wd u g ex) (fun r h2 => ∃ (u2 : Nat → Nat → Int32), r = none ∧ h2 = Wd u2 g ex ∧ (u2 164 0 = u 164 0 + 1 + 1 + 1 + 1) ∧ u2 = Fx_M_fourX v u g ∧ (∀ c, c ≠ 163 → c ≠ 164 → u2 c = u c) ∧ (∀ j, j ≠ 0 → u2 164 j = u 164 j)) := by
  refine CT_of (by decide) (Nat.le_of_ble_eq_true rfl) (fun x hq => ?_)
  show J x yX11_four cX11_four 3 none d 0 0 (Wd u g ex).length 0 [(0, .ref 162), (1, .int v)] [] (Wd u g ex) 0 0
  have E : Fx_M_fourX v u g = Fx_M_fourX v u g := rfl
  refine J_bipush (v := 24) dX11_four_0 (by decide) ?_
  refine J_istore_n (i := 2) (lw := [(2, .int 24), (0, .ref 162), (1, .int v)]) dX11_four_2 rfl (by decide) rfl ?_
  refine J_iload_n (i := 2) (j := 0) dX11_four_3 rfl rfl ?_
  refine J_if_lt (tgt := 38) dX11_four_4 (by decide) (fun q => absurd q (by decide)) (fun _ => ?_)
  refine J_aload_n (i := 0) (j := 1) dX11_four_7 rfl rfl ?_
  refine J_get (C := RX11) (T := TX11) (Z := 43) (ci := 11) (f := 1) dX11_four_8 inG11 rfl (by decide) k1265 wc_162 rfl ?_
  refine J_aload_n (i := 0) (j := 1) dX11_four_11 rfl rfl ?_
  refine J_get (C := RX11) (T := TX11) (Z := 43) (ci := 11) (f := 2) dX11_four_12 inG11 rfl (by decide) k1266 wc_162 rfl ?_
  refine J_iconst (v := 0) dX11_four_15 (by decide) ?_
  refine J_iald dX11_four_16 wc_164 (vin (bd_c (v := 0) (lo := 0) (hi := 0) (by decide)) (by decide)) ?_
  refine J_ci (v := u 164 0) rfl ?_
  refine J_iload_n (i := 1) (j := 2) dX11_four_17 rfl rfl ?_
  refine J_iload_n (i := 2) (j := 0) dX11_four_18 rfl rfl ?_
  refine J_ishr dX11_four_19 ?_
  obtain ⟨v1, qv1⟩ : ∃ z : Int32, z = (v >>> (24 &&& 31)).toInt8.toInt32 := ⟨_, rfl⟩
  refine J_i2b dX11_four_20 qv1.symm ?_
  replace E := xq_le qv1 E
  obtain ⟨u2, e3⟩ : ∃ z, z = ms u 163 ((u 164 0).toNatClampNeg) (vp_nar .byte v1) := ⟨_, rfl⟩
  refine J_bast dX11_four_21 wc_163 (vin hp0 (by decide)) (ws e3 wk_163 rfl) ?_
  replace E := xq_le e3 E
  refine J_aload_n (i := 0) (j := 1) dX11_four_22 rfl rfl ?_
  refine J_get (C := RX11) (T := TX11) (Z := 43) (ci := 11) (f := 2) dX11_four_23 inG11 rfl (by decide) k1266 wc_162 rfl ?_
  refine J_iconst (v := 0) dX11_four_26 (by decide) ?_
  refine J_dup2_11 dX11_four_27 rfl rfl ?_
  refine J_iald dX11_four_28 wc_164 (vin (bd_c (v := 0) (lo := 0) (hi := 0) (by decide)) (by decide)) ?_
  refine J_ci (v := u 164 0) (congrFun (ms_c e3 (Nat.ne_of_beq_eq_false rfl)) 0) ?_
  refine J_iconst (v := 1) dX11_four_29 (by decide) ?_
  refine J_iadd dX11_four_30 ?_
  obtain ⟨u4, e5⟩ : ∃ z, z = ms u2 164 0 ((u 164 0) + 1) := ⟨_, rfl⟩
  refine J_iast dX11_four_31 wc_164 (vin (bd_c (v := 0) (lo := 0) (hi := 0) (by decide)) (by decide)) (ws e5 wk_164 rfl) ?_
  replace E := xq_le e5 E
  refine J_iinc (i := 2) (j := 0) (v := 16) (lw := [(2, .int 16), (0, .ref 162), (1, .int v)]) dX11_four_32 rfl (by decide) (by decide) rfl ?_
  refine J_goto (tgt := 3) dX11_four_35 (by decide) ?_
  refine J_iload_n (i := 2) (j := 0) dX11_four_3 rfl rfl ?_
  refine J_if_lt (tgt := 38) dX11_four_4 (by decide) (fun q => absurd q (by decide)) (fun _ => ?_)
  refine J_aload_n (i := 0) (j := 1) dX11_four_7 rfl rfl ?_
  refine J_get (C := RX11) (T := TX11) (Z := 43) (ci := 11) (f := 1) dX11_four_8 inG11 rfl (by decide) k1265 wc_162 rfl ?_
  refine J_aload_n (i := 0) (j := 1) dX11_four_11 rfl rfl ?_
  refine J_get (C := RX11) (T := TX11) (Z := 43) (ci := 11) (f := 2) dX11_four_12 inG11 rfl (by decide) k1266 wc_162 rfl ?_
  refine J_iconst (v := 0) dX11_four_15 (by decide) ?_
  refine J_iald dX11_four_16 wc_164 (vin (bd_c (v := 0) (lo := 0) (hi := 0) (by decide)) (by decide)) ?_
  refine J_ci (v := ((u 164 0) + 1)) (ms_e e5) ?_
  refine J_iload_n (i := 1) (j := 2) dX11_four_17 rfl rfl ?_
  refine J_iload_n (i := 2) (j := 0) dX11_four_18 rfl rfl ?_
  refine J_ishr dX11_four_19 ?_
  obtain ⟨v6, qv6⟩ : ∃ z : Int32, z = (v >>> (16 &&& 31)).toInt8.toInt32 := ⟨_, rfl⟩
  refine J_i2b dX11_four_20 qv6.symm ?_
  replace E := xq_le qv6 E
  obtain ⟨u7, e8⟩ : ∃ z, z = ms u4 163 (((u 164 0) + 1).toNatClampNeg) (vp_nar .byte v6) := ⟨_, rfl⟩
  refine J_bast dX11_four_21 wc_163 (vin (bd_add (l := 1) (h := 597) hp0 (bd_c (v := 1) (lo := 1) (hi := 1) (by decide)) (by decide)) (by decide)) (ws e8 wk_163 rfl) ?_
  replace E := xq_le e8 E
  refine J_aload_n (i := 0) (j := 1) dX11_four_22 rfl rfl ?_
  refine J_get (C := RX11) (T := TX11) (Z := 43) (ci := 11) (f := 2) dX11_four_23 inG11 rfl (by decide) k1266 wc_162 rfl ?_
  refine J_iconst (v := 0) dX11_four_26 (by decide) ?_
  refine J_dup2_11 dX11_four_27 rfl rfl ?_
  refine J_iald dX11_four_28 wc_164 (vin (bd_c (v := 0) (lo := 0) (hi := 0) (by decide)) (by decide)) ?_
  refine J_ci (v := ((u 164 0) + 1)) ((congrFun (ms_c e8 (Nat.ne_of_beq_eq_false rfl)) 0).trans (ms_e e5)) ?_
  refine J_iconst (v := 1) dX11_four_29 (by decide) ?_
  refine J_iadd dX11_four_30 ?_
  obtain ⟨u9, e10⟩ : ∃ z, z = ms u7 164 0 (((u 164 0) + 1) + 1) := ⟨_, rfl⟩
  refine J_iast dX11_four_31 wc_164 (vin (bd_c (v := 0) (lo := 0) (hi := 0) (by decide)) (by decide)) (ws e10 wk_164 rfl) ?_
  replace E := xq_le e10 E
  refine J_iinc (i := 2) (j := 0) (v := 8) (lw := [(2, .int 8), (0, .ref 162), (1, .int v)]) dX11_four_32 rfl (by decide) (by decide) rfl ?_
  refine J_goto (tgt := 3) dX11_four_35 (by decide) ?_
  refine J_iload_n (i := 2) (j := 0) dX11_four_3 rfl rfl ?_
  refine J_if_lt (tgt := 38) dX11_four_4 (by decide) (fun q => absurd q (by decide)) (fun _ => ?_)
  refine J_aload_n (i := 0) (j := 1) dX11_four_7 rfl rfl ?_
  refine J_get (C := RX11) (T := TX11) (Z := 43) (ci := 11) (f := 1) dX11_four_8 inG11 rfl (by decide) k1265 wc_162 rfl ?_
  refine J_aload_n (i := 0) (j := 1) dX11_four_11 rfl rfl ?_
  refine J_get (C := RX11) (T := TX11) (Z := 43) (ci := 11) (f := 2) dX11_four_12 inG11 rfl (by decide) k1266 wc_162 rfl ?_
  refine J_iconst (v := 0) dX11_four_15 (by decide) ?_
  refine J_iald dX11_four_16 wc_164 (vin (bd_c (v := 0) (lo := 0) (hi := 0) (by decide)) (by decide)) ?_
  refine J_ci (v := (((u 164 0) + 1) + 1)) (ms_e e10) ?_
  refine J_iload_n (i := 1) (j := 2) dX11_four_17 rfl rfl ?_
  refine J_iload_n (i := 2) (j := 0) dX11_four_18 rfl rfl ?_
  refine J_ishr dX11_four_19 ?_
  obtain ⟨v11, qv11⟩ : ∃ z : Int32, z = (v >>> (8 &&& 31)).toInt8.toInt32 := ⟨_, rfl⟩
  refine J_i2b dX11_four_20 qv11.symm ?_
  replace E := xq_le qv11 E
  obtain ⟨u12, e13⟩ : ∃ z, z = ms u9 163 ((((u 164 0) + 1) + 1).toNatClampNeg) (vp_nar .byte v11) := ⟨_, rfl⟩
  refine J_bast dX11_four_21 wc_163 (vin (bd_add (l := 2) (h := 598) (bd_add (l := 1) (h := 597) hp0 (bd_c (v := 1) (lo := 1) (hi := 1) (by decide)) (by decide)) (bd_c (v := 1) (lo := 1) (hi := 1) (by decide)) (by decide)) (by decide)) (ws e13 wk_163 rfl) ?_
  replace E := xq_le e13 E
  refine J_aload_n (i := 0) (j := 1) dX11_four_22 rfl rfl ?_
  refine J_get (C := RX11) (T := TX11) (Z := 43) (ci := 11) (f := 2) dX11_four_23 inG11 rfl (by decide) k1266 wc_162 rfl ?_
  refine J_iconst (v := 0) dX11_four_26 (by decide) ?_
  refine J_dup2_11 dX11_four_27 rfl rfl ?_
  refine J_iald dX11_four_28 wc_164 (vin (bd_c (v := 0) (lo := 0) (hi := 0) (by decide)) (by decide)) ?_
  refine J_ci (v := (((u 164 0) + 1) + 1)) ((congrFun (ms_c e13 (Nat.ne_of_beq_eq_false rfl)) 0).trans (ms_e e10)) ?_
  refine J_iconst (v := 1) dX11_four_29 (by decide) ?_
  refine J_iadd dX11_four_30 ?_
  obtain ⟨u14, e15⟩ : ∃ z, z = ms u12 164 0 ((((u 164 0) + 1) + 1) + 1) := ⟨_, rfl⟩
  refine J_iast dX11_four_31 wc_164 (vin (bd_c (v := 0) (lo := 0) (hi := 0) (by decide)) (by decide)) (ws e15 wk_164 rfl) ?_
  replace E := xq_le e15 E
  refine J_iinc (i := 2) (j := 0) (v := 0) (lw := [(2, .int 0), (0, .ref 162), (1, .int v)]) dX11_four_32 rfl (by decide) (by decide) rfl ?_
  refine J_goto (tgt := 3) dX11_four_35 (by decide) ?_
  refine J_iload_n (i := 2) (j := 0) dX11_four_3 rfl rfl ?_
  refine J_if_lt (tgt := 38) dX11_four_4 (by decide) (fun q => absurd q (by decide)) (fun _ => ?_)
  refine J_aload_n (i := 0) (j := 1) dX11_four_7 rfl rfl ?_
  refine J_get (C := RX11) (T := TX11) (Z := 43) (ci := 11) (f := 1) dX11_four_8 inG11 rfl (by decide) k1265 wc_162 rfl ?_
  refine J_aload_n (i := 0) (j := 1) dX11_four_11 rfl rfl ?_
  refine J_get (C := RX11) (T := TX11) (Z := 43) (ci := 11) (f := 2) dX11_four_12 inG11 rfl (by decide) k1266 wc_162 rfl ?_
  refine J_iconst (v := 0) dX11_four_15 (by decide) ?_
  refine J_iald dX11_four_16 wc_164 (vin (bd_c (v := 0) (lo := 0) (hi := 0) (by decide)) (by decide)) ?_
  refine J_ci (v := ((((u 164 0) + 1) + 1) + 1)) (ms_e e15) ?_
  refine J_iload_n (i := 1) (j := 2) dX11_four_17 rfl rfl ?_
  refine J_iload_n (i := 2) (j := 0) dX11_four_18 rfl rfl ?_
  refine J_ishr dX11_four_19 ?_
  obtain ⟨v16, qv16⟩ : ∃ z : Int32, z = (v >>> (0 &&& 31)).toInt8.toInt32 := ⟨_, rfl⟩
  refine J_i2b dX11_four_20 qv16.symm ?_
  replace E := xq_le qv16 E
  obtain ⟨u17, e18⟩ : ∃ z, z = ms u14 163 (((((u 164 0) + 1) + 1) + 1).toNatClampNeg) (vp_nar .byte v16) := ⟨_, rfl⟩
  refine J_bast dX11_four_21 wc_163 (vin (bd_add (l := 3) (h := 599) (bd_add (l := 2) (h := 598) (bd_add (l := 1) (h := 597) hp0 (bd_c (v := 1) (lo := 1) (hi := 1) (by decide)) (by decide)) (bd_c (v := 1) (lo := 1) (hi := 1) (by decide)) (by decide)) (bd_c (v := 1) (lo := 1) (hi := 1) (by decide)) (by decide)) (by decide)) (ws e18 wk_163 rfl) ?_
  replace E := xq_le e18 E
  refine J_aload_n (i := 0) (j := 1) dX11_four_22 rfl rfl ?_
  refine J_get (C := RX11) (T := TX11) (Z := 43) (ci := 11) (f := 2) dX11_four_23 inG11 rfl (by decide) k1266 wc_162 rfl ?_
  refine J_iconst (v := 0) dX11_four_26 (by decide) ?_
  refine J_dup2_11 dX11_four_27 rfl rfl ?_
  refine J_iald dX11_four_28 wc_164 (vin (bd_c (v := 0) (lo := 0) (hi := 0) (by decide)) (by decide)) ?_
  refine J_ci (v := ((((u 164 0) + 1) + 1) + 1)) ((congrFun (ms_c e18 (Nat.ne_of_beq_eq_false rfl)) 0).trans (ms_e e15)) ?_
  refine J_iconst (v := 1) dX11_four_29 (by decide) ?_
  refine J_iadd dX11_four_30 ?_
  obtain ⟨u19, e20⟩ : ∃ z, z = ms u17 164 0 (((((u 164 0) + 1) + 1) + 1) + 1) := ⟨_, rfl⟩
  refine J_iast dX11_four_31 wc_164 (vin (bd_c (v := 0) (lo := 0) (hi := 0) (by decide)) (by decide)) (ws e20 wk_164 rfl) ?_
  replace E := xq_le e20 E
  refine J_iinc (i := 2) (j := 0) (v := (-8)) (lw := [(2, .int (-8)), (0, .ref 162), (1, .int v)]) dX11_four_32 rfl (by decide) (by decide) rfl ?_
  refine J_goto (tgt := 3) dX11_four_35 (by decide) ?_
  refine J_iload_n (i := 2) (j := 0) dX11_four_3 rfl rfl ?_
  refine J_if_lt (tgt := 38) dX11_four_4 (by decide) (fun _ => ?_) (fun q => absurd (by decide) q)
  exact J_vret hq dX11_four_38 rfl wlen (Nat.le_refl _) (Nat.le_refl _) ⟨u19, rfl, rfl, (ms_e e20), E, (fun c k0_ k1_ => ((ms_c e20 k1_).trans ((ms_c e18 k0_).trans ((ms_c e15 k1_).trans ((ms_c e13 k0_).trans ((ms_c e10 k1_).trans ((ms_c e8 k0_).trans ((ms_c e5 k1_).trans (ms_c e3 k0_))))))))), (fun j k0_ => ((ms_i e20 k0_).trans ((congrFun (ms_c e18 (Nat.ne_of_beq_eq_false rfl)) j).trans ((ms_i e15 k0_).trans ((congrFun (ms_c e13 (Nat.ne_of_beq_eq_false rfl)) j).trans ((ms_i e10 k0_).trans ((congrFun (ms_c e8 (Nat.ne_of_beq_eq_false rfl)) j).trans ((ms_i e5 k0_).trans (congrFun (ms_c e3 (Nat.ne_of_beq_eq_false rfl)) j)))))))))⟩
set_option maxRecDepth 100000 in
noncomputable def Fx_M_feedRX (a : Int32) (b : Int32) (c : Int32) (d0 : Int32) (e : Int32) (u : Nat → Nat → Int32) (g : Nat → Nat → Int64) : Int32 × (Nat → Nat → Int32) := xq_lt (ms u 162 0 0) fun u1 => if ((u 164 0) + 20) ≤ (600 : Int32) then (xq_lt (Fx_M_fourX a u1 g) fun u5 => xq_lt (Fx_M_fourX b u5 g) fun u11 => xq_lt (Fx_M_fourX c u11 g) fun u17 => xq_lt (Fx_M_fourX d0 u17 g) fun u23 => xq_lt (Fx_M_fourX e u23 g) fun u29 => (((((((((((((((((((((u 164 0 + 1) + 1) + 1) + 1) + 1) + 1) + 1) + 1) + 1) + 1) + 1) + 1) + 1) + 1) + 1) + 1) + 1) + 1) + 1) + 1), u29)) else ((((-1) : Int32), u1))
set_option maxHeartbeats 4000000 in
set_option maxRecDepth 100000 in
theorem c_M_feedRX {d : Nat} {u : Nat → Nat → Int32} {g : Nat → Nat → Int64} {ex : List MC} {a : Int32} {b : Int32} {c : Int32} {d0 : Int32} {e : Int32} (hd : 1 ≤ d) (hp0 : AB u 164 0 600) : CT con0 d 0 0 yX11_feed cX11_feed 6 (some .int) [.ref 162, .int a, .int b, .int c, .int d0, .int e] (Wd u g ex) (fun r h2 => ∃ (z : Int32) (u2 : Nat → Nat → Int32), r = some (.int z) ∧ h2 = Wd u2 g ex ∧ AB u2 164 0 600 ∧ (FEM (u 164 0) (u2 164 0) z) ∧ (z, u2) = Fx_M_feedRX a b c d0 e u g ∧ (∀ c, nin c [(162, 164)] = true → u2 c = u c) ∧ (∀ j, j ≠ 0 → u2 162 j = u 162 j) ∧ (∀ j, j ≠ 0 → u2 164 j = u 164 j)) := by
  refine CT_of (by decide) (Nat.le_of_ble_eq_true rfl) (fun x hq => ?_)
  show J x yX11_feed cX11_feed 6 (some .int) d 0 0 (Wd u g ex).length 0 [(0, .ref 162), (1, .int a), (2, .int b), (3, .int c), (4, .int d0), (5, .int e)] [] (Wd u g ex) 0 0
  have E : Fx_M_feedRX a b c d0 e u g = Fx_M_feedRX a b c d0 e u g := rfl
  refine J_aload_n (i := 0) (j := 0) dX11_feed_0 rfl rfl ?_
  refine J_iconst (v := 0) dX11_feed_1 (by decide) ?_
  obtain ⟨u1, e2⟩ : ∃ z, z = ms u 162 0 0 := ⟨_, rfl⟩
  refine J_put (C := RX11) (T := TX11) (Z := 43) (ci := 11) (f := 0) (ty0 := tyX11) dX11_feed_2 inG11 rfl tyX11_ok nmX11 (by decide) k1264 rfl rfl wc_162 (Nat.le_of_ble_eq_true rfl) (fun _ _ => ⟨rfl, rfl⟩) (ws e2 wk_162 rfl) ?_
  replace E := xq_le e2 E
  refine J_aload_n (i := 0) (j := 0) dX11_feed_5 rfl rfl ?_
  refine J_get (C := RX11) (T := TX11) (Z := 43) (ci := 11) (f := 2) dX11_feed_6 inG11 rfl (by decide) k1266 wc_162 rfl ?_
  refine J_iconst (v := 0) dX11_feed_9 (by decide) ?_
  refine J_iald dX11_feed_10 wc_164 (vin (bd_c (v := 0) (lo := 0) (hi := 0) (by decide)) (by decide)) ?_
  refine J_ci (v := u 164 0) (congrFun (ms_c e2 (Nat.ne_of_beq_eq_false rfl)) 0) ?_
  refine J_bipush (v := 20) dX11_feed_11 (by decide) ?_
  refine J_iadd dX11_feed_13 ?_
  refine J_sipush (v := 600) dX11_feed_14 (by decide) ?_
  refine J_icmp_le (tgt := 22) dX11_feed_17 (by decide) (fun c3 => ?_) (fun c3 => ?_)
  · replace E := xq_ep c3 E
    refine J_aload_n (i := 0) (j := 0) dX11_feed_22 rfl rfl ?_
    refine J_iload_n (i := 1) (j := 1) dX11_feed_23 rfl rfl ?_
    refine J_callV (As := [.int a]) (rest := []) dX11_feed_24 (c_M_fourX (d := 0) (u := u1) (g := g) (ex := ex) (v := a)  (by decide) (bd_r (congrFun (ms_c e2 (Nat.ne_of_beq_eq_false rfl)) 0) (bd_w (l := 0) (h := 596) (bd_adc (c := 20) (h := 580) (hp0 0) c3 (bd_c (v := 600) (lo := 600) (hi := 600) (by decide)) (by decide)) (by decide)))) hq.n k1398 k1400 k36 wc_162 rfl rfl k97 k1401 np_X11_four (Nat.le_trans (by decide) hd) (by decide) (Nat.le_refl _) (Nat.le_refl _) wlen rfl (Nat.le_of_ble_eq_true rfl) (fun r_ h_ p4 => ?_)
    obtain ⟨u5, rfl, rfl, h6, hx7, fr8, fc9⟩ := p4
    replace E := xq_le hx7 E
    refine J_aload_n (i := 0) (j := 0) dX11_feed_27 rfl rfl ?_
    refine J_iload_n (i := 2) (j := 2) dX11_feed_28 rfl rfl ?_
    refine J_callV (As := [.int b]) (rest := []) dX11_feed_29 (c_M_fourX (d := 0) (u := u5) (g := g) (ex := ex) (v := b)  (by decide) (bd_r (h6.trans (congrArg (fun z : Int32 => z + 1 + 1 + 1 + 1) (congrFun (ms_c e2 (Nat.ne_of_beq_eq_false rfl)) 0))) (bd_w (l := 0) (h := 596) (bd_add (l := 4) (h := 584) (bd_add (l := 3) (h := 583) (bd_add (l := 2) (h := 582) (bd_add (l := 1) (h := 581) (bd_adc (c := 20) (h := 580) (hp0 0) c3 (bd_c (v := 600) (lo := 600) (hi := 600) (by decide)) (by decide)) (bd_c (v := 1) (lo := 1) (hi := 1) (by decide)) (by decide)) (bd_c (v := 1) (lo := 1) (hi := 1) (by decide)) (by decide)) (bd_c (v := 1) (lo := 1) (hi := 1) (by decide)) (by decide)) (bd_c (v := 1) (lo := 1) (hi := 1) (by decide)) (by decide)) (by decide)))) hq.n k1398 k1400 k36 wc_162 rfl rfl k97 k1401 np_X11_four (Nat.le_trans (by decide) hd) (by decide) (Nat.le_refl _) (Nat.le_refl _) wlen rfl (Nat.le_of_ble_eq_true rfl) (fun r_ h_ p10 => ?_)
    obtain ⟨u11, rfl, rfl, h12, hx13, fr14, fc15⟩ := p10
    replace E := xq_le hx13 E
    refine J_aload_n (i := 0) (j := 0) dX11_feed_32 rfl rfl ?_
    refine J_iload_n (i := 3) (j := 3) dX11_feed_33 rfl rfl ?_
    refine J_callV (As := [.int c]) (rest := []) dX11_feed_34 (c_M_fourX (d := 0) (u := u11) (g := g) (ex := ex) (v := c)  (by decide) (bd_r (h12.trans (congrArg (fun z : Int32 => z + 1 + 1 + 1 + 1) (h6.trans (congrArg (fun z : Int32 => z + 1 + 1 + 1 + 1) (congrFun (ms_c e2 (Nat.ne_of_beq_eq_false rfl)) 0))))) (bd_w (l := 0) (h := 596) (bd_add (l := 8) (h := 588) (bd_add (l := 7) (h := 587) (bd_add (l := 6) (h := 586) (bd_add (l := 5) (h := 585) (bd_add (l := 4) (h := 584) (bd_add (l := 3) (h := 583) (bd_add (l := 2) (h := 582) (bd_add (l := 1) (h := 581) (bd_adc (c := 20) (h := 580) (hp0 0) c3 (bd_c (v := 600) (lo := 600) (hi := 600) (by decide)) (by decide)) (bd_c (v := 1) (lo := 1) (hi := 1) (by decide)) (by decide)) (bd_c (v := 1) (lo := 1) (hi := 1) (by decide)) (by decide)) (bd_c (v := 1) (lo := 1) (hi := 1) (by decide)) (by decide)) (bd_c (v := 1) (lo := 1) (hi := 1) (by decide)) (by decide)) (bd_c (v := 1) (lo := 1) (hi := 1) (by decide)) (by decide)) (bd_c (v := 1) (lo := 1) (hi := 1) (by decide)) (by decide)) (bd_c (v := 1) (lo := 1) (hi := 1) (by decide)) (by decide)) (bd_c (v := 1) (lo := 1) (hi := 1) (by decide)) (by decide)) (by decide)))) hq.n k1398 k1400 k36 wc_162 rfl rfl k97 k1401 np_X11_four (Nat.le_trans (by decide) hd) (by decide) (Nat.le_refl _) (Nat.le_refl _) wlen rfl (Nat.le_of_ble_eq_true rfl) (fun r_ h_ p16 => ?_)
    obtain ⟨u17, rfl, rfl, h18, hx19, fr20, fc21⟩ := p16
    replace E := xq_le hx19 E
    refine J_aload_n (i := 0) (j := 0) dX11_feed_37 rfl rfl ?_
    refine J_iload (i := 4) (j := 4) dX11_feed_38 rfl ?_
    refine J_callV (As := [.int d0]) (rest := []) dX11_feed_40 (c_M_fourX (d := 0) (u := u17) (g := g) (ex := ex) (v := d0)  (by decide) (bd_r (h18.trans (congrArg (fun z : Int32 => z + 1 + 1 + 1 + 1) (h12.trans (congrArg (fun z : Int32 => z + 1 + 1 + 1 + 1) (h6.trans (congrArg (fun z : Int32 => z + 1 + 1 + 1 + 1) (congrFun (ms_c e2 (Nat.ne_of_beq_eq_false rfl)) 0))))))) (bd_w (l := 0) (h := 596) (bd_add (l := 12) (h := 592) (bd_add (l := 11) (h := 591) (bd_add (l := 10) (h := 590) (bd_add (l := 9) (h := 589) (bd_add (l := 8) (h := 588) (bd_add (l := 7) (h := 587) (bd_add (l := 6) (h := 586) (bd_add (l := 5) (h := 585) (bd_add (l := 4) (h := 584) (bd_add (l := 3) (h := 583) (bd_add (l := 2) (h := 582) (bd_add (l := 1) (h := 581) (bd_adc (c := 20) (h := 580) (hp0 0) c3 (bd_c (v := 600) (lo := 600) (hi := 600) (by decide)) (by decide)) (bd_c (v := 1) (lo := 1) (hi := 1) (by decide)) (by decide)) (bd_c (v := 1) (lo := 1) (hi := 1) (by decide)) (by decide)) (bd_c (v := 1) (lo := 1) (hi := 1) (by decide)) (by decide)) (bd_c (v := 1) (lo := 1) (hi := 1) (by decide)) (by decide)) (bd_c (v := 1) (lo := 1) (hi := 1) (by decide)) (by decide)) (bd_c (v := 1) (lo := 1) (hi := 1) (by decide)) (by decide)) (bd_c (v := 1) (lo := 1) (hi := 1) (by decide)) (by decide)) (bd_c (v := 1) (lo := 1) (hi := 1) (by decide)) (by decide)) (bd_c (v := 1) (lo := 1) (hi := 1) (by decide)) (by decide)) (bd_c (v := 1) (lo := 1) (hi := 1) (by decide)) (by decide)) (bd_c (v := 1) (lo := 1) (hi := 1) (by decide)) (by decide)) (bd_c (v := 1) (lo := 1) (hi := 1) (by decide)) (by decide)) (by decide)))) hq.n k1398 k1400 k36 wc_162 rfl rfl k97 k1401 np_X11_four (Nat.le_trans (by decide) hd) (by decide) (Nat.le_refl _) (Nat.le_refl _) wlen rfl (Nat.le_of_ble_eq_true rfl) (fun r_ h_ p22 => ?_)
    obtain ⟨u23, rfl, rfl, h24, hx25, fr26, fc27⟩ := p22
    replace E := xq_le hx25 E
    refine J_aload_n (i := 0) (j := 0) dX11_feed_43 rfl rfl ?_
    refine J_iload (i := 5) (j := 5) dX11_feed_44 rfl ?_
    refine J_callV (As := [.int e]) (rest := []) dX11_feed_46 (c_M_fourX (d := 0) (u := u23) (g := g) (ex := ex) (v := e)  (by decide) (bd_r (h24.trans (congrArg (fun z : Int32 => z + 1 + 1 + 1 + 1) (h18.trans (congrArg (fun z : Int32 => z + 1 + 1 + 1 + 1) (h12.trans (congrArg (fun z : Int32 => z + 1 + 1 + 1 + 1) (h6.trans (congrArg (fun z : Int32 => z + 1 + 1 + 1 + 1) (congrFun (ms_c e2 (Nat.ne_of_beq_eq_false rfl)) 0))))))))) (bd_w (l := 0) (h := 596) (bd_add (l := 16) (h := 596) (bd_add (l := 15) (h := 595) (bd_add (l := 14) (h := 594) (bd_add (l := 13) (h := 593) (bd_add (l := 12) (h := 592) (bd_add (l := 11) (h := 591) (bd_add (l := 10) (h := 590) (bd_add (l := 9) (h := 589) (bd_add (l := 8) (h := 588) (bd_add (l := 7) (h := 587) (bd_add (l := 6) (h := 586) (bd_add (l := 5) (h := 585) (bd_add (l := 4) (h := 584) (bd_add (l := 3) (h := 583) (bd_add (l := 2) (h := 582) (bd_add (l := 1) (h := 581) (bd_adc (c := 20) (h := 580) (hp0 0) c3 (bd_c (v := 600) (lo := 600) (hi := 600) (by decide)) (by decide)) (bd_c (v := 1) (lo := 1) (hi := 1) (by decide)) (by decide)) (bd_c (v := 1) (lo := 1) (hi := 1) (by decide)) (by decide)) (bd_c (v := 1) (lo := 1) (hi := 1) (by decide)) (by decide)) (bd_c (v := 1) (lo := 1) (hi := 1) (by decide)) (by decide)) (bd_c (v := 1) (lo := 1) (hi := 1) (by decide)) (by decide)) (bd_c (v := 1) (lo := 1) (hi := 1) (by decide)) (by decide)) (bd_c (v := 1) (lo := 1) (hi := 1) (by decide)) (by decide)) (bd_c (v := 1) (lo := 1) (hi := 1) (by decide)) (by decide)) (bd_c (v := 1) (lo := 1) (hi := 1) (by decide)) (by decide)) (bd_c (v := 1) (lo := 1) (hi := 1) (by decide)) (by decide)) (bd_c (v := 1) (lo := 1) (hi := 1) (by decide)) (by decide)) (bd_c (v := 1) (lo := 1) (hi := 1) (by decide)) (by decide)) (bd_c (v := 1) (lo := 1) (hi := 1) (by decide)) (by decide)) (bd_c (v := 1) (lo := 1) (hi := 1) (by decide)) (by decide)) (bd_c (v := 1) (lo := 1) (hi := 1) (by decide)) (by decide)) (bd_c (v := 1) (lo := 1) (hi := 1) (by decide)) (by decide)) (by decide)))) hq.n k1398 k1400 k36 wc_162 rfl rfl k97 k1401 np_X11_four (Nat.le_trans (by decide) hd) (by decide) (Nat.le_refl _) (Nat.le_refl _) wlen rfl (Nat.le_of_ble_eq_true rfl) (fun r_ h_ p28 => ?_)
    obtain ⟨u29, rfl, rfl, h30, hx31, fr32, fc33⟩ := p28
    replace E := xq_le hx31 E
    refine J_aload_n (i := 0) (j := 0) dX11_feed_49 rfl rfl ?_
    refine J_get (C := RX11) (T := TX11) (Z := 43) (ci := 11) (f := 2) dX11_feed_50 inG11 rfl (by decide) k1266 wc_162 rfl ?_
    refine J_iconst (v := 0) dX11_feed_53 (by decide) ?_
    refine J_iald dX11_feed_54 wc_164 (vin (bd_c (v := 0) (lo := 0) (hi := 0) (by decide)) (by decide)) ?_
    refine J_ci (v := ((((((((((((((((((((u 164 0 + 1) + 1) + 1) + 1) + 1) + 1) + 1) + 1) + 1) + 1) + 1) + 1) + 1) + 1) + 1) + 1) + 1) + 1) + 1) + 1)) (h30.trans (congrArg (fun z : Int32 => z + 1 + 1 + 1 + 1) (h24.trans (congrArg (fun z : Int32 => z + 1 + 1 + 1 + 1) (h18.trans (congrArg (fun z : Int32 => z + 1 + 1 + 1 + 1) (h12.trans (congrArg (fun z : Int32 => z + 1 + 1 + 1 + 1) (h6.trans (congrArg (fun z : Int32 => z + 1 + 1 + 1 + 1) (congrFun (ms_c e2 (Nat.ne_of_beq_eq_false rfl)) 0))))))))))) ?_
    exact J_iret hq dX11_feed_55 rfl wlen (Nat.le_refl _) (Nat.le_refl _) ⟨((((((((((((((((((((u 164 0 + 1) + 1) + 1) + 1) + 1) + 1) + 1) + 1) + 1) + 1) + 1) + 1) + 1) + 1) + 1) + 1) + 1) + 1) + 1) + 1), u29, rfl, rfl, (ab_i fc33 (ab_i fc27 (ab_i fc21 (ab_i fc15 (ab_i fc9 (ab_c (ms_c e2 (Nat.ne_of_beq_eq_false rfl)) hp0) (bd_r (h6.trans (congrArg (fun z : Int32 => z + 1 + 1 + 1 + 1) (congrFun (ms_c e2 (Nat.ne_of_beq_eq_false rfl)) 0))) (bd_w (l := 0) (h := 600) (bd_add (l := 4) (h := 584) (bd_add (l := 3) (h := 583) (bd_add (l := 2) (h := 582) (bd_add (l := 1) (h := 581) (bd_adc (c := 20) (h := 580) (hp0 0) c3 (bd_c (v := 600) (lo := 600) (hi := 600) (by decide)) (by decide)) (bd_c (v := 1) (lo := 1) (hi := 1) (by decide)) (by decide)) (bd_c (v := 1) (lo := 1) (hi := 1) (by decide)) (by decide)) (bd_c (v := 1) (lo := 1) (hi := 1) (by decide)) (by decide)) (bd_c (v := 1) (lo := 1) (hi := 1) (by decide)) (by decide)) (by decide)))) (bd_r (h12.trans (congrArg (fun z : Int32 => z + 1 + 1 + 1 + 1) (h6.trans (congrArg (fun z : Int32 => z + 1 + 1 + 1 + 1) (congrFun (ms_c e2 (Nat.ne_of_beq_eq_false rfl)) 0))))) (bd_w (l := 0) (h := 600) (bd_add (l := 8) (h := 588) (bd_add (l := 7) (h := 587) (bd_add (l := 6) (h := 586) (bd_add (l := 5) (h := 585) (bd_add (l := 4) (h := 584) (bd_add (l := 3) (h := 583) (bd_add (l := 2) (h := 582) (bd_add (l := 1) (h := 581) (bd_adc (c := 20) (h := 580) (hp0 0) c3 (bd_c (v := 600) (lo := 600) (hi := 600) (by decide)) (by decide)) (bd_c (v := 1) (lo := 1) (hi := 1) (by decide)) (by decide)) (bd_c (v := 1) (lo := 1) (hi := 1) (by decide)) (by decide)) (bd_c (v := 1) (lo := 1) (hi := 1) (by decide)) (by decide)) (bd_c (v := 1) (lo := 1) (hi := 1) (by decide)) (by decide)) (bd_c (v := 1) (lo := 1) (hi := 1) (by decide)) (by decide)) (bd_c (v := 1) (lo := 1) (hi := 1) (by decide)) (by decide)) (bd_c (v := 1) (lo := 1) (hi := 1) (by decide)) (by decide)) (bd_c (v := 1) (lo := 1) (hi := 1) (by decide)) (by decide)) (by decide)))) (bd_r (h18.trans (congrArg (fun z : Int32 => z + 1 + 1 + 1 + 1) (h12.trans (congrArg (fun z : Int32 => z + 1 + 1 + 1 + 1) (h6.trans (congrArg (fun z : Int32 => z + 1 + 1 + 1 + 1) (congrFun (ms_c e2 (Nat.ne_of_beq_eq_false rfl)) 0))))))) (bd_w (l := 0) (h := 600) (bd_add (l := 12) (h := 592) (bd_add (l := 11) (h := 591) (bd_add (l := 10) (h := 590) (bd_add (l := 9) (h := 589) (bd_add (l := 8) (h := 588) (bd_add (l := 7) (h := 587) (bd_add (l := 6) (h := 586) (bd_add (l := 5) (h := 585) (bd_add (l := 4) (h := 584) (bd_add (l := 3) (h := 583) (bd_add (l := 2) (h := 582) (bd_add (l := 1) (h := 581) (bd_adc (c := 20) (h := 580) (hp0 0) c3 (bd_c (v := 600) (lo := 600) (hi := 600) (by decide)) (by decide)) (bd_c (v := 1) (lo := 1) (hi := 1) (by decide)) (by decide)) (bd_c (v := 1) (lo := 1) (hi := 1) (by decide)) (by decide)) (bd_c (v := 1) (lo := 1) (hi := 1) (by decide)) (by decide)) (bd_c (v := 1) (lo := 1) (hi := 1) (by decide)) (by decide)) (bd_c (v := 1) (lo := 1) (hi := 1) (by decide)) (by decide)) (bd_c (v := 1) (lo := 1) (hi := 1) (by decide)) (by decide)) (bd_c (v := 1) (lo := 1) (hi := 1) (by decide)) (by decide)) (bd_c (v := 1) (lo := 1) (hi := 1) (by decide)) (by decide)) (bd_c (v := 1) (lo := 1) (hi := 1) (by decide)) (by decide)) (bd_c (v := 1) (lo := 1) (hi := 1) (by decide)) (by decide)) (bd_c (v := 1) (lo := 1) (hi := 1) (by decide)) (by decide)) (bd_c (v := 1) (lo := 1) (hi := 1) (by decide)) (by decide)) (by decide)))) (bd_r (h24.trans (congrArg (fun z : Int32 => z + 1 + 1 + 1 + 1) (h18.trans (congrArg (fun z : Int32 => z + 1 + 1 + 1 + 1) (h12.trans (congrArg (fun z : Int32 => z + 1 + 1 + 1 + 1) (h6.trans (congrArg (fun z : Int32 => z + 1 + 1 + 1 + 1) (congrFun (ms_c e2 (Nat.ne_of_beq_eq_false rfl)) 0))))))))) (bd_w (l := 0) (h := 600) (bd_add (l := 16) (h := 596) (bd_add (l := 15) (h := 595) (bd_add (l := 14) (h := 594) (bd_add (l := 13) (h := 593) (bd_add (l := 12) (h := 592) (bd_add (l := 11) (h := 591) (bd_add (l := 10) (h := 590) (bd_add (l := 9) (h := 589) (bd_add (l := 8) (h := 588) (bd_add (l := 7) (h := 587) (bd_add (l := 6) (h := 586) (bd_add (l := 5) (h := 585) (bd_add (l := 4) (h := 584) (bd_add (l := 3) (h := 583) (bd_add (l := 2) (h := 582) (bd_add (l := 1) (h := 581) (bd_adc (c := 20) (h := 580) (hp0 0) c3 (bd_c (v := 600) (lo := 600) (hi := 600) (by decide)) (by decide)) (bd_c (v := 1) (lo := 1) (hi := 1) (by decide)) (by decide)) (bd_c (v := 1) (lo := 1) (hi := 1) (by decide)) (by decide)) (bd_c (v := 1) (lo := 1) (hi := 1) (by decide)) (by decide)) (bd_c (v := 1) (lo := 1) (hi := 1) (by decide)) (by decide)) (bd_c (v := 1) (lo := 1) (hi := 1) (by decide)) (by decide)) (bd_c (v := 1) (lo := 1) (hi := 1) (by decide)) (by decide)) (bd_c (v := 1) (lo := 1) (hi := 1) (by decide)) (by decide)) (bd_c (v := 1) (lo := 1) (hi := 1) (by decide)) (by decide)) (bd_c (v := 1) (lo := 1) (hi := 1) (by decide)) (by decide)) (bd_c (v := 1) (lo := 1) (hi := 1) (by decide)) (by decide)) (bd_c (v := 1) (lo := 1) (hi := 1) (by decide)) (by decide)) (bd_c (v := 1) (lo := 1) (hi := 1) (by decide)) (by decide)) (bd_c (v := 1) (lo := 1) (hi := 1) (by decide)) (by decide)) (bd_c (v := 1) (lo := 1) (hi := 1) (by decide)) (by decide)) (bd_c (v := 1) (lo := 1) (hi := 1) (by decide)) (by decide)) (bd_c (v := 1) (lo := 1) (hi := 1) (by decide)) (by decide)) (by decide)))) (bd_r (h30.trans (congrArg (fun z : Int32 => z + 1 + 1 + 1 + 1) (h24.trans (congrArg (fun z : Int32 => z + 1 + 1 + 1 + 1) (h18.trans (congrArg (fun z : Int32 => z + 1 + 1 + 1 + 1) (h12.trans (congrArg (fun z : Int32 => z + 1 + 1 + 1 + 1) (h6.trans (congrArg (fun z : Int32 => z + 1 + 1 + 1 + 1) (congrFun (ms_c e2 (Nat.ne_of_beq_eq_false rfl)) 0))))))))))) (bd_w (l := 0) (h := 600) (bd_add (l := 20) (h := 600) (bd_add (l := 19) (h := 599) (bd_add (l := 18) (h := 598) (bd_add (l := 17) (h := 597) (bd_add (l := 16) (h := 596) (bd_add (l := 15) (h := 595) (bd_add (l := 14) (h := 594) (bd_add (l := 13) (h := 593) (bd_add (l := 12) (h := 592) (bd_add (l := 11) (h := 591) (bd_add (l := 10) (h := 590) (bd_add (l := 9) (h := 589) (bd_add (l := 8) (h := 588) (bd_add (l := 7) (h := 587) (bd_add (l := 6) (h := 586) (bd_add (l := 5) (h := 585) (bd_add (l := 4) (h := 584) (bd_add (l := 3) (h := 583) (bd_add (l := 2) (h := 582) (bd_add (l := 1) (h := 581) (bd_adc (c := 20) (h := 580) (hp0 0) c3 (bd_c (v := 600) (lo := 600) (hi := 600) (by decide)) (by decide)) (bd_c (v := 1) (lo := 1) (hi := 1) (by decide)) (by decide)) (bd_c (v := 1) (lo := 1) (hi := 1) (by decide)) (by decide)) (bd_c (v := 1) (lo := 1) (hi := 1) (by decide)) (by decide)) (bd_c (v := 1) (lo := 1) (hi := 1) (by decide)) (by decide)) (bd_c (v := 1) (lo := 1) (hi := 1) (by decide)) (by decide)) (bd_c (v := 1) (lo := 1) (hi := 1) (by decide)) (by decide)) (bd_c (v := 1) (lo := 1) (hi := 1) (by decide)) (by decide)) (bd_c (v := 1) (lo := 1) (hi := 1) (by decide)) (by decide)) (bd_c (v := 1) (lo := 1) (hi := 1) (by decide)) (by decide)) (bd_c (v := 1) (lo := 1) (hi := 1) (by decide)) (by decide)) (bd_c (v := 1) (lo := 1) (hi := 1) (by decide)) (by decide)) (bd_c (v := 1) (lo := 1) (hi := 1) (by decide)) (by decide)) (bd_c (v := 1) (lo := 1) (hi := 1) (by decide)) (by decide)) (bd_c (v := 1) (lo := 1) (hi := 1) (by decide)) (by decide)) (bd_c (v := 1) (lo := 1) (hi := 1) (by decide)) (by decide)) (bd_c (v := 1) (lo := 1) (hi := 1) (by decide)) (by decide)) (bd_c (v := 1) (lo := 1) (hi := 1) (by decide)) (by decide)) (bd_c (v := 1) (lo := 1) (hi := 1) (by decide)) (by decide)) (bd_c (v := 1) (lo := 1) (hi := 1) (by decide)) (by decide)) (bd_c (v := 1) (lo := 1) (hi := 1) (by decide)) (by decide)) (by decide)))), (Or.inr ⟨c3, (h30.trans (congrArg (fun z : Int32 => z + 1 + 1 + 1 + 1) (h24.trans (congrArg (fun z : Int32 => z + 1 + 1 + 1 + 1) (h18.trans (congrArg (fun z : Int32 => z + 1 + 1 + 1 + 1) (h12.trans (congrArg (fun z : Int32 => z + 1 + 1 + 1 + 1) (h6.trans (congrArg (fun z : Int32 => z + 1 + 1 + 1 + 1) (congrFun (ms_c e2 (Nat.ne_of_beq_eq_false rfl)) 0))))))))))).symm, (h30.trans (congrArg (fun z : Int32 => z + 1 + 1 + 1 + 1) (h24.trans (congrArg (fun z : Int32 => z + 1 + 1 + 1 + 1) (h18.trans (congrArg (fun z : Int32 => z + 1 + 1 + 1 + 1) (h12.trans (congrArg (fun z : Int32 => z + 1 + 1 + 1 + 1) (h6.trans (congrArg (fun z : Int32 => z + 1 + 1 + 1 + 1) (congrFun (ms_c e2 (Nat.ne_of_beq_eq_false rfl)) 0)))))))))))⟩), E, (fun c k_ => ((fr32 c (nin_ne (a := 163) k_ rfl) (nin_ne (a := 164) k_ rfl)).trans ((fr26 c (nin_ne (a := 163) k_ rfl) (nin_ne (a := 164) k_ rfl)).trans ((fr20 c (nin_ne (a := 163) k_ rfl) (nin_ne (a := 164) k_ rfl)).trans ((fr14 c (nin_ne (a := 163) k_ rfl) (nin_ne (a := 164) k_ rfl)).trans ((fr8 c (nin_ne (a := 163) k_ rfl) (nin_ne (a := 164) k_ rfl)).trans (ms_c e2 (nin_ne (a := 162) k_ rfl)))))))), (fun j k0_ => ((congrFun (fr32 162 (Nat.ne_of_beq_eq_false rfl) (Nat.ne_of_beq_eq_false rfl)) j).trans ((congrFun (fr26 162 (Nat.ne_of_beq_eq_false rfl) (Nat.ne_of_beq_eq_false rfl)) j).trans ((congrFun (fr20 162 (Nat.ne_of_beq_eq_false rfl) (Nat.ne_of_beq_eq_false rfl)) j).trans ((congrFun (fr14 162 (Nat.ne_of_beq_eq_false rfl) (Nat.ne_of_beq_eq_false rfl)) j).trans ((congrFun (fr8 162 (Nat.ne_of_beq_eq_false rfl) (Nat.ne_of_beq_eq_false rfl)) j).trans (ms_i e2 k0_))))))), (fun j k0_ => ((fc33 j k0_).trans ((fc27 j k0_).trans ((fc21 j k0_).trans ((fc15 j k0_).trans ((fc9 j k0_).trans (congrFun (ms_c e2 (Nat.ne_of_beq_eq_false rfl)) j)))))))⟩
  · replace E := xq_en c3 E
    refine J_iconst (v := (-1)) dX11_feed_20 (by decide) ?_
    exact J_iret hq dX11_feed_21 rfl wlen (Nat.le_refl _) (Nat.le_refl _) ⟨((-1) : Int32), u1, rfl, rfl, (ab_c (ms_c e2 (Nat.ne_of_beq_eq_false rfl)) hp0), (Or.inl ⟨(i_nle c3), rfl, (congrFun (ms_c e2 (Nat.ne_of_beq_eq_false rfl)) 0)⟩), E, (fun c k_ => (ms_c e2 (nin_ne (a := 162) k_ rfl))), (fun j k0_ => (ms_i e2 k0_)), (fun j k0_ => (congrFun (ms_c e2 (Nat.ne_of_beq_eq_false rfl)) j))⟩
set_option maxRecDepth 100000 in
noncomputable def Fx_M_endRX (n : Int32) (u : Nat → Nat → Int32) (g : Nat → Nat → Int64) : Int32 × (Nat → Nat → Int32) := xq_lt (ms u 162 0 0) fun u1 => xq_lt (Fx_M_inEX n (0 : Int32) (u 164 0) u1 g) fun t4 => if t4 = true then (xq_lt (ms u1 164 0 n) fun u10 => (n, u10)) else ((((-1) : Int32), u1))
set_option maxHeartbeats 4000000 in
set_option maxRecDepth 100000 in
theorem c_M_endRX {d : Nat} {u : Nat → Nat → Int32} {g : Nat → Nat → Int64} {ex : List MC} {n : Int32} (hd : 1 ≤ d) (hp0 : AB u 164 0 600) : CT con0 d 0 0 yX11_end cX11_end 2 (some .int) [.ref 162, .int n] (Wd u g ex) (fun r h2 => ∃ (z : Int32) (u2 : Nat → Nat → Int32), r = some (.int z) ∧ h2 = Wd u2 g ex ∧ AB u2 164 0 600 ∧ (ENX (u 164 0) (u2 164 0) n z) ∧ (z, u2) = Fx_M_endRX n u g ∧ (∀ c, c ≠ 162 → c ≠ 164 → u2 c = u c) ∧ (∀ j, j ≠ 0 → u2 162 j = u 162 j) ∧ (∀ j, j ≠ 0 → u2 164 j = u 164 j)) := by
  refine CT_of (by decide) (Nat.le_of_ble_eq_true rfl) (fun x hq => ?_)
  show J x yX11_end cX11_end 2 (some .int) d 0 0 (Wd u g ex).length 0 [(0, .ref 162), (1, .int n)] [] (Wd u g ex) 0 0
  have E : Fx_M_endRX n u g = Fx_M_endRX n u g := rfl
  refine J_aload_n (i := 0) (j := 0) dX11_end_0 rfl rfl ?_
  refine J_iconst (v := 0) dX11_end_1 (by decide) ?_
  obtain ⟨u1, e2⟩ : ∃ z, z = ms u 162 0 0 := ⟨_, rfl⟩
  refine J_put (C := RX11) (T := TX11) (Z := 43) (ci := 11) (f := 0) (ty0 := tyX11) dX11_end_2 inG11 rfl tyX11_ok nmX11 (by decide) k1264 rfl rfl wc_162 (Nat.le_of_ble_eq_true rfl) (fun _ _ => ⟨rfl, rfl⟩) (ws e2 wk_162 rfl) ?_
  replace E := xq_le e2 E
  refine J_iload_n (i := 1) (j := 1) dX11_end_5 rfl rfl ?_
  refine J_iconst (v := 0) dX11_end_6 (by decide) ?_
  refine J_aload_n (i := 0) (j := 0) dX11_end_7 rfl rfl ?_
  refine J_get (C := RX11) (T := TX11) (Z := 43) (ci := 11) (f := 2) dX11_end_8 inG11 rfl (by decide) k1266 wc_162 rfl ?_
  refine J_iconst (v := 0) dX11_end_11 (by decide) ?_
  refine J_iald dX11_end_12 wc_164 (vin (bd_c (v := 0) (lo := 0) (hi := 0) (by decide)) (by decide)) ?_
  refine J_ci (v := u 164 0) (congrFun (ms_c e2 (Nat.ne_of_beq_eq_false rfl)) 0) ?_
  refine J_callS (As := [.int n, .int 0, .int (u 164 0)]) (rest := []) dX11_end_13 (c_M_inEX (d := 0) (u := u1) (g := g) (ex := ex) (v := n) (low := 0) (high := u 164 0)  (by decide) ) hq.n k1406 k1407 k97 k1408 np_X11_in (Nat.le_trans (by decide) hd) (by decide) (Nat.le_refl _) (Nat.le_refl _) wlen rfl (Nat.le_of_ble_eq_true rfl) (fun r_ h_ p3 => ?_)
  obtain ⟨t4, rfl, rfl, h5, h6, h7, hx8⟩ := p3
  replace E := xq_le hx8 E
  refine J_ifB_ne (tgt := 21) dX11_end_16 (by decide) (fun c9 => ?_) (fun c9 => ?_)
  · replace E := xq_ep c9 E
    refine J_aload_n (i := 0) (j := 0) dX11_end_21 rfl rfl ?_
    refine J_get (C := RX11) (T := TX11) (Z := 43) (ci := 11) (f := 2) dX11_end_22 inG11 rfl (by decide) k1266 wc_162 rfl ?_
    refine J_iconst (v := 0) dX11_end_25 (by decide) ?_
    refine J_iload_n (i := 1) (j := 1) dX11_end_26 rfl rfl ?_
    obtain ⟨u10, e11⟩ : ∃ z, z = ms u1 164 0 n := ⟨_, rfl⟩
    refine J_iast dX11_end_27 wc_164 (vin (bd_c (v := 0) (lo := 0) (hi := 0) (by decide)) (by decide)) (ws e11 wk_164 rfl) ?_
    replace E := xq_le e11 E
    refine J_iload_n (i := 1) (j := 1) dX11_end_28 rfl rfl ?_
    exact J_iret hq dX11_end_29 rfl wlen (Nat.le_refl _) (Nat.le_refl _) ⟨n, u10, rfl, rfl, (ab_s e11 (ab_c (ms_c e2 (Nat.ne_of_beq_eq_false rfl)) hp0) (bd_le_hi (bd_le_lo (bd_any n) (h5 c9) (bd_c (v := 0) (lo := 0) (hi := 0) (by decide))) (h6 c9) (hp0 0))), (Or.inr ⟨⟨(h5 c9), (h6 c9)⟩, rfl, (ms_e e11)⟩), E, (fun c k0_ k1_ => ((ms_c e11 k1_).trans (ms_c e2 k0_))), (fun j k0_ => ((congrFun (ms_c e11 (Nat.ne_of_beq_eq_false rfl)) j).trans (ms_i e2 k0_))), (fun j k0_ => ((ms_i e11 k0_).trans (congrFun (ms_c e2 (Nat.ne_of_beq_eq_false rfl)) j)))⟩
  · replace E := xq_ef c9 E
    refine J_iconst (v := (-1)) dX11_end_19 (by decide) ?_
    exact J_iret hq dX11_end_20 rfl wlen (Nat.le_refl _) (Nat.le_refl _) ⟨((-1) : Int32), u1, rfl, rfl, (ab_c (ms_c e2 (Nat.ne_of_beq_eq_false rfl)) hp0), (Or.inl ⟨(fun q => absurd ((fun e => (h7.mpr e).symm.trans c9) q) (by decide)), rfl, (congrFun (ms_c e2 (Nat.ne_of_beq_eq_false rfl)) 0)⟩), E, (fun c k0_ k1_ => (ms_c e2 k0_)), (fun j k0_ => (ms_i e2 k0_)), (fun j k0_ => (congrFun (ms_c e2 (Nat.ne_of_beq_eq_false rfl)) j))⟩
