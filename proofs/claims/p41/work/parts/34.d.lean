set_option maxRecDepth 100000 in
noncomputable def Fx_M_inEX (v : Int32) (low : Int32) (high : Int32) (u : Nat → Nat → Int32) (g : Nat → Nat → Int64) : Bool := if v < low then (false) else (if high < v then (false) else (true))
set_option maxHeartbeats 4000000 in
set_option maxRecDepth 100000 in
theorem c_M_inEX {d : Nat} {u : Nat → Nat → Int32} {g : Nat → Nat → Int64} {ex : List MC} {v : Int32} {low : Int32} {high : Int32} (hd : 0 ≤ d)  : CT con0 d 0 0 yX11_in cX11_in 3 (some .boolean) [.int v, .int low, .int high] (Wd u g ex) (fun r h2 => ∃ (z : Bool), r = some (.int (bI z)) ∧ h2 = Wd u g ex ∧ (z = true → low ≤ v) ∧ (z = true → v ≤ high) ∧ (z = true ↔ (low ≤ v ∧ v ≤ high)) ∧ z = Fx_M_inEX v low high u g) := by
  refine CT_of (by decide) (Nat.le_of_ble_eq_true rfl) (fun x hq => ?_)
  show J x yX11_in cX11_in 3 (some .boolean) d 0 0 (Wd u g ex).length 0 [(0, .int v), (1, .int low), (2, .int high)] [] (Wd u g ex) 0 0
  have E : Fx_M_inEX v low high u g = Fx_M_inEX v low high u g := rfl
  refine J_iload_n (i := 0) (j := 0) dX11_in_0 rfl rfl ?_
  refine J_iload_n (i := 1) (j := 1) dX11_in_1 rfl rfl ?_
  refine J_icmp_lt (tgt := 14) dX11_in_2 (by decide) (fun c1 => ?_) (fun c1 => ?_)
  · replace E := xq_ep c1 E
    refine J_iconst (v := 0) dX11_in_14 (by decide) ?_
    exact J_zret hq dX11_in_15 rfl rfl wlen (Nat.le_refl _) (Nat.le_refl _) ⟨false, rfl, rfl, (fun q => absurd q (by decide)), (fun q => absurd q (by decide)), ⟨fun q => absurd q (by decide), fun q => (lt_le_no c1 q.1).elim⟩, E⟩
  · replace E := xq_en c1 E
    refine J_iload_n (i := 0) (j := 0) dX11_in_5 rfl rfl ?_
    refine J_iload_n (i := 2) (j := 2) dX11_in_6 rfl rfl ?_
    refine J_icmp_gt (tgt := 14) dX11_in_7 (by decide) (fun c2 => ?_) (fun c2 => ?_)
    · replace E := xq_ep c2 E
      refine J_iconst (v := 0) dX11_in_14 (by decide) ?_
      exact J_zret hq dX11_in_15 rfl rfl wlen (Nat.le_refl _) (Nat.le_refl _) ⟨false, rfl, rfl, (fun q => absurd q (by decide)), (fun q => absurd q (by decide)), ⟨fun q => absurd q (by decide), fun q => (lt_le_no c2 q.2).elim⟩, E⟩
    · replace E := xq_en c2 E
      refine J_iconst (v := 1) dX11_in_10 (by decide) ?_
      refine J_goto (tgt := 15) dX11_in_11 (by decide) ?_
      exact J_zret hq dX11_in_15 rfl rfl wlen (Nat.le_refl _) (Nat.le_refl _) ⟨true, rfl, rfl, (fun _ => (i_nlt c1)), (fun _ => (i_nlt c2)), ⟨fun _ => ⟨(i_nlt c1), (i_nlt c2)⟩, fun _ => rfl⟩, E⟩
set_option maxRecDepth 100000 in
noncomputable def Fx_M_tokenX_L163 (u : Nat → Nat → Int32) (g3233 : Nat → Nat → Int64) (n_ : Nat) : (Int32) → (Nat → Nat → Int32) → (Nat → Nat → Int32) × (Nat → Nat → Int64) := Nat.rec (motive := fun _ => (Int32) → (Nat → Nat → Int32) → (Nat → Nat → Int32) × (Nat → Nat → Int64)) (fun _ _ => default) (fun n_ ih_ w3973 u3974 => xq_lt (Fx_M_inEX (mse u (u3974 162 8) (u 162 9)) (48 : Int32) (57 : Int32) u3974 g3233) fun t4019 => if t4019 = true then (if (3 : Int32) ≤ w3973 then (xq_lt (ms u3974 162 12 (u3974 162 12)) fun u4041 => xq_lt (ms u4041 162 8 ((u3974 162 8) + 1)) fun u4043 => ih_ (w3973 + 1) u4043) else (xq_lt (ms u3974 162 12 ((((10 : Int32) * (u3974 162 12)) + (mse u (u3974 162 8) (u 162 9))) - 48)) fun u4046 => xq_lt (ms u4046 162 8 ((u3974 162 8) + 1)) fun u4048 => ih_ (w3973 + 1) u4048)) else (if w3973 ≤ (3 : Int32) then (xq_lt (ms u3974 162 11 3) fun u4036 => (u4036, g3233)) else (xq_lt (ms u3974 162 11 1) fun u4038 => (u4038, g3233)))) n_
set_option maxRecDepth 100000 in
theorem Fx_M_tokenX_L163_s {u : Nat → Nat → Int32} {g3233 : Nat → Nat → Int64} {w3973 : Int32} {u3974 : Nat → Nat → Int32} {n_ : Nat} : Fx_M_tokenX_L163 u g3233 (n_ + 1) w3973 u3974 = xq_lt (Fx_M_inEX (mse u (u3974 162 8) (u 162 9)) (48 : Int32) (57 : Int32) u3974 g3233) fun t4019 => if t4019 = true then (if (3 : Int32) ≤ w3973 then (xq_lt (ms u3974 162 12 (u3974 162 12)) fun u4041 => xq_lt (ms u4041 162 8 ((u3974 162 8) + 1)) fun u4043 => (Fx_M_tokenX_L163 u g3233 n_) (w3973 + 1) u4043) else (xq_lt (ms u3974 162 12 ((((10 : Int32) * (u3974 162 12)) + (mse u (u3974 162 8) (u 162 9))) - 48)) fun u4046 => xq_lt (ms u4046 162 8 ((u3974 162 8) + 1)) fun u4048 => (Fx_M_tokenX_L163 u g3233 n_) (w3973 + 1) u4048)) else (if w3973 ≤ (3 : Int32) then (xq_lt (ms u3974 162 11 3) fun u4036 => (u4036, g3233)) else (xq_lt (ms u3974 162 11 1) fun u4038 => (u4038, g3233))) := rfl
set_option maxRecDepth 100000 in
noncomputable def Fx_M_tokenX_J136 (u4744 : Nat → Nat → Int32) (g4748 : Nat → Nat → Int64) (w4808 : Int64) : (Nat → Nat → Int32) × (Nat → Nat → Int64) := xq_lt (ml g4748 162 13 w4808) fun g4810 => xq_lt (ms u4744 162 11 2) fun u4812 => (u4812, g4810)
set_option maxRecDepth 100000 in
noncomputable def Fx_M_tokenX_L74 (u : Nat → Nat → Int32) (n_ : Nat) : (Int32) → (Nat → Nat → Int32) → (Nat → Nat → Int64) → (Nat → Nat → Int32) × (Nat → Nat → Int64) := Nat.rec (motive := fun _ => (Int32) → (Nat → Nat → Int32) → (Nat → Nat → Int64) → (Nat → Nat → Int32) × (Nat → Nat → Int64)) (fun _ _ _ => default) (fun n_ ih_ w4743 u4744 g4748 => xq_lt (Fx_M_inEX (mse u (u4744 162 8) (u 162 9)) (97 : Int32) (122 : Int32) u4744 g4748) fun t4791 => if t4791 = true then (xq_lt (g4748 162 13) fun l4815 => xq_lt (l4815 <<< ((8 : Int32).toInt64 &&& 63)) fun l4816 => xq_lt ((mse u (u4744 162 8) (u 162 9)).toInt64) fun l4818 => xq_lt (l4816 ||| l4818) fun l4819 => xq_lt (ml g4748 162 13 l4819) fun g4820 => xq_lt (ms u4744 162 8 ((u4744 162 8) + 1)) fun u4822 => ih_ (w4743 + 1) u4822 g4820) else (if w4743 ≤ (8 : Int32) then (xq_lt (g4748 162 13) fun l4814 => Fx_M_tokenX_J136 u4744 g4748 l4814) else (Fx_M_tokenX_J136 u4744 g4748 (0 : Int64)))) n_
set_option maxRecDepth 100000 in
theorem Fx_M_tokenX_L74_s {u : Nat → Nat → Int32} {w4743 : Int32} {u4744 : Nat → Nat → Int32} {g4748 : Nat → Nat → Int64} {n_ : Nat} : Fx_M_tokenX_L74 u (n_ + 1) w4743 u4744 g4748 = xq_lt (Fx_M_inEX (mse u (u4744 162 8) (u 162 9)) (97 : Int32) (122 : Int32) u4744 g4748) fun t4791 => if t4791 = true then (xq_lt (g4748 162 13) fun l4815 => xq_lt (l4815 <<< ((8 : Int32).toInt64 &&& 63)) fun l4816 => xq_lt ((mse u (u4744 162 8) (u 162 9)).toInt64) fun l4818 => xq_lt (l4816 ||| l4818) fun l4819 => xq_lt (ml g4748 162 13 l4819) fun g4820 => xq_lt (ms u4744 162 8 ((u4744 162 8) + 1)) fun u4822 => (Fx_M_tokenX_L74 u n_) (w4743 + 1) u4822 g4820) else (if w4743 ≤ (8 : Int32) then (xq_lt (g4748 162 13) fun l4814 => Fx_M_tokenX_J136 u4744 g4748 l4814) else (Fx_M_tokenX_J136 u4744 g4748 (0 : Int64))) := rfl
set_option maxRecDepth 100000 in
noncomputable def Fx_M_tokenX_L0 (u : Nat → Nat → Int32) (g : Nat → Nat → Int64) (n_ : Nat) : (Nat → Nat → Int32) → (Nat → Nat → Int32) × (Nat → Nat → Int64) := Nat.rec (motive := fun _ => (Nat → Nat → Int32) → (Nat → Nat → Int32) × (Nat → Nat → Int64)) (fun _ => default) (fun n_ ih_ u1607 => if (mse u (u1607 162 8) (u 162 9)) = (10 : Int32) then (xq_lt (ms u1607 162 8 ((u1607 162 8) + 1)) fun u3226 => ih_ u3226) else (if (mse u (u1607 162 8) (u 162 9)) = (32 : Int32) then (xq_lt (ms u1607 162 8 ((u1607 162 8) + 1)) fun u4826 => ih_ u4826) else (xq_lt (ms u1607 162 10 (u1607 162 8)) fun u3230 => xq_lt (ml g 162 13 0) fun g3233 => if (0 : Int32) ≤ (mse u (u1607 162 8) (u 162 9)) then (xq_lt (Fx_M_inEX (mse u (u1607 162 8) (u 162 9)) (97 : Int32) (122 : Int32) u3230 g3233) fun t3237 => if t3237 = true then (xq_lt (Fx_M_inEX (mse u (u1607 162 8) (u 162 9)) (97 : Int32) (122 : Int32) u3230 g3233) fun t4052 => if t4052 = true then (xq_lt (g3233 162 13) fun l4336 => xq_lt (l4336 <<< ((8 : Int32).toInt64 &&& 63)) fun l4337 => xq_lt ((mse u (u1607 162 8) (u 162 9)).toInt64) fun l4339 => xq_lt (l4337 ||| l4339) fun l4340 => xq_lt (ml g3233 162 13 l4340) fun g4341 => xq_lt (ms u3230 162 8 ((u1607 162 8) + 1)) fun u4343 => Fx_M_tokenX_L74 u ((600 - (u4343 162 8).toInt).toNat + 1) (1 : Int32) u4343 g4341) else (default)) else (xq_lt (Fx_M_inEX (mse u (u1607 162 8) (u 162 9)) (48 : Int32) (57 : Int32) u3230 g3233) fun t3244 => if t3244 = true then (xq_lt (ms u3230 162 12 0) fun u3257 => xq_lt (Fx_M_inEX (mse u (u1607 162 8) (u 162 9)) (48 : Int32) (57 : Int32) u3257 g3233) fun t3261 => if t3261 = true then (xq_lt (ms u3257 162 12 (((0 : Int32) + (mse u (u1607 162 8) (u 162 9))) - 48)) fun u3569 => xq_lt (ms u3569 162 8 ((u1607 162 8) + 1)) fun u3571 => Fx_M_tokenX_L163 u g3233 ((600 - (u3571 162 8).toInt).toNat + 1) (1 : Int32) u3571) else (default)) else (xq_lt (ms u3230 162 8 ((u1607 162 8) + 1)) fun u3250 => if (mse u (u1607 162 8) (u 162 9)) = (59 : Int32) then (xq_lt (ms u3250 162 11 4) fun u3255 => (u3255, g3233)) else (xq_lt (ms u3250 162 11 1) fun u3253 => (u3253, g3233))))) else (xq_lt (ms u3230 162 11 0) fun u4824 => (u4824, g3233))))) n_
set_option maxRecDepth 100000 in
theorem Fx_M_tokenX_L0_s {u : Nat → Nat → Int32} {g : Nat → Nat → Int64} {u1607 : Nat → Nat → Int32} {n_ : Nat} : Fx_M_tokenX_L0 u g (n_ + 1) u1607 = if (mse u (u1607 162 8) (u 162 9)) = (10 : Int32) then (xq_lt (ms u1607 162 8 ((u1607 162 8) + 1)) fun u3226 => (Fx_M_tokenX_L0 u g n_) u3226) else (if (mse u (u1607 162 8) (u 162 9)) = (32 : Int32) then (xq_lt (ms u1607 162 8 ((u1607 162 8) + 1)) fun u4826 => (Fx_M_tokenX_L0 u g n_) u4826) else (xq_lt (ms u1607 162 10 (u1607 162 8)) fun u3230 => xq_lt (ml g 162 13 0) fun g3233 => if (0 : Int32) ≤ (mse u (u1607 162 8) (u 162 9)) then (xq_lt (Fx_M_inEX (mse u (u1607 162 8) (u 162 9)) (97 : Int32) (122 : Int32) u3230 g3233) fun t3237 => if t3237 = true then (xq_lt (Fx_M_inEX (mse u (u1607 162 8) (u 162 9)) (97 : Int32) (122 : Int32) u3230 g3233) fun t4052 => if t4052 = true then (xq_lt (g3233 162 13) fun l4336 => xq_lt (l4336 <<< ((8 : Int32).toInt64 &&& 63)) fun l4337 => xq_lt ((mse u (u1607 162 8) (u 162 9)).toInt64) fun l4339 => xq_lt (l4337 ||| l4339) fun l4340 => xq_lt (ml g3233 162 13 l4340) fun g4341 => xq_lt (ms u3230 162 8 ((u1607 162 8) + 1)) fun u4343 => Fx_M_tokenX_L74 u ((600 - (u4343 162 8).toInt).toNat + 1) (1 : Int32) u4343 g4341) else (default)) else (xq_lt (Fx_M_inEX (mse u (u1607 162 8) (u 162 9)) (48 : Int32) (57 : Int32) u3230 g3233) fun t3244 => if t3244 = true then (xq_lt (ms u3230 162 12 0) fun u3257 => xq_lt (Fx_M_inEX (mse u (u1607 162 8) (u 162 9)) (48 : Int32) (57 : Int32) u3257 g3233) fun t3261 => if t3261 = true then (xq_lt (ms u3257 162 12 (((0 : Int32) + (mse u (u1607 162 8) (u 162 9))) - 48)) fun u3569 => xq_lt (ms u3569 162 8 ((u1607 162 8) + 1)) fun u3571 => Fx_M_tokenX_L163 u g3233 ((600 - (u3571 162 8).toInt).toNat + 1) (1 : Int32) u3571) else (default)) else (xq_lt (ms u3230 162 8 ((u1607 162 8) + 1)) fun u3250 => if (mse u (u1607 162 8) (u 162 9)) = (59 : Int32) then (xq_lt (ms u3250 162 11 4) fun u3255 => (u3255, g3233)) else (xq_lt (ms u3250 162 11 1) fun u3253 => (u3253, g3233))))) else (xq_lt (ms u3230 162 11 0) fun u4824 => (u4824, g3233)))) := rfl
set_option maxRecDepth 100000 in
noncomputable def Fx_M_tokenX (u : Nat → Nat → Int32) (g : Nat → Nat → Int64) : (Nat → Nat → Int32) × (Nat → Nat → Int64) := Fx_M_tokenX_L0 u g ((600 - (u 162 8).toInt).toNat + 1) u
set_option maxHeartbeats 4000000 in
set_option maxRecDepth 100000 in
theorem c_M_tokenX {d : Nat} {u : Nat → Nat → Int32} {g : Nat → Nat → Int64} {ex : List MC}  (hd : 1 ≤ d) (hp0 : Bd 0 600 (u 162 8)) (hp1 : Bd 0 600 (u 162 9)) (hp2 : Bd 0 999 (u 162 12)) : CT con0 d 0 0 yX11_token cX11_token 3 none [.ref 162] (Wd u g ex) (fun r h2 => ∃ (u2 : Nat → Nat → Int32) (g2 : Nat → Nat → Int64), r = none ∧ h2 = Wd u2 g2 ex ∧ Bd 0 600 (u2 162 8) ∧ Bd 0 600 (u2 162 10) ∧ Bd 0 4 (u2 162 11) ∧ Bd 0 999 (u2 162 12) ∧ (GV (u 162 8) (u2 162 8) (u2 162 11)) ∧ (u2, g2) = Fx_M_tokenX u g ∧ (∀ c, c ≠ 162 → u2 c = u c) ∧ (∀ j, j ≠ 8 → j ≠ 10 → j ≠ 11 → j ≠ 12 → u2 162 j = u 162 j)) := by
  refine CT_of (by decide) (Nat.le_of_ble_eq_true rfl) (fun x hq => ?_)
  show J x yX11_token cX11_token 3 none d 0 0 (Wd u g ex).length 0 [(0, .ref 162)] [] (Wd u g ex) 0 0
  have E : Fx_M_tokenX u g = Fx_M_tokenX u g := rfl
  have lp3217 : ∀ (n3218 : Nat) (u1607 : Nat → Nat → Int32), (∀ c, c ≠ 162 → u1607 c = u c) → (∀ j, j ≠ 8 → u1607 162 j = u 162 j) → Bd 0 600 (u1607 162 8) → u 162 8 ≤ u1607 162 8 → (600 - (u1607 162 8).toInt).toNat < n3218 → Fx_M_tokenX_L0 u g n3218 u1607 = Fx_M_tokenX u g → J x yX11_token cX11_token 3 none d 0 0 (Wd u g ex).length 0 [(0, .ref 162)] [] (Wd u1607 g ex) 0 0 := by
    intro n3218
    induction n3218 with
    | zero => intro u1607 fr1608 fc1609 bm1610 hI3221 hm3220 _; exact absurd hm3220 (Nat.not_lt_zero _)
    | succ n3218 ih3219 =>
      intro u1607 fr1608 fc1609 bm1610 hI3221 hm3220 E
      replace E := Fx_M_tokenX_L0_s.symm.trans E
      refine J_aload_n (i := 0) (j := 0) dX11_token_0 rfl rfl ?_
      refine J_callV (As := []) (rest := []) dX11_token_1 (c_M_see (d := 0) (u := u1607) (g := g) (ex := ex)   (by decide) bm1610 (bd_r (fc1609 9 (Nat.ne_of_beq_eq_false rfl)) hp1)) hq.n k1421 k1423 k39 wc_162 rfl rfl k97 k1424 np_X11_see (Nat.le_trans (by decide) hd) (by decide) (Nat.le_refl _) (Nat.le_refl _) wlen rfl (Nat.le_of_ble_eq_true rfl) (fun r_ h_ p3222 => ?_)
      obtain ⟨rfl, rfl⟩ := p3222
      refine J_ci (v := (mse u (u1607 162 8) (u 162 9))) (mse_c (fr1608 163 (Nat.ne_of_beq_eq_false rfl)) rfl (fc1609 9 (Nat.ne_of_beq_eq_false rfl))) ?_
      refine J_bipush (v := 10) dX11_token_4 (by decide) ?_
      refine J_icmp_eq (tgt := 18) dX11_token_6 (by decide) (fun c3223 => ?_) (fun c3223 => ?_)
      · replace E := xq_ep c3223 E
        refine J_aload_n (i := 0) (j := 0) dX11_token_18 rfl rfl ?_
        refine J_dup dX11_token_19 rfl ?_
        refine J_get (C := RX11) (T := TX11) (Z := 43) (ci := 11) (f := 8) dX11_token_20 inG11 rfl (by decide) k1272 wc_162 rfl ?_
        refine J_iconst (v := 1) dX11_token_23 (by decide) ?_
        refine J_iadd dX11_token_24 ?_
        obtain ⟨u3226, e3227⟩ : ∃ z, z = ms u1607 162 8 ((u1607 162 8) + 1) := ⟨_, rfl⟩
        refine J_put (C := RX11) (T := TX11) (Z := 43) (ci := 11) (f := 8) (ty0 := tyX11) dX11_token_25 inG11 rfl tyX11_ok nmX11 (by decide) k1272 rfl rfl wc_162 (Nat.le_of_ble_eq_true rfl) (fun _ _ => ⟨rfl, rfl⟩) (ws e3227 wk_162 rfl) ?_
        replace E := xq_le e3227 E
        refine J_goto (tgt := 0) dX11_token_28 (by decide) ?_
        refine J_lv [0] rfl ?_
        exact ih3219 u3226 (fun c k0_ => ((ms_c e3227 k0_).trans (fr1608 c k0_))) (fun j k8_ => ((ms_i e3227 k8_).trans (fc1609 j k8_))) (bd_r (ms_e e3227) (bd_w (l := 0) (h := 600) (bd_add (l := 1) (h := 600) (bd_lt_hi bm1610 (mse_lt (bd_r c3223 (bd_c (v := 10) (lo := 10) (hi := 10) (by decide))) (by decide)) hp1) (bd_c (v := 1) (lo := 1) (hi := 1) (by decide)) (by decide)) (by decide))) (Int32.le_trans (Int32.le_of_lt (lt_s1 (bd_lt_hi bm1610 (mse_lt (bd_r c3223 (bd_c (v := 10) (lo := 10) (hi := 10) (by decide))) (by decide)) hp1) (by decide) hI3221)) (Int32.le_of_eq (ms_e e3227).symm)) (mu_up 1 bm1610 (ms_e e3227) (by decide) (bd_w (l := 1) (h := 600) (bd_r (ms_e e3227) (bd_add (l := 1) (h := 600) (bd_lt_hi bm1610 (mse_lt (bd_r c3223 (bd_c (v := 10) (lo := 10) (hi := 10) (by decide))) (by decide)) hp1) (bd_c (v := 1) (lo := 1) (hi := 1) (by decide)) (by decide))) (by decide)) hm3220) E
      · replace E := xq_en c3223 E
        refine J_aload_n (i := 0) (j := 0) dX11_token_9 rfl rfl ?_
        refine J_callV (As := []) (rest := []) dX11_token_10 (c_M_see (d := 0) (u := u1607) (g := g) (ex := ex)   (by decide) bm1610 (bd_r (fc1609 9 (Nat.ne_of_beq_eq_false rfl)) hp1)) hq.n k1421 k1423 k39 wc_162 rfl rfl k97 k1424 np_X11_see (Nat.le_trans (by decide) hd) (by decide) (Nat.le_refl _) (Nat.le_refl _) wlen rfl (Nat.le_of_ble_eq_true rfl) (fun r_ h_ p3228 => ?_)
        obtain ⟨rfl, rfl⟩ := p3228
        refine J_ci (v := (mse u (u1607 162 8) (u 162 9))) (mse_c (fr1608 163 (Nat.ne_of_beq_eq_false rfl)) rfl (fc1609 9 (Nat.ne_of_beq_eq_false rfl))) ?_
        refine J_bipush (v := 32) dX11_token_13 (by decide) ?_
        refine J_icmp_ne (tgt := 31) dX11_token_15 (by decide) (fun c3229 => ?_) (fun c3229 => ?_)
        · replace E := xq_en c3229 E
          refine J_aload_n (i := 0) (j := 0) dX11_token_31 rfl rfl ?_
          refine J_aload_n (i := 0) (j := 0) dX11_token_32 rfl rfl ?_
          refine J_get (C := RX11) (T := TX11) (Z := 43) (ci := 11) (f := 8) dX11_token_33 inG11 rfl (by decide) k1272 wc_162 rfl ?_
          obtain ⟨u3230, e3231⟩ : ∃ z, z = ms u1607 162 10 (u1607 162 8) := ⟨_, rfl⟩
          refine J_put (C := RX11) (T := TX11) (Z := 43) (ci := 11) (f := 10) (ty0 := tyX11) dX11_token_36 inG11 rfl tyX11_ok nmX11 (by decide) k1274 rfl rfl wc_162 (Nat.le_of_ble_eq_true rfl) (fun _ _ => ⟨rfl, rfl⟩) (ws e3231 wk_162 rfl) ?_
          replace E := xq_le e3231 E
          refine J_aload_n (i := 0) (j := 0) dX11_token_39 rfl rfl ?_
          refine J_callV (As := []) (rest := []) dX11_token_40 (c_M_see (d := 0) (u := u3230) (g := g) (ex := ex)   (by decide) (bd_r (ms_i e3231 (Nat.ne_of_beq_eq_false rfl)) bm1610) (bd_r ((ms_i e3231 (Nat.ne_of_beq_eq_false rfl)).trans (fc1609 9 (Nat.ne_of_beq_eq_false rfl))) hp1)) hq.n k1421 k1423 k39 wc_162 rfl rfl k97 k1424 np_X11_see (Nat.le_trans (by decide) hd) (by decide) (Nat.le_refl _) (Nat.le_refl _) wlen rfl (Nat.le_of_ble_eq_true rfl) (fun r_ h_ p3232 => ?_)
          obtain ⟨rfl, rfl⟩ := p3232
          refine J_ci (v := (mse u (u1607 162 8) (u 162 9))) (mse_c ((ms_c e3231 (Nat.ne_of_beq_eq_false rfl)).trans (fr1608 163 (Nat.ne_of_beq_eq_false rfl))) (ms_i e3231 (Nat.ne_of_beq_eq_false rfl)) ((ms_i e3231 (Nat.ne_of_beq_eq_false rfl)).trans (fc1609 9 (Nat.ne_of_beq_eq_false rfl)))) ?_
          refine J_istore_n (i := 1) (lw := [(1, .int (mse u (u1607 162 8) (u 162 9))), (0, .ref 162)]) dX11_token_43 rfl (by decide) rfl ?_
          refine J_aload_n (i := 0) (j := 1) dX11_token_44 rfl rfl ?_
          refine J_lconst (v := 0) dX11_token_45 (by decide) ?_
          obtain ⟨g3233, e3234⟩ : ∃ z, z = ml g 162 13 0 := ⟨_, rfl⟩
          refine J_put (C := RX11) (T := TX11) (Z := 43) (ci := 11) (f := 13) (ty0 := tyX11) dX11_token_46 inG11 rfl tyX11_ok nmX11 (by decide) k1277 rfl rfl wc_162 (Nat.le_of_ble_eq_true rfl) (fun _ _ => ⟨rfl, rfl⟩) (wsl e3234 wk_162 rfl) ?_
          replace E := xq_le e3234 E
          refine J_iconst (v := 0) dX11_token_49 (by decide) ?_
          refine J_istore_n (i := 2) (lw := [(2, .int 0), (1, .int (mse u (u1607 162 8) (u 162 9))), (0, .ref 162)]) dX11_token_50 rfl (by decide) rfl ?_
          refine J_iload_n (i := 1) (j := 1) dX11_token_51 rfl rfl ?_
          refine J_if_ge (tgt := 63) dX11_token_52 (by decide) (fun c3235 => ?_) (fun c3235 => ?_)
          · replace E := xq_ep c3235 E
            refine J_iload_n (i := 1) (j := 1) dX11_token_63 rfl rfl ?_
            refine J_bipush (v := 97) dX11_token_64 (by decide) ?_
            refine J_bipush (v := 122) dX11_token_66 (by decide) ?_
            refine J_callS (As := [.int (mse u (u1607 162 8) (u 162 9)), .int 97, .int 122]) (rest := []) dX11_token_68 (c_M_inEX (d := 0) (u := u3230) (g := g3233) (ex := ex) (v := (mse u (u1607 162 8) (u 162 9))) (low := 97) (high := 122)  (by decide) ) hq.n k1406 k1407 k97 k1408 np_X11_in (Nat.le_trans (by decide) hd) (by decide) (Nat.le_refl _) (Nat.le_refl _) wlen rfl (Nat.le_of_ble_eq_true rfl) (fun r_ h_ p3236 => ?_)
            obtain ⟨t3237, rfl, rfl, h3238, h3239, h3240, hx3241⟩ := p3236
            replace E := xq_le hx3241 E
            refine J_ifB_eq (tgt := 147) dX11_token_71 (by decide) (fun c3242 => ?_) (fun c3242 => ?_)
            · replace E := xq_ef c3242 E
              refine J_iload_n (i := 1) (j := 1) dX11_token_147 rfl rfl ?_
              refine J_bipush (v := 48) dX11_token_148 (by decide) ?_
              refine J_bipush (v := 57) dX11_token_150 (by decide) ?_
              refine J_callS (As := [.int (mse u (u1607 162 8) (u 162 9)), .int 48, .int 57]) (rest := []) dX11_token_152 (c_M_inEX (d := 0) (u := u3230) (g := g3233) (ex := ex) (v := (mse u (u1607 162 8) (u 162 9))) (low := 48) (high := 57)  (by decide) ) hq.n k1406 k1407 k97 k1408 np_X11_in (Nat.le_trans (by decide) hd) (by decide) (Nat.le_refl _) (Nat.le_refl _) wlen rfl (Nat.le_of_ble_eq_true rfl) (fun r_ h_ p3243 => ?_)
              obtain ⟨t3244, rfl, rfl, h3245, h3246, h3247, hx3248⟩ := p3243
              replace E := xq_le hx3248 E
              refine J_ifB_eq (tgt := 241) dX11_token_155 (by decide) (fun c3249 => ?_) (fun c3249 => ?_)
              · replace E := xq_ef c3249 E
                refine J_aload_n (i := 0) (j := 2) dX11_token_241 rfl rfl ?_
                refine J_dup dX11_token_242 rfl ?_
                refine J_get (C := RX11) (T := TX11) (Z := 43) (ci := 11) (f := 8) dX11_token_243 inG11 rfl (by decide) k1272 wc_162 rfl ?_
                refine J_ci (v := u1607 162 8) (ms_i e3231 (Nat.ne_of_beq_eq_false rfl)) ?_
                refine J_iconst (v := 1) dX11_token_246 (by decide) ?_
                refine J_iadd dX11_token_247 ?_
                obtain ⟨u3250, e3251⟩ : ∃ z, z = ms u3230 162 8 ((u1607 162 8) + 1) := ⟨_, rfl⟩
                refine J_put (C := RX11) (T := TX11) (Z := 43) (ci := 11) (f := 8) (ty0 := tyX11) dX11_token_248 inG11 rfl tyX11_ok nmX11 (by decide) k1272 rfl rfl wc_162 (Nat.le_of_ble_eq_true rfl) (fun _ _ => ⟨rfl, rfl⟩) (ws e3251 wk_162 rfl) ?_
                replace E := xq_le e3251 E
                refine J_aload_n (i := 0) (j := 2) dX11_token_251 rfl rfl ?_
                refine J_iload_n (i := 1) (j := 1) dX11_token_252 rfl rfl ?_
                refine J_bipush (v := 59) dX11_token_253 (by decide) ?_
                refine J_icmp_ne (tgt := 262) dX11_token_255 (by decide) (fun c3252 => ?_) (fun c3252 => ?_)
                · replace E := xq_en c3252 E
                  refine J_iconst (v := 1) dX11_token_262 (by decide) ?_
                  obtain ⟨u3253, e3254⟩ : ∃ z, z = ms u3250 162 11 1 := ⟨_, rfl⟩
                  refine J_put (C := RX11) (T := TX11) (Z := 43) (ci := 11) (f := 11) (ty0 := tyX11) dX11_token_263 inG11 rfl tyX11_ok nmX11 (by decide) k1275 rfl rfl wc_162 (Nat.le_of_ble_eq_true rfl) (fun _ _ => ⟨rfl, rfl⟩) (ws e3254 wk_162 rfl) ?_
                  replace E := xq_le e3254 E
                  exact J_vret hq dX11_token_266 rfl wlen (Nat.le_refl _) (Nat.le_refl _) ⟨u3253, g3233, rfl, rfl, (bd_r ((ms_i e3254 (Nat.ne_of_beq_eq_false rfl)).trans (ms_e e3251)) (bd_w (l := 0) (h := 600) (bd_add (l := 1) (h := 600) (bd_lt_hi bm1610 (mse_lt (bd_le_lo (mse_b (mse u (u1607 162 8) (u 162 9))) c3235 (bd_c (v := 0) (lo := 0) (hi := 0) (by decide))) (by decide)) hp1) (bd_c (v := 1) (lo := 1) (hi := 1) (by decide)) (by decide)) (by decide))), (bd_r ((ms_i e3254 (Nat.ne_of_beq_eq_false rfl)).trans ((ms_i e3251 (Nat.ne_of_beq_eq_false rfl)).trans (ms_e e3231))) (bd_w (l := 0) (h := 600) (bd_lt_hi bm1610 (mse_lt (bd_le_lo (mse_b (mse u (u1607 162 8) (u 162 9))) c3235 (bd_c (v := 0) (lo := 0) (hi := 0) (by decide))) (by decide)) hp1) (by decide))), (bd_r (ms_e e3254) (bd_w (l := 0) (h := 4) (bd_c (v := 1) (lo := 1) (hi := 1) (by decide)) (by decide))), (bd_r ((ms_i e3254 (Nat.ne_of_beq_eq_false rfl)).trans ((ms_i e3251 (Nat.ne_of_beq_eq_false rfl)).trans ((ms_i e3231 (Nat.ne_of_beq_eq_false rfl)).trans (fc1609 12 (Nat.ne_of_beq_eq_false rfl))))) hp2), (gv_r rfl ((ms_i e3254 (Nat.ne_of_beq_eq_false rfl)).trans (ms_e e3251)) (ms_e e3254) (gv_go hI3221 (lt_s1 (bd_lt_hi bm1610 (mse_lt (bd_le_lo (mse_b (mse u (u1607 162 8) (u 162 9))) c3235 (bd_c (v := 0) (lo := 0) (hi := 0) (by decide))) (by decide)) hp1) (by decide) (Int32.le_refl _)))), E, (fun c k0_ => ((ms_c e3254 k0_).trans ((ms_c e3251 k0_).trans ((ms_c e3231 k0_).trans (fr1608 c k0_))))), (fun j k8_ k10_ k11_ k12_ => ((ms_i e3254 k11_).trans ((ms_i e3251 k8_).trans ((ms_i e3231 k10_).trans (fc1609 j k8_)))))⟩
                · replace E := xq_ep c3252 E
                  refine J_iconst (v := 4) dX11_token_258 (by decide) ?_
                  refine J_goto (tgt := 263) dX11_token_259 (by decide) ?_
                  obtain ⟨u3255, e3256⟩ : ∃ z, z = ms u3250 162 11 4 := ⟨_, rfl⟩
                  refine J_put (C := RX11) (T := TX11) (Z := 43) (ci := 11) (f := 11) (ty0 := tyX11) dX11_token_263 inG11 rfl tyX11_ok nmX11 (by decide) k1275 rfl rfl wc_162 (Nat.le_of_ble_eq_true rfl) (fun _ _ => ⟨rfl, rfl⟩) (ws e3256 wk_162 rfl) ?_
                  replace E := xq_le e3256 E
                  exact J_vret hq dX11_token_266 rfl wlen (Nat.le_refl _) (Nat.le_refl _) ⟨u3255, g3233, rfl, rfl, (bd_r ((ms_i e3256 (Nat.ne_of_beq_eq_false rfl)).trans (ms_e e3251)) (bd_w (l := 0) (h := 600) (bd_add (l := 1) (h := 600) (bd_lt_hi bm1610 (mse_lt (bd_le_lo (mse_b (mse u (u1607 162 8) (u 162 9))) c3235 (bd_c (v := 0) (lo := 0) (hi := 0) (by decide))) (by decide)) hp1) (bd_c (v := 1) (lo := 1) (hi := 1) (by decide)) (by decide)) (by decide))), (bd_r ((ms_i e3256 (Nat.ne_of_beq_eq_false rfl)).trans ((ms_i e3251 (Nat.ne_of_beq_eq_false rfl)).trans (ms_e e3231))) (bd_w (l := 0) (h := 600) (bd_lt_hi bm1610 (mse_lt (bd_le_lo (mse_b (mse u (u1607 162 8) (u 162 9))) c3235 (bd_c (v := 0) (lo := 0) (hi := 0) (by decide))) (by decide)) hp1) (by decide))), (bd_r (ms_e e3256) (bd_w (l := 0) (h := 4) (bd_c (v := 4) (lo := 4) (hi := 4) (by decide)) (by decide))), (bd_r ((ms_i e3256 (Nat.ne_of_beq_eq_false rfl)).trans ((ms_i e3251 (Nat.ne_of_beq_eq_false rfl)).trans ((ms_i e3231 (Nat.ne_of_beq_eq_false rfl)).trans (fc1609 12 (Nat.ne_of_beq_eq_false rfl))))) hp2), (gv_r rfl ((ms_i e3256 (Nat.ne_of_beq_eq_false rfl)).trans (ms_e e3251)) (ms_e e3256) (gv_go hI3221 (lt_s1 (bd_lt_hi bm1610 (mse_lt (bd_le_lo (mse_b (mse u (u1607 162 8) (u 162 9))) c3235 (bd_c (v := 0) (lo := 0) (hi := 0) (by decide))) (by decide)) hp1) (by decide) (Int32.le_refl _)))), E, (fun c k0_ => ((ms_c e3256 k0_).trans ((ms_c e3251 k0_).trans ((ms_c e3231 k0_).trans (fr1608 c k0_))))), (fun j k8_ k10_ k11_ k12_ => ((ms_i e3256 k11_).trans ((ms_i e3251 k8_).trans ((ms_i e3231 k10_).trans (fc1609 j k8_)))))⟩
              · replace E := xq_ep c3249 E
                refine J_aload_n (i := 0) (j := 2) dX11_token_158 rfl rfl ?_
                refine J_iconst (v := 0) dX11_token_159 (by decide) ?_
                obtain ⟨u3257, e3258⟩ : ∃ z, z = ms u3230 162 12 0 := ⟨_, rfl⟩
                refine J_put (C := RX11) (T := TX11) (Z := 43) (ci := 11) (f := 12) (ty0 := tyX11) dX11_token_160 inG11 rfl tyX11_ok nmX11 (by decide) k1276 rfl rfl wc_162 (Nat.le_of_ble_eq_true rfl) (fun _ _ => ⟨rfl, rfl⟩) (ws e3258 wk_162 rfl) ?_
                replace E := xq_le e3258 E
                refine J_aload_n (i := 0) (j := 2) dX11_token_163 rfl rfl ?_
                refine J_callV (As := []) (rest := []) dX11_token_164 (c_M_see (d := 0) (u := u3257) (g := g3233) (ex := ex)   (by decide) (bd_r ((ms_i e3258 (Nat.ne_of_beq_eq_false rfl)).trans (ms_i e3231 (Nat.ne_of_beq_eq_false rfl))) bm1610) (bd_r ((ms_i e3258 (Nat.ne_of_beq_eq_false rfl)).trans ((ms_i e3231 (Nat.ne_of_beq_eq_false rfl)).trans (fc1609 9 (Nat.ne_of_beq_eq_false rfl)))) hp1)) hq.n k1421 k1423 k39 wc_162 rfl rfl k97 k1424 np_X11_see (Nat.le_trans (by decide) hd) (by decide) (Nat.le_refl _) (Nat.le_refl _) wlen rfl (Nat.le_of_ble_eq_true rfl) (fun r_ h_ p3259 => ?_)
                obtain ⟨rfl, rfl⟩ := p3259
                refine J_ci (v := (mse u (u1607 162 8) (u 162 9))) (mse_c ((ms_c e3258 (Nat.ne_of_beq_eq_false rfl)).trans ((ms_c e3231 (Nat.ne_of_beq_eq_false rfl)).trans (fr1608 163 (Nat.ne_of_beq_eq_false rfl)))) ((ms_i e3258 (Nat.ne_of_beq_eq_false rfl)).trans (ms_i e3231 (Nat.ne_of_beq_eq_false rfl))) ((ms_i e3258 (Nat.ne_of_beq_eq_false rfl)).trans ((ms_i e3231 (Nat.ne_of_beq_eq_false rfl)).trans (fc1609 9 (Nat.ne_of_beq_eq_false rfl))))) ?_
                refine J_bipush (v := 48) dX11_token_167 (by decide) ?_
                refine J_bipush (v := 57) dX11_token_169 (by decide) ?_
                refine J_callS (As := [.int (mse u (u1607 162 8) (u 162 9)), .int 48, .int 57]) (rest := []) dX11_token_171 (c_M_inEX (d := 0) (u := u3257) (g := g3233) (ex := ex) (v := (mse u (u1607 162 8) (u 162 9))) (low := 48) (high := 57)  (by decide) ) hq.n k1406 k1407 k97 k1408 np_X11_in (Nat.le_trans (by decide) hd) (by decide) (Nat.le_refl _) (Nat.le_refl _) wlen rfl (Nat.le_of_ble_eq_true rfl) (fun r_ h_ p3260 => ?_)
                obtain ⟨t3261, rfl, rfl, h3262, h3263, h3264, hx3265⟩ := p3260
                replace E := xq_le hx3265 E
                refine J_ifB_eq (tgt := 224) dX11_token_174 (by decide) (fun c3266 => ?_) (fun c3266 => ?_)
                · exact absurd ((h3264.mpr ⟨c_le (bd_le_hi (bd_le_lo (bd_le_lo (mse_b (mse u (u1607 162 8) (u 162 9))) c3235 (bd_c (v := 0) (lo := 0) (hi := 0) (by decide))) (h3245 c3249) (bd_c (v := 48) (lo := 48) (hi := 48) (by decide))) (h3246 c3249) (bd_c (v := 57) (lo := 57) (hi := 57) (by decide))) (by decide), le_cc (bd_le_hi (bd_le_lo (bd_le_lo (mse_b (mse u (u1607 162 8) (u 162 9))) c3235 (bd_c (v := 0) (lo := 0) (hi := 0) (by decide))) (h3245 c3249) (bd_c (v := 48) (lo := 48) (hi := 48) (by decide))) (h3246 c3249) (bd_c (v := 57) (lo := 57) (hi := 57) (by decide))) (by decide)⟩).symm.trans c3266) (by decide)
                · replace E := xq_ep c3266 E
                  refine J_aload_n (i := 0) (j := 2) dX11_token_177 rfl rfl ?_
                  refine J_iload_n (i := 2) (j := 0) dX11_token_178 rfl rfl ?_
                  refine J_iconst (v := 3) dX11_token_179 (by decide) ?_
                  refine J_icmp_ge (tgt := 201) dX11_token_180 (by decide) (fun q => absurd q (by decide)) (fun _ => ?_)
                  refine J_bipush (v := 10) dX11_token_183 (by decide) ?_
                  refine J_aload_n (i := 0) (j := 2) dX11_token_185 rfl rfl ?_
                  refine J_get (C := RX11) (T := TX11) (Z := 43) (ci := 11) (f := 12) dX11_token_186 inG11 rfl (by decide) k1276 wc_162 rfl ?_
                  refine J_ci (v := 0) (ms_e e3258) ?_
                  refine J_imul dX11_token_189 ?_
                  refine J_ci (v := 0) (by decide) ?_
                  refine J_aload_n (i := 0) (j := 2) dX11_token_190 rfl rfl ?_
                  refine J_callV (As := []) (rest := [.int 0, .ref 162]) dX11_token_191 (c_M_see (d := 0) (u := u3257) (g := g3233) (ex := ex)   (by decide) (bd_r ((ms_i e3258 (Nat.ne_of_beq_eq_false rfl)).trans (ms_i e3231 (Nat.ne_of_beq_eq_false rfl))) bm1610) (bd_r ((ms_i e3258 (Nat.ne_of_beq_eq_false rfl)).trans ((ms_i e3231 (Nat.ne_of_beq_eq_false rfl)).trans (fc1609 9 (Nat.ne_of_beq_eq_false rfl)))) hp1)) hq.n k1421 k1423 k39 wc_162 rfl rfl k97 k1424 np_X11_see (Nat.le_trans (by decide) hd) (by decide) (Nat.le_refl _) (Nat.le_refl _) wlen rfl (Nat.le_of_ble_eq_true rfl) (fun r_ h_ p3568 => ?_)
                  obtain ⟨rfl, rfl⟩ := p3568
                  refine J_ci (v := (mse u (u1607 162 8) (u 162 9))) (mse_c ((ms_c e3258 (Nat.ne_of_beq_eq_false rfl)).trans ((ms_c e3231 (Nat.ne_of_beq_eq_false rfl)).trans (fr1608 163 (Nat.ne_of_beq_eq_false rfl)))) ((ms_i e3258 (Nat.ne_of_beq_eq_false rfl)).trans (ms_i e3231 (Nat.ne_of_beq_eq_false rfl))) ((ms_i e3258 (Nat.ne_of_beq_eq_false rfl)).trans ((ms_i e3231 (Nat.ne_of_beq_eq_false rfl)).trans (fc1609 9 (Nat.ne_of_beq_eq_false rfl))))) ?_
                  refine J_iadd dX11_token_194 ?_
                  refine J_bipush (v := 48) dX11_token_195 (by decide) ?_
                  refine J_isub dX11_token_197 ?_
                  refine J_goto (tgt := 205) dX11_token_198 (by decide) ?_
                  obtain ⟨u3569, e3570⟩ : ∃ z, z = ms u3257 162 12 (((0 : Int32) + (mse u (u1607 162 8) (u 162 9))) - 48) := ⟨_, rfl⟩
                  refine J_put (C := RX11) (T := TX11) (Z := 43) (ci := 11) (f := 12) (ty0 := tyX11) dX11_token_205 inG11 rfl tyX11_ok nmX11 (by decide) k1276 rfl rfl wc_162 (Nat.le_of_ble_eq_true rfl) (fun _ _ => ⟨rfl, rfl⟩) (ws e3570 wk_162 rfl) ?_
                  replace E := xq_le e3570 E
                  refine J_aload_n (i := 0) (j := 2) dX11_token_208 rfl rfl ?_
                  refine J_dup dX11_token_209 rfl ?_
                  refine J_get (C := RX11) (T := TX11) (Z := 43) (ci := 11) (f := 8) dX11_token_210 inG11 rfl (by decide) k1272 wc_162 rfl ?_
                  refine J_ci (v := u1607 162 8) ((ms_i e3570 (Nat.ne_of_beq_eq_false rfl)).trans ((ms_i e3258 (Nat.ne_of_beq_eq_false rfl)).trans (ms_i e3231 (Nat.ne_of_beq_eq_false rfl)))) ?_
                  refine J_iconst (v := 1) dX11_token_213 (by decide) ?_
                  refine J_iadd dX11_token_214 ?_
                  obtain ⟨u3571, e3572⟩ : ∃ z, z = ms u3569 162 8 ((u1607 162 8) + 1) := ⟨_, rfl⟩
                  refine J_put (C := RX11) (T := TX11) (Z := 43) (ci := 11) (f := 8) (ty0 := tyX11) dX11_token_215 inG11 rfl tyX11_ok nmX11 (by decide) k1272 rfl rfl wc_162 (Nat.le_of_ble_eq_true rfl) (fun _ _ => ⟨rfl, rfl⟩) (ws e3572 wk_162 rfl) ?_
                  replace E := xq_le e3572 E
                  refine J_iinc (i := 2) (j := 0) (v := 1) (lw := [(2, .int 1), (1, .int (mse u (u1607 162 8) (u 162 9))), (0, .ref 162)]) dX11_token_218 rfl (by decide) (by decide) rfl ?_
                  refine J_goto (tgt := 163) dX11_token_221 (by decide) ?_
                  have lp4012 : ∀ (n4013 : Nat) (w3973 : Int32) (u3974 : Nat → Nat → Int32), (∀ c, c ≠ 162 → u3974 c = u3571 c) → (∀ j, j ≠ 8 → j ≠ 12 → u3974 162 j = u3571 162 j) → Bd 1 600 (u3974 162 8) → Bd 0 9999 (u3974 162 12) → ((u1607 162 8) < (u3974 162 8) ∧ VI w3973 (u3974 162 12) ∧ w3973 ≤ (u3974 162 8)) → (600 - (u3974 162 8).toInt).toNat < n4013 → Fx_M_tokenX_L163 u g3233 n4013 w3973 u3974 = Fx_M_tokenX u g → J x yX11_token cX11_token 3 none d 0 0 (Wd u g ex).length 163 [(0, .ref 162), (2, .int w3973)] [] (Wd u3974 g3233 ex) 0 0 := by
                    intro n4013
                    induction n4013 with
                    | zero => intro w3973 u3974 fr3975 fc3976 bm3977 bm3978 hI4016 hm4015 _; exact absurd hm4015 (Nat.not_lt_zero _)
                    | succ n4013 ih4014 =>
                      intro w3973 u3974 fr3975 fc3976 bm3977 bm3978 hI4016 hm4015 E
                      replace E := Fx_M_tokenX_L163_s.symm.trans E
                      refine J_aload_n (i := 0) (j := 0) dX11_token_163 rfl rfl ?_
                      refine J_callV (As := []) (rest := []) dX11_token_164 (c_M_see (d := 0) (u := u3974) (g := g3233) (ex := ex)   (by decide) (bd_w (l := 0) (h := 600) bm3977 (by decide)) (bd_r ((fc3976 9 (Nat.ne_of_beq_eq_false rfl) (Nat.ne_of_beq_eq_false rfl)).trans ((ms_i e3572 (Nat.ne_of_beq_eq_false rfl)).trans ((ms_i e3570 (Nat.ne_of_beq_eq_false rfl)).trans ((ms_i e3258 (Nat.ne_of_beq_eq_false rfl)).trans ((ms_i e3231 (Nat.ne_of_beq_eq_false rfl)).trans (fc1609 9 (Nat.ne_of_beq_eq_false rfl))))))) (bd_w (l := 0) (h := 600) (bd_lt_lo hp1 (mse_lt (bd_le_hi (bd_le_lo (bd_le_lo (mse_b (mse u (u1607 162 8) (u 162 9))) c3235 (bd_c (v := 0) (lo := 0) (hi := 0) (by decide))) (h3245 c3249) (bd_c (v := 48) (lo := 48) (hi := 48) (by decide))) (h3246 c3249) (bd_c (v := 57) (lo := 57) (hi := 57) (by decide))) (by decide)) bm1610) (by decide)))) hq.n k1421 k1423 k39 wc_162 rfl rfl k97 k1424 np_X11_see (Nat.le_trans (by decide) hd) (by decide) (Nat.le_refl _) (Nat.le_refl _) wlen rfl (Nat.le_of_ble_eq_true rfl) (fun r_ h_ p4017 => ?_)
                      obtain ⟨rfl, rfl⟩ := p4017
                      refine J_ci (v := (mse u (u3974 162 8) (u 162 9))) (mse_c ((fr3975 163 (Nat.ne_of_beq_eq_false rfl)).trans ((ms_c e3572 (Nat.ne_of_beq_eq_false rfl)).trans ((ms_c e3570 (Nat.ne_of_beq_eq_false rfl)).trans ((ms_c e3258 (Nat.ne_of_beq_eq_false rfl)).trans ((ms_c e3231 (Nat.ne_of_beq_eq_false rfl)).trans (fr1608 163 (Nat.ne_of_beq_eq_false rfl))))))) rfl ((fc3976 9 (Nat.ne_of_beq_eq_false rfl) (Nat.ne_of_beq_eq_false rfl)).trans ((ms_i e3572 (Nat.ne_of_beq_eq_false rfl)).trans ((ms_i e3570 (Nat.ne_of_beq_eq_false rfl)).trans ((ms_i e3258 (Nat.ne_of_beq_eq_false rfl)).trans ((ms_i e3231 (Nat.ne_of_beq_eq_false rfl)).trans (fc1609 9 (Nat.ne_of_beq_eq_false rfl)))))))) ?_
                      refine J_bipush (v := 48) dX11_token_167 (by decide) ?_
                      refine J_bipush (v := 57) dX11_token_169 (by decide) ?_
                      refine J_callS (As := [.int (mse u (u3974 162 8) (u 162 9)), .int 48, .int 57]) (rest := []) dX11_token_171 (c_M_inEX (d := 0) (u := u3974) (g := g3233) (ex := ex) (v := (mse u (u3974 162 8) (u 162 9))) (low := 48) (high := 57)  (by decide) ) hq.n k1406 k1407 k97 k1408 np_X11_in (Nat.le_trans (by decide) hd) (by decide) (Nat.le_refl _) (Nat.le_refl _) wlen rfl (Nat.le_of_ble_eq_true rfl) (fun r_ h_ p4018 => ?_)
                      obtain ⟨t4019, rfl, rfl, h4020, h4021, h4022, hx4023⟩ := p4018
                      replace E := xq_le hx4023 E
                      refine J_ifB_eq (tgt := 224) dX11_token_174 (by decide) (fun c4024 => ?_) (fun c4024 => ?_)
                      · replace E := xq_ef c4024 E
                        refine J_aload_n (i := 0) (j := 0) dX11_token_224 rfl rfl ?_
                        refine J_iload_n (i := 2) (j := 1) dX11_token_225 rfl rfl ?_
                        refine J_iconst (v := 3) dX11_token_226 (by decide) ?_
                        refine J_icmp_le (tgt := 234) dX11_token_227 (by decide) (fun c4035 => ?_) (fun c4035 => ?_)
                        · replace E := xq_ep c4035 E
                          refine J_iconst (v := 3) dX11_token_234 (by decide) ?_
                          obtain ⟨u4036, e4037⟩ : ∃ z, z = ms u3974 162 11 3 := ⟨_, rfl⟩
                          refine J_put (C := RX11) (T := TX11) (Z := 43) (ci := 11) (f := 11) (ty0 := tyX11) dX11_token_235 inG11 rfl tyX11_ok nmX11 (by decide) k1275 rfl rfl wc_162 (Nat.le_of_ble_eq_true rfl) (fun _ _ => ⟨rfl, rfl⟩) (ws e4037 wk_162 rfl) ?_
                          replace E := xq_le e4037 E
                          refine J_goto (tgt := 266) dX11_token_238 (by decide) ?_
                          exact J_vret hq dX11_token_266 rfl wlen (Nat.le_refl _) (Nat.le_refl _) ⟨u4036, g3233, rfl, rfl, (bd_r (ms_i e4037 (Nat.ne_of_beq_eq_false rfl)) (bd_w (l := 0) (h := 600) bm3977 (by decide))), (bd_r ((ms_i e4037 (Nat.ne_of_beq_eq_false rfl)).trans ((fc3976 10 (Nat.ne_of_beq_eq_false rfl) (Nat.ne_of_beq_eq_false rfl)).trans ((ms_i e3572 (Nat.ne_of_beq_eq_false rfl)).trans ((ms_i e3570 (Nat.ne_of_beq_eq_false rfl)).trans ((ms_i e3258 (Nat.ne_of_beq_eq_false rfl)).trans (ms_e e3231)))))) (bd_w (l := 0) (h := 600) (bd_lt_hi bm1610 (mse_lt (bd_le_hi (bd_le_lo (bd_le_lo (mse_b (mse u (u1607 162 8) (u 162 9))) c3235 (bd_c (v := 0) (lo := 0) (hi := 0) (by decide))) (h3245 c3249) (bd_c (v := 48) (lo := 48) (hi := 48) (by decide))) (h3246 c3249) (bd_c (v := 57) (lo := 57) (hi := 57) (by decide))) (by decide)) hp1) (by decide))), (bd_r (ms_e e4037) (bd_w (l := 0) (h := 4) (bd_c (v := 3) (lo := 3) (hi := 3) (by decide)) (by decide))), (bd_r (ms_i e4037 (Nat.ne_of_beq_eq_false rfl)) (vi_b (hI4016).2.1)), (gv_r rfl (ms_i e4037 (Nat.ne_of_beq_eq_false rfl)) (ms_e e4037) (gv_go hI3221 (hI4016).1)), E, (fun c k0_ => ((ms_c e4037 k0_).trans ((fr3975 c k0_).trans ((ms_c e3572 k0_).trans ((ms_c e3570 k0_).trans ((ms_c e3258 k0_).trans ((ms_c e3231 k0_).trans (fr1608 c k0_)))))))), (fun j k8_ k10_ k11_ k12_ => ((ms_i e4037 k11_).trans ((fc3976 j k8_ k12_).trans ((ms_i e3572 k8_).trans ((ms_i e3570 k12_).trans ((ms_i e3258 k12_).trans ((ms_i e3231 k10_).trans (fc1609 j k8_))))))))⟩
                        · replace E := xq_en c4035 E
                          refine J_iconst (v := 1) dX11_token_230 (by decide) ?_
                          refine J_goto (tgt := 235) dX11_token_231 (by decide) ?_
                          obtain ⟨u4038, e4039⟩ : ∃ z, z = ms u3974 162 11 1 := ⟨_, rfl⟩
                          refine J_put (C := RX11) (T := TX11) (Z := 43) (ci := 11) (f := 11) (ty0 := tyX11) dX11_token_235 inG11 rfl tyX11_ok nmX11 (by decide) k1275 rfl rfl wc_162 (Nat.le_of_ble_eq_true rfl) (fun _ _ => ⟨rfl, rfl⟩) (ws e4039 wk_162 rfl) ?_
                          replace E := xq_le e4039 E
                          refine J_goto (tgt := 266) dX11_token_238 (by decide) ?_
                          exact J_vret hq dX11_token_266 rfl wlen (Nat.le_refl _) (Nat.le_refl _) ⟨u4038, g3233, rfl, rfl, (bd_r (ms_i e4039 (Nat.ne_of_beq_eq_false rfl)) (bd_w (l := 0) (h := 600) bm3977 (by decide))), (bd_r ((ms_i e4039 (Nat.ne_of_beq_eq_false rfl)).trans ((fc3976 10 (Nat.ne_of_beq_eq_false rfl) (Nat.ne_of_beq_eq_false rfl)).trans ((ms_i e3572 (Nat.ne_of_beq_eq_false rfl)).trans ((ms_i e3570 (Nat.ne_of_beq_eq_false rfl)).trans ((ms_i e3258 (Nat.ne_of_beq_eq_false rfl)).trans (ms_e e3231)))))) (bd_w (l := 0) (h := 600) (bd_lt_hi bm1610 (mse_lt (bd_le_hi (bd_le_lo (bd_le_lo (mse_b (mse u (u1607 162 8) (u 162 9))) c3235 (bd_c (v := 0) (lo := 0) (hi := 0) (by decide))) (h3245 c3249) (bd_c (v := 48) (lo := 48) (hi := 48) (by decide))) (h3246 c3249) (bd_c (v := 57) (lo := 57) (hi := 57) (by decide))) (by decide)) hp1) (by decide))), (bd_r (ms_e e4039) (bd_w (l := 0) (h := 4) (bd_c (v := 1) (lo := 1) (hi := 1) (by decide)) (by decide))), (bd_r (ms_i e4039 (Nat.ne_of_beq_eq_false rfl)) (vi_b (hI4016).2.1)), (gv_r rfl (ms_i e4039 (Nat.ne_of_beq_eq_false rfl)) (ms_e e4039) (gv_go hI3221 (hI4016).1)), E, (fun c k0_ => ((ms_c e4039 k0_).trans ((fr3975 c k0_).trans ((ms_c e3572 k0_).trans ((ms_c e3570 k0_).trans ((ms_c e3258 k0_).trans ((ms_c e3231 k0_).trans (fr1608 c k0_)))))))), (fun j k8_ k10_ k11_ k12_ => ((ms_i e4039 k11_).trans ((fc3976 j k8_ k12_).trans ((ms_i e3572 k8_).trans ((ms_i e3570 k12_).trans ((ms_i e3258 k12_).trans ((ms_i e3231 k10_).trans (fc1609 j k8_))))))))⟩
                      · replace E := xq_ep c4024 E
                        refine J_aload_n (i := 0) (j := 0) dX11_token_177 rfl rfl ?_
                        refine J_iload_n (i := 2) (j := 1) dX11_token_178 rfl rfl ?_
                        refine J_iconst (v := 3) dX11_token_179 (by decide) ?_
                        refine J_icmp_ge (tgt := 201) dX11_token_180 (by decide) (fun c4040 => ?_) (fun c4040 => ?_)
                        · replace E := xq_ep c4040 E
                          refine J_aload_n (i := 0) (j := 0) dX11_token_201 rfl rfl ?_
                          refine J_get (C := RX11) (T := TX11) (Z := 43) (ci := 11) (f := 12) dX11_token_202 inG11 rfl (by decide) k1276 wc_162 rfl ?_
                          obtain ⟨u4041, e4042⟩ : ∃ z, z = ms u3974 162 12 (u3974 162 12) := ⟨_, rfl⟩
                          refine J_put (C := RX11) (T := TX11) (Z := 43) (ci := 11) (f := 12) (ty0 := tyX11) dX11_token_205 inG11 rfl tyX11_ok nmX11 (by decide) k1276 rfl rfl wc_162 (Nat.le_of_ble_eq_true rfl) (fun _ _ => ⟨rfl, rfl⟩) (ws e4042 wk_162 rfl) ?_
                          replace E := xq_le e4042 E
                          refine J_aload_n (i := 0) (j := 0) dX11_token_208 rfl rfl ?_
                          refine J_dup dX11_token_209 rfl ?_
                          refine J_get (C := RX11) (T := TX11) (Z := 43) (ci := 11) (f := 8) dX11_token_210 inG11 rfl (by decide) k1272 wc_162 rfl ?_
                          refine J_ci (v := u3974 162 8) (ms_i e4042 (Nat.ne_of_beq_eq_false rfl)) ?_
                          refine J_iconst (v := 1) dX11_token_213 (by decide) ?_
                          refine J_iadd dX11_token_214 ?_
                          obtain ⟨u4043, e4044⟩ : ∃ z, z = ms u4041 162 8 ((u3974 162 8) + 1) := ⟨_, rfl⟩
                          refine J_put (C := RX11) (T := TX11) (Z := 43) (ci := 11) (f := 8) (ty0 := tyX11) dX11_token_215 inG11 rfl tyX11_ok nmX11 (by decide) k1272 rfl rfl wc_162 (Nat.le_of_ble_eq_true rfl) (fun _ _ => ⟨rfl, rfl⟩) (ws e4044 wk_162 rfl) ?_
                          replace E := xq_le e4044 E
                          refine J_iinc (i := 2) (j := 1) (v := (w3973 + 1)) (lw := [(2, .int (w3973 + 1)), (0, .ref 162)]) dX11_token_218 rfl rfl (by decide) rfl ?_
                          refine J_goto (tgt := 163) dX11_token_221 (by decide) ?_
                          refine J_lv [1, 0] rfl ?_
                          exact ih4014 (w3973 + 1) u4043 (fun c k0_ => ((ms_c e4044 k0_).trans ((ms_c e4042 k0_).trans (fr3975 c k0_)))) (fun j k8_ k12_ => ((ms_i e4044 k8_).trans ((ms_i e4042 k12_).trans (fc3976 j k8_ k12_)))) (bd_r (ms_e e4044) (bd_w (l := 1) (h := 600) (bd_add (l := 2) (h := 600) (bd_lt_hi bm3977 (mse_lt (bd_le_hi (bd_le_lo (mse_b (mse u (u3974 162 8) (u 162 9))) (h4020 c4024) (bd_c (v := 48) (lo := 48) (hi := 48) (by decide))) (h4021 c4024) (bd_c (v := 57) (lo := 57) (hi := 57) (by decide))) (by decide)) (bd_lt_lo hp1 (mse_lt (bd_le_hi (bd_le_lo (bd_le_lo (mse_b (mse u (u1607 162 8) (u 162 9))) c3235 (bd_c (v := 0) (lo := 0) (hi := 0) (by decide))) (h3245 c3249) (bd_c (v := 48) (lo := 48) (hi := 48) (by decide))) (h3246 c3249) (bd_c (v := 57) (lo := 57) (hi := 57) (by decide))) (by decide)) bm1610)) (bd_c (v := 1) (lo := 1) (hi := 1) (by decide)) (by decide)) (by decide))) (bd_r ((ms_i e4044 (Nat.ne_of_beq_eq_false rfl)).trans (ms_e e4042)) (bd_w (l := 0) (h := 9999) (vi_b (hI4016).2.1) (by decide))) ⟨(lt_eq (lt_s1 (bd_lt_hi bm3977 (mse_lt (bd_le_hi (bd_le_lo (mse_b (mse u (u3974 162 8) (u 162 9))) (h4020 c4024) (bd_c (v := 48) (lo := 48) (hi := 48) (by decide))) (h4021 c4024) (bd_c (v := 57) (lo := 57) (hi := 57) (by decide))) (by decide)) (bd_lt_lo hp1 (mse_lt (bd_le_hi (bd_le_lo (bd_le_lo (mse_b (mse u (u1607 162 8) (u 162 9))) c3235 (bd_c (v := 0) (lo := 0) (hi := 0) (by decide))) (h3245 c3249) (bd_c (v := 48) (lo := 48) (hi := 48) (by decide))) (h3246 c3249) (bd_c (v := 57) (lo := 57) (hi := 57) (by decide))) (by decide)) bm1610)) (by decide) (Int32.le_of_lt (hI4016).1)) (ms_e e4044).symm), (vi_r ((ms_i e4044 (Nat.ne_of_beq_eq_false rfl)).trans (ms_e e4042)) (vi_k (hI4016).2.1 (vi_n (hI4016).2.1 (hI4016).2.2 (bd_w (l := 0) (h := 600) (bd_lt_hi bm3977 (mse_lt (bd_le_hi (bd_le_lo (mse_b (mse u (u3974 162 8) (u 162 9))) (h4020 c4024) (bd_c (v := 48) (lo := 48) (hi := 48) (by decide))) (h4021 c4024) (bd_c (v := 57) (lo := 57) (hi := 57) (by decide))) (by decide)) (bd_lt_lo hp1 (mse_lt (bd_le_hi (bd_le_lo (bd_le_lo (mse_b (mse u (u1607 162 8) (u 162 9))) c3235 (bd_c (v := 0) (lo := 0) (hi := 0) (by decide))) (h3245 c3249) (bd_c (v := 48) (lo := 48) (hi := 48) (by decide))) (h3246 c3249) (bd_c (v := 57) (lo := 57) (hi := 57) (by decide))) (by decide)) bm1610)) (by decide))) c4040)), (le_eq (le_s1 (vi_n (hI4016).2.1 (hI4016).2.2 (bd_w (l := 0) (h := 600) (bd_lt_hi bm3977 (mse_lt (bd_le_hi (bd_le_lo (mse_b (mse u (u3974 162 8) (u 162 9))) (h4020 c4024) (bd_c (v := 48) (lo := 48) (hi := 48) (by decide))) (h4021 c4024) (bd_c (v := 57) (lo := 57) (hi := 57) (by decide))) (by decide)) (bd_lt_lo hp1 (mse_lt (bd_le_hi (bd_le_lo (bd_le_lo (mse_b (mse u (u1607 162 8) (u 162 9))) c3235 (bd_c (v := 0) (lo := 0) (hi := 0) (by decide))) (h3245 c3249) (bd_c (v := 48) (lo := 48) (hi := 48) (by decide))) (h3246 c3249) (bd_c (v := 57) (lo := 57) (hi := 57) (by decide))) (by decide)) bm1610)) (by decide))) (bd_lt_hi bm3977 (mse_lt (bd_le_hi (bd_le_lo (mse_b (mse u (u3974 162 8) (u 162 9))) (h4020 c4024) (bd_c (v := 48) (lo := 48) (hi := 48) (by decide))) (h4021 c4024) (bd_c (v := 57) (lo := 57) (hi := 57) (by decide))) (by decide)) (bd_lt_lo hp1 (mse_lt (bd_le_hi (bd_le_lo (bd_le_lo (mse_b (mse u (u1607 162 8) (u 162 9))) c3235 (bd_c (v := 0) (lo := 0) (hi := 0) (by decide))) (h3245 c3249) (bd_c (v := 48) (lo := 48) (hi := 48) (by decide))) (h3246 c3249) (bd_c (v := 57) (lo := 57) (hi := 57) (by decide))) (by decide)) bm1610)) (by decide) (hI4016).2.2) (ms_e e4044).symm)⟩ (mu_up 1 bm3977 (ms_e e4044) (by decide) (bd_w (l := 2) (h := 600) (bd_r (ms_e e4044) (bd_add (l := 2) (h := 600) (bd_lt_hi bm3977 (mse_lt (bd_le_hi (bd_le_lo (mse_b (mse u (u3974 162 8) (u 162 9))) (h4020 c4024) (bd_c (v := 48) (lo := 48) (hi := 48) (by decide))) (h4021 c4024) (bd_c (v := 57) (lo := 57) (hi := 57) (by decide))) (by decide)) (bd_lt_lo hp1 (mse_lt (bd_le_hi (bd_le_lo (bd_le_lo (mse_b (mse u (u1607 162 8) (u 162 9))) c3235 (bd_c (v := 0) (lo := 0) (hi := 0) (by decide))) (h3245 c3249) (bd_c (v := 48) (lo := 48) (hi := 48) (by decide))) (h3246 c3249) (bd_c (v := 57) (lo := 57) (hi := 57) (by decide))) (by decide)) bm1610)) (bd_c (v := 1) (lo := 1) (hi := 1) (by decide)) (by decide))) (by decide)) hm4015) E
                        · replace E := xq_en c4040 E
                          refine J_bipush (v := 10) dX11_token_183 (by decide) ?_
                          refine J_aload_n (i := 0) (j := 0) dX11_token_185 rfl rfl ?_
                          refine J_get (C := RX11) (T := TX11) (Z := 43) (ci := 11) (f := 12) dX11_token_186 inG11 rfl (by decide) k1276 wc_162 rfl ?_
                          refine J_imul dX11_token_189 ?_
                          refine J_aload_n (i := 0) (j := 0) dX11_token_190 rfl rfl ?_
                          refine J_callV (As := []) (rest := [.int ((10 : Int32) * (u3974 162 12)), .ref 162]) dX11_token_191 (c_M_see (d := 0) (u := u3974) (g := g3233) (ex := ex)   (by decide) (bd_w (l := 0) (h := 600) bm3977 (by decide)) (bd_r ((fc3976 9 (Nat.ne_of_beq_eq_false rfl) (Nat.ne_of_beq_eq_false rfl)).trans ((ms_i e3572 (Nat.ne_of_beq_eq_false rfl)).trans ((ms_i e3570 (Nat.ne_of_beq_eq_false rfl)).trans ((ms_i e3258 (Nat.ne_of_beq_eq_false rfl)).trans ((ms_i e3231 (Nat.ne_of_beq_eq_false rfl)).trans (fc1609 9 (Nat.ne_of_beq_eq_false rfl))))))) (bd_w (l := 0) (h := 600) (bd_lt_lo hp1 (mse_lt (bd_le_hi (bd_le_lo (bd_le_lo (mse_b (mse u (u1607 162 8) (u 162 9))) c3235 (bd_c (v := 0) (lo := 0) (hi := 0) (by decide))) (h3245 c3249) (bd_c (v := 48) (lo := 48) (hi := 48) (by decide))) (h3246 c3249) (bd_c (v := 57) (lo := 57) (hi := 57) (by decide))) (by decide)) bm1610) (by decide)))) hq.n k1421 k1423 k39 wc_162 rfl rfl k97 k1424 np_X11_see (Nat.le_trans (by decide) hd) (by decide) (Nat.le_refl _) (Nat.le_refl _) wlen rfl (Nat.le_of_ble_eq_true rfl) (fun r_ h_ p4045 => ?_)
                          obtain ⟨rfl, rfl⟩ := p4045
                          refine J_ci (v := (mse u (u3974 162 8) (u 162 9))) (mse_c ((fr3975 163 (Nat.ne_of_beq_eq_false rfl)).trans ((ms_c e3572 (Nat.ne_of_beq_eq_false rfl)).trans ((ms_c e3570 (Nat.ne_of_beq_eq_false rfl)).trans ((ms_c e3258 (Nat.ne_of_beq_eq_false rfl)).trans ((ms_c e3231 (Nat.ne_of_beq_eq_false rfl)).trans (fr1608 163 (Nat.ne_of_beq_eq_false rfl))))))) rfl ((fc3976 9 (Nat.ne_of_beq_eq_false rfl) (Nat.ne_of_beq_eq_false rfl)).trans ((ms_i e3572 (Nat.ne_of_beq_eq_false rfl)).trans ((ms_i e3570 (Nat.ne_of_beq_eq_false rfl)).trans ((ms_i e3258 (Nat.ne_of_beq_eq_false rfl)).trans ((ms_i e3231 (Nat.ne_of_beq_eq_false rfl)).trans (fc1609 9 (Nat.ne_of_beq_eq_false rfl)))))))) ?_
                          refine J_iadd dX11_token_194 ?_
                          refine J_bipush (v := 48) dX11_token_195 (by decide) ?_
                          refine J_isub dX11_token_197 ?_
                          refine J_goto (tgt := 205) dX11_token_198 (by decide) ?_
                          obtain ⟨u4046, e4047⟩ : ∃ z, z = ms u3974 162 12 ((((10 : Int32) * (u3974 162 12)) + (mse u (u3974 162 8) (u 162 9))) - 48) := ⟨_, rfl⟩
                          refine J_put (C := RX11) (T := TX11) (Z := 43) (ci := 11) (f := 12) (ty0 := tyX11) dX11_token_205 inG11 rfl tyX11_ok nmX11 (by decide) k1276 rfl rfl wc_162 (Nat.le_of_ble_eq_true rfl) (fun _ _ => ⟨rfl, rfl⟩) (ws e4047 wk_162 rfl) ?_
                          replace E := xq_le e4047 E
                          refine J_aload_n (i := 0) (j := 0) dX11_token_208 rfl rfl ?_
                          refine J_dup dX11_token_209 rfl ?_
                          refine J_get (C := RX11) (T := TX11) (Z := 43) (ci := 11) (f := 8) dX11_token_210 inG11 rfl (by decide) k1272 wc_162 rfl ?_
                          refine J_ci (v := u3974 162 8) (ms_i e4047 (Nat.ne_of_beq_eq_false rfl)) ?_
                          refine J_iconst (v := 1) dX11_token_213 (by decide) ?_
                          refine J_iadd dX11_token_214 ?_
                          obtain ⟨u4048, e4049⟩ : ∃ z, z = ms u4046 162 8 ((u3974 162 8) + 1) := ⟨_, rfl⟩
                          refine J_put (C := RX11) (T := TX11) (Z := 43) (ci := 11) (f := 8) (ty0 := tyX11) dX11_token_215 inG11 rfl tyX11_ok nmX11 (by decide) k1272 rfl rfl wc_162 (Nat.le_of_ble_eq_true rfl) (fun _ _ => ⟨rfl, rfl⟩) (ws e4049 wk_162 rfl) ?_
                          replace E := xq_le e4049 E
                          refine J_iinc (i := 2) (j := 1) (v := (w3973 + 1)) (lw := [(2, .int (w3973 + 1)), (0, .ref 162)]) dX11_token_218 rfl rfl (by decide) rfl ?_
                          refine J_goto (tgt := 163) dX11_token_221 (by decide) ?_
                          refine J_lv [1, 0] rfl ?_
                          exact ih4014 (w3973 + 1) u4048 (fun c k0_ => ((ms_c e4049 k0_).trans ((ms_c e4047 k0_).trans (fr3975 c k0_)))) (fun j k8_ k12_ => ((ms_i e4049 k8_).trans ((ms_i e4047 k12_).trans (fc3976 j k8_ k12_)))) (bd_r (ms_e e4049) (bd_w (l := 1) (h := 600) (bd_add (l := 2) (h := 600) (bd_lt_hi bm3977 (mse_lt (bd_le_hi (bd_le_lo (mse_b (mse u (u3974 162 8) (u 162 9))) (h4020 c4024) (bd_c (v := 48) (lo := 48) (hi := 48) (by decide))) (h4021 c4024) (bd_c (v := 57) (lo := 57) (hi := 57) (by decide))) (by decide)) (bd_lt_lo hp1 (mse_lt (bd_le_hi (bd_le_lo (bd_le_lo (mse_b (mse u (u1607 162 8) (u 162 9))) c3235 (bd_c (v := 0) (lo := 0) (hi := 0) (by decide))) (h3245 c3249) (bd_c (v := 48) (lo := 48) (hi := 48) (by decide))) (h3246 c3249) (bd_c (v := 57) (lo := 57) (hi := 57) (by decide))) (by decide)) bm1610)) (bd_c (v := 1) (lo := 1) (hi := 1) (by decide)) (by decide)) (by decide))) (bd_r ((ms_i e4049 (Nat.ne_of_beq_eq_false rfl)).trans (ms_e e4047)) (bd_sub (l := 0) (h := 9999) (bd_add (l := 48) (h := 10047) (bd_mul (l := 0) (h := 9990) (bd_c (v := 10) (lo := 10) (hi := 10) (by decide)) (vi_b (hI4016).2.1) (by decide)) (bd_le_hi (bd_le_lo (mse_b (mse u (u3974 162 8) (u 162 9))) (h4020 c4024) (bd_c (v := 48) (lo := 48) (hi := 48) (by decide))) (h4021 c4024) (bd_c (v := 57) (lo := 57) (hi := 57) (by decide))) (by decide)) (bd_c (v := 48) (lo := 48) (hi := 48) (by decide)) (by decide))) ⟨(lt_eq (lt_s1 (bd_lt_hi bm3977 (mse_lt (bd_le_hi (bd_le_lo (mse_b (mse u (u3974 162 8) (u 162 9))) (h4020 c4024) (bd_c (v := 48) (lo := 48) (hi := 48) (by decide))) (h4021 c4024) (bd_c (v := 57) (lo := 57) (hi := 57) (by decide))) (by decide)) (bd_lt_lo hp1 (mse_lt (bd_le_hi (bd_le_lo (bd_le_lo (mse_b (mse u (u1607 162 8) (u 162 9))) c3235 (bd_c (v := 0) (lo := 0) (hi := 0) (by decide))) (h3245 c3249) (bd_c (v := 48) (lo := 48) (hi := 48) (by decide))) (h3246 c3249) (bd_c (v := 57) (lo := 57) (hi := 57) (by decide))) (by decide)) bm1610)) (by decide) (Int32.le_of_lt (hI4016).1)) (ms_e e4049).symm), (vi_r ((ms_i e4049 (Nat.ne_of_beq_eq_false rfl)).trans (ms_e e4047)) (vi_s (hI4016).2.1 (vi_n (hI4016).2.1 (hI4016).2.2 (bd_w (l := 0) (h := 600) (bd_lt_hi bm3977 (mse_lt (bd_le_hi (bd_le_lo (mse_b (mse u (u3974 162 8) (u 162 9))) (h4020 c4024) (bd_c (v := 48) (lo := 48) (hi := 48) (by decide))) (h4021 c4024) (bd_c (v := 57) (lo := 57) (hi := 57) (by decide))) (by decide)) (bd_lt_lo hp1 (mse_lt (bd_le_hi (bd_le_lo (bd_le_lo (mse_b (mse u (u1607 162 8) (u 162 9))) c3235 (bd_c (v := 0) (lo := 0) (hi := 0) (by decide))) (h3245 c3249) (bd_c (v := 48) (lo := 48) (hi := 48) (by decide))) (h3246 c3249) (bd_c (v := 57) (lo := 57) (hi := 57) (by decide))) (by decide)) bm1610)) (by decide))) (i_nle c4040) (bd_le_hi (bd_le_lo (mse_b (mse u (u3974 162 8) (u 162 9))) (h4020 c4024) (bd_c (v := 48) (lo := 48) (hi := 48) (by decide))) (h4021 c4024) (bd_c (v := 57) (lo := 57) (hi := 57) (by decide))))), (le_eq (le_s1 (vi_n (hI4016).2.1 (hI4016).2.2 (bd_w (l := 0) (h := 600) (bd_lt_hi bm3977 (mse_lt (bd_le_hi (bd_le_lo (mse_b (mse u (u3974 162 8) (u 162 9))) (h4020 c4024) (bd_c (v := 48) (lo := 48) (hi := 48) (by decide))) (h4021 c4024) (bd_c (v := 57) (lo := 57) (hi := 57) (by decide))) (by decide)) (bd_lt_lo hp1 (mse_lt (bd_le_hi (bd_le_lo (bd_le_lo (mse_b (mse u (u1607 162 8) (u 162 9))) c3235 (bd_c (v := 0) (lo := 0) (hi := 0) (by decide))) (h3245 c3249) (bd_c (v := 48) (lo := 48) (hi := 48) (by decide))) (h3246 c3249) (bd_c (v := 57) (lo := 57) (hi := 57) (by decide))) (by decide)) bm1610)) (by decide))) (bd_lt_hi bm3977 (mse_lt (bd_le_hi (bd_le_lo (mse_b (mse u (u3974 162 8) (u 162 9))) (h4020 c4024) (bd_c (v := 48) (lo := 48) (hi := 48) (by decide))) (h4021 c4024) (bd_c (v := 57) (lo := 57) (hi := 57) (by decide))) (by decide)) (bd_lt_lo hp1 (mse_lt (bd_le_hi (bd_le_lo (bd_le_lo (mse_b (mse u (u1607 162 8) (u 162 9))) c3235 (bd_c (v := 0) (lo := 0) (hi := 0) (by decide))) (h3245 c3249) (bd_c (v := 48) (lo := 48) (hi := 48) (by decide))) (h3246 c3249) (bd_c (v := 57) (lo := 57) (hi := 57) (by decide))) (by decide)) bm1610)) (by decide) (hI4016).2.2) (ms_e e4049).symm)⟩ (mu_up 1 bm3977 (ms_e e4049) (by decide) (bd_w (l := 2) (h := 600) (bd_r (ms_e e4049) (bd_add (l := 2) (h := 600) (bd_lt_hi bm3977 (mse_lt (bd_le_hi (bd_le_lo (mse_b (mse u (u3974 162 8) (u 162 9))) (h4020 c4024) (bd_c (v := 48) (lo := 48) (hi := 48) (by decide))) (h4021 c4024) (bd_c (v := 57) (lo := 57) (hi := 57) (by decide))) (by decide)) (bd_lt_lo hp1 (mse_lt (bd_le_hi (bd_le_lo (bd_le_lo (mse_b (mse u (u1607 162 8) (u 162 9))) c3235 (bd_c (v := 0) (lo := 0) (hi := 0) (by decide))) (h3245 c3249) (bd_c (v := 48) (lo := 48) (hi := 48) (by decide))) (h3246 c3249) (bd_c (v := 57) (lo := 57) (hi := 57) (by decide))) (by decide)) bm1610)) (bd_c (v := 1) (lo := 1) (hi := 1) (by decide)) (by decide))) (by decide)) hm4015) E
                  refine J_lv [2, 0] rfl ?_
                  exact lp4012 ((600 - (u3571 162 8).toInt).toNat + 1) (1 : Int32) u3571 (fun c k0_ => rfl) (fun j k8_ k12_ => rfl) (bd_r (ms_e e3572) (bd_add (l := 1) (h := 600) (bd_lt_hi bm1610 (mse_lt (bd_le_hi (bd_le_lo (bd_le_lo (mse_b (mse u (u1607 162 8) (u 162 9))) c3235 (bd_c (v := 0) (lo := 0) (hi := 0) (by decide))) (h3245 c3249) (bd_c (v := 48) (lo := 48) (hi := 48) (by decide))) (h3246 c3249) (bd_c (v := 57) (lo := 57) (hi := 57) (by decide))) (by decide)) hp1) (bd_c (v := 1) (lo := 1) (hi := 1) (by decide)) (by decide))) (bd_r ((ms_i e3572 (Nat.ne_of_beq_eq_false rfl)).trans (ms_e e3570)) (bd_w (l := 0) (h := 9999) (bd_sub (l := 0) (h := 9) (bd_add (l := 48) (h := 57) (bd_c (v := 0) (lo := 0) (hi := 0) (by decide)) (bd_le_hi (bd_le_lo (bd_le_lo (mse_b (mse u (u1607 162 8) (u 162 9))) c3235 (bd_c (v := 0) (lo := 0) (hi := 0) (by decide))) (h3245 c3249) (bd_c (v := 48) (lo := 48) (hi := 48) (by decide))) (h3246 c3249) (bd_c (v := 57) (lo := 57) (hi := 57) (by decide))) (by decide)) (bd_c (v := 48) (lo := 48) (hi := 48) (by decide)) (by decide)) (by decide))) ⟨(lt_eq (lt_s1 (bd_lt_hi bm1610 (mse_lt (bd_le_hi (bd_le_lo (bd_le_lo (mse_b (mse u (u1607 162 8) (u 162 9))) c3235 (bd_c (v := 0) (lo := 0) (hi := 0) (by decide))) (h3245 c3249) (bd_c (v := 48) (lo := 48) (hi := 48) (by decide))) (h3246 c3249) (bd_c (v := 57) (lo := 57) (hi := 57) (by decide))) (by decide)) hp1) (by decide) (Int32.le_refl _)) (ms_e e3572).symm), (vi_r ((ms_i e3572 (Nat.ne_of_beq_eq_false rfl)).trans (ms_e e3570)) (vi_1 (bd_le_hi (bd_le_lo (bd_le_lo (mse_b (mse u (u1607 162 8) (u 162 9))) c3235 (bd_c (v := 0) (lo := 0) (hi := 0) (by decide))) (h3245 c3249) (bd_c (v := 48) (lo := 48) (hi := 48) (by decide))) (h3246 c3249) (bd_c (v := 57) (lo := 57) (hi := 57) (by decide))))), (le_eq (one_le (bd_lt_hi bm1610 (mse_lt (bd_le_hi (bd_le_lo (bd_le_lo (mse_b (mse u (u1607 162 8) (u 162 9))) c3235 (bd_c (v := 0) (lo := 0) (hi := 0) (by decide))) (h3245 c3249) (bd_c (v := 48) (lo := 48) (hi := 48) (by decide))) (h3246 c3249) (bd_c (v := 57) (lo := 57) (hi := 57) (by decide))) (by decide)) hp1) (by decide)) (ms_e e3572).symm)⟩ (Nat.lt_succ_self _) E
            · replace E := xq_ep c3242 E
              refine J_aload_n (i := 0) (j := 2) dX11_token_74 rfl rfl ?_
              refine J_callV (As := []) (rest := []) dX11_token_75 (c_M_see (d := 0) (u := u3230) (g := g3233) (ex := ex)   (by decide) (bd_r (ms_i e3231 (Nat.ne_of_beq_eq_false rfl)) bm1610) (bd_r ((ms_i e3231 (Nat.ne_of_beq_eq_false rfl)).trans (fc1609 9 (Nat.ne_of_beq_eq_false rfl))) hp1)) hq.n k1421 k1423 k39 wc_162 rfl rfl k97 k1424 np_X11_see (Nat.le_trans (by decide) hd) (by decide) (Nat.le_refl _) (Nat.le_refl _) wlen rfl (Nat.le_of_ble_eq_true rfl) (fun r_ h_ p4050 => ?_)
              obtain ⟨rfl, rfl⟩ := p4050
              refine J_ci (v := (mse u (u1607 162 8) (u 162 9))) (mse_c ((ms_c e3231 (Nat.ne_of_beq_eq_false rfl)).trans (fr1608 163 (Nat.ne_of_beq_eq_false rfl))) (ms_i e3231 (Nat.ne_of_beq_eq_false rfl)) ((ms_i e3231 (Nat.ne_of_beq_eq_false rfl)).trans (fc1609 9 (Nat.ne_of_beq_eq_false rfl)))) ?_
              refine J_bipush (v := 97) dX11_token_78 (by decide) ?_
              refine J_bipush (v := 122) dX11_token_80 (by decide) ?_
              refine J_callS (As := [.int (mse u (u1607 162 8) (u 162 9)), .int 97, .int 122]) (rest := []) dX11_token_82 (c_M_inEX (d := 0) (u := u3230) (g := g3233) (ex := ex) (v := (mse u (u1607 162 8) (u 162 9))) (low := 97) (high := 122)  (by decide) ) hq.n k1406 k1407 k97 k1408 np_X11_in (Nat.le_trans (by decide) hd) (by decide) (Nat.le_refl _) (Nat.le_refl _) wlen rfl (Nat.le_of_ble_eq_true rfl) (fun r_ h_ p4051 => ?_)
              obtain ⟨t4052, rfl, rfl, h4053, h4054, h4055, hx4056⟩ := p4051
              replace E := xq_le hx4056 E
              refine J_ifB_eq (tgt := 121) dX11_token_85 (by decide) (fun c4057 => ?_) (fun c4057 => ?_)
              · exact absurd ((h4055.mpr ⟨c_le (bd_le_hi (bd_le_lo (bd_le_lo (mse_b (mse u (u1607 162 8) (u 162 9))) c3235 (bd_c (v := 0) (lo := 0) (hi := 0) (by decide))) (h3238 c3242) (bd_c (v := 97) (lo := 97) (hi := 97) (by decide))) (h3239 c3242) (bd_c (v := 122) (lo := 122) (hi := 122) (by decide))) (by decide), le_cc (bd_le_hi (bd_le_lo (bd_le_lo (mse_b (mse u (u1607 162 8) (u 162 9))) c3235 (bd_c (v := 0) (lo := 0) (hi := 0) (by decide))) (h3238 c3242) (bd_c (v := 97) (lo := 97) (hi := 97) (by decide))) (h3239 c3242) (bd_c (v := 122) (lo := 122) (hi := 122) (by decide))) (by decide)⟩).symm.trans c4057) (by decide)
              · replace E := xq_ep c4057 E
                refine J_aload_n (i := 0) (j := 2) dX11_token_88 rfl rfl ?_
                refine J_aload_n (i := 0) (j := 2) dX11_token_89 rfl rfl ?_
                refine J_get (C := RX11) (T := TX11) (Z := 43) (ci := 11) (f := 13) dX11_token_90 inG11 rfl (by decide) k1277 wc_162 rfl ?_
                refine J_topl (fun l4336 ql4336 => ?_)
                replace E := xq_le ql4336 E
                refine J_bipush (v := 8) dX11_token_93 (by decide) ?_
                refine J_lshl dX11_token_95 rfl ?_
                refine J_topl (fun l4337 ql4337 => ?_)
                replace E := xq_le ql4337 E
                refine J_aload_n (i := 0) (j := 2) dX11_token_96 rfl rfl ?_
                refine J_callV (As := []) (rest := [.long l4337, .ref 162]) dX11_token_97 (c_M_see (d := 0) (u := u3230) (g := g3233) (ex := ex)   (by decide) (bd_r (ms_i e3231 (Nat.ne_of_beq_eq_false rfl)) bm1610) (bd_r ((ms_i e3231 (Nat.ne_of_beq_eq_false rfl)).trans (fc1609 9 (Nat.ne_of_beq_eq_false rfl))) hp1)) hq.n k1421 k1423 k39 wc_162 rfl rfl k97 k1424 np_X11_see (Nat.le_trans (by decide) hd) (by decide) (Nat.le_refl _) (Nat.le_refl _) wlen rfl (Nat.le_of_ble_eq_true rfl) (fun r_ h_ p4338 => ?_)
                obtain ⟨rfl, rfl⟩ := p4338
                refine J_ci (v := (mse u (u1607 162 8) (u 162 9))) (mse_c ((ms_c e3231 (Nat.ne_of_beq_eq_false rfl)).trans (fr1608 163 (Nat.ne_of_beq_eq_false rfl))) (ms_i e3231 (Nat.ne_of_beq_eq_false rfl)) ((ms_i e3231 (Nat.ne_of_beq_eq_false rfl)).trans (fc1609 9 (Nat.ne_of_beq_eq_false rfl)))) ?_
                refine J_i2l dX11_token_100 rfl ?_
                refine J_topl (fun l4339 ql4339 => ?_)
                replace E := xq_le ql4339 E
                refine J_lor dX11_token_101 ?_
                refine J_topl (fun l4340 ql4340 => ?_)
                replace E := xq_le ql4340 E
                obtain ⟨g4341, e4342⟩ : ∃ z, z = ml g3233 162 13 l4340 := ⟨_, rfl⟩
                refine J_put (C := RX11) (T := TX11) (Z := 43) (ci := 11) (f := 13) (ty0 := tyX11) dX11_token_102 inG11 rfl tyX11_ok nmX11 (by decide) k1277 rfl rfl wc_162 (Nat.le_of_ble_eq_true rfl) (fun _ _ => ⟨rfl, rfl⟩) (wsl e4342 wk_162 rfl) ?_
                replace E := xq_le e4342 E
                refine J_aload_n (i := 0) (j := 2) dX11_token_105 rfl rfl ?_
                refine J_dup dX11_token_106 rfl ?_
                refine J_get (C := RX11) (T := TX11) (Z := 43) (ci := 11) (f := 8) dX11_token_107 inG11 rfl (by decide) k1272 wc_162 rfl ?_
                refine J_ci (v := u1607 162 8) (ms_i e3231 (Nat.ne_of_beq_eq_false rfl)) ?_
                refine J_iconst (v := 1) dX11_token_110 (by decide) ?_
                refine J_iadd dX11_token_111 ?_
                obtain ⟨u4343, e4344⟩ : ∃ z, z = ms u3230 162 8 ((u1607 162 8) + 1) := ⟨_, rfl⟩
                refine J_put (C := RX11) (T := TX11) (Z := 43) (ci := 11) (f := 8) (ty0 := tyX11) dX11_token_112 inG11 rfl tyX11_ok nmX11 (by decide) k1272 rfl rfl wc_162 (Nat.le_of_ble_eq_true rfl) (fun _ _ => ⟨rfl, rfl⟩) (ws e4344 wk_162 rfl) ?_
                replace E := xq_le e4344 E
                refine J_iinc (i := 2) (j := 0) (v := 1) (lw := [(2, .int 1), (1, .int (mse u (u1607 162 8) (u 162 9))), (0, .ref 162)]) dX11_token_115 rfl (by decide) (by decide) rfl ?_
                refine J_goto (tgt := 74) dX11_token_118 (by decide) ?_
                have lp4784 : ∀ (n4785 : Nat) (w4743 : Int32) (u4744 : Nat → Nat → Int32) (g4748 : Nat → Nat → Int64), (∀ c, c ≠ 162 → u4744 c = u4343 c) → (∀ j, j ≠ 8 → u4744 162 j = u4343 162 j) → Bd 1 600 (u4744 162 8) → (u1607 162 8) < (u4744 162 8) → (600 - (u4744 162 8).toInt).toNat < n4785 → Fx_M_tokenX_L74 u n4785 w4743 u4744 g4748 = Fx_M_tokenX u g → J x yX11_token cX11_token 3 none d 0 0 (Wd u g ex).length 74 [(0, .ref 162), (2, .int w4743)] [] (Wd u4744 g4748 ex) 0 0 := by
                  intro n4785
                  induction n4785 with
                  | zero => intro w4743 u4744 g4748 fr4745 fc4746 bm4747 hI4788 hm4787 _; exact absurd hm4787 (Nat.not_lt_zero _)
                  | succ n4785 ih4786 =>
                    intro w4743 u4744 g4748 fr4745 fc4746 bm4747 hI4788 hm4787 E
                    replace E := Fx_M_tokenX_L74_s.symm.trans E
                    refine J_aload_n (i := 0) (j := 0) dX11_token_74 rfl rfl ?_
                    refine J_callV (As := []) (rest := []) dX11_token_75 (c_M_see (d := 0) (u := u4744) (g := g4748) (ex := ex)   (by decide) (bd_w (l := 0) (h := 600) bm4747 (by decide)) (bd_r ((fc4746 9 (Nat.ne_of_beq_eq_false rfl)).trans ((ms_i e4344 (Nat.ne_of_beq_eq_false rfl)).trans ((ms_i e3231 (Nat.ne_of_beq_eq_false rfl)).trans (fc1609 9 (Nat.ne_of_beq_eq_false rfl))))) (bd_w (l := 0) (h := 600) (bd_lt_lo hp1 (mse_lt (bd_le_hi (bd_le_lo (bd_le_lo (mse_b (mse u (u1607 162 8) (u 162 9))) c3235 (bd_c (v := 0) (lo := 0) (hi := 0) (by decide))) (h3238 c3242) (bd_c (v := 97) (lo := 97) (hi := 97) (by decide))) (h3239 c3242) (bd_c (v := 122) (lo := 122) (hi := 122) (by decide))) (by decide)) bm1610) (by decide)))) hq.n k1421 k1423 k39 wc_162 rfl rfl k97 k1424 np_X11_see (Nat.le_trans (by decide) hd) (by decide) (Nat.le_refl _) (Nat.le_refl _) wlen rfl (Nat.le_of_ble_eq_true rfl) (fun r_ h_ p4789 => ?_)
                    obtain ⟨rfl, rfl⟩ := p4789
                    refine J_ci (v := (mse u (u4744 162 8) (u 162 9))) (mse_c ((fr4745 163 (Nat.ne_of_beq_eq_false rfl)).trans ((ms_c e4344 (Nat.ne_of_beq_eq_false rfl)).trans ((ms_c e3231 (Nat.ne_of_beq_eq_false rfl)).trans (fr1608 163 (Nat.ne_of_beq_eq_false rfl))))) rfl ((fc4746 9 (Nat.ne_of_beq_eq_false rfl)).trans ((ms_i e4344 (Nat.ne_of_beq_eq_false rfl)).trans ((ms_i e3231 (Nat.ne_of_beq_eq_false rfl)).trans (fc1609 9 (Nat.ne_of_beq_eq_false rfl)))))) ?_
                    refine J_bipush (v := 97) dX11_token_78 (by decide) ?_
                    refine J_bipush (v := 122) dX11_token_80 (by decide) ?_
                    refine J_callS (As := [.int (mse u (u4744 162 8) (u 162 9)), .int 97, .int 122]) (rest := []) dX11_token_82 (c_M_inEX (d := 0) (u := u4744) (g := g4748) (ex := ex) (v := (mse u (u4744 162 8) (u 162 9))) (low := 97) (high := 122)  (by decide) ) hq.n k1406 k1407 k97 k1408 np_X11_in (Nat.le_trans (by decide) hd) (by decide) (Nat.le_refl _) (Nat.le_refl _) wlen rfl (Nat.le_of_ble_eq_true rfl) (fun r_ h_ p4790 => ?_)
                    obtain ⟨t4791, rfl, rfl, h4792, h4793, h4794, hx4795⟩ := p4790
                    replace E := xq_le hx4795 E
                    refine J_ifB_eq (tgt := 121) dX11_token_85 (by decide) (fun c4796 => ?_) (fun c4796 => ?_)
                    · replace E := xq_ef c4796 E
                      refine J_aload_n (i := 0) (j := 0) dX11_token_121 rfl rfl ?_
                      refine J_iload_n (i := 2) (j := 1) dX11_token_122 rfl rfl ?_
                      refine J_bipush (v := 8) dX11_token_123 (by decide) ?_
                      have jn4809 : ∀ (w4808 : Int64), Fx_M_tokenX_J136 u4744 g4748 w4808 = Fx_M_tokenX u g → J x yX11_token cX11_token 3 none d 0 0 (Wd u g ex).length 136 [(0, .ref 162)] [.long w4808, .ref 162] (Wd u4744 g4748 ex) 0 0 := by
                        intro w4808 E
                        obtain ⟨g4810, e4811⟩ : ∃ z, z = ml g4748 162 13 w4808 := ⟨_, rfl⟩
                        refine J_put (C := RX11) (T := TX11) (Z := 43) (ci := 11) (f := 13) (ty0 := tyX11) dX11_token_136 inG11 rfl tyX11_ok nmX11 (by decide) k1277 rfl rfl wc_162 (Nat.le_of_ble_eq_true rfl) (fun _ _ => ⟨rfl, rfl⟩) (wsl e4811 wk_162 rfl) ?_
                        replace E := xq_le e4811 E
                        refine J_aload_n (i := 0) (j := 0) dX11_token_139 rfl rfl ?_
                        refine J_iconst (v := 2) dX11_token_140 (by decide) ?_
                        obtain ⟨u4812, e4813⟩ : ∃ z, z = ms u4744 162 11 2 := ⟨_, rfl⟩
                        refine J_put (C := RX11) (T := TX11) (Z := 43) (ci := 11) (f := 11) (ty0 := tyX11) dX11_token_141 inG11 rfl tyX11_ok nmX11 (by decide) k1275 rfl rfl wc_162 (Nat.le_of_ble_eq_true rfl) (fun _ _ => ⟨rfl, rfl⟩) (ws e4813 wk_162 rfl) ?_
                        replace E := xq_le e4813 E
                        refine J_goto (tgt := 266) dX11_token_144 (by decide) ?_
                        exact J_vret hq dX11_token_266 rfl wlen (Nat.le_refl _) (Nat.le_refl _) ⟨u4812, g4810, rfl, rfl, (bd_r (ms_i e4813 (Nat.ne_of_beq_eq_false rfl)) (bd_w (l := 0) (h := 600) bm4747 (by decide))), (bd_r ((ms_i e4813 (Nat.ne_of_beq_eq_false rfl)).trans ((fc4746 10 (Nat.ne_of_beq_eq_false rfl)).trans ((ms_i e4344 (Nat.ne_of_beq_eq_false rfl)).trans (ms_e e3231)))) (bd_w (l := 0) (h := 600) (bd_lt_hi bm1610 (mse_lt (bd_le_hi (bd_le_lo (bd_le_lo (mse_b (mse u (u1607 162 8) (u 162 9))) c3235 (bd_c (v := 0) (lo := 0) (hi := 0) (by decide))) (h3238 c3242) (bd_c (v := 97) (lo := 97) (hi := 97) (by decide))) (h3239 c3242) (bd_c (v := 122) (lo := 122) (hi := 122) (by decide))) (by decide)) hp1) (by decide))), (bd_r (ms_e e4813) (bd_w (l := 0) (h := 4) (bd_c (v := 2) (lo := 2) (hi := 2) (by decide)) (by decide))), (bd_r ((ms_i e4813 (Nat.ne_of_beq_eq_false rfl)).trans ((fc4746 12 (Nat.ne_of_beq_eq_false rfl)).trans ((ms_i e4344 (Nat.ne_of_beq_eq_false rfl)).trans ((ms_i e3231 (Nat.ne_of_beq_eq_false rfl)).trans (fc1609 12 (Nat.ne_of_beq_eq_false rfl)))))) hp2), (gv_r rfl (ms_i e4813 (Nat.ne_of_beq_eq_false rfl)) (ms_e e4813) (gv_go hI3221 hI4788)), E, (fun c k0_ => ((ms_c e4813 k0_).trans ((fr4745 c k0_).trans ((ms_c e4344 k0_).trans ((ms_c e3231 k0_).trans (fr1608 c k0_)))))), (fun j k8_ k10_ k11_ k12_ => ((ms_i e4813 k11_).trans ((fc4746 j k8_).trans ((ms_i e4344 k8_).trans ((ms_i e3231 k10_).trans (fc1609 j k8_))))))⟩
                      refine J_icmp_le (tgt := 132) dX11_token_125 (by decide) (fun c4806 => ?_) (fun c4806 => ?_)
                      · replace E := xq_ep c4806 E
                        refine J_aload_n (i := 0) (j := 0) dX11_token_132 rfl rfl ?_
                        refine J_get (C := RX11) (T := TX11) (Z := 43) (ci := 11) (f := 13) dX11_token_133 inG11 rfl (by decide) k1277 wc_162 rfl ?_
                        refine J_topl (fun l4814 ql4814 => ?_)
                        replace E := xq_le ql4814 E
                        refine J_lv [0] rfl ?_
                        exact jn4809 l4814  E
                      · replace E := xq_en c4806 E
                        refine J_lconst (v := 0) dX11_token_128 (by decide) ?_
                        refine J_goto (tgt := 136) dX11_token_129 (by decide) ?_
                        refine J_lv [0] rfl ?_
                        exact jn4809 (0 : Int64)  E
                    · replace E := xq_ep c4796 E
                      refine J_aload_n (i := 0) (j := 0) dX11_token_88 rfl rfl ?_
                      refine J_aload_n (i := 0) (j := 0) dX11_token_89 rfl rfl ?_
                      refine J_get (C := RX11) (T := TX11) (Z := 43) (ci := 11) (f := 13) dX11_token_90 inG11 rfl (by decide) k1277 wc_162 rfl ?_
                      refine J_topl (fun l4815 ql4815 => ?_)
                      replace E := xq_le ql4815 E
                      refine J_bipush (v := 8) dX11_token_93 (by decide) ?_
                      refine J_lshl dX11_token_95 rfl ?_
                      refine J_topl (fun l4816 ql4816 => ?_)
                      replace E := xq_le ql4816 E
                      refine J_aload_n (i := 0) (j := 0) dX11_token_96 rfl rfl ?_
                      refine J_callV (As := []) (rest := [.long l4816, .ref 162]) dX11_token_97 (c_M_see (d := 0) (u := u4744) (g := g4748) (ex := ex)   (by decide) (bd_w (l := 0) (h := 600) bm4747 (by decide)) (bd_r ((fc4746 9 (Nat.ne_of_beq_eq_false rfl)).trans ((ms_i e4344 (Nat.ne_of_beq_eq_false rfl)).trans ((ms_i e3231 (Nat.ne_of_beq_eq_false rfl)).trans (fc1609 9 (Nat.ne_of_beq_eq_false rfl))))) (bd_w (l := 0) (h := 600) (bd_lt_lo hp1 (mse_lt (bd_le_hi (bd_le_lo (bd_le_lo (mse_b (mse u (u1607 162 8) (u 162 9))) c3235 (bd_c (v := 0) (lo := 0) (hi := 0) (by decide))) (h3238 c3242) (bd_c (v := 97) (lo := 97) (hi := 97) (by decide))) (h3239 c3242) (bd_c (v := 122) (lo := 122) (hi := 122) (by decide))) (by decide)) bm1610) (by decide)))) hq.n k1421 k1423 k39 wc_162 rfl rfl k97 k1424 np_X11_see (Nat.le_trans (by decide) hd) (by decide) (Nat.le_refl _) (Nat.le_refl _) wlen rfl (Nat.le_of_ble_eq_true rfl) (fun r_ h_ p4817 => ?_)
                      obtain ⟨rfl, rfl⟩ := p4817
                      refine J_ci (v := (mse u (u4744 162 8) (u 162 9))) (mse_c ((fr4745 163 (Nat.ne_of_beq_eq_false rfl)).trans ((ms_c e4344 (Nat.ne_of_beq_eq_false rfl)).trans ((ms_c e3231 (Nat.ne_of_beq_eq_false rfl)).trans (fr1608 163 (Nat.ne_of_beq_eq_false rfl))))) rfl ((fc4746 9 (Nat.ne_of_beq_eq_false rfl)).trans ((ms_i e4344 (Nat.ne_of_beq_eq_false rfl)).trans ((ms_i e3231 (Nat.ne_of_beq_eq_false rfl)).trans (fc1609 9 (Nat.ne_of_beq_eq_false rfl)))))) ?_
                      refine J_i2l dX11_token_100 rfl ?_
                      refine J_topl (fun l4818 ql4818 => ?_)
                      replace E := xq_le ql4818 E
                      refine J_lor dX11_token_101 ?_
                      refine J_topl (fun l4819 ql4819 => ?_)
                      replace E := xq_le ql4819 E
                      obtain ⟨g4820, e4821⟩ : ∃ z, z = ml g4748 162 13 l4819 := ⟨_, rfl⟩
                      refine J_put (C := RX11) (T := TX11) (Z := 43) (ci := 11) (f := 13) (ty0 := tyX11) dX11_token_102 inG11 rfl tyX11_ok nmX11 (by decide) k1277 rfl rfl wc_162 (Nat.le_of_ble_eq_true rfl) (fun _ _ => ⟨rfl, rfl⟩) (wsl e4821 wk_162 rfl) ?_
                      replace E := xq_le e4821 E
                      refine J_aload_n (i := 0) (j := 0) dX11_token_105 rfl rfl ?_
                      refine J_dup dX11_token_106 rfl ?_
                      refine J_get (C := RX11) (T := TX11) (Z := 43) (ci := 11) (f := 8) dX11_token_107 inG11 rfl (by decide) k1272 wc_162 rfl ?_
                      refine J_iconst (v := 1) dX11_token_110 (by decide) ?_
                      refine J_iadd dX11_token_111 ?_
                      obtain ⟨u4822, e4823⟩ : ∃ z, z = ms u4744 162 8 ((u4744 162 8) + 1) := ⟨_, rfl⟩
                      refine J_put (C := RX11) (T := TX11) (Z := 43) (ci := 11) (f := 8) (ty0 := tyX11) dX11_token_112 inG11 rfl tyX11_ok nmX11 (by decide) k1272 rfl rfl wc_162 (Nat.le_of_ble_eq_true rfl) (fun _ _ => ⟨rfl, rfl⟩) (ws e4823 wk_162 rfl) ?_
                      replace E := xq_le e4823 E
                      refine J_iinc (i := 2) (j := 1) (v := (w4743 + 1)) (lw := [(2, .int (w4743 + 1)), (0, .ref 162)]) dX11_token_115 rfl rfl (by decide) rfl ?_
                      refine J_goto (tgt := 74) dX11_token_118 (by decide) ?_
                      refine J_lv [1, 0] rfl ?_
                      exact ih4786 (w4743 + 1) u4822 g4820 (fun c k0_ => ((ms_c e4823 k0_).trans (fr4745 c k0_))) (fun j k8_ => ((ms_i e4823 k8_).trans (fc4746 j k8_))) (bd_r (ms_e e4823) (bd_w (l := 1) (h := 600) (bd_add (l := 2) (h := 600) (bd_lt_hi bm4747 (mse_lt (bd_le_hi (bd_le_lo (mse_b (mse u (u4744 162 8) (u 162 9))) (h4792 c4796) (bd_c (v := 97) (lo := 97) (hi := 97) (by decide))) (h4793 c4796) (bd_c (v := 122) (lo := 122) (hi := 122) (by decide))) (by decide)) (bd_lt_lo hp1 (mse_lt (bd_le_hi (bd_le_lo (bd_le_lo (mse_b (mse u (u1607 162 8) (u 162 9))) c3235 (bd_c (v := 0) (lo := 0) (hi := 0) (by decide))) (h3238 c3242) (bd_c (v := 97) (lo := 97) (hi := 97) (by decide))) (h3239 c3242) (bd_c (v := 122) (lo := 122) (hi := 122) (by decide))) (by decide)) bm1610)) (bd_c (v := 1) (lo := 1) (hi := 1) (by decide)) (by decide)) (by decide))) (lt_eq (lt_s1 (bd_lt_hi bm4747 (mse_lt (bd_le_hi (bd_le_lo (mse_b (mse u (u4744 162 8) (u 162 9))) (h4792 c4796) (bd_c (v := 97) (lo := 97) (hi := 97) (by decide))) (h4793 c4796) (bd_c (v := 122) (lo := 122) (hi := 122) (by decide))) (by decide)) (bd_lt_lo hp1 (mse_lt (bd_le_hi (bd_le_lo (bd_le_lo (mse_b (mse u (u1607 162 8) (u 162 9))) c3235 (bd_c (v := 0) (lo := 0) (hi := 0) (by decide))) (h3238 c3242) (bd_c (v := 97) (lo := 97) (hi := 97) (by decide))) (h3239 c3242) (bd_c (v := 122) (lo := 122) (hi := 122) (by decide))) (by decide)) bm1610)) (by decide) (Int32.le_of_lt hI4788)) (ms_e e4823).symm) (mu_up 1 bm4747 (ms_e e4823) (by decide) (bd_w (l := 2) (h := 600) (bd_r (ms_e e4823) (bd_add (l := 2) (h := 600) (bd_lt_hi bm4747 (mse_lt (bd_le_hi (bd_le_lo (mse_b (mse u (u4744 162 8) (u 162 9))) (h4792 c4796) (bd_c (v := 97) (lo := 97) (hi := 97) (by decide))) (h4793 c4796) (bd_c (v := 122) (lo := 122) (hi := 122) (by decide))) (by decide)) (bd_lt_lo hp1 (mse_lt (bd_le_hi (bd_le_lo (bd_le_lo (mse_b (mse u (u1607 162 8) (u 162 9))) c3235 (bd_c (v := 0) (lo := 0) (hi := 0) (by decide))) (h3238 c3242) (bd_c (v := 97) (lo := 97) (hi := 97) (by decide))) (h3239 c3242) (bd_c (v := 122) (lo := 122) (hi := 122) (by decide))) (by decide)) bm1610)) (bd_c (v := 1) (lo := 1) (hi := 1) (by decide)) (by decide))) (by decide)) hm4787) E
                refine J_lv [2, 0] rfl ?_
                exact lp4784 ((600 - (u4343 162 8).toInt).toNat + 1) (1 : Int32) u4343 g4341 (fun c k0_ => rfl) (fun j k8_ => rfl) (bd_r (ms_e e4344) (bd_add (l := 1) (h := 600) (bd_lt_hi bm1610 (mse_lt (bd_le_hi (bd_le_lo (bd_le_lo (mse_b (mse u (u1607 162 8) (u 162 9))) c3235 (bd_c (v := 0) (lo := 0) (hi := 0) (by decide))) (h3238 c3242) (bd_c (v := 97) (lo := 97) (hi := 97) (by decide))) (h3239 c3242) (bd_c (v := 122) (lo := 122) (hi := 122) (by decide))) (by decide)) hp1) (bd_c (v := 1) (lo := 1) (hi := 1) (by decide)) (by decide))) (lt_eq (lt_s1 (bd_lt_hi bm1610 (mse_lt (bd_le_hi (bd_le_lo (bd_le_lo (mse_b (mse u (u1607 162 8) (u 162 9))) c3235 (bd_c (v := 0) (lo := 0) (hi := 0) (by decide))) (h3238 c3242) (bd_c (v := 97) (lo := 97) (hi := 97) (by decide))) (h3239 c3242) (bd_c (v := 122) (lo := 122) (hi := 122) (by decide))) (by decide)) hp1) (by decide) (Int32.le_refl _)) (ms_e e4344).symm) (Nat.lt_succ_self _) E
          · replace E := xq_en c3235 E
            refine J_aload_n (i := 0) (j := 2) dX11_token_55 rfl rfl ?_
            refine J_iconst (v := 0) dX11_token_56 (by decide) ?_
            obtain ⟨u4824, e4825⟩ : ∃ z, z = ms u3230 162 11 0 := ⟨_, rfl⟩
            refine J_put (C := RX11) (T := TX11) (Z := 43) (ci := 11) (f := 11) (ty0 := tyX11) dX11_token_57 inG11 rfl tyX11_ok nmX11 (by decide) k1275 rfl rfl wc_162 (Nat.le_of_ble_eq_true rfl) (fun _ _ => ⟨rfl, rfl⟩) (ws e4825 wk_162 rfl) ?_
            replace E := xq_le e4825 E
            refine J_goto (tgt := 266) dX11_token_60 (by decide) ?_
            exact J_vret hq dX11_token_266 rfl wlen (Nat.le_refl _) (Nat.le_refl _) ⟨u4824, g3233, rfl, rfl, (bd_r ((ms_i e4825 (Nat.ne_of_beq_eq_false rfl)).trans (ms_i e3231 (Nat.ne_of_beq_eq_false rfl))) bm1610), (bd_r ((ms_i e4825 (Nat.ne_of_beq_eq_false rfl)).trans (ms_e e3231)) bm1610), (bd_r (ms_e e4825) (bd_w (l := 0) (h := 4) (bd_c (v := 0) (lo := 0) (hi := 0) (by decide)) (by decide))), (bd_r ((ms_i e4825 (Nat.ne_of_beq_eq_false rfl)).trans ((ms_i e3231 (Nat.ne_of_beq_eq_false rfl)).trans (fc1609 12 (Nat.ne_of_beq_eq_false rfl)))) hp2), (gv_r rfl ((ms_i e4825 (Nat.ne_of_beq_eq_false rfl)).trans (ms_i e3231 (Nat.ne_of_beq_eq_false rfl))) (ms_e e4825) (gv_end hI3221 rfl)), E, (fun c k0_ => ((ms_c e4825 k0_).trans ((ms_c e3231 k0_).trans (fr1608 c k0_)))), (fun j k8_ k10_ k11_ k12_ => ((ms_i e4825 k11_).trans ((ms_i e3231 k10_).trans (fc1609 j k8_))))⟩
        · replace E := xq_ep c3229 E
          refine J_aload_n (i := 0) (j := 0) dX11_token_18 rfl rfl ?_
          refine J_dup dX11_token_19 rfl ?_
          refine J_get (C := RX11) (T := TX11) (Z := 43) (ci := 11) (f := 8) dX11_token_20 inG11 rfl (by decide) k1272 wc_162 rfl ?_
          refine J_iconst (v := 1) dX11_token_23 (by decide) ?_
          refine J_iadd dX11_token_24 ?_
          obtain ⟨u4826, e4827⟩ : ∃ z, z = ms u1607 162 8 ((u1607 162 8) + 1) := ⟨_, rfl⟩
          refine J_put (C := RX11) (T := TX11) (Z := 43) (ci := 11) (f := 8) (ty0 := tyX11) dX11_token_25 inG11 rfl tyX11_ok nmX11 (by decide) k1272 rfl rfl wc_162 (Nat.le_of_ble_eq_true rfl) (fun _ _ => ⟨rfl, rfl⟩) (ws e4827 wk_162 rfl) ?_
          replace E := xq_le e4827 E
          refine J_goto (tgt := 0) dX11_token_28 (by decide) ?_
          refine J_lv [0] rfl ?_
          exact ih3219 u4826 (fun c k0_ => ((ms_c e4827 k0_).trans (fr1608 c k0_))) (fun j k8_ => ((ms_i e4827 k8_).trans (fc1609 j k8_))) (bd_r (ms_e e4827) (bd_w (l := 0) (h := 600) (bd_add (l := 1) (h := 600) (bd_lt_hi bm1610 (mse_lt (bd_r c3229 (bd_c (v := 32) (lo := 32) (hi := 32) (by decide))) (by decide)) hp1) (bd_c (v := 1) (lo := 1) (hi := 1) (by decide)) (by decide)) (by decide))) (Int32.le_trans (Int32.le_of_lt (lt_s1 (bd_lt_hi bm1610 (mse_lt (bd_r c3229 (bd_c (v := 32) (lo := 32) (hi := 32) (by decide))) (by decide)) hp1) (by decide) hI3221)) (Int32.le_of_eq (ms_e e4827).symm)) (mu_up 1 bm1610 (ms_e e4827) (by decide) (bd_w (l := 1) (h := 600) (bd_r (ms_e e4827) (bd_add (l := 1) (h := 600) (bd_lt_hi bm1610 (mse_lt (bd_r c3229 (bd_c (v := 32) (lo := 32) (hi := 32) (by decide))) (by decide)) hp1) (bd_c (v := 1) (lo := 1) (hi := 1) (by decide)) (by decide))) (by decide)) hm3220) E
  refine J_lv [0] rfl ?_
  exact lp3217 ((600 - (u 162 8).toInt).toNat + 1) u (fun c k0_ => rfl) (fun j k8_ => rfl) hp0 (Int32.le_refl _) (Nat.lt_succ_self _) E
set_option maxRecDepth 100000 in
noncomputable def Fx_M_laterX (f : Int32) (place : Int32) (u : Nat → Nat → Int32) (g : Nat → Nat → Int64) : (Nat → Nat → Int32) := if (u 162 15) = (0 : Int32) then (xq_lt (ms u 162 15 f) fun u2 => xq_lt (ms u2 162 16 place) fun u4 => u4) else (if place < (u 162 16) then (xq_lt (ms u 162 15 f) fun u7 => xq_lt (ms u7 162 16 place) fun u9 => u9) else (if place = (u 162 16) then (if (u 162 15) ≤ f then (u) else (xq_lt (ms u 162 15 f) fun u13 => xq_lt (ms u13 162 16 place) fun u15 => u15)) else (u)))
set_option maxHeartbeats 4000000 in
set_option maxRecDepth 100000 in
theorem c_M_laterX {d : Nat} {u : Nat → Nat → Int32} {g : Nat → Nat → Int64} {ex : List MC} {f : Int32} {place : Int32} (hd : 0 ≤ d)  : CT con0 d 0 0 yX11_later cX11_later 3 none [.ref 162, .int f, .int place] (Wd u g ex) (fun r h2 => ∃ (u2 : Nat → Nat → Int32), r = none ∧ h2 = Wd u2 g ex ∧ (u2 162 15 = 0 → f = 0) ∧ u2 = Fx_M_laterX f place u g ∧ (∀ c, c ≠ 162 → u2 c = u c) ∧ (∀ j, j ≠ 15 → j ≠ 16 → u2 162 j = u 162 j)) := by
  refine CT_of (by decide) (Nat.le_of_ble_eq_true rfl) (fun x hq => ?_)
  show J x yX11_later cX11_later 3 none d 0 0 (Wd u g ex).length 0 [(0, .ref 162), (1, .int f), (2, .int place)] [] (Wd u g ex) 0 0
  have E : Fx_M_laterX f place u g = Fx_M_laterX f place u g := rfl
  refine J_aload_n (i := 0) (j := 0) dX11_later_0 rfl rfl ?_
  refine J_get (C := RX11) (T := TX11) (Z := 43) (ci := 11) (f := 15) dX11_later_1 inG11 rfl (by decide) k1279 wc_162 rfl ?_
  refine J_if_eq (tgt := 31) dX11_later_4 (by decide) (fun c1 => ?_) (fun c1 => ?_)
  · replace E := xq_ep c1 E
    refine J_aload_n (i := 0) (j := 0) dX11_later_31 rfl rfl ?_
    refine J_iload_n (i := 1) (j := 1) dX11_later_32 rfl rfl ?_
    obtain ⟨u2, e3⟩ : ∃ z, z = ms u 162 15 f := ⟨_, rfl⟩
    refine J_put (C := RX11) (T := TX11) (Z := 43) (ci := 11) (f := 15) (ty0 := tyX11) dX11_later_33 inG11 rfl tyX11_ok nmX11 (by decide) k1279 rfl rfl wc_162 (Nat.le_of_ble_eq_true rfl) (fun _ _ => ⟨rfl, rfl⟩) (ws e3 wk_162 rfl) ?_
    replace E := xq_le e3 E
    refine J_aload_n (i := 0) (j := 0) dX11_later_36 rfl rfl ?_
    refine J_iload_n (i := 2) (j := 2) dX11_later_37 rfl rfl ?_
    obtain ⟨u4, e5⟩ : ∃ z, z = ms u2 162 16 place := ⟨_, rfl⟩
    refine J_put (C := RX11) (T := TX11) (Z := 43) (ci := 11) (f := 16) (ty0 := tyX11) dX11_later_38 inG11 rfl tyX11_ok nmX11 (by decide) k1280 rfl rfl wc_162 (Nat.le_of_ble_eq_true rfl) (fun _ _ => ⟨rfl, rfl⟩) (ws e5 wk_162 rfl) ?_
    replace E := xq_le e5 E
    exact J_vret hq dX11_later_41 rfl wlen (Nat.le_refl _) (Nat.le_refl _) ⟨u4, rfl, rfl, (fun q => ((ms_i e5 (Nat.ne_of_beq_eq_false rfl)).trans (ms_e e3)).symm.trans q), E, (fun c k0_ => ((ms_c e5 k0_).trans (ms_c e3 k0_))), (fun j k15_ k16_ => ((ms_i e5 k16_).trans (ms_i e3 k15_)))⟩
  · replace E := xq_en c1 E
    refine J_iload_n (i := 2) (j := 2) dX11_later_7 rfl rfl ?_
    refine J_aload_n (i := 0) (j := 0) dX11_later_8 rfl rfl ?_
    refine J_get (C := RX11) (T := TX11) (Z := 43) (ci := 11) (f := 16) dX11_later_9 inG11 rfl (by decide) k1280 wc_162 rfl ?_
    refine J_icmp_lt (tgt := 31) dX11_later_12 (by decide) (fun c6 => ?_) (fun c6 => ?_)
    · replace E := xq_ep c6 E
      refine J_aload_n (i := 0) (j := 0) dX11_later_31 rfl rfl ?_
      refine J_iload_n (i := 1) (j := 1) dX11_later_32 rfl rfl ?_
      obtain ⟨u7, e8⟩ : ∃ z, z = ms u 162 15 f := ⟨_, rfl⟩
      refine J_put (C := RX11) (T := TX11) (Z := 43) (ci := 11) (f := 15) (ty0 := tyX11) dX11_later_33 inG11 rfl tyX11_ok nmX11 (by decide) k1279 rfl rfl wc_162 (Nat.le_of_ble_eq_true rfl) (fun _ _ => ⟨rfl, rfl⟩) (ws e8 wk_162 rfl) ?_
      replace E := xq_le e8 E
      refine J_aload_n (i := 0) (j := 0) dX11_later_36 rfl rfl ?_
      refine J_iload_n (i := 2) (j := 2) dX11_later_37 rfl rfl ?_
      obtain ⟨u9, e10⟩ : ∃ z, z = ms u7 162 16 place := ⟨_, rfl⟩
      refine J_put (C := RX11) (T := TX11) (Z := 43) (ci := 11) (f := 16) (ty0 := tyX11) dX11_later_38 inG11 rfl tyX11_ok nmX11 (by decide) k1280 rfl rfl wc_162 (Nat.le_of_ble_eq_true rfl) (fun _ _ => ⟨rfl, rfl⟩) (ws e10 wk_162 rfl) ?_
      replace E := xq_le e10 E
      exact J_vret hq dX11_later_41 rfl wlen (Nat.le_refl _) (Nat.le_refl _) ⟨u9, rfl, rfl, (fun q => ((ms_i e10 (Nat.ne_of_beq_eq_false rfl)).trans (ms_e e8)).symm.trans q), E, (fun c k0_ => ((ms_c e10 k0_).trans (ms_c e8 k0_))), (fun j k15_ k16_ => ((ms_i e10 k16_).trans (ms_i e8 k15_)))⟩
    · replace E := xq_en c6 E
      refine J_iload_n (i := 2) (j := 2) dX11_later_15 rfl rfl ?_
      refine J_aload_n (i := 0) (j := 0) dX11_later_16 rfl rfl ?_
      refine J_get (C := RX11) (T := TX11) (Z := 43) (ci := 11) (f := 16) dX11_later_17 inG11 rfl (by decide) k1280 wc_162 rfl ?_
      refine J_icmp_ne (tgt := 41) dX11_later_20 (by decide) (fun c11 => ?_) (fun c11 => ?_)
      · replace E := xq_en c11 E
        exact J_vret hq dX11_later_41 rfl wlen (Nat.le_refl _) (Nat.le_refl _) ⟨u, rfl, rfl, (fun q => absurd q c1), E, (fun c k0_ => rfl), (fun j k15_ k16_ => rfl)⟩
      · replace E := xq_ep c11 E
        refine J_iload_n (i := 1) (j := 1) dX11_later_23 rfl rfl ?_
        refine J_aload_n (i := 0) (j := 0) dX11_later_24 rfl rfl ?_
        refine J_get (C := RX11) (T := TX11) (Z := 43) (ci := 11) (f := 15) dX11_later_25 inG11 rfl (by decide) k1279 wc_162 rfl ?_
        refine J_icmp_ge (tgt := 41) dX11_later_28 (by decide) (fun c12 => ?_) (fun c12 => ?_)
        · replace E := xq_ep c12 E
          exact J_vret hq dX11_later_41 rfl wlen (Nat.le_refl _) (Nat.le_refl _) ⟨u, rfl, rfl, (fun q => absurd q c1), E, (fun c k0_ => rfl), (fun j k15_ k16_ => rfl)⟩
        · replace E := xq_en c12 E
          refine J_aload_n (i := 0) (j := 0) dX11_later_31 rfl rfl ?_
          refine J_iload_n (i := 1) (j := 1) dX11_later_32 rfl rfl ?_
          obtain ⟨u13, e14⟩ : ∃ z, z = ms u 162 15 f := ⟨_, rfl⟩
          refine J_put (C := RX11) (T := TX11) (Z := 43) (ci := 11) (f := 15) (ty0 := tyX11) dX11_later_33 inG11 rfl tyX11_ok nmX11 (by decide) k1279 rfl rfl wc_162 (Nat.le_of_ble_eq_true rfl) (fun _ _ => ⟨rfl, rfl⟩) (ws e14 wk_162 rfl) ?_
          replace E := xq_le e14 E
          refine J_aload_n (i := 0) (j := 0) dX11_later_36 rfl rfl ?_
          refine J_iload_n (i := 2) (j := 2) dX11_later_37 rfl rfl ?_
          obtain ⟨u15, e16⟩ : ∃ z, z = ms u13 162 16 place := ⟨_, rfl⟩
          refine J_put (C := RX11) (T := TX11) (Z := 43) (ci := 11) (f := 16) (ty0 := tyX11) dX11_later_38 inG11 rfl tyX11_ok nmX11 (by decide) k1280 rfl rfl wc_162 (Nat.le_of_ble_eq_true rfl) (fun _ _ => ⟨rfl, rfl⟩) (ws e16 wk_162 rfl) ?_
          replace E := xq_le e16 E
          exact J_vret hq dX11_later_41 rfl wlen (Nat.le_refl _) (Nat.le_refl _) ⟨u15, rfl, rfl, (fun q => ((ms_i e16 (Nat.ne_of_beq_eq_false rfl)).trans (ms_e e14)).symm.trans q), E, (fun c k0_ => ((ms_c e16 k0_).trans (ms_c e14 k0_))), (fun j k15_ k16_ => ((ms_i e16 k16_).trans (ms_i e14 k15_)))⟩
set_option maxRecDepth 100000 in
noncomputable def Fx_M_stopsX (u : Nat → Nat → Int32) (g : Nat → Nat → Int64) : (Nat → Nat → Int32) := xq_lt (ms u 162 14 (u 162 10)) fun u1 => u1
set_option maxHeartbeats 4000000 in
set_option maxRecDepth 100000 in
theorem c_M_stopsX {d : Nat} {u : Nat → Nat → Int32} {g : Nat → Nat → Int64} {ex : List MC}  (hd : 0 ≤ d)  : CT con0 d 0 0 yX11_stops cX11_stops 1 (some .boolean) [.ref 162] (Wd u g ex) (fun r h2 => ∃ (u2 : Nat → Nat → Int32), r = some (.int ((0 : Int32))) ∧ h2 = Wd u2 g ex ∧ u2 = Fx_M_stopsX u g ∧ (∀ c, c ≠ 162 → u2 c = u c) ∧ (∀ j, j ≠ 14 → u2 162 j = u 162 j)) := by
  refine CT_of (by decide) (Nat.le_of_ble_eq_true rfl) (fun x hq => ?_)
  show J x yX11_stops cX11_stops 1 (some .boolean) d 0 0 (Wd u g ex).length 0 [(0, .ref 162)] [] (Wd u g ex) 0 0
  have E : Fx_M_stopsX u g = Fx_M_stopsX u g := rfl
  refine J_aload_n (i := 0) (j := 0) dX11_stops_0 rfl rfl ?_
  refine J_aload_n (i := 0) (j := 0) dX11_stops_1 rfl rfl ?_
  refine J_get (C := RX11) (T := TX11) (Z := 43) (ci := 11) (f := 10) dX11_stops_2 inG11 rfl (by decide) k1274 wc_162 rfl ?_
  obtain ⟨u1, e2⟩ : ∃ z, z = ms u 162 14 (u 162 10) := ⟨_, rfl⟩
  refine J_put (C := RX11) (T := TX11) (Z := 43) (ci := 11) (f := 14) (ty0 := tyX11) dX11_stops_5 inG11 rfl tyX11_ok nmX11 (by decide) k1278 rfl rfl wc_162 (Nat.le_of_ble_eq_true rfl) (fun _ _ => ⟨rfl, rfl⟩) (ws e2 wk_162 rfl) ?_
  replace E := xq_le e2 E
  refine J_iconst (v := 0) dX11_stops_8 (by decide) ?_
  exact J_zret hq dX11_stops_9 rfl rfl wlen (Nat.le_refl _) (Nat.le_refl _) ⟨u1, (congrArg (fun z => some (Value.int z)) rfl), rfl, E, (fun c k0_ => (ms_c e2 k0_)), (fun j k14_ => (ms_i e2 k14_))⟩
set_option maxRecDepth 100000 in
noncomputable def Fx_M_numberX (low : Int32) (high : Int32) (u : Nat → Nat → Int32) (g : Nat → Nat → Int64) : Bool × (Nat → Nat → Int32) × (Nat → Nat → Int64) := if (u 162 11) = (3 : Int32) then (xq_lt (ms u 162 17 (u 162 12)) fun u2 => xq_lt (Fx_M_inEX (u 162 12) low high u2 g) fun t5 => if t5 = true then (xq_c2 (Fx_M_tokenX u2 g) fun u12 g13 => (true, u12, g13)) else (xq_lt (Fx_M_laterX (2 : Int32) (u 162 10) u2 g) fun u23 => xq_lt (ms u23 162 18 0) fun u28 => xq_c2 (Fx_M_tokenX u28 g) fun u31 g32 => (true, u31, g32))) else (xq_lt (Fx_M_stopsX u g) fun u42 => (false, u42, g))
set_option maxHeartbeats 4000000 in
set_option maxRecDepth 100000 in
theorem c_M_numberX {d : Nat} {u : Nat → Nat → Int32} {g : Nat → Nat → Int64} {ex : List MC} {low : Int32} {high : Int32} (hd : 2 ≤ d) (hp0 : Bd 0 600 (u 162 8)) (hp1 : Bd 0 600 (u 162 9)) (hp2 : Bd 0 999 (u 162 12)) (hp3 : Bd 0 999 (u 162 17)) : CT con0 d 0 0 yX11_number cX11_number 3 (some .boolean) [.ref 162, .int low, .int high] (Wd u g ex) (fun r h2 => ∃ (z : Bool) (u2 : Nat → Nat → Int32) (g2 : Nat → Nat → Int64), r = some (.int (bI z)) ∧ h2 = Wd u2 g2 ex ∧ Bd 0 600 (u2 162 8) ∧ Bd 0 999 (u2 162 12) ∧ Bd 0 999 (u2 162 17) ∧ (z = true → GV (u 162 8) (u2 162 8) (u2 162 11)) ∧ (z = true → u2 162 18 = 0 ∨ (low ≤ u2 162 17 ∧ u2 162 17 ≤ high)) ∧ (u2 162 18 = 0 ∨ u2 162 18 = u 162 18) ∧ (z, u2, g2) = Fx_M_numberX low high u g ∧ (∀ c, c ≠ 162 → u2 c = u c) ∧ (∀ j, j ≠ 8 → j ≠ 10 → j ≠ 11 → j ≠ 12 → j ≠ 14 → j ≠ 15 → j ≠ 16 → j ≠ 17 → j ≠ 18 → u2 162 j = u 162 j)) := by
  refine CT_of (by decide) (Nat.le_of_ble_eq_true rfl) (fun x hq => ?_)
  show J x yX11_number cX11_number 3 (some .boolean) d 0 0 (Wd u g ex).length 0 [(0, .ref 162), (1, .int low), (2, .int high)] [] (Wd u g ex) 0 0
  have E : Fx_M_numberX low high u g = Fx_M_numberX low high u g := rfl
  refine J_aload_n (i := 0) (j := 0) dX11_number_0 rfl rfl ?_
  refine J_get (C := RX11) (T := TX11) (Z := 43) (ci := 11) (f := 11) dX11_number_1 inG11 rfl (by decide) k1275 wc_162 rfl ?_
  refine J_iconst (v := 3) dX11_number_4 (by decide) ?_
  refine J_icmp_eq (tgt := 13) dX11_number_5 (by decide) (fun c1 => ?_) (fun c1 => ?_)
  · replace E := xq_ep c1 E
    refine J_aload_n (i := 0) (j := 0) dX11_number_13 rfl rfl ?_
    refine J_aload_n (i := 0) (j := 0) dX11_number_14 rfl rfl ?_
    refine J_get (C := RX11) (T := TX11) (Z := 43) (ci := 11) (f := 12) dX11_number_15 inG11 rfl (by decide) k1276 wc_162 rfl ?_
    obtain ⟨u2, e3⟩ : ∃ z, z = ms u 162 17 (u 162 12) := ⟨_, rfl⟩
    refine J_put (C := RX11) (T := TX11) (Z := 43) (ci := 11) (f := 17) (ty0 := tyX11) dX11_number_18 inG11 rfl tyX11_ok nmX11 (by decide) k1281 rfl rfl wc_162 (Nat.le_of_ble_eq_true rfl) (fun _ _ => ⟨rfl, rfl⟩) (ws e3 wk_162 rfl) ?_
    replace E := xq_le e3 E
    refine J_aload_n (i := 0) (j := 0) dX11_number_21 rfl rfl ?_
    refine J_get (C := RX11) (T := TX11) (Z := 43) (ci := 11) (f := 12) dX11_number_22 inG11 rfl (by decide) k1276 wc_162 rfl ?_
    refine J_ci (v := u 162 12) (ms_i e3 (Nat.ne_of_beq_eq_false rfl)) ?_
    refine J_iload_n (i := 1) (j := 1) dX11_number_25 rfl rfl ?_
    refine J_iload_n (i := 2) (j := 2) dX11_number_26 rfl rfl ?_
    refine J_callS (As := [.int (u 162 12), .int low, .int high]) (rest := []) dX11_number_27 (c_M_inEX (d := 0) (u := u2) (g := g) (ex := ex) (v := u 162 12) (low := low) (high := high)  (by decide) ) hq.n k1406 k1407 k97 k1408 np_X11_in (Nat.le_trans (by decide) hd) (by decide) (Nat.le_refl _) (Nat.le_refl _) wlen rfl (Nat.le_of_ble_eq_true rfl) (fun r_ h_ p4 => ?_)
    obtain ⟨t5, rfl, rfl, h6, h7, h8, hx9⟩ := p4
    replace E := xq_le hx9 E
    refine J_ifB_ne (tgt := 47) dX11_number_30 (by decide) (fun c10 => ?_) (fun c10 => ?_)
    · replace E := xq_ep c10 E
      refine J_aload_n (i := 0) (j := 0) dX11_number_47 rfl rfl ?_
      refine J_callV (As := []) (rest := []) dX11_number_48 (c_M_tokenX (d := 1) (u := u2) (g := g) (ex := ex)   (by decide) (bd_r (ms_i e3 (Nat.ne_of_beq_eq_false rfl)) hp0) (bd_r (ms_i e3 (Nat.ne_of_beq_eq_false rfl)) hp1) (bd_r (ms_i e3 (Nat.ne_of_beq_eq_false rfl)) hp2)) hq.n k1417 k1419 k38 wc_162 rfl rfl k97 k1420 np_X11_token (Nat.le_trans (by decide) hd) (by decide) (Nat.le_refl _) (Nat.le_refl _) wlen rfl (Nat.le_of_ble_eq_true rfl) (fun r_ h_ p11 => ?_)
      obtain ⟨u12, g13, rfl, rfl, h14, h15, h16, h17, h18, hx19, fr20, fc21⟩ := p11
      replace E := xq_e2 hx19 E
      refine J_iconst (v := 1) dX11_number_51 (by decide) ?_
      exact J_zret hq dX11_number_52 rfl rfl wlen (Nat.le_refl _) (Nat.le_refl _) ⟨true, u12, g13, rfl, rfl, h14, h17, (bd_r ((fc21 17 (Nat.ne_of_beq_eq_false rfl) (Nat.ne_of_beq_eq_false rfl) (Nat.ne_of_beq_eq_false rfl) (Nat.ne_of_beq_eq_false rfl)).trans (ms_e e3)) hp2), (fun _ => (gv_r rfl rfl rfl (gv_r (ms_i e3 (Nat.ne_of_beq_eq_false rfl)).symm rfl rfl h18))), (fun _ => nr_t rfl ((fc21 17 (Nat.ne_of_beq_eq_false rfl) (Nat.ne_of_beq_eq_false rfl) (Nat.ne_of_beq_eq_false rfl) (Nat.ne_of_beq_eq_false rfl)).trans (ms_e e3)) (Or.inr ⟨(h6 c10), (h7 c10)⟩)), (Or.inr ((fc21 18 (Nat.ne_of_beq_eq_false rfl) (Nat.ne_of_beq_eq_false rfl) (Nat.ne_of_beq_eq_false rfl) (Nat.ne_of_beq_eq_false rfl)).trans (ms_i e3 (Nat.ne_of_beq_eq_false rfl)))), E, (fun c k0_ => ((fr20 c k0_).trans (ms_c e3 k0_))), (fun j k8_ k10_ k11_ k12_ k14_ k15_ k16_ k17_ k18_ => ((fc21 j k8_ k10_ k11_ k12_).trans (ms_i e3 k17_)))⟩
    · replace E := xq_ef c10 E
      refine J_aload_n (i := 0) (j := 0) dX11_number_33 rfl rfl ?_
      refine J_iconst (v := 2) dX11_number_34 (by decide) ?_
      refine J_aload_n (i := 0) (j := 0) dX11_number_35 rfl rfl ?_
      refine J_get (C := RX11) (T := TX11) (Z := 43) (ci := 11) (f := 10) dX11_number_36 inG11 rfl (by decide) k1274 wc_162 rfl ?_
      refine J_ci (v := u 162 10) (ms_i e3 (Nat.ne_of_beq_eq_false rfl)) ?_
      refine J_callV (As := [.int 2, .int (u 162 10)]) (rest := []) dX11_number_39 (c_M_laterX (d := 0) (u := u2) (g := g) (ex := ex) (f := 2) (place := u 162 10)  (by decide) ) hq.n k1452 k1454 k43 wc_162 rfl rfl k97 k1455 np_X11_later (Nat.le_trans (by decide) hd) (by decide) (Nat.le_refl _) (Nat.le_refl _) wlen rfl (Nat.le_of_ble_eq_true rfl) (fun r_ h_ p22 => ?_)
      obtain ⟨u23, rfl, rfl, h24, hx25, fr26, fc27⟩ := p22
      replace E := xq_le hx25 E
      refine J_aload_n (i := 0) (j := 0) dX11_number_42 rfl rfl ?_
      refine J_iconst (v := 0) dX11_number_43 (by decide) ?_
      obtain ⟨u28, e29⟩ : ∃ z, z = ms u23 162 18 0 := ⟨_, rfl⟩
      refine J_put (C := RX11) (T := TX11) (Z := 43) (ci := 11) (f := 18) (ty0 := tyX11) dX11_number_44 inG11 rfl tyX11_ok nmX11 (by decide) k1282 rfl rfl wc_162 (Nat.le_of_ble_eq_true rfl) (fun _ _ => ⟨rfl, rfl⟩) (ws e29 wk_162 rfl) ?_
      replace E := xq_le e29 E
      refine J_aload_n (i := 0) (j := 0) dX11_number_47 rfl rfl ?_
      refine J_callV (As := []) (rest := []) dX11_number_48 (c_M_tokenX (d := 1) (u := u28) (g := g) (ex := ex)   (by decide) (bd_r ((ms_i e29 (Nat.ne_of_beq_eq_false rfl)).trans ((fc27 8 (Nat.ne_of_beq_eq_false rfl) (Nat.ne_of_beq_eq_false rfl)).trans (ms_i e3 (Nat.ne_of_beq_eq_false rfl)))) hp0) (bd_r ((ms_i e29 (Nat.ne_of_beq_eq_false rfl)).trans ((fc27 9 (Nat.ne_of_beq_eq_false rfl) (Nat.ne_of_beq_eq_false rfl)).trans (ms_i e3 (Nat.ne_of_beq_eq_false rfl)))) hp1) (bd_r ((ms_i e29 (Nat.ne_of_beq_eq_false rfl)).trans ((fc27 12 (Nat.ne_of_beq_eq_false rfl) (Nat.ne_of_beq_eq_false rfl)).trans (ms_i e3 (Nat.ne_of_beq_eq_false rfl)))) hp2)) hq.n k1417 k1419 k38 wc_162 rfl rfl k97 k1420 np_X11_token (Nat.le_trans (by decide) hd) (by decide) (Nat.le_refl _) (Nat.le_refl _) wlen rfl (Nat.le_of_ble_eq_true rfl) (fun r_ h_ p30 => ?_)
      obtain ⟨u31, g32, rfl, rfl, h33, h34, h35, h36, h37, hx38, fr39, fc40⟩ := p30
      replace E := xq_e2 hx38 E
      refine J_iconst (v := 1) dX11_number_51 (by decide) ?_
      exact J_zret hq dX11_number_52 rfl rfl wlen (Nat.le_refl _) (Nat.le_refl _) ⟨true, u31, g32, rfl, rfl, h33, h36, (bd_r ((fc40 17 (Nat.ne_of_beq_eq_false rfl) (Nat.ne_of_beq_eq_false rfl) (Nat.ne_of_beq_eq_false rfl) (Nat.ne_of_beq_eq_false rfl)).trans ((ms_i e29 (Nat.ne_of_beq_eq_false rfl)).trans ((fc27 17 (Nat.ne_of_beq_eq_false rfl) (Nat.ne_of_beq_eq_false rfl)).trans (ms_e e3)))) hp2), (fun _ => (gv_r rfl rfl rfl (gv_r ((ms_i e29 (Nat.ne_of_beq_eq_false rfl)).trans ((fc27 8 (Nat.ne_of_beq_eq_false rfl) (Nat.ne_of_beq_eq_false rfl)).trans (ms_i e3 (Nat.ne_of_beq_eq_false rfl)))).symm rfl rfl h37))), (fun _ => Or.inl ((fc40 18 (Nat.ne_of_beq_eq_false rfl) (Nat.ne_of_beq_eq_false rfl) (Nat.ne_of_beq_eq_false rfl) (Nat.ne_of_beq_eq_false rfl)).trans (ms_e e29))), (Or.inl ((fc40 18 (Nat.ne_of_beq_eq_false rfl) (Nat.ne_of_beq_eq_false rfl) (Nat.ne_of_beq_eq_false rfl) (Nat.ne_of_beq_eq_false rfl)).trans (ms_e e29))), E, (fun c k0_ => ((fr39 c k0_).trans ((ms_c e29 k0_).trans ((fr26 c k0_).trans (ms_c e3 k0_))))), (fun j k8_ k10_ k11_ k12_ k14_ k15_ k16_ k17_ k18_ => ((fc40 j k8_ k10_ k11_ k12_).trans ((ms_i e29 k18_).trans ((fc27 j k15_ k16_).trans (ms_i e3 k17_)))))⟩
  · replace E := xq_en c1 E
    refine J_aload_n (i := 0) (j := 0) dX11_number_8 rfl rfl ?_
    refine J_callV (As := []) (rest := []) dX11_number_9 (c_M_stopsX (d := 0) (u := u) (g := g) (ex := ex)   (by decide) ) hq.n k1444 k1446 k41 wc_162 rfl rfl k97 k1447 np_X11_stops (Nat.le_trans (by decide) hd) (by decide) (Nat.le_refl _) (Nat.le_refl _) wlen rfl (Nat.le_of_ble_eq_true rfl) (fun r_ h_ p41 => ?_)
    obtain ⟨u42, rfl, rfl, hx43, fr44, fc45⟩ := p41
    replace E := xq_le hx43 E
    exact J_zret hq dX11_number_12 rfl rfl wlen (Nat.le_refl _) (Nat.le_refl _) ⟨false, u42, g, rfl, rfl, (bd_r (fc45 8 (Nat.ne_of_beq_eq_false rfl)) hp0), (bd_r (fc45 12 (Nat.ne_of_beq_eq_false rfl)) hp2), (bd_r (fc45 17 (Nat.ne_of_beq_eq_false rfl)) hp3), (fun q => absurd q (by decide)), (fun q => absurd q (by decide)), (Or.inr (fc45 18 (Nat.ne_of_beq_eq_false rfl))), E, (fun c k0_ => (fr44 c k0_)), (fun j k8_ k10_ k11_ k12_ k14_ k15_ k16_ k17_ k18_ => (fc45 j k14_))⟩
set_option maxRecDepth 100000 in
noncomputable def Fx_M_take0X (low : Int32) (high : Int32) (u : Nat → Nat → Int32) (g : Nat → Nat → Int64) : Bool × (Nat → Nat → Int32) × (Nat → Nat → Int64) := xq_c3 (Fx_M_numberX low high u g) fun t2 u3 g4 => xq_lt (ms u3 171 0 (u3 162 17)) fun u14 => (t2, u14, g4)
set_option maxHeartbeats 4000000 in
set_option maxRecDepth 100000 in
theorem c_M_take0X {d : Nat} {u : Nat → Nat → Int32} {g : Nat → Nat → Int64} {ex : List MC} {low : Int32} {high : Int32} (hd : 3 ≤ d) (hp0 : Bd 0 600 (u 162 8)) (hp1 : Bd 0 600 (u 162 9)) (hp2 : Bd 0 999 (u 162 12)) (hp3 : Bd 0 999 (u 162 17)) : CT con0 d 0 0 yX11_take cX11_take 5 (some .boolean) [.ref 162, .int 0, .int low, .int high] (Wd u g ex) (fun r h2 => ∃ (z : Bool) (u2 : Nat → Nat → Int32) (g2 : Nat → Nat → Int64), r = some (.int (bI z)) ∧ h2 = Wd u2 g2 ex ∧ Bd 0 600 (u2 162 8) ∧ Bd 0 999 (u2 162 12) ∧ Bd 0 999 (u2 162 17) ∧ Bd 0 999 (u2 171 0) ∧ (z = true → GV (u 162 8) (u2 162 8) (u2 162 11)) ∧ (z = true → u2 162 18 = 0 ∨ (low ≤ u2 171 0 ∧ u2 171 0 ≤ high)) ∧ (u2 162 18 = 0 ∨ u2 162 18 = u 162 18) ∧ (z, u2, g2) = Fx_M_take0X low high u g ∧ (∀ c, c ≠ 162 → c ≠ 171 → u2 c = u c) ∧ (∀ j, j ≠ 8 → j ≠ 10 → j ≠ 11 → j ≠ 12 → j ≠ 14 → j ≠ 15 → j ≠ 16 → j ≠ 17 → j ≠ 18 → u2 162 j = u 162 j) ∧ (∀ j, j ≠ 0 → u2 171 j = u 171 j)) := by
  refine CT_of (by decide) (Nat.le_of_ble_eq_true rfl) (fun x hq => ?_)
  show J x yX11_take cX11_take 5 (some .boolean) d 0 0 (Wd u g ex).length 0 [(0, .ref 162), (1, .int 0), (2, .int low), (3, .int high)] [] (Wd u g ex) 0 0
  have E : Fx_M_take0X low high u g = Fx_M_take0X low high u g := rfl
  refine J_aload_n (i := 0) (j := 0) dX11_take_0 rfl rfl ?_
  refine J_iload_n (i := 2) (j := 2) dX11_take_1 rfl rfl ?_
  refine J_iload_n (i := 3) (j := 3) dX11_take_2 rfl rfl ?_
  refine J_callV (As := [.int low, .int high]) (rest := []) dX11_take_3 (c_M_numberX (d := 2) (u := u) (g := g) (ex := ex) (low := low) (high := high)  (by decide) hp0 hp1 hp2 hp3) hq.n k1460 k1462 k45 wc_162 rfl rfl k97 k1463 np_X11_number (Nat.le_trans (by decide) hd) (by decide) (Nat.le_refl _) (Nat.le_refl _) wlen rfl (Nat.le_of_ble_eq_true rfl) (fun r_ h_ p1 => ?_)
  obtain ⟨t2, u3, g4, rfl, rfl, h5, h6, h7, h8, h9, h10, hx11, fr12, fc13⟩ := p1
  replace E := xq_e3 hx11 E
  refine J_istore (i := 4) (lw := [(4, .int (bI t2)), (0, .ref 162), (1, .int 0), (2, .int low), (3, .int high)]) dX11_take_6 (by decide) rfl ?_
  refine J_aload_n (i := 0) (j := 1) dX11_take_8 rfl rfl ?_
  refine J_get (C := RX11) (T := TX11) (Z := 43) (ci := 11) (f := 20) dX11_take_9 inG11 rfl (by decide) k1284 wc_162 rfl ?_
  refine J_iload_n (i := 1) (j := 2) dX11_take_12 rfl rfl ?_
  refine J_aload_n (i := 0) (j := 1) dX11_take_13 rfl rfl ?_
  refine J_get (C := RX11) (T := TX11) (Z := 43) (ci := 11) (f := 17) dX11_take_14 inG11 rfl (by decide) k1281 wc_162 rfl ?_
  obtain ⟨u14, e15⟩ : ∃ z, z = ms u3 171 0 (u3 162 17) := ⟨_, rfl⟩
  refine J_iast dX11_take_17 wc_171 (vin (bd_c (v := 0) (lo := 0) (hi := 0) (by decide)) (by decide)) (ws e15 wk_171 rfl) ?_
  replace E := xq_le e15 E
  refine J_iload (i := 4) (j := 0) dX11_take_18 rfl ?_
  exact J_zret hq dX11_take_20 rfl (bI_n _) wlen (Nat.le_refl _) (Nat.le_refl _) ⟨t2, u14, g4, rfl, rfl, (bd_r (congrFun (ms_c e15 (Nat.ne_of_beq_eq_false rfl)) 8) h5), (bd_r (congrFun (ms_c e15 (Nat.ne_of_beq_eq_false rfl)) 12) h6), (bd_r (congrFun (ms_c e15 (Nat.ne_of_beq_eq_false rfl)) 17) h7), (bd_r (ms_e e15) h7), (fun q => (gv_r rfl (congrFun (ms_c e15 (Nat.ne_of_beq_eq_false rfl)) 8) (congrFun (ms_c e15 (Nat.ne_of_beq_eq_false rfl)) 11) (h8 q))), (fun q => nr_t (congrFun (ms_c e15 (Nat.ne_of_beq_eq_false rfl)) 18) (ms_e e15) (h9 q)), (nf_t (congrFun (ms_c e15 (Nat.ne_of_beq_eq_false rfl)) 18) h10), E, (fun c k0_ k1_ => ((ms_c e15 k1_).trans (fr12 c k0_))), (fun j k8_ k10_ k11_ k12_ k14_ k15_ k16_ k17_ k18_ => ((congrFun (ms_c e15 (Nat.ne_of_beq_eq_false rfl)) j).trans (fc13 j k8_ k10_ k11_ k12_ k14_ k15_ k16_ k17_ k18_))), (fun j k0_ => ((ms_i e15 k0_).trans (congrFun (fr12 171 (Nat.ne_of_beq_eq_false rfl)) j)))⟩
set_option maxRecDepth 100000 in
noncomputable def Fx_M_take1X (low : Int32) (high : Int32) (u : Nat → Nat → Int32) (g : Nat → Nat → Int64) : Bool × (Nat → Nat → Int32) × (Nat → Nat → Int64) := xq_c3 (Fx_M_numberX low high u g) fun t2 u3 g4 => xq_lt (ms u3 171 1 (u3 162 17)) fun u14 => (t2, u14, g4)
set_option maxHeartbeats 4000000 in
set_option maxRecDepth 100000 in
theorem c_M_take1X {d : Nat} {u : Nat → Nat → Int32} {g : Nat → Nat → Int64} {ex : List MC} {low : Int32} {high : Int32} (hd : 3 ≤ d) (hp0 : Bd 0 600 (u 162 8)) (hp1 : Bd 0 600 (u 162 9)) (hp2 : Bd 0 999 (u 162 12)) (hp3 : Bd 0 999 (u 162 17)) : CT con0 d 0 0 yX11_take cX11_take 5 (some .boolean) [.ref 162, .int 1, .int low, .int high] (Wd u g ex) (fun r h2 => ∃ (z : Bool) (u2 : Nat → Nat → Int32) (g2 : Nat → Nat → Int64), r = some (.int (bI z)) ∧ h2 = Wd u2 g2 ex ∧ Bd 0 600 (u2 162 8) ∧ Bd 0 999 (u2 162 12) ∧ Bd 0 999 (u2 162 17) ∧ Bd 0 999 (u2 171 1) ∧ (z = true → GV (u 162 8) (u2 162 8) (u2 162 11)) ∧ (z = true → u2 162 18 = 0 ∨ (low ≤ u2 171 1 ∧ u2 171 1 ≤ high)) ∧ (u2 162 18 = 0 ∨ u2 162 18 = u 162 18) ∧ (z, u2, g2) = Fx_M_take1X low high u g ∧ (∀ c, c ≠ 162 → c ≠ 171 → u2 c = u c) ∧ (∀ j, j ≠ 8 → j ≠ 10 → j ≠ 11 → j ≠ 12 → j ≠ 14 → j ≠ 15 → j ≠ 16 → j ≠ 17 → j ≠ 18 → u2 162 j = u 162 j) ∧ (∀ j, j ≠ 1 → u2 171 j = u 171 j)) := by
  refine CT_of (by decide) (Nat.le_of_ble_eq_true rfl) (fun x hq => ?_)
  show J x yX11_take cX11_take 5 (some .boolean) d 0 0 (Wd u g ex).length 0 [(0, .ref 162), (1, .int 1), (2, .int low), (3, .int high)] [] (Wd u g ex) 0 0
  have E : Fx_M_take1X low high u g = Fx_M_take1X low high u g := rfl
  refine J_aload_n (i := 0) (j := 0) dX11_take_0 rfl rfl ?_
  refine J_iload_n (i := 2) (j := 2) dX11_take_1 rfl rfl ?_
  refine J_iload_n (i := 3) (j := 3) dX11_take_2 rfl rfl ?_
  refine J_callV (As := [.int low, .int high]) (rest := []) dX11_take_3 (c_M_numberX (d := 2) (u := u) (g := g) (ex := ex) (low := low) (high := high)  (by decide) hp0 hp1 hp2 hp3) hq.n k1460 k1462 k45 wc_162 rfl rfl k97 k1463 np_X11_number (Nat.le_trans (by decide) hd) (by decide) (Nat.le_refl _) (Nat.le_refl _) wlen rfl (Nat.le_of_ble_eq_true rfl) (fun r_ h_ p1 => ?_)
  obtain ⟨t2, u3, g4, rfl, rfl, h5, h6, h7, h8, h9, h10, hx11, fr12, fc13⟩ := p1
  replace E := xq_e3 hx11 E
  refine J_istore (i := 4) (lw := [(4, .int (bI t2)), (0, .ref 162), (1, .int 1), (2, .int low), (3, .int high)]) dX11_take_6 (by decide) rfl ?_
  refine J_aload_n (i := 0) (j := 1) dX11_take_8 rfl rfl ?_
  refine J_get (C := RX11) (T := TX11) (Z := 43) (ci := 11) (f := 20) dX11_take_9 inG11 rfl (by decide) k1284 wc_162 rfl ?_
  refine J_iload_n (i := 1) (j := 2) dX11_take_12 rfl rfl ?_
  refine J_aload_n (i := 0) (j := 1) dX11_take_13 rfl rfl ?_
  refine J_get (C := RX11) (T := TX11) (Z := 43) (ci := 11) (f := 17) dX11_take_14 inG11 rfl (by decide) k1281 wc_162 rfl ?_
  obtain ⟨u14, e15⟩ : ∃ z, z = ms u3 171 1 (u3 162 17) := ⟨_, rfl⟩
  refine J_iast dX11_take_17 wc_171 (vin (bd_c (v := 1) (lo := 1) (hi := 1) (by decide)) (by decide)) (ws e15 wk_171 rfl) ?_
  replace E := xq_le e15 E
  refine J_iload (i := 4) (j := 0) dX11_take_18 rfl ?_
  exact J_zret hq dX11_take_20 rfl (bI_n _) wlen (Nat.le_refl _) (Nat.le_refl _) ⟨t2, u14, g4, rfl, rfl, (bd_r (congrFun (ms_c e15 (Nat.ne_of_beq_eq_false rfl)) 8) h5), (bd_r (congrFun (ms_c e15 (Nat.ne_of_beq_eq_false rfl)) 12) h6), (bd_r (congrFun (ms_c e15 (Nat.ne_of_beq_eq_false rfl)) 17) h7), (bd_r (ms_e e15) h7), (fun q => (gv_r rfl (congrFun (ms_c e15 (Nat.ne_of_beq_eq_false rfl)) 8) (congrFun (ms_c e15 (Nat.ne_of_beq_eq_false rfl)) 11) (h8 q))), (fun q => nr_t (congrFun (ms_c e15 (Nat.ne_of_beq_eq_false rfl)) 18) (ms_e e15) (h9 q)), (nf_t (congrFun (ms_c e15 (Nat.ne_of_beq_eq_false rfl)) 18) h10), E, (fun c k0_ k1_ => ((ms_c e15 k1_).trans (fr12 c k0_))), (fun j k8_ k10_ k11_ k12_ k14_ k15_ k16_ k17_ k18_ => ((congrFun (ms_c e15 (Nat.ne_of_beq_eq_false rfl)) j).trans (fc13 j k8_ k10_ k11_ k12_ k14_ k15_ k16_ k17_ k18_))), (fun j k1_ => ((ms_i e15 k1_).trans (congrFun (fr12 171 (Nat.ne_of_beq_eq_false rfl)) j)))⟩
set_option maxRecDepth 100000 in
noncomputable def Fx_M_take2X (low : Int32) (high : Int32) (u : Nat → Nat → Int32) (g : Nat → Nat → Int64) : Bool × (Nat → Nat → Int32) × (Nat → Nat → Int64) := xq_c3 (Fx_M_numberX low high u g) fun t2 u3 g4 => xq_lt (ms u3 171 2 (u3 162 17)) fun u14 => (t2, u14, g4)
set_option maxHeartbeats 4000000 in
set_option maxRecDepth 100000 in
theorem c_M_take2X {d : Nat} {u : Nat → Nat → Int32} {g : Nat → Nat → Int64} {ex : List MC} {low : Int32} {high : Int32} (hd : 3 ≤ d) (hp0 : Bd 0 600 (u 162 8)) (hp1 : Bd 0 600 (u 162 9)) (hp2 : Bd 0 999 (u 162 12)) (hp3 : Bd 0 999 (u 162 17)) : CT con0 d 0 0 yX11_take cX11_take 5 (some .boolean) [.ref 162, .int 2, .int low, .int high] (Wd u g ex) (fun r h2 => ∃ (z : Bool) (u2 : Nat → Nat → Int32) (g2 : Nat → Nat → Int64), r = some (.int (bI z)) ∧ h2 = Wd u2 g2 ex ∧ Bd 0 600 (u2 162 8) ∧ Bd 0 999 (u2 162 12) ∧ Bd 0 999 (u2 162 17) ∧ Bd 0 999 (u2 171 2) ∧ (z = true → GV (u 162 8) (u2 162 8) (u2 162 11)) ∧ (z = true → u2 162 18 = 0 ∨ (low ≤ u2 171 2 ∧ u2 171 2 ≤ high)) ∧ (u2 162 18 = 0 ∨ u2 162 18 = u 162 18) ∧ (z, u2, g2) = Fx_M_take2X low high u g ∧ (∀ c, c ≠ 162 → c ≠ 171 → u2 c = u c) ∧ (∀ j, j ≠ 8 → j ≠ 10 → j ≠ 11 → j ≠ 12 → j ≠ 14 → j ≠ 15 → j ≠ 16 → j ≠ 17 → j ≠ 18 → u2 162 j = u 162 j) ∧ (∀ j, j ≠ 2 → u2 171 j = u 171 j)) := by
  refine CT_of (by decide) (Nat.le_of_ble_eq_true rfl) (fun x hq => ?_)
  show J x yX11_take cX11_take 5 (some .boolean) d 0 0 (Wd u g ex).length 0 [(0, .ref 162), (1, .int 2), (2, .int low), (3, .int high)] [] (Wd u g ex) 0 0
  have E : Fx_M_take2X low high u g = Fx_M_take2X low high u g := rfl
  refine J_aload_n (i := 0) (j := 0) dX11_take_0 rfl rfl ?_
  refine J_iload_n (i := 2) (j := 2) dX11_take_1 rfl rfl ?_
  refine J_iload_n (i := 3) (j := 3) dX11_take_2 rfl rfl ?_
  refine J_callV (As := [.int low, .int high]) (rest := []) dX11_take_3 (c_M_numberX (d := 2) (u := u) (g := g) (ex := ex) (low := low) (high := high)  (by decide) hp0 hp1 hp2 hp3) hq.n k1460 k1462 k45 wc_162 rfl rfl k97 k1463 np_X11_number (Nat.le_trans (by decide) hd) (by decide) (Nat.le_refl _) (Nat.le_refl _) wlen rfl (Nat.le_of_ble_eq_true rfl) (fun r_ h_ p1 => ?_)
  obtain ⟨t2, u3, g4, rfl, rfl, h5, h6, h7, h8, h9, h10, hx11, fr12, fc13⟩ := p1
  replace E := xq_e3 hx11 E
  refine J_istore (i := 4) (lw := [(4, .int (bI t2)), (0, .ref 162), (1, .int 2), (2, .int low), (3, .int high)]) dX11_take_6 (by decide) rfl ?_
  refine J_aload_n (i := 0) (j := 1) dX11_take_8 rfl rfl ?_
  refine J_get (C := RX11) (T := TX11) (Z := 43) (ci := 11) (f := 20) dX11_take_9 inG11 rfl (by decide) k1284 wc_162 rfl ?_
  refine J_iload_n (i := 1) (j := 2) dX11_take_12 rfl rfl ?_
  refine J_aload_n (i := 0) (j := 1) dX11_take_13 rfl rfl ?_
  refine J_get (C := RX11) (T := TX11) (Z := 43) (ci := 11) (f := 17) dX11_take_14 inG11 rfl (by decide) k1281 wc_162 rfl ?_
  obtain ⟨u14, e15⟩ : ∃ z, z = ms u3 171 2 (u3 162 17) := ⟨_, rfl⟩
  refine J_iast dX11_take_17 wc_171 (vin (bd_c (v := 2) (lo := 2) (hi := 2) (by decide)) (by decide)) (ws e15 wk_171 rfl) ?_
  replace E := xq_le e15 E
  refine J_iload (i := 4) (j := 0) dX11_take_18 rfl ?_
  exact J_zret hq dX11_take_20 rfl (bI_n _) wlen (Nat.le_refl _) (Nat.le_refl _) ⟨t2, u14, g4, rfl, rfl, (bd_r (congrFun (ms_c e15 (Nat.ne_of_beq_eq_false rfl)) 8) h5), (bd_r (congrFun (ms_c e15 (Nat.ne_of_beq_eq_false rfl)) 12) h6), (bd_r (congrFun (ms_c e15 (Nat.ne_of_beq_eq_false rfl)) 17) h7), (bd_r (ms_e e15) h7), (fun q => (gv_r rfl (congrFun (ms_c e15 (Nat.ne_of_beq_eq_false rfl)) 8) (congrFun (ms_c e15 (Nat.ne_of_beq_eq_false rfl)) 11) (h8 q))), (fun q => nr_t (congrFun (ms_c e15 (Nat.ne_of_beq_eq_false rfl)) 18) (ms_e e15) (h9 q)), (nf_t (congrFun (ms_c e15 (Nat.ne_of_beq_eq_false rfl)) 18) h10), E, (fun c k0_ k1_ => ((ms_c e15 k1_).trans (fr12 c k0_))), (fun j k8_ k10_ k11_ k12_ k14_ k15_ k16_ k17_ k18_ => ((congrFun (ms_c e15 (Nat.ne_of_beq_eq_false rfl)) j).trans (fc13 j k8_ k10_ k11_ k12_ k14_ k15_ k16_ k17_ k18_))), (fun j k2_ => ((ms_i e15 k2_).trans (congrFun (fr12 171 (Nat.ne_of_beq_eq_false rfl)) j)))⟩
set_option maxRecDepth 100000 in
noncomputable def Fx_M_pondLineX_J165 (g50 : Nat → Nat → Int64) (u188 : Nat → Nat → Int32) : Bool × (Nat → Nat → Int32) × (Nat → Nat → Int64) := (true, u188, g50)
set_option maxRecDepth 100000 in
noncomputable def Fx_M_pondLineX_L91 (u : Nat → Nat → Int32) (g50 : Nat → Nat → Int64) (n_ : Nat) : (Int32) → (Nat → Nat → Int32) → Bool × (Nat → Nat → Int32) × (Nat → Nat → Int64) := Nat.rec (motive := fun _ => (Int32) → (Nat → Nat → Int32) → Bool × (Nat → Nat → Int32) × (Nat → Nat → Int64)) (fun _ _ => default) (fun n_ ih_ w241 u242 => if (16 : Int32) ≤ w241 then (xq_lt (ms u242 170 0 ((u242 170 0) + 1)) fun u300 => Fx_M_pondLineX_J165 g50 u300) else (if (3 : Int32) ≤ w241 then (if w241 = (8 : Int32) then (xq_lt (ms u242 170 ((((13 : Int32) + ((16 : Int32) * (u 170 0))) + w241).toNatClampNeg) (-1)) fun u304 => ih_ (w241 + 1) u304) else (if w241 = (9 : Int32) then (xq_lt (ms u242 170 ((((13 : Int32) + ((16 : Int32) * (u 170 0))) + w241).toNatClampNeg) (-1)) fun u307 => ih_ (w241 + 1) u307) else (if w241 = (12 : Int32) then (xq_lt (ms u242 170 ((((13 : Int32) + ((16 : Int32) * (u 170 0))) + w241).toNatClampNeg) (-1)) fun u312 => ih_ (w241 + 1) u312) else (xq_lt (ms u242 170 ((((13 : Int32) + ((16 : Int32) * (u 170 0))) + w241).toNatClampNeg) 0) fun u310 => ih_ (w241 + 1) u310)))) else (xq_lt (u242 171 w241.toNatClampNeg) fun v314 => xq_lt (ms u242 170 ((((13 : Int32) + ((16 : Int32) * (u 170 0))) + w241).toNatClampNeg) v314) fun u315 => ih_ (w241 + 1) u315))) n_
set_option maxRecDepth 100000 in
theorem Fx_M_pondLineX_L91_s {u : Nat → Nat → Int32} {g50 : Nat → Nat → Int64} {w241 : Int32} {u242 : Nat → Nat → Int32} {n_ : Nat} : Fx_M_pondLineX_L91 u g50 (n_ + 1) w241 u242 = if (16 : Int32) ≤ w241 then (xq_lt (ms u242 170 0 ((u242 170 0) + 1)) fun u300 => Fx_M_pondLineX_J165 g50 u300) else (if (3 : Int32) ≤ w241 then (if w241 = (8 : Int32) then (xq_lt (ms u242 170 ((((13 : Int32) + ((16 : Int32) * (u 170 0))) + w241).toNatClampNeg) (-1)) fun u304 => (Fx_M_pondLineX_L91 u g50 n_) (w241 + 1) u304) else (if w241 = (9 : Int32) then (xq_lt (ms u242 170 ((((13 : Int32) + ((16 : Int32) * (u 170 0))) + w241).toNatClampNeg) (-1)) fun u307 => (Fx_M_pondLineX_L91 u g50 n_) (w241 + 1) u307) else (if w241 = (12 : Int32) then (xq_lt (ms u242 170 ((((13 : Int32) + ((16 : Int32) * (u 170 0))) + w241).toNatClampNeg) (-1)) fun u312 => (Fx_M_pondLineX_L91 u g50 n_) (w241 + 1) u312) else (xq_lt (ms u242 170 ((((13 : Int32) + ((16 : Int32) * (u 170 0))) + w241).toNatClampNeg) 0) fun u310 => (Fx_M_pondLineX_L91 u g50 n_) (w241 + 1) u310)))) else (xq_lt (u242 171 w241.toNatClampNeg) fun v314 => xq_lt (ms u242 170 ((((13 : Int32) + ((16 : Int32) * (u 170 0))) + w241).toNatClampNeg) v314) fun u315 => (Fx_M_pondLineX_L91 u g50 n_) (w241 + 1) u315)) := rfl
set_option maxRecDepth 100000 in
noncomputable def Fx_M_pondLineX_J55 (u : Nat → Nat → Int32) (u14 : Nat → Nat → Int32) (g15 : Nat → Nat → Int64) (w29 : Int32) : Bool × (Nat → Nat → Int32) × (Nat → Nat → Int64) := xq_c3 (Fx_M_take1X (0 : Int32) w29 u14 g15) fun t32 u33 g34 => if t32 = true then (xq_c3 (Fx_M_take2X (0 : Int32) (9 : Int32) u33 g34) fun t48 u49 g50 => if t48 = true then (if (9 : Int32) ≤ (u 170 0) then (Fx_M_pondLineX_J165 g50 u49) else (Fx_M_pondLineX_L91 u g50 ((16 - (0 : Int32).toInt).toNat + 1) (0 : Int32) u49)) else ((false, u49, g50))) else ((false, u33, g34))
set_option maxRecDepth 100000 in
noncomputable def Fx_M_pondLineX_J19 (u : Nat → Nat → Int32) (g : Nat → Nat → Int64) (u8 : Nat → Nat → Int32) : Bool × (Nat → Nat → Int32) × (Nat → Nat → Int64) := xq_c3 (Fx_M_take0X (0 : Int32) (24 : Int32) u8 g) fun t13 u14 g15 => if t13 = true then (if (24 : Int32) ≤ (u14 171 0) then (Fx_M_pondLineX_J55 u u14 g15 (24 : Int32)) else (Fx_M_pondLineX_J55 u u14 g15 (u14 171 0))) else ((false, u14, g15))
set_option maxRecDepth 100000 in
noncomputable def Fx_M_pondLineX (at0 : Int32) (u : Nat → Nat → Int32) (g : Nat → Nat → Int64) : Bool × (Nat → Nat → Int32) × (Nat → Nat → Int64) := if (u 170 0) = (9 : Int32) then (xq_lt (Fx_M_laterX (3 : Int32) at0 u g) fun u318 => Fx_M_pondLineX_J19 u g u318) else (Fx_M_pondLineX_J19 u g u)
set_option maxHeartbeats 4000000 in
set_option maxRecDepth 100000 in
theorem c_M_pondLineX {d : Nat} {u : Nat → Nat → Int32} {g : Nat → Nat → Int64} {ex : List MC} {at0 : Int32} (hd : 4 ≤ d) (hp0 : Bd 0 600 (u 162 8)) (hp1 : Bd 0 600 (u 162 9)) (hp2 : Bd 0 999 (u 162 12)) (hp3 : Bd 0 999 (u 162 17)) (hp4 : AB u 171 (-1) 999) (hp5 : (RH u)) : CT con0 d 0 0 yX11_pondLine cX11_pondLine 5 (some .boolean) [.ref 162, .int at0] (Wd u g ex) (fun r h2 => ∃ (z : Bool) (u2 : Nat → Nat → Int32) (g2 : Nat → Nat → Int64), r = some (.int (bI z)) ∧ h2 = Wd u2 g2 ex ∧ Bd 0 600 (u2 162 8) ∧ Bd 0 999 (u2 162 12) ∧ Bd 0 999 (u2 162 17) ∧ AB u2 171 (-1) 999 ∧ (RH u2) ∧ (z = true → GV (u 162 8) (u2 162 8) (u2 162 11)) ∧ (z, u2, g2) = Fx_M_pondLineX at0 u g ∧ (∀ c, nin c [(162, 162), (170, 171)] = true → u2 c = u c) ∧ (∀ j, j ≠ 8 → j ≠ 10 → j ≠ 11 → j ≠ 12 → j ≠ 14 → j ≠ 15 → j ≠ 16 → j ≠ 17 → j ≠ 18 → u2 162 j = u 162 j)) := by
  refine CT_of (by decide) (Nat.le_of_ble_eq_true rfl) (fun x hq => ?_)
  show J x yX11_pondLine cX11_pondLine 5 (some .boolean) d 0 0 (Wd u g ex).length 0 [(0, .ref 162), (1, .int at0)] [] (Wd u g ex) 0 0
  have E : Fx_M_pondLineX at0 u g = Fx_M_pondLineX at0 u g := rfl
  refine J_aload_n (i := 0) (j := 0) dX11_pondLine_0 rfl rfl ?_
  refine J_get (C := RX11) (T := TX11) (Z := 43) (ci := 11) (f := 19) dX11_pondLine_1 inG11 rfl (by decide) k1283 wc_162 rfl ?_
  refine J_iconst (v := 0) dX11_pondLine_4 (by decide) ?_
  refine J_iald dX11_pondLine_5 wc_170 (vin (bd_c (v := 0) (lo := 0) (hi := 0) (by decide)) (by decide)) ?_
  refine J_ci (v := u 170 0) rfl ?_
  refine J_istore_n (i := 2) (lw := [(2, .int (u 170 0)), (0, .ref 162), (1, .int at0)]) dX11_pondLine_6 rfl (by decide) rfl ?_
  refine J_iload_n (i := 2) (j := 0) dX11_pondLine_7 rfl rfl ?_
  refine J_bipush (v := 9) dX11_pondLine_8 (by decide) ?_
  have jn11 : ∀ (u8 : Nat → Nat → Int32), (∀ c, c ≠ 162 → u8 c = u c) → (∀ j, j ≠ 15 → j ≠ 16 → u8 162 j = u 162 j) → Fx_M_pondLineX_J19 u g u8 = Fx_M_pondLineX at0 u g → J x yX11_pondLine cX11_pondLine 5 (some .boolean) d 0 0 (Wd u g ex).length 19 [(0, .ref 162), (2, .int (u 170 0))] [] (Wd u8 g ex) 0 0 := by
    intro u8 fr9 fc10 E
    refine J_aload_n (i := 0) (j := 0) dX11_pondLine_19 rfl rfl ?_
    refine J_iconst (v := 0) dX11_pondLine_20 (by decide) ?_
    refine J_iconst (v := 0) dX11_pondLine_21 (by decide) ?_
    refine J_bipush (v := 24) dX11_pondLine_22 (by decide) ?_
    refine J_callV (As := [.int 0, .int 0, .int 24]) (rest := []) dX11_pondLine_24 (c_M_take0X (d := 3) (u := u8) (g := g) (ex := ex) (low := 0) (high := 24)  (by decide) (bd_r (fc10 8 (Nat.ne_of_beq_eq_false rfl) (Nat.ne_of_beq_eq_false rfl)) hp0) (bd_r (fc10 9 (Nat.ne_of_beq_eq_false rfl) (Nat.ne_of_beq_eq_false rfl)) hp1) (bd_r (fc10 12 (Nat.ne_of_beq_eq_false rfl) (Nat.ne_of_beq_eq_false rfl)) hp2) (bd_r (fc10 17 (Nat.ne_of_beq_eq_false rfl) (Nat.ne_of_beq_eq_false rfl)) hp3)) hq.n k1456 k1458 k44 wc_162 rfl rfl k97 k1459 np_X11_take (Nat.le_trans (by decide) hd) (by decide) (Nat.le_refl _) (Nat.le_refl _) wlen rfl (Nat.le_of_ble_eq_true rfl) (fun r_ h_ p12 => ?_)
    obtain ⟨t13, u14, g15, rfl, rfl, h16, h17, h18, h19, h20, h21, h22, hx23, fr24, fc25, fc26⟩ := p12
    replace E := xq_e3 hx23 E
    refine J_ifB_eq (tgt := 72) dX11_pondLine_27 (by decide) (fun c27 => ?_) (fun c27 => ?_)
    · replace E := xq_ef c27 E
      refine J_iconst (v := 0) dX11_pondLine_72 (by decide) ?_
      exact J_zret hq dX11_pondLine_73 rfl rfl wlen (Nat.le_refl _) (Nat.le_refl _) ⟨false, u14, g15, rfl, rfl, h16, h17, h18, (ab_i fc26 (ab_c (fr9 171 (Nat.ne_of_beq_eq_false rfl)) hp4) (bd_w (l := (-1)) (h := 999) h19 (by decide))), (rh_c ((fr24 170 (Nat.ne_of_beq_eq_false rfl) (Nat.ne_of_beq_eq_false rfl)).trans (fr9 170 (Nat.ne_of_beq_eq_false rfl))) hp5), (fun q => absurd q (by decide)), E, (fun c k_ => ((fr24 c (nin_ne (a := 162) k_ rfl) (nin_ne (a := 171) k_ rfl)).trans (fr9 c (nin_ne (a := 162) k_ rfl)))), (fun j k8_ k10_ k11_ k12_ k14_ k15_ k16_ k17_ k18_ => ((fc25 j k8_ k10_ k11_ k12_ k14_ k15_ k16_ k17_ k18_).trans (fc10 j k15_ k16_)))⟩
    · replace E := xq_ep c27 E
      refine J_aload_n (i := 0) (j := 0) dX11_pondLine_30 rfl rfl ?_
      refine J_iconst (v := 1) dX11_pondLine_31 (by decide) ?_
      refine J_iconst (v := 0) dX11_pondLine_32 (by decide) ?_
      refine J_aload_n (i := 0) (j := 0) dX11_pondLine_33 rfl rfl ?_
      refine J_get (C := RX11) (T := TX11) (Z := 43) (ci := 11) (f := 20) dX11_pondLine_34 inG11 rfl (by decide) k1284 wc_162 rfl ?_
      refine J_iconst (v := 0) dX11_pondLine_37 (by decide) ?_
      refine J_iald dX11_pondLine_38 wc_171 (vin (bd_c (v := 0) (lo := 0) (hi := 0) (by decide)) (by decide)) ?_
      refine J_ci (v := u14 171 0) rfl ?_
      refine J_bipush (v := 24) dX11_pondLine_39 (by decide) ?_
      have jn30 : ∀ (w29 : Int32), Bd 0 24 w29 → Fx_M_pondLineX_J55 u u14 g15 w29 = Fx_M_pondLineX at0 u g → J x yX11_pondLine cX11_pondLine 5 (some .boolean) d 0 0 (Wd u g ex).length 55 [(0, .ref 162), (2, .int (u 170 0))] [.int w29, .int 0, .int 1, .ref 162] (Wd u14 g15 ex) 0 0 := by
        intro w29 bw29 E
        refine J_callV (As := [.int 1, .int 0, .int w29]) (rest := []) dX11_pondLine_55 (c_M_take1X (d := 3) (u := u14) (g := g15) (ex := ex) (low := 0) (high := w29)  (by decide) h16 (bd_r ((fc25 9 (Nat.ne_of_beq_eq_false rfl) (Nat.ne_of_beq_eq_false rfl) (Nat.ne_of_beq_eq_false rfl) (Nat.ne_of_beq_eq_false rfl) (Nat.ne_of_beq_eq_false rfl) (Nat.ne_of_beq_eq_false rfl) (Nat.ne_of_beq_eq_false rfl) (Nat.ne_of_beq_eq_false rfl) (Nat.ne_of_beq_eq_false rfl)).trans (fc10 9 (Nat.ne_of_beq_eq_false rfl) (Nat.ne_of_beq_eq_false rfl))) hp1) h17 h18) hq.n k1456 k1458 k44 wc_162 rfl rfl k97 k1459 np_X11_take (Nat.le_trans (by decide) hd) (by decide) (Nat.le_refl _) (Nat.le_refl _) wlen rfl (Nat.le_of_ble_eq_true rfl) (fun r_ h_ p31 => ?_)
        obtain ⟨t32, u33, g34, rfl, rfl, h35, h36, h37, h38, h39, h40, h41, hx42, fr43, fc44, fc45⟩ := p31
        replace E := xq_e3 hx42 E
        refine J_ifB_eq (tgt := 72) dX11_pondLine_58 (by decide) (fun c46 => ?_) (fun c46 => ?_)
        · replace E := xq_ef c46 E
          refine J_iconst (v := 0) dX11_pondLine_72 (by decide) ?_
          exact J_zret hq dX11_pondLine_73 rfl rfl wlen (Nat.le_refl _) (Nat.le_refl _) ⟨false, u33, g34, rfl, rfl, h35, h36, h37, (ab_i fc45 (ab_i fc26 (ab_c (fr9 171 (Nat.ne_of_beq_eq_false rfl)) hp4) (bd_w (l := (-1)) (h := 999) h19 (by decide))) (bd_w (l := (-1)) (h := 999) h38 (by decide))), (rh_c ((fr43 170 (Nat.ne_of_beq_eq_false rfl) (Nat.ne_of_beq_eq_false rfl)).trans ((fr24 170 (Nat.ne_of_beq_eq_false rfl) (Nat.ne_of_beq_eq_false rfl)).trans (fr9 170 (Nat.ne_of_beq_eq_false rfl)))) hp5), (fun q => absurd q (by decide)), E, (fun c k_ => ((fr43 c (nin_ne (a := 162) k_ rfl) (nin_ne (a := 171) k_ rfl)).trans ((fr24 c (nin_ne (a := 162) k_ rfl) (nin_ne (a := 171) k_ rfl)).trans (fr9 c (nin_ne (a := 162) k_ rfl))))), (fun j k8_ k10_ k11_ k12_ k14_ k15_ k16_ k17_ k18_ => ((fc44 j k8_ k10_ k11_ k12_ k14_ k15_ k16_ k17_ k18_).trans ((fc25 j k8_ k10_ k11_ k12_ k14_ k15_ k16_ k17_ k18_).trans (fc10 j k15_ k16_))))⟩
        · replace E := xq_ep c46 E
          refine J_aload_n (i := 0) (j := 0) dX11_pondLine_61 rfl rfl ?_
          refine J_iconst (v := 2) dX11_pondLine_62 (by decide) ?_
          refine J_iconst (v := 0) dX11_pondLine_63 (by decide) ?_
          refine J_bipush (v := 9) dX11_pondLine_64 (by decide) ?_
          refine J_callV (As := [.int 2, .int 0, .int 9]) (rest := []) dX11_pondLine_66 (c_M_take2X (d := 3) (u := u33) (g := g34) (ex := ex) (low := 0) (high := 9)  (by decide) h35 (bd_r ((fc44 9 (Nat.ne_of_beq_eq_false rfl) (Nat.ne_of_beq_eq_false rfl) (Nat.ne_of_beq_eq_false rfl) (Nat.ne_of_beq_eq_false rfl) (Nat.ne_of_beq_eq_false rfl) (Nat.ne_of_beq_eq_false rfl) (Nat.ne_of_beq_eq_false rfl) (Nat.ne_of_beq_eq_false rfl) (Nat.ne_of_beq_eq_false rfl)).trans ((fc25 9 (Nat.ne_of_beq_eq_false rfl) (Nat.ne_of_beq_eq_false rfl) (Nat.ne_of_beq_eq_false rfl) (Nat.ne_of_beq_eq_false rfl) (Nat.ne_of_beq_eq_false rfl) (Nat.ne_of_beq_eq_false rfl) (Nat.ne_of_beq_eq_false rfl) (Nat.ne_of_beq_eq_false rfl) (Nat.ne_of_beq_eq_false rfl)).trans (fc10 9 (Nat.ne_of_beq_eq_false rfl) (Nat.ne_of_beq_eq_false rfl)))) hp1) h36 h37) hq.n k1456 k1458 k44 wc_162 rfl rfl k97 k1459 np_X11_take (Nat.le_trans (by decide) hd) (by decide) (Nat.le_refl _) (Nat.le_refl _) wlen rfl (Nat.le_of_ble_eq_true rfl) (fun r_ h_ p47 => ?_)
          obtain ⟨t48, u49, g50, rfl, rfl, h51, h52, h53, h54, h55, h56, h57, hx58, fr59, fc60, fc61⟩ := p47
          replace E := xq_e3 hx58 E
          refine J_ifB_ne (tgt := 74) dX11_pondLine_69 (by decide) (fun c62 => ?_) (fun c62 => ?_)
          · replace E := xq_ep c62 E
            refine J_iload_n (i := 2) (j := 1) dX11_pondLine_74 rfl rfl ?_
            refine J_bipush (v := 9) dX11_pondLine_75 (by decide) ?_
            have jn192 : ∀ (u188 : Nat → Nat → Int32), (∀ c, c ≠ 170 → u188 c = u49 c) → AB u188 170 (-1) 999 → RH u188 → Fx_M_pondLineX_J165 g50 u188 = Fx_M_pondLineX at0 u g → J x yX11_pondLine cX11_pondLine 5 (some .boolean) d 0 0 (Wd u g ex).length 165 [] [] (Wd u188 g50 ex) 0 0 := by
              intro u188 fr189 ab190 rf191 E
              refine J_iconst (v := 1) dX11_pondLine_165 (by decide) ?_
              exact J_zret hq dX11_pondLine_166 rfl rfl wlen (Nat.le_refl _) (Nat.le_refl _) ⟨true, u188, g50, rfl, rfl, (bd_r (congrFun (fr189 162 (Nat.ne_of_beq_eq_false rfl)) 8) h51), (bd_r (congrFun (fr189 162 (Nat.ne_of_beq_eq_false rfl)) 12) h52), (bd_r (congrFun (fr189 162 (Nat.ne_of_beq_eq_false rfl)) 17) h53), (ab_c (fr189 171 (Nat.ne_of_beq_eq_false rfl)) (ab_i fc61 (ab_i fc45 (ab_i fc26 (ab_c (fr9 171 (Nat.ne_of_beq_eq_false rfl)) hp4) (bd_w (l := (-1)) (h := 999) h19 (by decide))) (bd_w (l := (-1)) (h := 999) h38 (by decide))) (bd_w (l := (-1)) (h := 999) h54 (by decide)))), rf191, (fun _ => (gv_r rfl (congrFun (fr189 162 (Nat.ne_of_beq_eq_false rfl)) 8) (congrFun (fr189 162 (Nat.ne_of_beq_eq_false rfl)) 11) (gv_t (gv_t (gv_r (fc10 8 (Nat.ne_of_beq_eq_false rfl) (Nat.ne_of_beq_eq_false rfl)).symm rfl rfl (h20 c27)) (h39 c46)) (h55 c62)))), E, (fun c k_ => ((fr189 c (nin_ne (a := 170) k_ rfl)).trans ((fr59 c (nin_ne (a := 162) k_ rfl) (nin_ne (a := 171) k_ rfl)).trans ((fr43 c (nin_ne (a := 162) k_ rfl) (nin_ne (a := 171) k_ rfl)).trans ((fr24 c (nin_ne (a := 162) k_ rfl) (nin_ne (a := 171) k_ rfl)).trans (fr9 c (nin_ne (a := 162) k_ rfl))))))), (fun j k8_ k10_ k11_ k12_ k14_ k15_ k16_ k17_ k18_ => ((congrFun (fr189 162 (Nat.ne_of_beq_eq_false rfl)) j).trans ((fc60 j k8_ k10_ k11_ k12_ k14_ k15_ k16_ k17_ k18_).trans ((fc44 j k8_ k10_ k11_ k12_ k14_ k15_ k16_ k17_ k18_).trans ((fc25 j k8_ k10_ k11_ k12_ k14_ k15_ k16_ k17_ k18_).trans (fc10 j k15_ k16_))))))⟩
            refine J_icmp_ge (tgt := 165) dX11_pondLine_77 (by decide) (fun c63 => ?_) (fun c63 => ?_)
            · replace E := xq_ep c63 E
              refine J_lv [] rfl ?_
              exact jn192 u49 (fun c k0_ => rfl) (ab_c ((fr59 170 (Nat.ne_of_beq_eq_false rfl) (Nat.ne_of_beq_eq_false rfl)).trans ((fr43 170 (Nat.ne_of_beq_eq_false rfl) (Nat.ne_of_beq_eq_false rfl)).trans ((fr24 170 (Nat.ne_of_beq_eq_false rfl) (Nat.ne_of_beq_eq_false rfl)).trans (fr9 170 (Nat.ne_of_beq_eq_false rfl))))) (hp5).1) (rh_c ((fr59 170 (Nat.ne_of_beq_eq_false rfl) (Nat.ne_of_beq_eq_false rfl)).trans ((fr43 170 (Nat.ne_of_beq_eq_false rfl) (Nat.ne_of_beq_eq_false rfl)).trans ((fr24 170 (Nat.ne_of_beq_eq_false rfl) (Nat.ne_of_beq_eq_false rfl)).trans (fr9 170 (Nat.ne_of_beq_eq_false rfl))))) hp5) E
            · replace E := xq_en c63 E
              refine J_bipush (v := 13) dX11_pondLine_80 (by decide) ?_
              refine J_bipush (v := 16) dX11_pondLine_82 (by decide) ?_
              refine J_iload_n (i := 2) (j := 1) dX11_pondLine_84 rfl rfl ?_
              refine J_imul dX11_pondLine_85 ?_
              refine J_iadd dX11_pondLine_86 ?_
              refine J_istore_n (i := 3) (lw := [(3, .int ((13 : Int32) + ((16 : Int32) * (u 170 0)))), (0, .ref 162), (2, .int (u 170 0))]) dX11_pondLine_87 rfl (by decide) rfl ?_
              refine J_iconst (v := 0) dX11_pondLine_88 (by decide) ?_
              refine J_istore (i := 4) (lw := [(4, .int 0), (3, .int ((13 : Int32) + ((16 : Int32) * (u 170 0)))), (0, .ref 162), (2, .int (u 170 0))]) dX11_pondLine_89 (by decide) rfl ?_
              have lp279 : ∀ (n280 : Nat) (w241 : Int32) (u242 : Nat → Nat → Int32), Bd 0 16 w241 → (∀ c, c ≠ 170 → u242 c = u49 c) → AB u242 170 (-1) 999 → RH u242 → u242 170 0 = u 170 0 → (16 - w241.toInt).toNat < n280 → Fx_M_pondLineX_L91 u g50 n280 w241 u242 = Fx_M_pondLineX at0 u g → J x yX11_pondLine cX11_pondLine 5 (some .boolean) d 0 0 (Wd u g ex).length 91 [(0, .ref 162), (3, .int ((13 : Int32) + ((16 : Int32) * (u 170 0)))), (4, .int w241)] [] (Wd u242 g50 ex) 0 0 := by
                intro n280
                induction n280 with
                | zero => intro w241 u242 bw241 fr243 ab244 rf245 hI283 hm282 _; exact absurd hm282 (Nat.not_lt_zero _)
                | succ n280 ih281 =>
                  intro w241 u242 bw241 fr243 ab244 rf245 hI283 hm282 E
                  replace E := Fx_M_pondLineX_L91_s.symm.trans E
                  refine J_iload (i := 4) (j := 2) dX11_pondLine_91 rfl ?_
                  refine J_bipush (v := 16) dX11_pondLine_93 (by decide) ?_
                  refine J_icmp_ge (tgt := 155) dX11_pondLine_95 (by decide) (fun c284 => ?_) (fun c284 => ?_)
                  · replace E := xq_ep c284 E
                    refine J_aload_n (i := 0) (j := 0) dX11_pondLine_155 rfl rfl ?_
                    refine J_get (C := RX11) (T := TX11) (Z := 43) (ci := 11) (f := 19) dX11_pondLine_156 inG11 rfl (by decide) k1283 wc_162 rfl ?_
                    refine J_iconst (v := 0) dX11_pondLine_159 (by decide) ?_
                    refine J_dup2_11 dX11_pondLine_160 rfl rfl ?_
                    refine J_iald dX11_pondLine_161 wc_170 (vin (bd_c (v := 0) (lo := 0) (hi := 0) (by decide)) (by decide)) ?_
                    refine J_ci (v := u242 170 0) rfl ?_
                    refine J_iconst (v := 1) dX11_pondLine_162 (by decide) ?_
                    refine J_iadd dX11_pondLine_163 ?_
                    obtain ⟨u300, e301⟩ : ∃ z, z = ms u242 170 0 ((u242 170 0) + 1) := ⟨_, rfl⟩
                    refine J_iast dX11_pondLine_164 wc_170 (vin (bd_c (v := 0) (lo := 0) (hi := 0) (by decide)) (by decide)) (ws e301 wk_170 rfl) ?_
                    replace E := xq_le e301 E
                    refine J_lv [] rfl ?_
                    exact jn192 u300 (fun c k0_ => ((ms_c e301 k0_).trans (fr243 c k0_))) (ab_s e301 ab244 (bd_w (l := (-1)) (h := 999) (bd_add (l := 1) (h := 9) (bd_r hI283 (bd_lt_hi (hp5).2.1 (i_nle c63) (bd_c (v := 9) (lo := 9) (hi := 9) (by decide)))) (bd_c (v := 1) (lo := 1) (hi := 1) (by decide)) (by decide)) (by decide))) (rh_0 e301 (bd_w (l := 0) (h := 9) (bd_add (l := 1) (h := 9) (bd_r hI283 (bd_lt_hi (hp5).2.1 (i_nle c63) (bd_c (v := 9) (lo := 9) (hi := 9) (by decide)))) (bd_c (v := 1) (lo := 1) (hi := 1) (by decide)) (by decide)) (by decide)) rf245) E
                  · replace E := xq_en c284 E
                    refine J_aload_n (i := 0) (j := 0) dX11_pondLine_98 rfl rfl ?_
                    refine J_get (C := RX11) (T := TX11) (Z := 43) (ci := 11) (f := 19) dX11_pondLine_99 inG11 rfl (by decide) k1283 wc_162 rfl ?_
                    refine J_iload_n (i := 3) (j := 1) dX11_pondLine_102 rfl rfl ?_
                    refine J_iload (i := 4) (j := 2) dX11_pondLine_103 rfl ?_
                    refine J_iadd dX11_pondLine_105 ?_
                    refine J_iload (i := 4) (j := 2) dX11_pondLine_106 rfl ?_
                    refine J_iconst (v := 3) dX11_pondLine_108 (by decide) ?_
                    refine J_icmp_ge (tgt := 122) dX11_pondLine_109 (by decide) (fun c302 => ?_) (fun c302 => ?_)
                    · replace E := xq_ep c302 E
                      refine J_iload (i := 4) (j := 2) dX11_pondLine_122 rfl ?_
                      refine J_bipush (v := 8) dX11_pondLine_124 (by decide) ?_
                      refine J_icmp_eq (tgt := 143) dX11_pondLine_126 (by decide) (fun c303 => ?_) (fun c303 => ?_)
                      · replace E := xq_ep c303 E
                        refine J_iconst (v := (-1)) dX11_pondLine_143 (by decide) ?_
                        refine J_goto (tgt := 148) dX11_pondLine_144 (by decide) ?_
                        obtain ⟨u304, e305⟩ : ∃ z, z = ms u242 170 ((((13 : Int32) + ((16 : Int32) * (u 170 0))) + w241).toNatClampNeg) (-1) := ⟨_, rfl⟩
                        refine J_iast dX11_pondLine_148 wc_170 (vin (bd_add (l := 21) (h := 149) (bd_add (l := 13) (h := 141) (bd_c (v := 13) (lo := 13) (hi := 13) (by decide)) (bd_mul (l := 0) (h := 128) (bd_c (v := 16) (lo := 16) (hi := 16) (by decide)) (bd_lt_hi (hp5).2.1 (i_nle c63) (bd_c (v := 9) (lo := 9) (hi := 9) (by decide))) (by decide)) (by decide)) (bd_r c303 (bd_c (v := 8) (lo := 8) (hi := 8) (by decide))) (by decide)) (by decide)) (ws e305 wk_170 rfl) ?_
                        replace E := xq_le e305 E
                        refine J_iinc (i := 4) (j := 2) (v := (w241 + 1)) (lw := [(4, .int (w241 + 1)), (0, .ref 162), (3, .int ((13 : Int32) + ((16 : Int32) * (u 170 0))))]) dX11_pondLine_149 rfl rfl (by decide) rfl ?_
                        refine J_goto (tgt := 91) dX11_pondLine_152 (by decide) ?_
                        refine J_lv [1, 2, 0] rfl ?_
                        exact ih281 (w241 + 1) u304 (bd_w (l := 0) (h := 16) (bd_add (l := 9) (h := 9) (bd_r c303 (bd_c (v := 8) (lo := 8) (hi := 8) (by decide))) (bd_c (v := 1) (lo := 1) (hi := 1) (by decide)) (by decide)) (by decide)) (fun c k0_ => ((ms_c e305 k0_).trans (fr243 c k0_))) (ab_s e305 ab244 (bd_w (l := (-1)) (h := 999) (bd_c (v := (-1)) (lo := (-1)) (hi := (-1)) (by decide)) (by decide))) (rh_p e305 (bd_lt_hi (hp5).2.1 (i_nle c63) (bd_c (v := 9) (lo := 9) (hi := 9) (by decide))) (bd_w (l := 0) (h := 15) (bd_r c303 (bd_c (v := 8) (lo := 8) (hi := 8) (by decide))) (by decide)) (bd_w (l := (-1)) (h := 999) (bd_c (v := (-1)) (lo := (-1)) (hi := (-1)) (by decide)) (by decide)) (fun _ => (bd_w (l := (-1)) (h := 8) (bd_c (v := (-1)) (lo := (-1)) (hi := (-1)) (by decide)) (by decide))) rf245) ((ms_i e305 (ixne (bd_add (l := 21) (h := 149) (bd_add (l := 13) (h := 141) (bd_c (v := 13) (lo := 13) (hi := 13) (by decide)) (bd_mul (l := 0) (h := 128) (bd_c (v := 16) (lo := 16) (hi := 16) (by decide)) (bd_lt_hi (hp5).2.1 (i_nle c63) (bd_c (v := 9) (lo := 9) (hi := 9) (by decide))) (by decide)) (by decide)) (bd_r c303 (bd_c (v := 8) (lo := 8) (hi := 8) (by decide))) (by decide)) (by decide))).trans hI283) (mu_up 1 bw241 rfl (by decide) (bd_w (l := 9) (h := 16) (bd_add (l := 9) (h := 9) (bd_r c303 (bd_c (v := 8) (lo := 8) (hi := 8) (by decide))) (bd_c (v := 1) (lo := 1) (hi := 1) (by decide)) (by decide)) (by decide)) hm282) E
                      · replace E := xq_en c303 E
                        refine J_iload (i := 4) (j := 2) dX11_pondLine_129 rfl ?_
                        refine J_bipush (v := 9) dX11_pondLine_131 (by decide) ?_
                        refine J_icmp_eq (tgt := 143) dX11_pondLine_133 (by decide) (fun c306 => ?_) (fun c306 => ?_)
                        · replace E := xq_ep c306 E
                          refine J_iconst (v := (-1)) dX11_pondLine_143 (by decide) ?_
                          refine J_goto (tgt := 148) dX11_pondLine_144 (by decide) ?_
                          obtain ⟨u307, e308⟩ : ∃ z, z = ms u242 170 ((((13 : Int32) + ((16 : Int32) * (u 170 0))) + w241).toNatClampNeg) (-1) := ⟨_, rfl⟩
                          refine J_iast dX11_pondLine_148 wc_170 (vin (bd_add (l := 22) (h := 150) (bd_add (l := 13) (h := 141) (bd_c (v := 13) (lo := 13) (hi := 13) (by decide)) (bd_mul (l := 0) (h := 128) (bd_c (v := 16) (lo := 16) (hi := 16) (by decide)) (bd_lt_hi (hp5).2.1 (i_nle c63) (bd_c (v := 9) (lo := 9) (hi := 9) (by decide))) (by decide)) (by decide)) (bd_r c306 (bd_c (v := 9) (lo := 9) (hi := 9) (by decide))) (by decide)) (by decide)) (ws e308 wk_170 rfl) ?_
                          replace E := xq_le e308 E
                          refine J_iinc (i := 4) (j := 2) (v := (w241 + 1)) (lw := [(4, .int (w241 + 1)), (0, .ref 162), (3, .int ((13 : Int32) + ((16 : Int32) * (u 170 0))))]) dX11_pondLine_149 rfl rfl (by decide) rfl ?_
                          refine J_goto (tgt := 91) dX11_pondLine_152 (by decide) ?_
                          refine J_lv [1, 2, 0] rfl ?_
                          exact ih281 (w241 + 1) u307 (bd_w (l := 0) (h := 16) (bd_add (l := 10) (h := 10) (bd_r c306 (bd_c (v := 9) (lo := 9) (hi := 9) (by decide))) (bd_c (v := 1) (lo := 1) (hi := 1) (by decide)) (by decide)) (by decide)) (fun c k0_ => ((ms_c e308 k0_).trans (fr243 c k0_))) (ab_s e308 ab244 (bd_w (l := (-1)) (h := 999) (bd_c (v := (-1)) (lo := (-1)) (hi := (-1)) (by decide)) (by decide))) (rh_p e308 (bd_lt_hi (hp5).2.1 (i_nle c63) (bd_c (v := 9) (lo := 9) (hi := 9) (by decide))) (bd_w (l := 0) (h := 15) (bd_r c306 (bd_c (v := 9) (lo := 9) (hi := 9) (by decide))) (by decide)) (bd_w (l := (-1)) (h := 999) (bd_c (v := (-1)) (lo := (-1)) (hi := (-1)) (by decide)) (by decide)) (fun _ => (bd_w (l := (-1)) (h := 8) (bd_c (v := (-1)) (lo := (-1)) (hi := (-1)) (by decide)) (by decide))) rf245) ((ms_i e308 (ixne (bd_add (l := 22) (h := 150) (bd_add (l := 13) (h := 141) (bd_c (v := 13) (lo := 13) (hi := 13) (by decide)) (bd_mul (l := 0) (h := 128) (bd_c (v := 16) (lo := 16) (hi := 16) (by decide)) (bd_lt_hi (hp5).2.1 (i_nle c63) (bd_c (v := 9) (lo := 9) (hi := 9) (by decide))) (by decide)) (by decide)) (bd_r c306 (bd_c (v := 9) (lo := 9) (hi := 9) (by decide))) (by decide)) (by decide))).trans hI283) (mu_up 1 bw241 rfl (by decide) (bd_w (l := 10) (h := 16) (bd_add (l := 10) (h := 10) (bd_r c306 (bd_c (v := 9) (lo := 9) (hi := 9) (by decide))) (bd_c (v := 1) (lo := 1) (hi := 1) (by decide)) (by decide)) (by decide)) hm282) E
                        · replace E := xq_en c306 E
                          refine J_iload (i := 4) (j := 2) dX11_pondLine_136 rfl ?_
                          refine J_bipush (v := 12) dX11_pondLine_138 (by decide) ?_
                          refine J_icmp_ne (tgt := 147) dX11_pondLine_140 (by decide) (fun c309 => ?_) (fun c309 => ?_)
                          · replace E := xq_en c309 E
                            refine J_iconst (v := 0) dX11_pondLine_147 (by decide) ?_
                            obtain ⟨u310, e311⟩ : ∃ z, z = ms u242 170 ((((13 : Int32) + ((16 : Int32) * (u 170 0))) + w241).toNatClampNeg) 0 := ⟨_, rfl⟩
                            refine J_iast dX11_pondLine_148 wc_170 (vin (bd_add (l := 16) (h := 156) (bd_add (l := 13) (h := 141) (bd_c (v := 13) (lo := 13) (hi := 13) (by decide)) (bd_mul (l := 0) (h := 128) (bd_c (v := 16) (lo := 16) (hi := 16) (by decide)) (bd_lt_hi (hp5).2.1 (i_nle c63) (bd_c (v := 9) (lo := 9) (hi := 9) (by decide))) (by decide)) (by decide)) (bd_le_lo (bd_lt_hi bw241 (i_nle c284) (bd_c (v := 16) (lo := 16) (hi := 16) (by decide))) c302 (bd_c (v := 3) (lo := 3) (hi := 3) (by decide))) (by decide)) (by decide)) (ws e311 wk_170 rfl) ?_
                            replace E := xq_le e311 E
                            refine J_iinc (i := 4) (j := 2) (v := (w241 + 1)) (lw := [(4, .int (w241 + 1)), (0, .ref 162), (3, .int ((13 : Int32) + ((16 : Int32) * (u 170 0))))]) dX11_pondLine_149 rfl rfl (by decide) rfl ?_
                            refine J_goto (tgt := 91) dX11_pondLine_152 (by decide) ?_
                            refine J_lv [1, 2, 0] rfl ?_
                            exact ih281 (w241 + 1) u310 (bd_w (l := 0) (h := 16) (bd_add (l := 4) (h := 16) (bd_le_lo (bd_lt_hi bw241 (i_nle c284) (bd_c (v := 16) (lo := 16) (hi := 16) (by decide))) c302 (bd_c (v := 3) (lo := 3) (hi := 3) (by decide))) (bd_c (v := 1) (lo := 1) (hi := 1) (by decide)) (by decide)) (by decide)) (fun c k0_ => ((ms_c e311 k0_).trans (fr243 c k0_))) (ab_s e311 ab244 (bd_w (l := (-1)) (h := 999) (bd_c (v := 0) (lo := 0) (hi := 0) (by decide)) (by decide))) (rh_p e311 (bd_lt_hi (hp5).2.1 (i_nle c63) (bd_c (v := 9) (lo := 9) (hi := 9) (by decide))) (bd_w (l := 0) (h := 15) (bd_le_lo (bd_lt_hi bw241 (i_nle c284) (bd_c (v := 16) (lo := 16) (hi := 16) (by decide))) c302 (bd_c (v := 3) (lo := 3) (hi := 3) (by decide))) (by decide)) (bd_w (l := (-1)) (h := 999) (bd_c (v := 0) (lo := 0) (hi := 0) (by decide)) (by decide)) (fun _ => (bd_w (l := (-1)) (h := 8) (bd_c (v := 0) (lo := 0) (hi := 0) (by decide)) (by decide))) rf245) ((ms_i e311 (ixne (bd_add (l := 16) (h := 156) (bd_add (l := 13) (h := 141) (bd_c (v := 13) (lo := 13) (hi := 13) (by decide)) (bd_mul (l := 0) (h := 128) (bd_c (v := 16) (lo := 16) (hi := 16) (by decide)) (bd_lt_hi (hp5).2.1 (i_nle c63) (bd_c (v := 9) (lo := 9) (hi := 9) (by decide))) (by decide)) (by decide)) (bd_le_lo (bd_lt_hi bw241 (i_nle c284) (bd_c (v := 16) (lo := 16) (hi := 16) (by decide))) c302 (bd_c (v := 3) (lo := 3) (hi := 3) (by decide))) (by decide)) (by decide))).trans hI283) (mu_up 1 bw241 rfl (by decide) (bd_w (l := 4) (h := 16) (bd_add (l := 4) (h := 16) (bd_le_lo (bd_lt_hi bw241 (i_nle c284) (bd_c (v := 16) (lo := 16) (hi := 16) (by decide))) c302 (bd_c (v := 3) (lo := 3) (hi := 3) (by decide))) (bd_c (v := 1) (lo := 1) (hi := 1) (by decide)) (by decide)) (by decide)) hm282) E
                          · replace E := xq_ep c309 E
                            refine J_iconst (v := (-1)) dX11_pondLine_143 (by decide) ?_
                            refine J_goto (tgt := 148) dX11_pondLine_144 (by decide) ?_
                            obtain ⟨u312, e313⟩ : ∃ z, z = ms u242 170 ((((13 : Int32) + ((16 : Int32) * (u 170 0))) + w241).toNatClampNeg) (-1) := ⟨_, rfl⟩
                            refine J_iast dX11_pondLine_148 wc_170 (vin (bd_add (l := 25) (h := 153) (bd_add (l := 13) (h := 141) (bd_c (v := 13) (lo := 13) (hi := 13) (by decide)) (bd_mul (l := 0) (h := 128) (bd_c (v := 16) (lo := 16) (hi := 16) (by decide)) (bd_lt_hi (hp5).2.1 (i_nle c63) (bd_c (v := 9) (lo := 9) (hi := 9) (by decide))) (by decide)) (by decide)) (bd_r c309 (bd_c (v := 12) (lo := 12) (hi := 12) (by decide))) (by decide)) (by decide)) (ws e313 wk_170 rfl) ?_
                            replace E := xq_le e313 E
                            refine J_iinc (i := 4) (j := 2) (v := (w241 + 1)) (lw := [(4, .int (w241 + 1)), (0, .ref 162), (3, .int ((13 : Int32) + ((16 : Int32) * (u 170 0))))]) dX11_pondLine_149 rfl rfl (by decide) rfl ?_
                            refine J_goto (tgt := 91) dX11_pondLine_152 (by decide) ?_
                            refine J_lv [1, 2, 0] rfl ?_
                            exact ih281 (w241 + 1) u312 (bd_w (l := 0) (h := 16) (bd_add (l := 13) (h := 13) (bd_r c309 (bd_c (v := 12) (lo := 12) (hi := 12) (by decide))) (bd_c (v := 1) (lo := 1) (hi := 1) (by decide)) (by decide)) (by decide)) (fun c k0_ => ((ms_c e313 k0_).trans (fr243 c k0_))) (ab_s e313 ab244 (bd_w (l := (-1)) (h := 999) (bd_c (v := (-1)) (lo := (-1)) (hi := (-1)) (by decide)) (by decide))) (rh_p e313 (bd_lt_hi (hp5).2.1 (i_nle c63) (bd_c (v := 9) (lo := 9) (hi := 9) (by decide))) (bd_w (l := 0) (h := 15) (bd_r c309 (bd_c (v := 12) (lo := 12) (hi := 12) (by decide))) (by decide)) (bd_w (l := (-1)) (h := 999) (bd_c (v := (-1)) (lo := (-1)) (hi := (-1)) (by decide)) (by decide)) (fun _ => (bd_w (l := (-1)) (h := 8) (bd_c (v := (-1)) (lo := (-1)) (hi := (-1)) (by decide)) (by decide))) rf245) ((ms_i e313 (ixne (bd_add (l := 25) (h := 153) (bd_add (l := 13) (h := 141) (bd_c (v := 13) (lo := 13) (hi := 13) (by decide)) (bd_mul (l := 0) (h := 128) (bd_c (v := 16) (lo := 16) (hi := 16) (by decide)) (bd_lt_hi (hp5).2.1 (i_nle c63) (bd_c (v := 9) (lo := 9) (hi := 9) (by decide))) (by decide)) (by decide)) (bd_r c309 (bd_c (v := 12) (lo := 12) (hi := 12) (by decide))) (by decide)) (by decide))).trans hI283) (mu_up 1 bw241 rfl (by decide) (bd_w (l := 13) (h := 16) (bd_add (l := 13) (h := 13) (bd_r c309 (bd_c (v := 12) (lo := 12) (hi := 12) (by decide))) (bd_c (v := 1) (lo := 1) (hi := 1) (by decide)) (by decide)) (by decide)) hm282) E
                    · replace E := xq_en c302 E
                      refine J_aload_n (i := 0) (j := 0) dX11_pondLine_112 rfl rfl ?_
                      refine J_get (C := RX11) (T := TX11) (Z := 43) (ci := 11) (f := 20) dX11_pondLine_113 inG11 rfl (by decide) k1284 wc_162 rfl ?_
                      refine J_iload (i := 4) (j := 2) dX11_pondLine_116 rfl ?_
                      refine J_iald dX11_pondLine_118 wc_171 (vin (bd_lt_hi (bd_lt_hi bw241 (i_nle c284) (bd_c (v := 16) (lo := 16) (hi := 16) (by decide))) (i_nle c302) (bd_c (v := 3) (lo := 3) (hi := 3) (by decide))) (by decide)) ?_
                      refine J_topi (fun v314 qv314 => ?_)
                      replace E := xq_le qv314 E
                      refine J_goto (tgt := 148) dX11_pondLine_119 (by decide) ?_
                      obtain ⟨u315, e316⟩ : ∃ z, z = ms u242 170 ((((13 : Int32) + ((16 : Int32) * (u 170 0))) + w241).toNatClampNeg) v314 := ⟨_, rfl⟩
                      refine J_iast dX11_pondLine_148 wc_170 (vin (bd_add (l := 13) (h := 143) (bd_add (l := 13) (h := 141) (bd_c (v := 13) (lo := 13) (hi := 13) (by decide)) (bd_mul (l := 0) (h := 128) (bd_c (v := 16) (lo := 16) (hi := 16) (by decide)) (bd_lt_hi (hp5).2.1 (i_nle c63) (bd_c (v := 9) (lo := 9) (hi := 9) (by decide))) (by decide)) (by decide)) (bd_lt_hi (bd_lt_hi bw241 (i_nle c284) (bd_c (v := 16) (lo := 16) (hi := 16) (by decide))) (i_nle c302) (bd_c (v := 3) (lo := 3) (hi := 3) (by decide))) (by decide)) (by decide)) (ws e316 wk_170 rfl) ?_
                      replace E := xq_le e316 E
                      refine J_iinc (i := 4) (j := 2) (v := (w241 + 1)) (lw := [(4, .int (w241 + 1)), (0, .ref 162), (3, .int ((13 : Int32) + ((16 : Int32) * (u 170 0))))]) dX11_pondLine_149 rfl rfl (by decide) rfl ?_
                      refine J_goto (tgt := 91) dX11_pondLine_152 (by decide) ?_
                      refine J_lv [1, 2, 0] rfl ?_
                      exact ih281 (w241 + 1) u315 (bd_w (l := 0) (h := 16) (bd_add (l := 1) (h := 3) (bd_lt_hi (bd_lt_hi bw241 (i_nle c284) (bd_c (v := 16) (lo := 16) (hi := 16) (by decide))) (i_nle c302) (bd_c (v := 3) (lo := 3) (hi := 3) (by decide))) (bd_c (v := 1) (lo := 1) (hi := 1) (by decide)) (by decide)) (by decide)) (fun c k0_ => ((ms_c e316 k0_).trans (fr243 c k0_))) (ab_s e316 ab244 (bd_r qv314 ((ab_c (fr243 171 (Nat.ne_of_beq_eq_false rfl)) (ab_i fc61 (ab_i fc45 (ab_i fc26 (ab_c (fr9 171 (Nat.ne_of_beq_eq_false rfl)) hp4) (bd_w (l := (-1)) (h := 999) h19 (by decide))) (bd_w (l := (-1)) (h := 999) h38 (by decide))) (bd_w (l := (-1)) (h := 999) h54 (by decide)))) w241.toNatClampNeg))) (rh_p e316 (bd_lt_hi (hp5).2.1 (i_nle c63) (bd_c (v := 9) (lo := 9) (hi := 9) (by decide))) (bd_w (l := 0) (h := 15) (bd_lt_hi (bd_lt_hi bw241 (i_nle c284) (bd_c (v := 16) (lo := 16) (hi := 16) (by decide))) (i_nle c302) (bd_c (v := 3) (lo := 3) (hi := 3) (by decide))) (by decide)) (bd_r qv314 ((ab_c (fr243 171 (Nat.ne_of_beq_eq_false rfl)) (ab_i fc61 (ab_i fc45 (ab_i fc26 (ab_c (fr9 171 (Nat.ne_of_beq_eq_false rfl)) hp4) (bd_w (l := (-1)) (h := 999) h19 (by decide))) (bd_w (l := (-1)) (h := 999) h38 (by decide))) (bd_w (l := (-1)) (h := 999) h54 (by decide)))) w241.toNatClampNeg)) (bd_n89 (bd_lt_hi (bd_lt_hi bw241 (i_nle c284) (bd_c (v := 16) (lo := 16) (hi := 16) (by decide))) (i_nle c302) (bd_c (v := 3) (lo := 3) (hi := 3) (by decide))) (by decide)) rf245) ((ms_i e316 (ixne (bd_add (l := 13) (h := 143) (bd_add (l := 13) (h := 141) (bd_c (v := 13) (lo := 13) (hi := 13) (by decide)) (bd_mul (l := 0) (h := 128) (bd_c (v := 16) (lo := 16) (hi := 16) (by decide)) (bd_lt_hi (hp5).2.1 (i_nle c63) (bd_c (v := 9) (lo := 9) (hi := 9) (by decide))) (by decide)) (by decide)) (bd_lt_hi (bd_lt_hi bw241 (i_nle c284) (bd_c (v := 16) (lo := 16) (hi := 16) (by decide))) (i_nle c302) (bd_c (v := 3) (lo := 3) (hi := 3) (by decide))) (by decide)) (by decide))).trans hI283) (mu_up 1 bw241 rfl (by decide) (bd_w (l := 1) (h := 16) (bd_add (l := 1) (h := 3) (bd_lt_hi (bd_lt_hi bw241 (i_nle c284) (bd_c (v := 16) (lo := 16) (hi := 16) (by decide))) (i_nle c302) (bd_c (v := 3) (lo := 3) (hi := 3) (by decide))) (bd_c (v := 1) (lo := 1) (hi := 1) (by decide)) (by decide)) (by decide)) hm282) E
              refine J_lv [2, 1, 0] rfl ?_
              exact lp279 ((16 - (0 : Int32).toInt).toNat + 1) (0 : Int32) u49 (bd_w (l := 0) (h := 16) (bd_c (v := 0) (lo := 0) (hi := 0) (by decide)) (by decide)) (fun c k0_ => rfl) (ab_c ((fr59 170 (Nat.ne_of_beq_eq_false rfl) (Nat.ne_of_beq_eq_false rfl)).trans ((fr43 170 (Nat.ne_of_beq_eq_false rfl) (Nat.ne_of_beq_eq_false rfl)).trans ((fr24 170 (Nat.ne_of_beq_eq_false rfl) (Nat.ne_of_beq_eq_false rfl)).trans (fr9 170 (Nat.ne_of_beq_eq_false rfl))))) (hp5).1) (rh_c ((fr59 170 (Nat.ne_of_beq_eq_false rfl) (Nat.ne_of_beq_eq_false rfl)).trans ((fr43 170 (Nat.ne_of_beq_eq_false rfl) (Nat.ne_of_beq_eq_false rfl)).trans ((fr24 170 (Nat.ne_of_beq_eq_false rfl) (Nat.ne_of_beq_eq_false rfl)).trans (fr9 170 (Nat.ne_of_beq_eq_false rfl))))) hp5) ((congrFun (fr59 170 (Nat.ne_of_beq_eq_false rfl) (Nat.ne_of_beq_eq_false rfl)) 0).trans ((congrFun (fr43 170 (Nat.ne_of_beq_eq_false rfl) (Nat.ne_of_beq_eq_false rfl)) 0).trans ((congrFun (fr24 170 (Nat.ne_of_beq_eq_false rfl) (Nat.ne_of_beq_eq_false rfl)) 0).trans (congrFun (fr9 170 (Nat.ne_of_beq_eq_false rfl)) 0)))) (Nat.lt_succ_self _) E
          · replace E := xq_ef c62 E
            refine J_iconst (v := 0) dX11_pondLine_72 (by decide) ?_
            exact J_zret hq dX11_pondLine_73 rfl rfl wlen (Nat.le_refl _) (Nat.le_refl _) ⟨false, u49, g50, rfl, rfl, h51, h52, h53, (ab_i fc61 (ab_i fc45 (ab_i fc26 (ab_c (fr9 171 (Nat.ne_of_beq_eq_false rfl)) hp4) (bd_w (l := (-1)) (h := 999) h19 (by decide))) (bd_w (l := (-1)) (h := 999) h38 (by decide))) (bd_w (l := (-1)) (h := 999) h54 (by decide))), (rh_c ((fr59 170 (Nat.ne_of_beq_eq_false rfl) (Nat.ne_of_beq_eq_false rfl)).trans ((fr43 170 (Nat.ne_of_beq_eq_false rfl) (Nat.ne_of_beq_eq_false rfl)).trans ((fr24 170 (Nat.ne_of_beq_eq_false rfl) (Nat.ne_of_beq_eq_false rfl)).trans (fr9 170 (Nat.ne_of_beq_eq_false rfl))))) hp5), (fun q => absurd q (by decide)), E, (fun c k_ => ((fr59 c (nin_ne (a := 162) k_ rfl) (nin_ne (a := 171) k_ rfl)).trans ((fr43 c (nin_ne (a := 162) k_ rfl) (nin_ne (a := 171) k_ rfl)).trans ((fr24 c (nin_ne (a := 162) k_ rfl) (nin_ne (a := 171) k_ rfl)).trans (fr9 c (nin_ne (a := 162) k_ rfl)))))), (fun j k8_ k10_ k11_ k12_ k14_ k15_ k16_ k17_ k18_ => ((fc60 j k8_ k10_ k11_ k12_ k14_ k15_ k16_ k17_ k18_).trans ((fc44 j k8_ k10_ k11_ k12_ k14_ k15_ k16_ k17_ k18_).trans ((fc25 j k8_ k10_ k11_ k12_ k14_ k15_ k16_ k17_ k18_).trans (fc10 j k15_ k16_)))))⟩
      refine J_icmp_ge (tgt := 53) dX11_pondLine_41 (by decide) (fun c28 => ?_) (fun c28 => ?_)
      · replace E := xq_ep c28 E
        refine J_bipush (v := 24) dX11_pondLine_53 (by decide) ?_
        refine J_lv [0, 1] rfl ?_
        exact jn30 (24 : Int32) (bd_w (l := 0) (h := 24) (bd_c (v := 24) (lo := 24) (hi := 24) (by decide)) (by decide)) E
      · replace E := xq_en c28 E
        refine J_aload_n (i := 0) (j := 0) dX11_pondLine_44 rfl rfl ?_
        refine J_get (C := RX11) (T := TX11) (Z := 43) (ci := 11) (f := 20) dX11_pondLine_45 inG11 rfl (by decide) k1284 wc_162 rfl ?_
        refine J_iconst (v := 0) dX11_pondLine_48 (by decide) ?_
        refine J_iald dX11_pondLine_49 wc_171 (vin (bd_c (v := 0) (lo := 0) (hi := 0) (by decide)) (by decide)) ?_
        refine J_ci (v := u14 171 0) rfl ?_
        refine J_goto (tgt := 55) dX11_pondLine_50 (by decide) ?_
        refine J_lv [0, 1] rfl ?_
        exact jn30 (u14 171 0) (bd_w (l := 0) (h := 24) (bd_lt_hi h19 (i_nle c28) (bd_c (v := 24) (lo := 24) (hi := 24) (by decide))) (by decide)) E
  refine J_icmp_ne (tgt := 19) dX11_pondLine_10 (by decide) (fun c1 => ?_) (fun c1 => ?_)
  · replace E := xq_en c1 E
    refine J_lv [1, 0] rfl ?_
    exact jn11 u (fun c k0_ => rfl) (fun j k15_ k16_ => rfl) E
  · replace E := xq_ep c1 E
    refine J_aload_n (i := 0) (j := 1) dX11_pondLine_13 rfl rfl ?_
    refine J_iconst (v := 3) dX11_pondLine_14 (by decide) ?_
    refine J_iload_n (i := 1) (j := 2) dX11_pondLine_15 rfl rfl ?_
    refine J_callV (As := [.int 3, .int at0]) (rest := []) dX11_pondLine_16 (c_M_laterX (d := 0) (u := u) (g := g) (ex := ex) (f := 3) (place := at0)  (by decide) ) hq.n k1452 k1454 k43 wc_162 rfl rfl k97 k1455 np_X11_later (Nat.le_trans (by decide) hd) (by decide) (Nat.le_refl _) (Nat.le_refl _) wlen rfl (Nat.le_of_ble_eq_true rfl) (fun r_ h_ p317 => ?_)
    obtain ⟨u318, rfl, rfl, h319, hx320, fr321, fc322⟩ := p317
    replace E := xq_le hx320 E
    refine J_lv [1, 0] rfl ?_
    exact jn11 u318 (fun c k0_ => (fr321 c k0_)) (fun j k15_ k16_ => (fc322 j k15_ k16_)) E
set_option maxRecDepth 100000 in
noncomputable def Fx_M_rainLineX (at0 : Int32) (u : Nat → Nat → Int32) (g : Nat → Nat → Int64) : Bool × (Nat → Nat → Int32) × (Nat → Nat → Int64) := if (u 170 1) = (4 : Int32) then (xq_lt (Fx_M_laterX (3 : Int32) at0 u g) fun u42 => xq_c3 (Fx_M_take0X (0 : Int32) (9 : Int32) u42 g) fun t48 u49 g50 => if t48 = true then (xq_c3 (Fx_M_take1X (0 : Int32) (100 : Int32) u49 g50) fun t64 u65 g66 => if t64 = true then (if (4 : Int32) ≤ (u 170 1) then ((true, u65, g66)) else (default)) else ((false, u65, g66))) else ((false, u49, g50))) else (xq_c3 (Fx_M_take0X (0 : Int32) (9 : Int32) u g) fun t3 u4 g5 => if t3 = true then (xq_c3 (Fx_M_take1X (0 : Int32) (100 : Int32) u4 g5) fun t19 u20 g21 => if t19 = true then (if (4 : Int32) ≤ (u 170 1) then (default) else (xq_lt (ms u20 170 (((5 : Int32) + ((2 : Int32) * (u 170 1))).toNatClampNeg) (u4 171 0)) fun u35 => xq_lt (ms u35 170 ((((5 : Int32) + ((2 : Int32) * (u 170 1))) + 1).toNatClampNeg) (u20 171 1)) fun u37 => xq_lt (ms u37 170 1 ((u 170 1) + 1)) fun u39 => (true, u39, g21))) else ((false, u20, g21))) else ((false, u4, g5)))
set_option maxHeartbeats 4000000 in
set_option maxRecDepth 100000 in
theorem c_M_rainLineX {d : Nat} {u : Nat → Nat → Int32} {g : Nat → Nat → Int64} {ex : List MC} {at0 : Int32} (hd : 4 ≤ d) (hp0 : Bd 0 600 (u 162 8)) (hp1 : Bd 0 600 (u 162 9)) (hp2 : Bd 0 999 (u 162 12)) (hp3 : Bd 0 999 (u 162 17)) (hp4 : AB u 171 (-1) 999) (hp5 : (RH u)) : CT con0 d 0 0 yX11_rainLine cX11_rainLine 3 (some .boolean) [.ref 162, .int at0] (Wd u g ex) (fun r h2 => ∃ (z : Bool) (u2 : Nat → Nat → Int32) (g2 : Nat → Nat → Int64), r = some (.int (bI z)) ∧ h2 = Wd u2 g2 ex ∧ Bd 0 600 (u2 162 8) ∧ Bd 0 999 (u2 162 12) ∧ Bd 0 999 (u2 162 17) ∧ AB u2 171 (-1) 999 ∧ (RH u2) ∧ (z = true → GV (u 162 8) (u2 162 8) (u2 162 11)) ∧ (z, u2, g2) = Fx_M_rainLineX at0 u g ∧ (∀ c, nin c [(162, 162), (170, 171)] = true → u2 c = u c) ∧ (∀ j, j ≠ 8 → j ≠ 10 → j ≠ 11 → j ≠ 12 → j ≠ 14 → j ≠ 15 → j ≠ 16 → j ≠ 17 → j ≠ 18 → u2 162 j = u 162 j)) := by
  refine CT_of (by decide) (Nat.le_of_ble_eq_true rfl) (fun x hq => ?_)
  show J x yX11_rainLine cX11_rainLine 3 (some .boolean) d 0 0 (Wd u g ex).length 0 [(0, .ref 162), (1, .int at0)] [] (Wd u g ex) 0 0
  have E : Fx_M_rainLineX at0 u g = Fx_M_rainLineX at0 u g := rfl
  refine J_aload_n (i := 0) (j := 0) dX11_rainLine_0 rfl rfl ?_
  refine J_get (C := RX11) (T := TX11) (Z := 43) (ci := 11) (f := 19) dX11_rainLine_1 inG11 rfl (by decide) k1283 wc_162 rfl ?_
  refine J_iconst (v := 1) dX11_rainLine_4 (by decide) ?_
  refine J_iald dX11_rainLine_5 wc_170 (vin (bd_c (v := 1) (lo := 1) (hi := 1) (by decide)) (by decide)) ?_
  refine J_ci (v := u 170 1) rfl ?_
  refine J_istore_n (i := 2) (lw := [(2, .int (u 170 1)), (0, .ref 162), (1, .int at0)]) dX11_rainLine_6 rfl (by decide) rfl ?_
  refine J_iload_n (i := 2) (j := 0) dX11_rainLine_7 rfl rfl ?_
  refine J_iconst (v := 4) dX11_rainLine_8 (by decide) ?_
  refine J_icmp_ne (tgt := 18) dX11_rainLine_9 (by decide) (fun c1 => ?_) (fun c1 => ?_)
  · replace E := xq_en c1 E
    refine J_aload_n (i := 0) (j := 1) dX11_rainLine_18 rfl rfl ?_
    refine J_iconst (v := 0) dX11_rainLine_19 (by decide) ?_
    refine J_iconst (v := 0) dX11_rainLine_20 (by decide) ?_
    refine J_bipush (v := 9) dX11_rainLine_21 (by decide) ?_
    refine J_callV (As := [.int 0, .int 0, .int 9]) (rest := []) dX11_rainLine_23 (c_M_take0X (d := 3) (u := u) (g := g) (ex := ex) (low := 0) (high := 9)  (by decide) hp0 hp1 hp2 hp3) hq.n k1456 k1458 k44 wc_162 rfl rfl k97 k1459 np_X11_take (Nat.le_trans (by decide) hd) (by decide) (Nat.le_refl _) (Nat.le_refl _) wlen rfl (Nat.le_of_ble_eq_true rfl) (fun r_ h_ p2 => ?_)
    obtain ⟨t3, u4, g5, rfl, rfl, h6, h7, h8, h9, h10, h11, h12, hx13, fr14, fc15, fc16⟩ := p2
    replace E := xq_e3 hx13 E
    refine J_ifB_eq (tgt := 40) dX11_rainLine_26 (by decide) (fun c17 => ?_) (fun c17 => ?_)
    · replace E := xq_ef c17 E
      refine J_iconst (v := 0) dX11_rainLine_40 (by decide) ?_
      exact J_zret hq dX11_rainLine_41 rfl rfl wlen (Nat.le_refl _) (Nat.le_refl _) ⟨false, u4, g5, rfl, rfl, h6, h7, h8, (ab_i fc16 hp4 (bd_w (l := (-1)) (h := 999) h9 (by decide))), (rh_c (fr14 170 (Nat.ne_of_beq_eq_false rfl) (Nat.ne_of_beq_eq_false rfl)) hp5), (fun q => absurd q (by decide)), E, (fun c k_ => (fr14 c (nin_ne (a := 162) k_ rfl) (nin_ne (a := 171) k_ rfl))), (fun j k8_ k10_ k11_ k12_ k14_ k15_ k16_ k17_ k18_ => (fc15 j k8_ k10_ k11_ k12_ k14_ k15_ k16_ k17_ k18_))⟩
    · replace E := xq_ep c17 E
      refine J_aload_n (i := 0) (j := 1) dX11_rainLine_29 rfl rfl ?_
      refine J_iconst (v := 1) dX11_rainLine_30 (by decide) ?_
      refine J_iconst (v := 0) dX11_rainLine_31 (by decide) ?_
      refine J_bipush (v := 100) dX11_rainLine_32 (by decide) ?_
      refine J_callV (As := [.int 1, .int 0, .int 100]) (rest := []) dX11_rainLine_34 (c_M_take1X (d := 3) (u := u4) (g := g5) (ex := ex) (low := 0) (high := 100)  (by decide) h6 (bd_r (fc15 9 (Nat.ne_of_beq_eq_false rfl) (Nat.ne_of_beq_eq_false rfl) (Nat.ne_of_beq_eq_false rfl) (Nat.ne_of_beq_eq_false rfl) (Nat.ne_of_beq_eq_false rfl) (Nat.ne_of_beq_eq_false rfl) (Nat.ne_of_beq_eq_false rfl) (Nat.ne_of_beq_eq_false rfl) (Nat.ne_of_beq_eq_false rfl)) hp1) h7 h8) hq.n k1456 k1458 k44 wc_162 rfl rfl k97 k1459 np_X11_take (Nat.le_trans (by decide) hd) (by decide) (Nat.le_refl _) (Nat.le_refl _) wlen rfl (Nat.le_of_ble_eq_true rfl) (fun r_ h_ p18 => ?_)
      obtain ⟨t19, u20, g21, rfl, rfl, h22, h23, h24, h25, h26, h27, h28, hx29, fr30, fc31, fc32⟩ := p18
      replace E := xq_e3 hx29 E
      refine J_ifB_ne (tgt := 42) dX11_rainLine_37 (by decide) (fun c33 => ?_) (fun c33 => ?_)
      · replace E := xq_ep c33 E
        refine J_iload_n (i := 2) (j := 0) dX11_rainLine_42 rfl rfl ?_
        refine J_iconst (v := 4) dX11_rainLine_43 (by decide) ?_
        refine J_icmp_ge (tgt := 91) dX11_rainLine_44 (by decide) (fun c34 => ?_) (fun c34 => ?_)
        · exact (bd_no (bd_le_lo (bd_ne_hi (hp5).2.2.1 c1 (by decide)) c34 (bd_c (v := 4) (lo := 4) (hi := 4) (by decide))) (by decide)).elim
        · replace E := xq_en c34 E
          refine J_aload_n (i := 0) (j := 1) dX11_rainLine_47 rfl rfl ?_
          refine J_get (C := RX11) (T := TX11) (Z := 43) (ci := 11) (f := 19) dX11_rainLine_48 inG11 rfl (by decide) k1283 wc_162 rfl ?_
          refine J_iconst (v := 5) dX11_rainLine_51 (by decide) ?_
          refine J_iconst (v := 2) dX11_rainLine_52 (by decide) ?_
          refine J_iload_n (i := 2) (j := 0) dX11_rainLine_53 rfl rfl ?_
          refine J_imul dX11_rainLine_54 ?_
          refine J_iadd dX11_rainLine_55 ?_
          refine J_aload_n (i := 0) (j := 1) dX11_rainLine_56 rfl rfl ?_
          refine J_get (C := RX11) (T := TX11) (Z := 43) (ci := 11) (f := 20) dX11_rainLine_57 inG11 rfl (by decide) k1284 wc_162 rfl ?_
          refine J_iconst (v := 0) dX11_rainLine_60 (by decide) ?_
          refine J_iald dX11_rainLine_61 wc_171 (vin (bd_c (v := 0) (lo := 0) (hi := 0) (by decide)) (by decide)) ?_
          refine J_ci (v := u4 171 0) (fc32 0 (Nat.ne_of_beq_eq_false rfl)) ?_
          obtain ⟨u35, e36⟩ : ∃ z, z = ms u20 170 (((5 : Int32) + ((2 : Int32) * (u 170 1))).toNatClampNeg) (u4 171 0) := ⟨_, rfl⟩
          refine J_iast dX11_rainLine_62 wc_170 (vin (bd_add (l := 5) (h := 11) (bd_c (v := 5) (lo := 5) (hi := 5) (by decide)) (bd_mul (l := 0) (h := 6) (bd_c (v := 2) (lo := 2) (hi := 2) (by decide)) (bd_ne_hi (hp5).2.2.1 c1 (by decide)) (by decide)) (by decide)) (by decide)) (ws e36 wk_170 rfl) ?_
          replace E := xq_le e36 E
          refine J_aload_n (i := 0) (j := 1) dX11_rainLine_63 rfl rfl ?_
          refine J_get (C := RX11) (T := TX11) (Z := 43) (ci := 11) (f := 19) dX11_rainLine_64 inG11 rfl (by decide) k1283 wc_162 rfl ?_
          refine J_iconst (v := 5) dX11_rainLine_67 (by decide) ?_
          refine J_iconst (v := 2) dX11_rainLine_68 (by decide) ?_
          refine J_iload_n (i := 2) (j := 0) dX11_rainLine_69 rfl rfl ?_
          refine J_imul dX11_rainLine_70 ?_
          refine J_iadd dX11_rainLine_71 ?_
          refine J_iconst (v := 1) dX11_rainLine_72 (by decide) ?_
          refine J_iadd dX11_rainLine_73 ?_
          refine J_aload_n (i := 0) (j := 1) dX11_rainLine_74 rfl rfl ?_
          refine J_get (C := RX11) (T := TX11) (Z := 43) (ci := 11) (f := 20) dX11_rainLine_75 inG11 rfl (by decide) k1284 wc_162 rfl ?_
          refine J_iconst (v := 1) dX11_rainLine_78 (by decide) ?_
          refine J_iald dX11_rainLine_79 wc_171 (vin (bd_c (v := 1) (lo := 1) (hi := 1) (by decide)) (by decide)) ?_
          refine J_ci (v := u20 171 1) (congrFun (ms_c e36 (Nat.ne_of_beq_eq_false rfl)) 1) ?_
          obtain ⟨u37, e38⟩ : ∃ z, z = ms u35 170 ((((5 : Int32) + ((2 : Int32) * (u 170 1))) + 1).toNatClampNeg) (u20 171 1) := ⟨_, rfl⟩
          refine J_iast dX11_rainLine_80 wc_170 (vin (bd_add (l := 6) (h := 12) (bd_add (l := 5) (h := 11) (bd_c (v := 5) (lo := 5) (hi := 5) (by decide)) (bd_mul (l := 0) (h := 6) (bd_c (v := 2) (lo := 2) (hi := 2) (by decide)) (bd_ne_hi (hp5).2.2.1 c1 (by decide)) (by decide)) (by decide)) (bd_c (v := 1) (lo := 1) (hi := 1) (by decide)) (by decide)) (by decide)) (ws e38 wk_170 rfl) ?_
          replace E := xq_le e38 E
          refine J_aload_n (i := 0) (j := 1) dX11_rainLine_81 rfl rfl ?_
          refine J_get (C := RX11) (T := TX11) (Z := 43) (ci := 11) (f := 19) dX11_rainLine_82 inG11 rfl (by decide) k1283 wc_162 rfl ?_
          refine J_iconst (v := 1) dX11_rainLine_85 (by decide) ?_
          refine J_dup2_11 dX11_rainLine_86 rfl rfl ?_
          refine J_iald dX11_rainLine_87 wc_170 (vin (bd_c (v := 1) (lo := 1) (hi := 1) (by decide)) (by decide)) ?_
          refine J_ci (v := u 170 1) ((ms_i e38 (ixne (bd_add (l := 6) (h := 12) (bd_add (l := 5) (h := 11) (bd_c (v := 5) (lo := 5) (hi := 5) (by decide)) (bd_mul (l := 0) (h := 6) (bd_c (v := 2) (lo := 2) (hi := 2) (by decide)) (bd_ne_hi (hp5).2.2.1 c1 (by decide)) (by decide)) (by decide)) (bd_c (v := 1) (lo := 1) (hi := 1) (by decide)) (by decide)) (by decide))).trans ((ms_i e36 (ixne (bd_add (l := 5) (h := 11) (bd_c (v := 5) (lo := 5) (hi := 5) (by decide)) (bd_mul (l := 0) (h := 6) (bd_c (v := 2) (lo := 2) (hi := 2) (by decide)) (bd_ne_hi (hp5).2.2.1 c1 (by decide)) (by decide)) (by decide)) (by decide))).trans ((congrFun (fr30 170 (Nat.ne_of_beq_eq_false rfl) (Nat.ne_of_beq_eq_false rfl)) 1).trans (congrFun (fr14 170 (Nat.ne_of_beq_eq_false rfl) (Nat.ne_of_beq_eq_false rfl)) 1)))) ?_
          refine J_iconst (v := 1) dX11_rainLine_88 (by decide) ?_
          refine J_iadd dX11_rainLine_89 ?_
          obtain ⟨u39, e40⟩ : ∃ z, z = ms u37 170 1 ((u 170 1) + 1) := ⟨_, rfl⟩
          refine J_iast dX11_rainLine_90 wc_170 (vin (bd_c (v := 1) (lo := 1) (hi := 1) (by decide)) (by decide)) (ws e40 wk_170 rfl) ?_
          replace E := xq_le e40 E
          refine J_iconst (v := 1) dX11_rainLine_91 (by decide) ?_
          exact J_zret hq dX11_rainLine_92 rfl rfl wlen (Nat.le_refl _) (Nat.le_refl _) ⟨true, u39, g21, rfl, rfl, (bd_r ((congrFun (ms_c e40 (Nat.ne_of_beq_eq_false rfl)) 8).trans ((congrFun (ms_c e38 (Nat.ne_of_beq_eq_false rfl)) 8).trans (congrFun (ms_c e36 (Nat.ne_of_beq_eq_false rfl)) 8))) h22), (bd_r ((congrFun (ms_c e40 (Nat.ne_of_beq_eq_false rfl)) 12).trans ((congrFun (ms_c e38 (Nat.ne_of_beq_eq_false rfl)) 12).trans (congrFun (ms_c e36 (Nat.ne_of_beq_eq_false rfl)) 12))) h23), (bd_r ((congrFun (ms_c e40 (Nat.ne_of_beq_eq_false rfl)) 17).trans ((congrFun (ms_c e38 (Nat.ne_of_beq_eq_false rfl)) 17).trans (congrFun (ms_c e36 (Nat.ne_of_beq_eq_false rfl)) 17))) h24), (ab_c ((ms_c e40 (Nat.ne_of_beq_eq_false rfl)).trans ((ms_c e38 (Nat.ne_of_beq_eq_false rfl)).trans (ms_c e36 (Nat.ne_of_beq_eq_false rfl)))) (ab_i fc32 (ab_i fc16 hp4 (bd_w (l := (-1)) (h := 999) h9 (by decide))) (bd_w (l := (-1)) (h := 999) h25 (by decide)))), (rh_1 e40 (bd_w (l := 0) (h := 4) (bd_add (l := 1) (h := 4) (bd_ne_hi (hp5).2.2.1 c1 (by decide)) (bd_c (v := 1) (lo := 1) (hi := 1) (by decide)) (by decide)) (by decide)) (rh_r e38 (bd_w (l := 5) (h := 12) (bd_add (l := 6) (h := 12) (bd_add (l := 5) (h := 11) (bd_c (v := 5) (lo := 5) (hi := 5) (by decide)) (bd_mul (l := 0) (h := 6) (bd_c (v := 2) (lo := 2) (hi := 2) (by decide)) (bd_ne_hi (hp5).2.2.1 c1 (by decide)) (by decide)) (by decide)) (bd_c (v := 1) (lo := 1) (hi := 1) (by decide)) (by decide)) (by decide)) h25 (rh_r e36 (bd_w (l := 5) (h := 12) (bd_add (l := 5) (h := 11) (bd_c (v := 5) (lo := 5) (hi := 5) (by decide)) (bd_mul (l := 0) (h := 6) (bd_c (v := 2) (lo := 2) (hi := 2) (by decide)) (bd_ne_hi (hp5).2.2.1 c1 (by decide)) (by decide)) (by decide)) (by decide)) h9 (rh_c ((fr30 170 (Nat.ne_of_beq_eq_false rfl) (Nat.ne_of_beq_eq_false rfl)).trans (fr14 170 (Nat.ne_of_beq_eq_false rfl) (Nat.ne_of_beq_eq_false rfl))) hp5)))), (fun _ => (gv_r rfl ((congrFun (ms_c e40 (Nat.ne_of_beq_eq_false rfl)) 8).trans ((congrFun (ms_c e38 (Nat.ne_of_beq_eq_false rfl)) 8).trans (congrFun (ms_c e36 (Nat.ne_of_beq_eq_false rfl)) 8))) ((congrFun (ms_c e40 (Nat.ne_of_beq_eq_false rfl)) 11).trans ((congrFun (ms_c e38 (Nat.ne_of_beq_eq_false rfl)) 11).trans (congrFun (ms_c e36 (Nat.ne_of_beq_eq_false rfl)) 11))) (gv_t (h10 c17) (h26 c33)))), E, (fun c k_ => ((ms_c e40 (nin_ne (a := 170) k_ rfl)).trans ((ms_c e38 (nin_ne (a := 170) k_ rfl)).trans ((ms_c e36 (nin_ne (a := 170) k_ rfl)).trans ((fr30 c (nin_ne (a := 162) k_ rfl) (nin_ne (a := 171) k_ rfl)).trans (fr14 c (nin_ne (a := 162) k_ rfl) (nin_ne (a := 171) k_ rfl))))))), (fun j k8_ k10_ k11_ k12_ k14_ k15_ k16_ k17_ k18_ => ((congrFun (ms_c e40 (Nat.ne_of_beq_eq_false rfl)) j).trans ((congrFun (ms_c e38 (Nat.ne_of_beq_eq_false rfl)) j).trans ((congrFun (ms_c e36 (Nat.ne_of_beq_eq_false rfl)) j).trans ((fc31 j k8_ k10_ k11_ k12_ k14_ k15_ k16_ k17_ k18_).trans (fc15 j k8_ k10_ k11_ k12_ k14_ k15_ k16_ k17_ k18_))))))⟩
      · replace E := xq_ef c33 E
        refine J_iconst (v := 0) dX11_rainLine_40 (by decide) ?_
        exact J_zret hq dX11_rainLine_41 rfl rfl wlen (Nat.le_refl _) (Nat.le_refl _) ⟨false, u20, g21, rfl, rfl, h22, h23, h24, (ab_i fc32 (ab_i fc16 hp4 (bd_w (l := (-1)) (h := 999) h9 (by decide))) (bd_w (l := (-1)) (h := 999) h25 (by decide))), (rh_c ((fr30 170 (Nat.ne_of_beq_eq_false rfl) (Nat.ne_of_beq_eq_false rfl)).trans (fr14 170 (Nat.ne_of_beq_eq_false rfl) (Nat.ne_of_beq_eq_false rfl))) hp5), (fun q => absurd q (by decide)), E, (fun c k_ => ((fr30 c (nin_ne (a := 162) k_ rfl) (nin_ne (a := 171) k_ rfl)).trans (fr14 c (nin_ne (a := 162) k_ rfl) (nin_ne (a := 171) k_ rfl)))), (fun j k8_ k10_ k11_ k12_ k14_ k15_ k16_ k17_ k18_ => ((fc31 j k8_ k10_ k11_ k12_ k14_ k15_ k16_ k17_ k18_).trans (fc15 j k8_ k10_ k11_ k12_ k14_ k15_ k16_ k17_ k18_)))⟩
  · replace E := xq_ep c1 E
    refine J_aload_n (i := 0) (j := 1) dX11_rainLine_12 rfl rfl ?_
    refine J_iconst (v := 3) dX11_rainLine_13 (by decide) ?_
    refine J_iload_n (i := 1) (j := 2) dX11_rainLine_14 rfl rfl ?_
    refine J_callV (As := [.int 3, .int at0]) (rest := []) dX11_rainLine_15 (c_M_laterX (d := 0) (u := u) (g := g) (ex := ex) (f := 3) (place := at0)  (by decide) ) hq.n k1452 k1454 k43 wc_162 rfl rfl k97 k1455 np_X11_later (Nat.le_trans (by decide) hd) (by decide) (Nat.le_refl _) (Nat.le_refl _) wlen rfl (Nat.le_of_ble_eq_true rfl) (fun r_ h_ p41 => ?_)
    obtain ⟨u42, rfl, rfl, h43, hx44, fr45, fc46⟩ := p41
    replace E := xq_le hx44 E
    refine J_aload_n (i := 0) (j := 1) dX11_rainLine_18 rfl rfl ?_
    refine J_iconst (v := 0) dX11_rainLine_19 (by decide) ?_
    refine J_iconst (v := 0) dX11_rainLine_20 (by decide) ?_
    refine J_bipush (v := 9) dX11_rainLine_21 (by decide) ?_
    refine J_callV (As := [.int 0, .int 0, .int 9]) (rest := []) dX11_rainLine_23 (c_M_take0X (d := 3) (u := u42) (g := g) (ex := ex) (low := 0) (high := 9)  (by decide) (bd_r (fc46 8 (Nat.ne_of_beq_eq_false rfl) (Nat.ne_of_beq_eq_false rfl)) hp0) (bd_r (fc46 9 (Nat.ne_of_beq_eq_false rfl) (Nat.ne_of_beq_eq_false rfl)) hp1) (bd_r (fc46 12 (Nat.ne_of_beq_eq_false rfl) (Nat.ne_of_beq_eq_false rfl)) hp2) (bd_r (fc46 17 (Nat.ne_of_beq_eq_false rfl) (Nat.ne_of_beq_eq_false rfl)) hp3)) hq.n k1456 k1458 k44 wc_162 rfl rfl k97 k1459 np_X11_take (Nat.le_trans (by decide) hd) (by decide) (Nat.le_refl _) (Nat.le_refl _) wlen rfl (Nat.le_of_ble_eq_true rfl) (fun r_ h_ p47 => ?_)
    obtain ⟨t48, u49, g50, rfl, rfl, h51, h52, h53, h54, h55, h56, h57, hx58, fr59, fc60, fc61⟩ := p47
    replace E := xq_e3 hx58 E
    refine J_ifB_eq (tgt := 40) dX11_rainLine_26 (by decide) (fun c62 => ?_) (fun c62 => ?_)
    · replace E := xq_ef c62 E
      refine J_iconst (v := 0) dX11_rainLine_40 (by decide) ?_
      exact J_zret hq dX11_rainLine_41 rfl rfl wlen (Nat.le_refl _) (Nat.le_refl _) ⟨false, u49, g50, rfl, rfl, h51, h52, h53, (ab_i fc61 (ab_c (fr45 171 (Nat.ne_of_beq_eq_false rfl)) hp4) (bd_w (l := (-1)) (h := 999) h54 (by decide))), (rh_c ((fr59 170 (Nat.ne_of_beq_eq_false rfl) (Nat.ne_of_beq_eq_false rfl)).trans (fr45 170 (Nat.ne_of_beq_eq_false rfl))) hp5), (fun q => absurd q (by decide)), E, (fun c k_ => ((fr59 c (nin_ne (a := 162) k_ rfl) (nin_ne (a := 171) k_ rfl)).trans (fr45 c (nin_ne (a := 162) k_ rfl)))), (fun j k8_ k10_ k11_ k12_ k14_ k15_ k16_ k17_ k18_ => ((fc60 j k8_ k10_ k11_ k12_ k14_ k15_ k16_ k17_ k18_).trans (fc46 j k15_ k16_)))⟩
    · replace E := xq_ep c62 E
      refine J_aload_n (i := 0) (j := 1) dX11_rainLine_29 rfl rfl ?_
      refine J_iconst (v := 1) dX11_rainLine_30 (by decide) ?_
      refine J_iconst (v := 0) dX11_rainLine_31 (by decide) ?_
      refine J_bipush (v := 100) dX11_rainLine_32 (by decide) ?_
      refine J_callV (As := [.int 1, .int 0, .int 100]) (rest := []) dX11_rainLine_34 (c_M_take1X (d := 3) (u := u49) (g := g50) (ex := ex) (low := 0) (high := 100)  (by decide) h51 (bd_r ((fc60 9 (Nat.ne_of_beq_eq_false rfl) (Nat.ne_of_beq_eq_false rfl) (Nat.ne_of_beq_eq_false rfl) (Nat.ne_of_beq_eq_false rfl) (Nat.ne_of_beq_eq_false rfl) (Nat.ne_of_beq_eq_false rfl) (Nat.ne_of_beq_eq_false rfl) (Nat.ne_of_beq_eq_false rfl) (Nat.ne_of_beq_eq_false rfl)).trans (fc46 9 (Nat.ne_of_beq_eq_false rfl) (Nat.ne_of_beq_eq_false rfl))) hp1) h52 h53) hq.n k1456 k1458 k44 wc_162 rfl rfl k97 k1459 np_X11_take (Nat.le_trans (by decide) hd) (by decide) (Nat.le_refl _) (Nat.le_refl _) wlen rfl (Nat.le_of_ble_eq_true rfl) (fun r_ h_ p63 => ?_)
      obtain ⟨t64, u65, g66, rfl, rfl, h67, h68, h69, h70, h71, h72, h73, hx74, fr75, fc76, fc77⟩ := p63
      replace E := xq_e3 hx74 E
      refine J_ifB_ne (tgt := 42) dX11_rainLine_37 (by decide) (fun c78 => ?_) (fun c78 => ?_)
      · replace E := xq_ep c78 E
        refine J_iload_n (i := 2) (j := 0) dX11_rainLine_42 rfl rfl ?_
        refine J_iconst (v := 4) dX11_rainLine_43 (by decide) ?_
        refine J_icmp_ge (tgt := 91) dX11_rainLine_44 (by decide) (fun c79 => ?_) (fun c79 => ?_)
        · replace E := xq_ep c79 E
          refine J_iconst (v := 1) dX11_rainLine_91 (by decide) ?_
          exact J_zret hq dX11_rainLine_92 rfl rfl wlen (Nat.le_refl _) (Nat.le_refl _) ⟨true, u65, g66, rfl, rfl, h67, h68, h69, (ab_i fc77 (ab_i fc61 (ab_c (fr45 171 (Nat.ne_of_beq_eq_false rfl)) hp4) (bd_w (l := (-1)) (h := 999) h54 (by decide))) (bd_w (l := (-1)) (h := 999) h70 (by decide))), (rh_c ((fr75 170 (Nat.ne_of_beq_eq_false rfl) (Nat.ne_of_beq_eq_false rfl)).trans ((fr59 170 (Nat.ne_of_beq_eq_false rfl) (Nat.ne_of_beq_eq_false rfl)).trans (fr45 170 (Nat.ne_of_beq_eq_false rfl)))) hp5), (fun _ => (gv_r rfl rfl rfl (gv_t (gv_r (fc46 8 (Nat.ne_of_beq_eq_false rfl) (Nat.ne_of_beq_eq_false rfl)).symm rfl rfl (h55 c62)) (h71 c78)))), E, (fun c k_ => ((fr75 c (nin_ne (a := 162) k_ rfl) (nin_ne (a := 171) k_ rfl)).trans ((fr59 c (nin_ne (a := 162) k_ rfl) (nin_ne (a := 171) k_ rfl)).trans (fr45 c (nin_ne (a := 162) k_ rfl))))), (fun j k8_ k10_ k11_ k12_ k14_ k15_ k16_ k17_ k18_ => ((fc76 j k8_ k10_ k11_ k12_ k14_ k15_ k16_ k17_ k18_).trans ((fc60 j k8_ k10_ k11_ k12_ k14_ k15_ k16_ k17_ k18_).trans (fc46 j k15_ k16_))))⟩
        · exact (bd_no (bd_lt_hi (bd_r c1 (bd_c (v := 4) (lo := 4) (hi := 4) (by decide))) (i_nle c79) (bd_c (v := 4) (lo := 4) (hi := 4) (by decide))) (by decide)).elim
      · replace E := xq_ef c78 E
        refine J_iconst (v := 0) dX11_rainLine_40 (by decide) ?_
        exact J_zret hq dX11_rainLine_41 rfl rfl wlen (Nat.le_refl _) (Nat.le_refl _) ⟨false, u65, g66, rfl, rfl, h67, h68, h69, (ab_i fc77 (ab_i fc61 (ab_c (fr45 171 (Nat.ne_of_beq_eq_false rfl)) hp4) (bd_w (l := (-1)) (h := 999) h54 (by decide))) (bd_w (l := (-1)) (h := 999) h70 (by decide))), (rh_c ((fr75 170 (Nat.ne_of_beq_eq_false rfl) (Nat.ne_of_beq_eq_false rfl)).trans ((fr59 170 (Nat.ne_of_beq_eq_false rfl) (Nat.ne_of_beq_eq_false rfl)).trans (fr45 170 (Nat.ne_of_beq_eq_false rfl)))) hp5), (fun q => absurd q (by decide)), E, (fun c k_ => ((fr75 c (nin_ne (a := 162) k_ rfl) (nin_ne (a := 171) k_ rfl)).trans ((fr59 c (nin_ne (a := 162) k_ rfl) (nin_ne (a := 171) k_ rfl)).trans (fr45 c (nin_ne (a := 162) k_ rfl))))), (fun j k8_ k10_ k11_ k12_ k14_ k15_ k16_ k17_ k18_ => ((fc76 j k8_ k10_ k11_ k12_ k14_ k15_ k16_ k17_ k18_).trans ((fc60 j k8_ k10_ k11_ k12_ k14_ k15_ k16_ k17_ k18_).trans (fc46 j k15_ k16_))))⟩
set_option maxRecDepth 100000 in
noncomputable def Fx_M_ofPond1X (to : Int32) (low : Int32) (high : Int32) (second : Int32) (u : Nat → Nat → Int32) (g : Nat → Nat → Int64) : Bool × (Nat → Nat → Int32) × (Nat → Nat → Int64) := xq_c3 (Fx_M_take0X (0 : Int32) ((u 170 0) - 1) u g) fun t2 u3 g4 => if t2 = true then (if to = (8 : Int32) then (xq_c3 (Fx_M_take1X ((u3 171 0) + 1) ((u 170 0) - 1) u3 g4) fun t19 u20 g21 => if t19 = true then (if (u20 162 18) = (0 : Int32) then ((true, u20, g21)) else (xq_lt (ms u20 170 ((((13 : Int32) + ((16 : Int32) * (u3 171 0))) + to).toNatClampNeg) (u20 171 1)) fun u39 => (true, u39, g21))) else ((false, u20, g21))) else (if to = (9 : Int32) then (xq_c3 (Fx_M_take1X ((u3 171 0) + 1) ((u 170 0) - 1) u3 g4) fun t66 u67 g68 => if t66 = true then (if (u67 162 18) = (0 : Int32) then ((true, u67, g68)) else (xq_lt (ms u67 170 ((((13 : Int32) + ((16 : Int32) * (u3 171 0))) + to).toNatClampNeg) (u67 171 1)) fun u86 => (true, u86, g68))) else ((false, u67, g68))) else (xq_c3 (Fx_M_take1X low high u3 g4) fun t43 u44 g45 => if t43 = true then (if (u44 162 18) = (0 : Int32) then ((true, u44, g45)) else (xq_lt (ms u44 170 ((((13 : Int32) + ((16 : Int32) * (u3 171 0))) + to).toNatClampNeg) (u44 171 1)) fun u63 => (true, u63, g45))) else ((false, u44, g45))))) else ((false, u3, g4))
set_option maxHeartbeats 4000000 in
set_option maxRecDepth 100000 in
theorem c_M_ofPond1X {d : Nat} {u : Nat → Nat → Int32} {g : Nat → Nat → Int64} {ex : List MC} {to : Int32} {low : Int32} {high : Int32} {second : Int32} (hd : 4 ≤ d) (hp0 : Bd 0 600 (u 162 8)) (hp1 : Bd 0 600 (u 162 9)) (hp2 : Bd 0 999 (u 162 12)) (hp3 : Bd 0 999 (u 162 17)) (hp4 : AB u 171 (-1) 999) (hp5 : (RH u)) (hp6 : Bd 0 15 to) : CT con0 d 0 0 yX11_ofPond cX11_ofPond 7 (some .boolean) [.ref 162, .int to, .int 1, .int low, .int high, .int second] (Wd u g ex) (fun r h2 => ∃ (z : Bool) (u2 : Nat → Nat → Int32) (g2 : Nat → Nat → Int64), r = some (.int (bI z)) ∧ h2 = Wd u2 g2 ex ∧ Bd 0 600 (u2 162 8) ∧ Bd 0 999 (u2 162 12) ∧ Bd 0 999 (u2 162 17) ∧ AB u2 171 (-1) 999 ∧ (RH u2) ∧ (z = true → GV (u 162 8) (u2 162 8) (u2 162 11)) ∧ (z, u2, g2) = Fx_M_ofPond1X to low high second u g ∧ (∀ c, nin c [(162, 162), (170, 171)] = true → u2 c = u c) ∧ (∀ j, j ≠ 8 → j ≠ 10 → j ≠ 11 → j ≠ 12 → j ≠ 14 → j ≠ 15 → j ≠ 16 → j ≠ 17 → j ≠ 18 → u2 162 j = u 162 j)) := by
  refine CT_of (by decide) (Nat.le_of_ble_eq_true rfl) (fun x hq => ?_)
  show J x yX11_ofPond cX11_ofPond 7 (some .boolean) d 0 0 (Wd u g ex).length 0 [(0, .ref 162), (1, .int to), (2, .int 1), (3, .int low), (4, .int high), (5, .int second)] [] (Wd u g ex) 0 0
  have E : Fx_M_ofPond1X to low high second u g = Fx_M_ofPond1X to low high second u g := rfl
  refine J_aload_n (i := 0) (j := 0) dX11_ofPond_0 rfl rfl ?_
  refine J_iconst (v := 0) dX11_ofPond_1 (by decide) ?_
  refine J_iconst (v := 0) dX11_ofPond_2 (by decide) ?_
  refine J_aload_n (i := 0) (j := 0) dX11_ofPond_3 rfl rfl ?_
  refine J_get (C := RX11) (T := TX11) (Z := 43) (ci := 11) (f := 19) dX11_ofPond_4 inG11 rfl (by decide) k1283 wc_162 rfl ?_
  refine J_iconst (v := 0) dX11_ofPond_7 (by decide) ?_
  refine J_iald dX11_ofPond_8 wc_170 (vin (bd_c (v := 0) (lo := 0) (hi := 0) (by decide)) (by decide)) ?_
  refine J_ci (v := u 170 0) rfl ?_
  refine J_iconst (v := 1) dX11_ofPond_9 (by decide) ?_
  refine J_isub dX11_ofPond_10 ?_
  refine J_callV (As := [.int 0, .int 0, .int ((u 170 0) - 1)]) (rest := []) dX11_ofPond_11 (c_M_take0X (d := 3) (u := u) (g := g) (ex := ex) (low := 0) (high := ((u 170 0) - 1))  (by decide) hp0 hp1 hp2 hp3) hq.n k1456 k1458 k44 wc_162 rfl rfl k97 k1459 np_X11_take (Nat.le_trans (by decide) hd) (by decide) (Nat.le_refl _) (Nat.le_refl _) wlen rfl (Nat.le_of_ble_eq_true rfl) (fun r_ h_ p1 => ?_)
  obtain ⟨t2, u3, g4, rfl, rfl, h5, h6, h7, h8, h9, h10, h11, hx12, fr13, fc14, fc15⟩ := p1
  replace E := xq_e3 hx12 E
  refine J_ifB_ne (tgt := 19) dX11_ofPond_14 (by decide) (fun c16 => ?_) (fun c16 => ?_)
  · replace E := xq_ep c16 E
    refine J_iload_n (i := 1) (j := 1) dX11_ofPond_19 rfl rfl ?_
    refine J_bipush (v := 8) dX11_ofPond_20 (by decide) ?_
    refine J_icmp_eq (tgt := 31) dX11_ofPond_22 (by decide) (fun c17 => ?_) (fun c17 => ?_)
    · replace E := xq_ep c17 E
      refine J_iconst (v := 1) dX11_ofPond_31 (by decide) ?_
      refine J_goto (tgt := 36) dX11_ofPond_32 (by decide) ?_
      refine J_istore (i := 6) (lw := [(6, .int 1), (0, .ref 162), (1, .int to), (2, .int 1), (3, .int low), (4, .int high), (5, .int second)]) dX11_ofPond_36 (by decide) rfl ?_
      refine J_aload_n (i := 0) (j := 1) dX11_ofPond_38 rfl rfl ?_
      refine J_iconst (v := 1) dX11_ofPond_39 (by decide) ?_
      refine J_iload (i := 6) (j := 0) dX11_ofPond_40 rfl ?_
      refine J_if_eq (tgt := 56) dX11_ofPond_42 (by decide) (fun q => absurd q (by decide)) (fun _ => ?_)
      refine J_aload_n (i := 0) (j := 1) dX11_ofPond_45 rfl rfl ?_
      refine J_get (C := RX11) (T := TX11) (Z := 43) (ci := 11) (f := 20) dX11_ofPond_46 inG11 rfl (by decide) k1284 wc_162 rfl ?_
      refine J_iconst (v := 0) dX11_ofPond_49 (by decide) ?_
      refine J_iald dX11_ofPond_50 wc_171 (vin (bd_c (v := 0) (lo := 0) (hi := 0) (by decide)) (by decide)) ?_
      refine J_ci (v := u3 171 0) rfl ?_
      refine J_iconst (v := 1) dX11_ofPond_51 (by decide) ?_
      refine J_iadd dX11_ofPond_52 ?_
      refine J_goto (tgt := 57) dX11_ofPond_53 (by decide) ?_
      refine J_iload (i := 6) (j := 0) dX11_ofPond_57 rfl ?_
      refine J_if_eq (tgt := 73) dX11_ofPond_59 (by decide) (fun q => absurd q (by decide)) (fun _ => ?_)
      refine J_aload_n (i := 0) (j := 1) dX11_ofPond_62 rfl rfl ?_
      refine J_get (C := RX11) (T := TX11) (Z := 43) (ci := 11) (f := 19) dX11_ofPond_63 inG11 rfl (by decide) k1283 wc_162 rfl ?_
      refine J_iconst (v := 0) dX11_ofPond_66 (by decide) ?_
      refine J_iald dX11_ofPond_67 wc_170 (vin (bd_c (v := 0) (lo := 0) (hi := 0) (by decide)) (by decide)) ?_
      refine J_ci (v := u 170 0) (congrFun (fr13 170 (Nat.ne_of_beq_eq_false rfl) (Nat.ne_of_beq_eq_false rfl)) 0) ?_
      refine J_iconst (v := 1) dX11_ofPond_68 (by decide) ?_
      refine J_isub dX11_ofPond_69 ?_
      refine J_goto (tgt := 75) dX11_ofPond_70 (by decide) ?_
      refine J_callV (As := [.int 1, .int ((u3 171 0) + 1), .int ((u 170 0) - 1)]) (rest := []) dX11_ofPond_75 (c_M_take1X (d := 3) (u := u3) (g := g4) (ex := ex) (low := ((u3 171 0) + 1)) (high := ((u 170 0) - 1))  (by decide) h5 (bd_r (fc14 9 (Nat.ne_of_beq_eq_false rfl) (Nat.ne_of_beq_eq_false rfl) (Nat.ne_of_beq_eq_false rfl) (Nat.ne_of_beq_eq_false rfl) (Nat.ne_of_beq_eq_false rfl) (Nat.ne_of_beq_eq_false rfl) (Nat.ne_of_beq_eq_false rfl) (Nat.ne_of_beq_eq_false rfl) (Nat.ne_of_beq_eq_false rfl)) hp1) h6 h7) hq.n k1456 k1458 k44 wc_162 rfl rfl k97 k1459 np_X11_take (Nat.le_trans (by decide) hd) (by decide) (Nat.le_refl _) (Nat.le_refl _) wlen rfl (Nat.le_of_ble_eq_true rfl) (fun r_ h_ p18 => ?_)
      obtain ⟨t19, u20, g21, rfl, rfl, h22, h23, h24, h25, h26, h27, h28, hx29, fr30, fc31, fc32⟩ := p18
      replace E := xq_e3 hx29 E
      refine J_ifB_eq (tgt := 97) dX11_ofPond_78 (by decide) (fun c33 => ?_) (fun c33 => ?_)
      · replace E := xq_ef c33 E
        refine J_iconst (v := 0) dX11_ofPond_97 (by decide) ?_
        exact J_zret hq dX11_ofPond_98 rfl rfl wlen (Nat.le_refl _) (Nat.le_refl _) ⟨false, u20, g21, rfl, rfl, h22, h23, h24, (ab_i fc32 (ab_i fc15 hp4 (bd_w (l := (-1)) (h := 999) h8 (by decide))) (bd_w (l := (-1)) (h := 999) h25 (by decide))), (rh_c ((fr30 170 (Nat.ne_of_beq_eq_false rfl) (Nat.ne_of_beq_eq_false rfl)).trans (fr13 170 (Nat.ne_of_beq_eq_false rfl) (Nat.ne_of_beq_eq_false rfl))) hp5), (fun q => absurd q (by decide)), E, (fun c k_ => ((fr30 c (nin_ne (a := 162) k_ rfl) (nin_ne (a := 171) k_ rfl)).trans (fr13 c (nin_ne (a := 162) k_ rfl) (nin_ne (a := 171) k_ rfl)))), (fun j k8_ k10_ k11_ k12_ k14_ k15_ k16_ k17_ k18_ => ((fc31 j k8_ k10_ k11_ k12_ k14_ k15_ k16_ k17_ k18_).trans (fc14 j k8_ k10_ k11_ k12_ k14_ k15_ k16_ k17_ k18_)))⟩
      · replace E := xq_ep c33 E
        refine J_iload_n (i := 2) (j := 3) dX11_ofPond_81 rfl rfl ?_
        refine J_iconst (v := 2) dX11_ofPond_82 (by decide) ?_
        refine J_icmp_ne (tgt := 99) dX11_ofPond_83 (by decide) (fun _ => ?_) (fun q => absurd q (by decide))
        refine J_aload_n (i := 0) (j := 1) dX11_ofPond_99 rfl rfl ?_
        refine J_get (C := RX11) (T := TX11) (Z := 43) (ci := 11) (f := 18) dX11_ofPond_100 inG11 rfl (by decide) k1282 wc_162 rfl ?_
        refine J_if_eq (tgt := 163) dX11_ofPond_103 (by decide) (fun c34 => ?_) (fun c34 => ?_)
        · replace E := xq_ep c34 E
          refine J_iconst (v := 1) dX11_ofPond_163 (by decide) ?_
          exact J_zret hq dX11_ofPond_164 rfl rfl wlen (Nat.le_refl _) (Nat.le_refl _) ⟨true, u20, g21, rfl, rfl, h22, h23, h24, (ab_i fc32 (ab_i fc15 hp4 (bd_w (l := (-1)) (h := 999) h8 (by decide))) (bd_w (l := (-1)) (h := 999) h25 (by decide))), (rh_c ((fr30 170 (Nat.ne_of_beq_eq_false rfl) (Nat.ne_of_beq_eq_false rfl)).trans (fr13 170 (Nat.ne_of_beq_eq_false rfl) (Nat.ne_of_beq_eq_false rfl))) hp5), (fun _ => (gv_r rfl rfl rfl (gv_t (h9 c16) (h26 c33)))), E, (fun c k_ => ((fr30 c (nin_ne (a := 162) k_ rfl) (nin_ne (a := 171) k_ rfl)).trans (fr13 c (nin_ne (a := 162) k_ rfl) (nin_ne (a := 171) k_ rfl)))), (fun j k8_ k10_ k11_ k12_ k14_ k15_ k16_ k17_ k18_ => ((fc31 j k8_ k10_ k11_ k12_ k14_ k15_ k16_ k17_ k18_).trans (fc14 j k8_ k10_ k11_ k12_ k14_ k15_ k16_ k17_ k18_)))⟩
        · replace E := xq_en c34 E
          have ho35 := Or.resolve_left (h27 c33) c34
          have hg36 : ¬ u3 162 18 = 0 := fun e => Or.elim h28 c34 (fun q => c34 (q.trans e))
          have ho37 := Or.resolve_left (h10 c16) hg36
          have hg38 : ¬ u 162 18 = 0 := fun e => Or.elim h11 hg36 (fun q => hg36 (q.trans e))
          refine J_aload_n (i := 0) (j := 1) dX11_ofPond_106 rfl rfl ?_
          refine J_get (C := RX11) (T := TX11) (Z := 43) (ci := 11) (f := 19) dX11_ofPond_107 inG11 rfl (by decide) k1283 wc_162 rfl ?_
          refine J_bipush (v := 13) dX11_ofPond_110 (by decide) ?_
          refine J_bipush (v := 16) dX11_ofPond_112 (by decide) ?_
          refine J_aload_n (i := 0) (j := 1) dX11_ofPond_114 rfl rfl ?_
          refine J_get (C := RX11) (T := TX11) (Z := 43) (ci := 11) (f := 20) dX11_ofPond_115 inG11 rfl (by decide) k1284 wc_162 rfl ?_
          refine J_iconst (v := 0) dX11_ofPond_118 (by decide) ?_
          refine J_iald dX11_ofPond_119 wc_171 (vin (bd_c (v := 0) (lo := 0) (hi := 0) (by decide)) (by decide)) ?_
          refine J_ci (v := u3 171 0) (fc32 0 (Nat.ne_of_beq_eq_false rfl)) ?_
          refine J_imul dX11_ofPond_120 ?_
          refine J_iadd dX11_ofPond_121 ?_
          refine J_iload_n (i := 1) (j := 2) dX11_ofPond_122 rfl rfl ?_
          refine J_iadd dX11_ofPond_123 ?_
          refine J_aload_n (i := 0) (j := 1) dX11_ofPond_124 rfl rfl ?_
          refine J_get (C := RX11) (T := TX11) (Z := 43) (ci := 11) (f := 20) dX11_ofPond_125 inG11 rfl (by decide) k1284 wc_162 rfl ?_
          refine J_iconst (v := 1) dX11_ofPond_128 (by decide) ?_
          refine J_iald dX11_ofPond_129 wc_171 (vin (bd_c (v := 1) (lo := 1) (hi := 1) (by decide)) (by decide)) ?_
          refine J_ci (v := u20 171 1) rfl ?_
          obtain ⟨u39, e40⟩ : ∃ z, z = ms u20 170 ((((13 : Int32) + ((16 : Int32) * (u3 171 0))) + to).toNatClampNeg) (u20 171 1) := ⟨_, rfl⟩
          refine J_iast dX11_ofPond_130 wc_170 (vin (bd_add (l := 21) (h := 133) (bd_add (l := 13) (h := 125) (bd_c (v := 13) (lo := 13) (hi := 13) (by decide)) (bd_mul (l := 0) (h := 112) (bd_c (v := 16) (lo := 16) (hi := 16) (by decide)) (bd_adc (c := 1) (h := 7) h8 ho35.1 (bd_le_hi h25 ho35.2 (bd_le_lo (bd_sub (l := (-1)) (h := 8) (hp5).2.1 (bd_c (v := 1) (lo := 1) (hi := 1) (by decide)) (by decide)) ho37.2 h8)) (by decide)) (by decide)) (by decide)) (bd_r c17 (bd_c (v := 8) (lo := 8) (hi := 8) (by decide))) (by decide)) (by decide)) (ws e40 wk_170 rfl) ?_
          replace E := xq_le e40 E
          refine J_iload_n (i := 2) (j := 3) dX11_ofPond_131 rfl rfl ?_
          refine J_iconst (v := 2) dX11_ofPond_132 (by decide) ?_
          refine J_icmp_ne (tgt := 163) dX11_ofPond_133 (by decide) (fun _ => ?_) (fun q => absurd q (by decide))
          refine J_iconst (v := 1) dX11_ofPond_163 (by decide) ?_
          exact J_zret hq dX11_ofPond_164 rfl rfl wlen (Nat.le_refl _) (Nat.le_refl _) ⟨true, u39, g21, rfl, rfl, (bd_r (congrFun (ms_c e40 (Nat.ne_of_beq_eq_false rfl)) 8) h22), (bd_r (congrFun (ms_c e40 (Nat.ne_of_beq_eq_false rfl)) 12) h23), (bd_r (congrFun (ms_c e40 (Nat.ne_of_beq_eq_false rfl)) 17) h24), (ab_c (ms_c e40 (Nat.ne_of_beq_eq_false rfl)) (ab_i fc32 (ab_i fc15 hp4 (bd_w (l := (-1)) (h := 999) (bd_adc (c := 1) (h := 7) h8 ho35.1 (bd_le_hi h25 ho35.2 (bd_le_lo (bd_sub (l := (-1)) (h := 8) (hp5).2.1 (bd_c (v := 1) (lo := 1) (hi := 1) (by decide)) (by decide)) ho37.2 h8)) (by decide)) (by decide))) (bd_w (l := (-1)) (h := 999) (bd_le_hi (bd_le_lo h25 ho35.1 (bd_add (l := 1) (h := 9) (bd_le_hi h8 ho37.2 (bd_le_lo (bd_sub (l := (-1)) (h := 8) (hp5).2.1 (bd_c (v := 1) (lo := 1) (hi := 1) (by decide)) (by decide)) ho35.2 h25)) (bd_c (v := 1) (lo := 1) (hi := 1) (by decide)) (by decide))) ho35.2 (bd_le_lo (bd_sub (l := (-1)) (h := 8) (hp5).2.1 (bd_c (v := 1) (lo := 1) (hi := 1) (by decide)) (by decide)) ho37.2 (bd_adc (c := 1) (h := 998) h8 ho35.1 h25 (by decide)))) (by decide)))), (rh_p e40 (bd_w (l := 0) (h := 8) (bd_adc (c := 1) (h := 7) h8 ho35.1 (bd_le_hi h25 ho35.2 (bd_le_lo (bd_sub (l := (-1)) (h := 8) (hp5).2.1 (bd_c (v := 1) (lo := 1) (hi := 1) (by decide)) (by decide)) ho37.2 h8)) (by decide)) (by decide)) (bd_w (l := 0) (h := 15) (bd_r c17 (bd_c (v := 8) (lo := 8) (hi := 8) (by decide))) (by decide)) (bd_w (l := (-1)) (h := 999) (bd_le_hi (bd_le_lo h25 ho35.1 (bd_add (l := 1) (h := 9) (bd_le_hi h8 ho37.2 (bd_le_lo (bd_sub (l := (-1)) (h := 8) (hp5).2.1 (bd_c (v := 1) (lo := 1) (hi := 1) (by decide)) (by decide)) ho35.2 h25)) (bd_c (v := 1) (lo := 1) (hi := 1) (by decide)) (by decide))) ho35.2 (bd_le_lo (bd_sub (l := (-1)) (h := 8) (hp5).2.1 (bd_c (v := 1) (lo := 1) (hi := 1) (by decide)) (by decide)) ho37.2 (bd_adc (c := 1) (h := 998) h8 ho35.1 h25 (by decide)))) (by decide)) (fun _ => (bd_w (l := (-1)) (h := 8) (bd_le_hi (bd_le_lo h25 ho35.1 (bd_add (l := 1) (h := 9) (bd_le_hi h8 ho37.2 (bd_le_lo (bd_sub (l := (-1)) (h := 8) (hp5).2.1 (bd_c (v := 1) (lo := 1) (hi := 1) (by decide)) (by decide)) ho35.2 h25)) (bd_c (v := 1) (lo := 1) (hi := 1) (by decide)) (by decide))) ho35.2 (bd_le_lo (bd_sub (l := (-1)) (h := 8) (hp5).2.1 (bd_c (v := 1) (lo := 1) (hi := 1) (by decide)) (by decide)) ho37.2 (bd_adc (c := 1) (h := 998) h8 ho35.1 h25 (by decide)))) (by decide))) (rh_c ((fr30 170 (Nat.ne_of_beq_eq_false rfl) (Nat.ne_of_beq_eq_false rfl)).trans (fr13 170 (Nat.ne_of_beq_eq_false rfl) (Nat.ne_of_beq_eq_false rfl))) hp5)), (fun _ => (gv_r rfl (congrFun (ms_c e40 (Nat.ne_of_beq_eq_false rfl)) 8) (congrFun (ms_c e40 (Nat.ne_of_beq_eq_false rfl)) 11) (gv_t (h9 c16) (h26 c33)))), E, (fun c k_ => ((ms_c e40 (nin_ne (a := 170) k_ rfl)).trans ((fr30 c (nin_ne (a := 162) k_ rfl) (nin_ne (a := 171) k_ rfl)).trans (fr13 c (nin_ne (a := 162) k_ rfl) (nin_ne (a := 171) k_ rfl))))), (fun j k8_ k10_ k11_ k12_ k14_ k15_ k16_ k17_ k18_ => ((congrFun (ms_c e40 (Nat.ne_of_beq_eq_false rfl)) j).trans ((fc31 j k8_ k10_ k11_ k12_ k14_ k15_ k16_ k17_ k18_).trans (fc14 j k8_ k10_ k11_ k12_ k14_ k15_ k16_ k17_ k18_))))⟩
    · replace E := xq_en c17 E
      refine J_iload_n (i := 1) (j := 1) dX11_ofPond_25 rfl rfl ?_
      refine J_bipush (v := 9) dX11_ofPond_26 (by decide) ?_
      refine J_icmp_ne (tgt := 35) dX11_ofPond_28 (by decide) (fun c41 => ?_) (fun c41 => ?_)
      · replace E := xq_en c41 E
        refine J_iconst (v := 0) dX11_ofPond_35 (by decide) ?_
        refine J_istore (i := 6) (lw := [(6, .int 0), (0, .ref 162), (1, .int to), (2, .int 1), (3, .int low), (4, .int high), (5, .int second)]) dX11_ofPond_36 (by decide) rfl ?_
        refine J_aload_n (i := 0) (j := 1) dX11_ofPond_38 rfl rfl ?_
        refine J_iconst (v := 1) dX11_ofPond_39 (by decide) ?_
        refine J_iload (i := 6) (j := 0) dX11_ofPond_40 rfl ?_
        refine J_if_eq (tgt := 56) dX11_ofPond_42 (by decide) (fun _ => ?_) (fun q => absurd (by decide) q)
        refine J_iload_n (i := 3) (j := 4) dX11_ofPond_56 rfl rfl ?_
        refine J_iload (i := 6) (j := 0) dX11_ofPond_57 rfl ?_
        refine J_if_eq (tgt := 73) dX11_ofPond_59 (by decide) (fun _ => ?_) (fun q => absurd (by decide) q)
        refine J_iload (i := 4) (j := 5) dX11_ofPond_73 rfl ?_
        refine J_callV (As := [.int 1, .int low, .int high]) (rest := []) dX11_ofPond_75 (c_M_take1X (d := 3) (u := u3) (g := g4) (ex := ex) (low := low) (high := high)  (by decide) h5 (bd_r (fc14 9 (Nat.ne_of_beq_eq_false rfl) (Nat.ne_of_beq_eq_false rfl) (Nat.ne_of_beq_eq_false rfl) (Nat.ne_of_beq_eq_false rfl) (Nat.ne_of_beq_eq_false rfl) (Nat.ne_of_beq_eq_false rfl) (Nat.ne_of_beq_eq_false rfl) (Nat.ne_of_beq_eq_false rfl) (Nat.ne_of_beq_eq_false rfl)) hp1) h6 h7) hq.n k1456 k1458 k44 wc_162 rfl rfl k97 k1459 np_X11_take (Nat.le_trans (by decide) hd) (by decide) (Nat.le_refl _) (Nat.le_refl _) wlen rfl (Nat.le_of_ble_eq_true rfl) (fun r_ h_ p42 => ?_)
        obtain ⟨t43, u44, g45, rfl, rfl, h46, h47, h48, h49, h50, h51, h52, hx53, fr54, fc55, fc56⟩ := p42
        replace E := xq_e3 hx53 E
        refine J_ifB_eq (tgt := 97) dX11_ofPond_78 (by decide) (fun c57 => ?_) (fun c57 => ?_)
        · replace E := xq_ef c57 E
          refine J_iconst (v := 0) dX11_ofPond_97 (by decide) ?_
          exact J_zret hq dX11_ofPond_98 rfl rfl wlen (Nat.le_refl _) (Nat.le_refl _) ⟨false, u44, g45, rfl, rfl, h46, h47, h48, (ab_i fc56 (ab_i fc15 hp4 (bd_w (l := (-1)) (h := 999) h8 (by decide))) (bd_w (l := (-1)) (h := 999) h49 (by decide))), (rh_c ((fr54 170 (Nat.ne_of_beq_eq_false rfl) (Nat.ne_of_beq_eq_false rfl)).trans (fr13 170 (Nat.ne_of_beq_eq_false rfl) (Nat.ne_of_beq_eq_false rfl))) hp5), (fun q => absurd q (by decide)), E, (fun c k_ => ((fr54 c (nin_ne (a := 162) k_ rfl) (nin_ne (a := 171) k_ rfl)).trans (fr13 c (nin_ne (a := 162) k_ rfl) (nin_ne (a := 171) k_ rfl)))), (fun j k8_ k10_ k11_ k12_ k14_ k15_ k16_ k17_ k18_ => ((fc55 j k8_ k10_ k11_ k12_ k14_ k15_ k16_ k17_ k18_).trans (fc14 j k8_ k10_ k11_ k12_ k14_ k15_ k16_ k17_ k18_)))⟩
        · replace E := xq_ep c57 E
          refine J_iload_n (i := 2) (j := 3) dX11_ofPond_81 rfl rfl ?_
          refine J_iconst (v := 2) dX11_ofPond_82 (by decide) ?_
          refine J_icmp_ne (tgt := 99) dX11_ofPond_83 (by decide) (fun _ => ?_) (fun q => absurd q (by decide))
          refine J_aload_n (i := 0) (j := 1) dX11_ofPond_99 rfl rfl ?_
          refine J_get (C := RX11) (T := TX11) (Z := 43) (ci := 11) (f := 18) dX11_ofPond_100 inG11 rfl (by decide) k1282 wc_162 rfl ?_
          refine J_if_eq (tgt := 163) dX11_ofPond_103 (by decide) (fun c58 => ?_) (fun c58 => ?_)
          · replace E := xq_ep c58 E
            refine J_iconst (v := 1) dX11_ofPond_163 (by decide) ?_
            exact J_zret hq dX11_ofPond_164 rfl rfl wlen (Nat.le_refl _) (Nat.le_refl _) ⟨true, u44, g45, rfl, rfl, h46, h47, h48, (ab_i fc56 (ab_i fc15 hp4 (bd_w (l := (-1)) (h := 999) h8 (by decide))) (bd_w (l := (-1)) (h := 999) h49 (by decide))), (rh_c ((fr54 170 (Nat.ne_of_beq_eq_false rfl) (Nat.ne_of_beq_eq_false rfl)).trans (fr13 170 (Nat.ne_of_beq_eq_false rfl) (Nat.ne_of_beq_eq_false rfl))) hp5), (fun _ => (gv_r rfl rfl rfl (gv_t (h9 c16) (h50 c57)))), E, (fun c k_ => ((fr54 c (nin_ne (a := 162) k_ rfl) (nin_ne (a := 171) k_ rfl)).trans (fr13 c (nin_ne (a := 162) k_ rfl) (nin_ne (a := 171) k_ rfl)))), (fun j k8_ k10_ k11_ k12_ k14_ k15_ k16_ k17_ k18_ => ((fc55 j k8_ k10_ k11_ k12_ k14_ k15_ k16_ k17_ k18_).trans (fc14 j k8_ k10_ k11_ k12_ k14_ k15_ k16_ k17_ k18_)))⟩
          · replace E := xq_en c58 E
            have ho59 := Or.resolve_left (h51 c57) c58
            have hg60 : ¬ u3 162 18 = 0 := fun e => Or.elim h52 c58 (fun q => c58 (q.trans e))
            have ho61 := Or.resolve_left (h10 c16) hg60
            have hg62 : ¬ u 162 18 = 0 := fun e => Or.elim h11 hg60 (fun q => hg60 (q.trans e))
            refine J_aload_n (i := 0) (j := 1) dX11_ofPond_106 rfl rfl ?_
            refine J_get (C := RX11) (T := TX11) (Z := 43) (ci := 11) (f := 19) dX11_ofPond_107 inG11 rfl (by decide) k1283 wc_162 rfl ?_
            refine J_bipush (v := 13) dX11_ofPond_110 (by decide) ?_
            refine J_bipush (v := 16) dX11_ofPond_112 (by decide) ?_
            refine J_aload_n (i := 0) (j := 1) dX11_ofPond_114 rfl rfl ?_
            refine J_get (C := RX11) (T := TX11) (Z := 43) (ci := 11) (f := 20) dX11_ofPond_115 inG11 rfl (by decide) k1284 wc_162 rfl ?_
            refine J_iconst (v := 0) dX11_ofPond_118 (by decide) ?_
            refine J_iald dX11_ofPond_119 wc_171 (vin (bd_c (v := 0) (lo := 0) (hi := 0) (by decide)) (by decide)) ?_
            refine J_ci (v := u3 171 0) (fc56 0 (Nat.ne_of_beq_eq_false rfl)) ?_
            refine J_imul dX11_ofPond_120 ?_
            refine J_iadd dX11_ofPond_121 ?_
            refine J_iload_n (i := 1) (j := 2) dX11_ofPond_122 rfl rfl ?_
            refine J_iadd dX11_ofPond_123 ?_
            refine J_aload_n (i := 0) (j := 1) dX11_ofPond_124 rfl rfl ?_
            refine J_get (C := RX11) (T := TX11) (Z := 43) (ci := 11) (f := 20) dX11_ofPond_125 inG11 rfl (by decide) k1284 wc_162 rfl ?_
            refine J_iconst (v := 1) dX11_ofPond_128 (by decide) ?_
            refine J_iald dX11_ofPond_129 wc_171 (vin (bd_c (v := 1) (lo := 1) (hi := 1) (by decide)) (by decide)) ?_
            refine J_ci (v := u44 171 1) rfl ?_
            obtain ⟨u63, e64⟩ : ∃ z, z = ms u44 170 ((((13 : Int32) + ((16 : Int32) * (u3 171 0))) + to).toNatClampNeg) (u44 171 1) := ⟨_, rfl⟩
            refine J_iast dX11_ofPond_130 wc_170 (vin (bd_add (l := 13) (h := 156) (bd_add (l := 13) (h := 141) (bd_c (v := 13) (lo := 13) (hi := 13) (by decide)) (bd_mul (l := 0) (h := 128) (bd_c (v := 16) (lo := 16) (hi := 16) (by decide)) (bd_le_hi h8 ho61.2 (bd_sub (l := (-1)) (h := 8) (hp5).2.1 (bd_c (v := 1) (lo := 1) (hi := 1) (by decide)) (by decide))) (by decide)) (by decide)) hp6 (by decide)) (by decide)) (ws e64 wk_170 rfl) ?_
            replace E := xq_le e64 E
            refine J_iload_n (i := 2) (j := 3) dX11_ofPond_131 rfl rfl ?_
            refine J_iconst (v := 2) dX11_ofPond_132 (by decide) ?_
            refine J_icmp_ne (tgt := 163) dX11_ofPond_133 (by decide) (fun _ => ?_) (fun q => absurd q (by decide))
            refine J_iconst (v := 1) dX11_ofPond_163 (by decide) ?_
            exact J_zret hq dX11_ofPond_164 rfl rfl wlen (Nat.le_refl _) (Nat.le_refl _) ⟨true, u63, g45, rfl, rfl, (bd_r (congrFun (ms_c e64 (Nat.ne_of_beq_eq_false rfl)) 8) h46), (bd_r (congrFun (ms_c e64 (Nat.ne_of_beq_eq_false rfl)) 12) h47), (bd_r (congrFun (ms_c e64 (Nat.ne_of_beq_eq_false rfl)) 17) h48), (ab_c (ms_c e64 (Nat.ne_of_beq_eq_false rfl)) (ab_i fc56 (ab_i fc15 hp4 (bd_w (l := (-1)) (h := 999) (bd_le_hi h8 ho61.2 (bd_sub (l := (-1)) (h := 8) (hp5).2.1 (bd_c (v := 1) (lo := 1) (hi := 1) (by decide)) (by decide))) (by decide))) (bd_w (l := (-1)) (h := 999) h49 (by decide)))), (rh_p e64 (bd_le_hi h8 ho61.2 (bd_sub (l := (-1)) (h := 8) (hp5).2.1 (bd_c (v := 1) (lo := 1) (hi := 1) (by decide)) (by decide))) hp6 (bd_w (l := (-1)) (h := 999) h49 (by decide)) (ne_n89 c17 c41) (rh_c ((fr54 170 (Nat.ne_of_beq_eq_false rfl) (Nat.ne_of_beq_eq_false rfl)).trans (fr13 170 (Nat.ne_of_beq_eq_false rfl) (Nat.ne_of_beq_eq_false rfl))) hp5)), (fun _ => (gv_r rfl (congrFun (ms_c e64 (Nat.ne_of_beq_eq_false rfl)) 8) (congrFun (ms_c e64 (Nat.ne_of_beq_eq_false rfl)) 11) (gv_t (h9 c16) (h50 c57)))), E, (fun c k_ => ((ms_c e64 (nin_ne (a := 170) k_ rfl)).trans ((fr54 c (nin_ne (a := 162) k_ rfl) (nin_ne (a := 171) k_ rfl)).trans (fr13 c (nin_ne (a := 162) k_ rfl) (nin_ne (a := 171) k_ rfl))))), (fun j k8_ k10_ k11_ k12_ k14_ k15_ k16_ k17_ k18_ => ((congrFun (ms_c e64 (Nat.ne_of_beq_eq_false rfl)) j).trans ((fc55 j k8_ k10_ k11_ k12_ k14_ k15_ k16_ k17_ k18_).trans (fc14 j k8_ k10_ k11_ k12_ k14_ k15_ k16_ k17_ k18_))))⟩
      · replace E := xq_ep c41 E
        refine J_iconst (v := 1) dX11_ofPond_31 (by decide) ?_
        refine J_goto (tgt := 36) dX11_ofPond_32 (by decide) ?_
        refine J_istore (i := 6) (lw := [(6, .int 1), (0, .ref 162), (1, .int to), (2, .int 1), (3, .int low), (4, .int high), (5, .int second)]) dX11_ofPond_36 (by decide) rfl ?_
        refine J_aload_n (i := 0) (j := 1) dX11_ofPond_38 rfl rfl ?_
        refine J_iconst (v := 1) dX11_ofPond_39 (by decide) ?_
        refine J_iload (i := 6) (j := 0) dX11_ofPond_40 rfl ?_
        refine J_if_eq (tgt := 56) dX11_ofPond_42 (by decide) (fun q => absurd q (by decide)) (fun _ => ?_)
        refine J_aload_n (i := 0) (j := 1) dX11_ofPond_45 rfl rfl ?_
        refine J_get (C := RX11) (T := TX11) (Z := 43) (ci := 11) (f := 20) dX11_ofPond_46 inG11 rfl (by decide) k1284 wc_162 rfl ?_
        refine J_iconst (v := 0) dX11_ofPond_49 (by decide) ?_
        refine J_iald dX11_ofPond_50 wc_171 (vin (bd_c (v := 0) (lo := 0) (hi := 0) (by decide)) (by decide)) ?_
        refine J_ci (v := u3 171 0) rfl ?_
        refine J_iconst (v := 1) dX11_ofPond_51 (by decide) ?_
        refine J_iadd dX11_ofPond_52 ?_
        refine J_goto (tgt := 57) dX11_ofPond_53 (by decide) ?_
        refine J_iload (i := 6) (j := 0) dX11_ofPond_57 rfl ?_
        refine J_if_eq (tgt := 73) dX11_ofPond_59 (by decide) (fun q => absurd q (by decide)) (fun _ => ?_)
        refine J_aload_n (i := 0) (j := 1) dX11_ofPond_62 rfl rfl ?_
        refine J_get (C := RX11) (T := TX11) (Z := 43) (ci := 11) (f := 19) dX11_ofPond_63 inG11 rfl (by decide) k1283 wc_162 rfl ?_
        refine J_iconst (v := 0) dX11_ofPond_66 (by decide) ?_
        refine J_iald dX11_ofPond_67 wc_170 (vin (bd_c (v := 0) (lo := 0) (hi := 0) (by decide)) (by decide)) ?_
        refine J_ci (v := u 170 0) (congrFun (fr13 170 (Nat.ne_of_beq_eq_false rfl) (Nat.ne_of_beq_eq_false rfl)) 0) ?_
        refine J_iconst (v := 1) dX11_ofPond_68 (by decide) ?_
        refine J_isub dX11_ofPond_69 ?_
        refine J_goto (tgt := 75) dX11_ofPond_70 (by decide) ?_
        refine J_callV (As := [.int 1, .int ((u3 171 0) + 1), .int ((u 170 0) - 1)]) (rest := []) dX11_ofPond_75 (c_M_take1X (d := 3) (u := u3) (g := g4) (ex := ex) (low := ((u3 171 0) + 1)) (high := ((u 170 0) - 1))  (by decide) h5 (bd_r (fc14 9 (Nat.ne_of_beq_eq_false rfl) (Nat.ne_of_beq_eq_false rfl) (Nat.ne_of_beq_eq_false rfl) (Nat.ne_of_beq_eq_false rfl) (Nat.ne_of_beq_eq_false rfl) (Nat.ne_of_beq_eq_false rfl) (Nat.ne_of_beq_eq_false rfl) (Nat.ne_of_beq_eq_false rfl) (Nat.ne_of_beq_eq_false rfl)) hp1) h6 h7) hq.n k1456 k1458 k44 wc_162 rfl rfl k97 k1459 np_X11_take (Nat.le_trans (by decide) hd) (by decide) (Nat.le_refl _) (Nat.le_refl _) wlen rfl (Nat.le_of_ble_eq_true rfl) (fun r_ h_ p65 => ?_)
        obtain ⟨t66, u67, g68, rfl, rfl, h69, h70, h71, h72, h73, h74, h75, hx76, fr77, fc78, fc79⟩ := p65
        replace E := xq_e3 hx76 E
        refine J_ifB_eq (tgt := 97) dX11_ofPond_78 (by decide) (fun c80 => ?_) (fun c80 => ?_)
        · replace E := xq_ef c80 E
          refine J_iconst (v := 0) dX11_ofPond_97 (by decide) ?_
          exact J_zret hq dX11_ofPond_98 rfl rfl wlen (Nat.le_refl _) (Nat.le_refl _) ⟨false, u67, g68, rfl, rfl, h69, h70, h71, (ab_i fc79 (ab_i fc15 hp4 (bd_w (l := (-1)) (h := 999) h8 (by decide))) (bd_w (l := (-1)) (h := 999) h72 (by decide))), (rh_c ((fr77 170 (Nat.ne_of_beq_eq_false rfl) (Nat.ne_of_beq_eq_false rfl)).trans (fr13 170 (Nat.ne_of_beq_eq_false rfl) (Nat.ne_of_beq_eq_false rfl))) hp5), (fun q => absurd q (by decide)), E, (fun c k_ => ((fr77 c (nin_ne (a := 162) k_ rfl) (nin_ne (a := 171) k_ rfl)).trans (fr13 c (nin_ne (a := 162) k_ rfl) (nin_ne (a := 171) k_ rfl)))), (fun j k8_ k10_ k11_ k12_ k14_ k15_ k16_ k17_ k18_ => ((fc78 j k8_ k10_ k11_ k12_ k14_ k15_ k16_ k17_ k18_).trans (fc14 j k8_ k10_ k11_ k12_ k14_ k15_ k16_ k17_ k18_)))⟩
        · replace E := xq_ep c80 E
          refine J_iload_n (i := 2) (j := 3) dX11_ofPond_81 rfl rfl ?_
          refine J_iconst (v := 2) dX11_ofPond_82 (by decide) ?_
          refine J_icmp_ne (tgt := 99) dX11_ofPond_83 (by decide) (fun _ => ?_) (fun q => absurd q (by decide))
          refine J_aload_n (i := 0) (j := 1) dX11_ofPond_99 rfl rfl ?_
          refine J_get (C := RX11) (T := TX11) (Z := 43) (ci := 11) (f := 18) dX11_ofPond_100 inG11 rfl (by decide) k1282 wc_162 rfl ?_
          refine J_if_eq (tgt := 163) dX11_ofPond_103 (by decide) (fun c81 => ?_) (fun c81 => ?_)
          · replace E := xq_ep c81 E
            refine J_iconst (v := 1) dX11_ofPond_163 (by decide) ?_
            exact J_zret hq dX11_ofPond_164 rfl rfl wlen (Nat.le_refl _) (Nat.le_refl _) ⟨true, u67, g68, rfl, rfl, h69, h70, h71, (ab_i fc79 (ab_i fc15 hp4 (bd_w (l := (-1)) (h := 999) h8 (by decide))) (bd_w (l := (-1)) (h := 999) h72 (by decide))), (rh_c ((fr77 170 (Nat.ne_of_beq_eq_false rfl) (Nat.ne_of_beq_eq_false rfl)).trans (fr13 170 (Nat.ne_of_beq_eq_false rfl) (Nat.ne_of_beq_eq_false rfl))) hp5), (fun _ => (gv_r rfl rfl rfl (gv_t (h9 c16) (h73 c80)))), E, (fun c k_ => ((fr77 c (nin_ne (a := 162) k_ rfl) (nin_ne (a := 171) k_ rfl)).trans (fr13 c (nin_ne (a := 162) k_ rfl) (nin_ne (a := 171) k_ rfl)))), (fun j k8_ k10_ k11_ k12_ k14_ k15_ k16_ k17_ k18_ => ((fc78 j k8_ k10_ k11_ k12_ k14_ k15_ k16_ k17_ k18_).trans (fc14 j k8_ k10_ k11_ k12_ k14_ k15_ k16_ k17_ k18_)))⟩
          · replace E := xq_en c81 E
            have ho82 := Or.resolve_left (h74 c80) c81
            have hg83 : ¬ u3 162 18 = 0 := fun e => Or.elim h75 c81 (fun q => c81 (q.trans e))
            have ho84 := Or.resolve_left (h10 c16) hg83
            have hg85 : ¬ u 162 18 = 0 := fun e => Or.elim h11 hg83 (fun q => hg83 (q.trans e))
            refine J_aload_n (i := 0) (j := 1) dX11_ofPond_106 rfl rfl ?_
            refine J_get (C := RX11) (T := TX11) (Z := 43) (ci := 11) (f := 19) dX11_ofPond_107 inG11 rfl (by decide) k1283 wc_162 rfl ?_
            refine J_bipush (v := 13) dX11_ofPond_110 (by decide) ?_
            refine J_bipush (v := 16) dX11_ofPond_112 (by decide) ?_
            refine J_aload_n (i := 0) (j := 1) dX11_ofPond_114 rfl rfl ?_
            refine J_get (C := RX11) (T := TX11) (Z := 43) (ci := 11) (f := 20) dX11_ofPond_115 inG11 rfl (by decide) k1284 wc_162 rfl ?_
            refine J_iconst (v := 0) dX11_ofPond_118 (by decide) ?_
            refine J_iald dX11_ofPond_119 wc_171 (vin (bd_c (v := 0) (lo := 0) (hi := 0) (by decide)) (by decide)) ?_
            refine J_ci (v := u3 171 0) (fc79 0 (Nat.ne_of_beq_eq_false rfl)) ?_
            refine J_imul dX11_ofPond_120 ?_
            refine J_iadd dX11_ofPond_121 ?_
            refine J_iload_n (i := 1) (j := 2) dX11_ofPond_122 rfl rfl ?_
            refine J_iadd dX11_ofPond_123 ?_
            refine J_aload_n (i := 0) (j := 1) dX11_ofPond_124 rfl rfl ?_
            refine J_get (C := RX11) (T := TX11) (Z := 43) (ci := 11) (f := 20) dX11_ofPond_125 inG11 rfl (by decide) k1284 wc_162 rfl ?_
            refine J_iconst (v := 1) dX11_ofPond_128 (by decide) ?_
            refine J_iald dX11_ofPond_129 wc_171 (vin (bd_c (v := 1) (lo := 1) (hi := 1) (by decide)) (by decide)) ?_
            refine J_ci (v := u67 171 1) rfl ?_
            obtain ⟨u86, e87⟩ : ∃ z, z = ms u67 170 ((((13 : Int32) + ((16 : Int32) * (u3 171 0))) + to).toNatClampNeg) (u67 171 1) := ⟨_, rfl⟩
            refine J_iast dX11_ofPond_130 wc_170 (vin (bd_add (l := 22) (h := 134) (bd_add (l := 13) (h := 125) (bd_c (v := 13) (lo := 13) (hi := 13) (by decide)) (bd_mul (l := 0) (h := 112) (bd_c (v := 16) (lo := 16) (hi := 16) (by decide)) (bd_adc (c := 1) (h := 7) h8 ho82.1 (bd_le_hi h72 ho82.2 (bd_le_lo (bd_sub (l := (-1)) (h := 8) (hp5).2.1 (bd_c (v := 1) (lo := 1) (hi := 1) (by decide)) (by decide)) ho84.2 h8)) (by decide)) (by decide)) (by decide)) (bd_r c41 (bd_c (v := 9) (lo := 9) (hi := 9) (by decide))) (by decide)) (by decide)) (ws e87 wk_170 rfl) ?_
            replace E := xq_le e87 E
            refine J_iload_n (i := 2) (j := 3) dX11_ofPond_131 rfl rfl ?_
            refine J_iconst (v := 2) dX11_ofPond_132 (by decide) ?_
            refine J_icmp_ne (tgt := 163) dX11_ofPond_133 (by decide) (fun _ => ?_) (fun q => absurd q (by decide))
            refine J_iconst (v := 1) dX11_ofPond_163 (by decide) ?_
            exact J_zret hq dX11_ofPond_164 rfl rfl wlen (Nat.le_refl _) (Nat.le_refl _) ⟨true, u86, g68, rfl, rfl, (bd_r (congrFun (ms_c e87 (Nat.ne_of_beq_eq_false rfl)) 8) h69), (bd_r (congrFun (ms_c e87 (Nat.ne_of_beq_eq_false rfl)) 12) h70), (bd_r (congrFun (ms_c e87 (Nat.ne_of_beq_eq_false rfl)) 17) h71), (ab_c (ms_c e87 (Nat.ne_of_beq_eq_false rfl)) (ab_i fc79 (ab_i fc15 hp4 (bd_w (l := (-1)) (h := 999) (bd_adc (c := 1) (h := 7) h8 ho82.1 (bd_le_hi h72 ho82.2 (bd_le_lo (bd_sub (l := (-1)) (h := 8) (hp5).2.1 (bd_c (v := 1) (lo := 1) (hi := 1) (by decide)) (by decide)) ho84.2 h8)) (by decide)) (by decide))) (bd_w (l := (-1)) (h := 999) (bd_le_hi (bd_le_lo h72 ho82.1 (bd_add (l := 1) (h := 9) (bd_le_hi h8 ho84.2 (bd_le_lo (bd_sub (l := (-1)) (h := 8) (hp5).2.1 (bd_c (v := 1) (lo := 1) (hi := 1) (by decide)) (by decide)) ho82.2 h72)) (bd_c (v := 1) (lo := 1) (hi := 1) (by decide)) (by decide))) ho82.2 (bd_le_lo (bd_sub (l := (-1)) (h := 8) (hp5).2.1 (bd_c (v := 1) (lo := 1) (hi := 1) (by decide)) (by decide)) ho84.2 (bd_adc (c := 1) (h := 998) h8 ho82.1 h72 (by decide)))) (by decide)))), (rh_p e87 (bd_w (l := 0) (h := 8) (bd_adc (c := 1) (h := 7) h8 ho82.1 (bd_le_hi h72 ho82.2 (bd_le_lo (bd_sub (l := (-1)) (h := 8) (hp5).2.1 (bd_c (v := 1) (lo := 1) (hi := 1) (by decide)) (by decide)) ho84.2 h8)) (by decide)) (by decide)) (bd_w (l := 0) (h := 15) (bd_r c41 (bd_c (v := 9) (lo := 9) (hi := 9) (by decide))) (by decide)) (bd_w (l := (-1)) (h := 999) (bd_le_hi (bd_le_lo h72 ho82.1 (bd_add (l := 1) (h := 9) (bd_le_hi h8 ho84.2 (bd_le_lo (bd_sub (l := (-1)) (h := 8) (hp5).2.1 (bd_c (v := 1) (lo := 1) (hi := 1) (by decide)) (by decide)) ho82.2 h72)) (bd_c (v := 1) (lo := 1) (hi := 1) (by decide)) (by decide))) ho82.2 (bd_le_lo (bd_sub (l := (-1)) (h := 8) (hp5).2.1 (bd_c (v := 1) (lo := 1) (hi := 1) (by decide)) (by decide)) ho84.2 (bd_adc (c := 1) (h := 998) h8 ho82.1 h72 (by decide)))) (by decide)) (fun _ => (bd_w (l := (-1)) (h := 8) (bd_le_hi (bd_le_lo h72 ho82.1 (bd_add (l := 1) (h := 9) (bd_le_hi h8 ho84.2 (bd_le_lo (bd_sub (l := (-1)) (h := 8) (hp5).2.1 (bd_c (v := 1) (lo := 1) (hi := 1) (by decide)) (by decide)) ho82.2 h72)) (bd_c (v := 1) (lo := 1) (hi := 1) (by decide)) (by decide))) ho82.2 (bd_le_lo (bd_sub (l := (-1)) (h := 8) (hp5).2.1 (bd_c (v := 1) (lo := 1) (hi := 1) (by decide)) (by decide)) ho84.2 (bd_adc (c := 1) (h := 998) h8 ho82.1 h72 (by decide)))) (by decide))) (rh_c ((fr77 170 (Nat.ne_of_beq_eq_false rfl) (Nat.ne_of_beq_eq_false rfl)).trans (fr13 170 (Nat.ne_of_beq_eq_false rfl) (Nat.ne_of_beq_eq_false rfl))) hp5)), (fun _ => (gv_r rfl (congrFun (ms_c e87 (Nat.ne_of_beq_eq_false rfl)) 8) (congrFun (ms_c e87 (Nat.ne_of_beq_eq_false rfl)) 11) (gv_t (h9 c16) (h73 c80)))), E, (fun c k_ => ((ms_c e87 (nin_ne (a := 170) k_ rfl)).trans ((fr77 c (nin_ne (a := 162) k_ rfl) (nin_ne (a := 171) k_ rfl)).trans (fr13 c (nin_ne (a := 162) k_ rfl) (nin_ne (a := 171) k_ rfl))))), (fun j k8_ k10_ k11_ k12_ k14_ k15_ k16_ k17_ k18_ => ((congrFun (ms_c e87 (Nat.ne_of_beq_eq_false rfl)) j).trans ((fc78 j k8_ k10_ k11_ k12_ k14_ k15_ k16_ k17_ k18_).trans (fc14 j k8_ k10_ k11_ k12_ k14_ k15_ k16_ k17_ k18_))))⟩
  · replace E := xq_ef c16 E
    refine J_iconst (v := 0) dX11_ofPond_17 (by decide) ?_
    exact J_zret hq dX11_ofPond_18 rfl rfl wlen (Nat.le_refl _) (Nat.le_refl _) ⟨false, u3, g4, rfl, rfl, h5, h6, h7, (ab_i fc15 hp4 (bd_w (l := (-1)) (h := 999) h8 (by decide))), (rh_c (fr13 170 (Nat.ne_of_beq_eq_false rfl) (Nat.ne_of_beq_eq_false rfl)) hp5), (fun q => absurd q (by decide)), E, (fun c k_ => (fr13 c (nin_ne (a := 162) k_ rfl) (nin_ne (a := 171) k_ rfl))), (fun j k8_ k10_ k11_ k12_ k14_ k15_ k16_ k17_ k18_ => (fc14 j k8_ k10_ k11_ k12_ k14_ k15_ k16_ k17_ k18_))⟩
set_option maxRecDepth 100000 in
noncomputable def Fx_M_ofPond2X (to : Int32) (low : Int32) (high : Int32) (second : Int32) (u : Nat → Nat → Int32) (g : Nat → Nat → Int64) : Bool × (Nat → Nat → Int32) × (Nat → Nat → Int64) := xq_c3 (Fx_M_take0X (0 : Int32) ((u 170 0) - 1) u g) fun t2 u3 g4 => if t2 = true then (if to = (8 : Int32) then (default) else (if to = (9 : Int32) then (xq_c3 (Fx_M_take1X ((u3 171 0) + 1) ((u 170 0) - 1) u3 g4) fun t63 u64 g65 => if t63 = true then (xq_c3 (Fx_M_take2X (0 : Int32) second u64 g65) fun t79 u80 g81 => if t79 = true then (if (u80 162 18) = (0 : Int32) then ((true, u80, g81)) else (xq_lt (ms u80 170 ((((13 : Int32) + ((16 : Int32) * (u3 171 0))) + to).toNatClampNeg) (u64 171 1)) fun u101 => xq_lt (ms u101 170 (((((13 : Int32) + ((16 : Int32) * (u3 171 0))) + to) + 1).toNatClampNeg) (u80 171 2)) fun u103 => (true, u103, g81))) else ((false, u80, g81))) else ((false, u64, g65))) else (xq_c3 (Fx_M_take1X low high u3 g4) fun t20 u21 g22 => if t20 = true then (xq_c3 (Fx_M_take2X (0 : Int32) second u21 g22) fun t36 u37 g38 => if t36 = true then (if (u37 162 18) = (0 : Int32) then ((true, u37, g38)) else (xq_lt (ms u37 170 ((((13 : Int32) + ((16 : Int32) * (u3 171 0))) + to).toNatClampNeg) (u21 171 1)) fun u58 => xq_lt (ms u58 170 (((((13 : Int32) + ((16 : Int32) * (u3 171 0))) + to) + 1).toNatClampNeg) (u37 171 2)) fun u60 => (true, u60, g38))) else ((false, u37, g38))) else ((false, u21, g22))))) else ((false, u3, g4))
set_option maxHeartbeats 4000000 in
set_option maxRecDepth 100000 in
theorem c_M_ofPond2X {d : Nat} {u : Nat → Nat → Int32} {g : Nat → Nat → Int64} {ex : List MC} {to : Int32} {low : Int32} {high : Int32} {second : Int32} (hd : 4 ≤ d) (hp0 : Bd 0 600 (u 162 8)) (hp1 : Bd 0 600 (u 162 9)) (hp2 : Bd 0 999 (u 162 12)) (hp3 : Bd 0 999 (u 162 17)) (hp4 : AB u 171 (-1) 999) (hp5 : (RH u)) (hp6 : Bd 9 13 to) : CT con0 d 0 0 yX11_ofPond cX11_ofPond 7 (some .boolean) [.ref 162, .int to, .int 2, .int low, .int high, .int second] (Wd u g ex) (fun r h2 => ∃ (z : Bool) (u2 : Nat → Nat → Int32) (g2 : Nat → Nat → Int64), r = some (.int (bI z)) ∧ h2 = Wd u2 g2 ex ∧ Bd 0 600 (u2 162 8) ∧ Bd 0 999 (u2 162 12) ∧ Bd 0 999 (u2 162 17) ∧ AB u2 171 (-1) 999 ∧ (RH u2) ∧ (z = true → GV (u 162 8) (u2 162 8) (u2 162 11)) ∧ (z, u2, g2) = Fx_M_ofPond2X to low high second u g ∧ (∀ c, nin c [(162, 162), (170, 171)] = true → u2 c = u c) ∧ (∀ j, j ≠ 8 → j ≠ 10 → j ≠ 11 → j ≠ 12 → j ≠ 14 → j ≠ 15 → j ≠ 16 → j ≠ 17 → j ≠ 18 → u2 162 j = u 162 j)) := by
  refine CT_of (by decide) (Nat.le_of_ble_eq_true rfl) (fun x hq => ?_)
  show J x yX11_ofPond cX11_ofPond 7 (some .boolean) d 0 0 (Wd u g ex).length 0 [(0, .ref 162), (1, .int to), (2, .int 2), (3, .int low), (4, .int high), (5, .int second)] [] (Wd u g ex) 0 0
  have E : Fx_M_ofPond2X to low high second u g = Fx_M_ofPond2X to low high second u g := rfl
  refine J_aload_n (i := 0) (j := 0) dX11_ofPond_0 rfl rfl ?_
  refine J_iconst (v := 0) dX11_ofPond_1 (by decide) ?_
  refine J_iconst (v := 0) dX11_ofPond_2 (by decide) ?_
  refine J_aload_n (i := 0) (j := 0) dX11_ofPond_3 rfl rfl ?_
  refine J_get (C := RX11) (T := TX11) (Z := 43) (ci := 11) (f := 19) dX11_ofPond_4 inG11 rfl (by decide) k1283 wc_162 rfl ?_
  refine J_iconst (v := 0) dX11_ofPond_7 (by decide) ?_
  refine J_iald dX11_ofPond_8 wc_170 (vin (bd_c (v := 0) (lo := 0) (hi := 0) (by decide)) (by decide)) ?_
  refine J_ci (v := u 170 0) rfl ?_
  refine J_iconst (v := 1) dX11_ofPond_9 (by decide) ?_
  refine J_isub dX11_ofPond_10 ?_
  refine J_callV (As := [.int 0, .int 0, .int ((u 170 0) - 1)]) (rest := []) dX11_ofPond_11 (c_M_take0X (d := 3) (u := u) (g := g) (ex := ex) (low := 0) (high := ((u 170 0) - 1))  (by decide) hp0 hp1 hp2 hp3) hq.n k1456 k1458 k44 wc_162 rfl rfl k97 k1459 np_X11_take (Nat.le_trans (by decide) hd) (by decide) (Nat.le_refl _) (Nat.le_refl _) wlen rfl (Nat.le_of_ble_eq_true rfl) (fun r_ h_ p1 => ?_)
  obtain ⟨t2, u3, g4, rfl, rfl, h5, h6, h7, h8, h9, h10, h11, hx12, fr13, fc14, fc15⟩ := p1
  replace E := xq_e3 hx12 E
  refine J_ifB_ne (tgt := 19) dX11_ofPond_14 (by decide) (fun c16 => ?_) (fun c16 => ?_)
  · replace E := xq_ep c16 E
    refine J_iload_n (i := 1) (j := 1) dX11_ofPond_19 rfl rfl ?_
    refine J_bipush (v := 8) dX11_ofPond_20 (by decide) ?_
    refine J_icmp_eq (tgt := 31) dX11_ofPond_22 (by decide) (fun c17 => ?_) (fun c17 => ?_)
    · exact (bd_neq c17 hp6 (bd_c (v := 8) (lo := 8) (hi := 8) (by decide)) (by decide)).elim
    · replace E := xq_en c17 E
      refine J_iload_n (i := 1) (j := 1) dX11_ofPond_25 rfl rfl ?_
      refine J_bipush (v := 9) dX11_ofPond_26 (by decide) ?_
      refine J_icmp_ne (tgt := 35) dX11_ofPond_28 (by decide) (fun c18 => ?_) (fun c18 => ?_)
      · replace E := xq_en c18 E
        refine J_iconst (v := 0) dX11_ofPond_35 (by decide) ?_
        refine J_istore (i := 6) (lw := [(6, .int 0), (0, .ref 162), (1, .int to), (2, .int 2), (3, .int low), (4, .int high), (5, .int second)]) dX11_ofPond_36 (by decide) rfl ?_
        refine J_aload_n (i := 0) (j := 1) dX11_ofPond_38 rfl rfl ?_
        refine J_iconst (v := 1) dX11_ofPond_39 (by decide) ?_
        refine J_iload (i := 6) (j := 0) dX11_ofPond_40 rfl ?_
        refine J_if_eq (tgt := 56) dX11_ofPond_42 (by decide) (fun _ => ?_) (fun q => absurd (by decide) q)
        refine J_iload_n (i := 3) (j := 4) dX11_ofPond_56 rfl rfl ?_
        refine J_iload (i := 6) (j := 0) dX11_ofPond_57 rfl ?_
        refine J_if_eq (tgt := 73) dX11_ofPond_59 (by decide) (fun _ => ?_) (fun q => absurd (by decide) q)
        refine J_iload (i := 4) (j := 5) dX11_ofPond_73 rfl ?_
        refine J_callV (As := [.int 1, .int low, .int high]) (rest := []) dX11_ofPond_75 (c_M_take1X (d := 3) (u := u3) (g := g4) (ex := ex) (low := low) (high := high)  (by decide) h5 (bd_r (fc14 9 (Nat.ne_of_beq_eq_false rfl) (Nat.ne_of_beq_eq_false rfl) (Nat.ne_of_beq_eq_false rfl) (Nat.ne_of_beq_eq_false rfl) (Nat.ne_of_beq_eq_false rfl) (Nat.ne_of_beq_eq_false rfl) (Nat.ne_of_beq_eq_false rfl) (Nat.ne_of_beq_eq_false rfl) (Nat.ne_of_beq_eq_false rfl)) hp1) h6 h7) hq.n k1456 k1458 k44 wc_162 rfl rfl k97 k1459 np_X11_take (Nat.le_trans (by decide) hd) (by decide) (Nat.le_refl _) (Nat.le_refl _) wlen rfl (Nat.le_of_ble_eq_true rfl) (fun r_ h_ p19 => ?_)
        obtain ⟨t20, u21, g22, rfl, rfl, h23, h24, h25, h26, h27, h28, h29, hx30, fr31, fc32, fc33⟩ := p19
        replace E := xq_e3 hx30 E
        refine J_ifB_eq (tgt := 97) dX11_ofPond_78 (by decide) (fun c34 => ?_) (fun c34 => ?_)
        · replace E := xq_ef c34 E
          refine J_iconst (v := 0) dX11_ofPond_97 (by decide) ?_
          exact J_zret hq dX11_ofPond_98 rfl rfl wlen (Nat.le_refl _) (Nat.le_refl _) ⟨false, u21, g22, rfl, rfl, h23, h24, h25, (ab_i fc33 (ab_i fc15 hp4 (bd_w (l := (-1)) (h := 999) h8 (by decide))) (bd_w (l := (-1)) (h := 999) h26 (by decide))), (rh_c ((fr31 170 (Nat.ne_of_beq_eq_false rfl) (Nat.ne_of_beq_eq_false rfl)).trans (fr13 170 (Nat.ne_of_beq_eq_false rfl) (Nat.ne_of_beq_eq_false rfl))) hp5), (fun q => absurd q (by decide)), E, (fun c k_ => ((fr31 c (nin_ne (a := 162) k_ rfl) (nin_ne (a := 171) k_ rfl)).trans (fr13 c (nin_ne (a := 162) k_ rfl) (nin_ne (a := 171) k_ rfl)))), (fun j k8_ k10_ k11_ k12_ k14_ k15_ k16_ k17_ k18_ => ((fc32 j k8_ k10_ k11_ k12_ k14_ k15_ k16_ k17_ k18_).trans (fc14 j k8_ k10_ k11_ k12_ k14_ k15_ k16_ k17_ k18_)))⟩
        · replace E := xq_ep c34 E
          refine J_iload_n (i := 2) (j := 3) dX11_ofPond_81 rfl rfl ?_
          refine J_iconst (v := 2) dX11_ofPond_82 (by decide) ?_
          refine J_icmp_ne (tgt := 99) dX11_ofPond_83 (by decide) (fun q => absurd (by decide) q) (fun _ => ?_)
          refine J_aload_n (i := 0) (j := 1) dX11_ofPond_86 rfl rfl ?_
          refine J_iconst (v := 2) dX11_ofPond_87 (by decide) ?_
          refine J_iconst (v := 0) dX11_ofPond_88 (by decide) ?_
          refine J_iload (i := 5) (j := 6) dX11_ofPond_89 rfl ?_
          refine J_callV (As := [.int 2, .int 0, .int second]) (rest := []) dX11_ofPond_91 (c_M_take2X (d := 3) (u := u21) (g := g22) (ex := ex) (low := 0) (high := second)  (by decide) h23 (bd_r ((fc32 9 (Nat.ne_of_beq_eq_false rfl) (Nat.ne_of_beq_eq_false rfl) (Nat.ne_of_beq_eq_false rfl) (Nat.ne_of_beq_eq_false rfl) (Nat.ne_of_beq_eq_false rfl) (Nat.ne_of_beq_eq_false rfl) (Nat.ne_of_beq_eq_false rfl) (Nat.ne_of_beq_eq_false rfl) (Nat.ne_of_beq_eq_false rfl)).trans (fc14 9 (Nat.ne_of_beq_eq_false rfl) (Nat.ne_of_beq_eq_false rfl) (Nat.ne_of_beq_eq_false rfl) (Nat.ne_of_beq_eq_false rfl) (Nat.ne_of_beq_eq_false rfl) (Nat.ne_of_beq_eq_false rfl) (Nat.ne_of_beq_eq_false rfl) (Nat.ne_of_beq_eq_false rfl) (Nat.ne_of_beq_eq_false rfl))) hp1) h24 h25) hq.n k1456 k1458 k44 wc_162 rfl rfl k97 k1459 np_X11_take (Nat.le_trans (by decide) hd) (by decide) (Nat.le_refl _) (Nat.le_refl _) wlen rfl (Nat.le_of_ble_eq_true rfl) (fun r_ h_ p35 => ?_)
          obtain ⟨t36, u37, g38, rfl, rfl, h39, h40, h41, h42, h43, h44, h45, hx46, fr47, fc48, fc49⟩ := p35
          replace E := xq_e3 hx46 E
          refine J_ifB_ne (tgt := 99) dX11_ofPond_94 (by decide) (fun c50 => ?_) (fun c50 => ?_)
          · replace E := xq_ep c50 E
            refine J_aload_n (i := 0) (j := 1) dX11_ofPond_99 rfl rfl ?_
            refine J_get (C := RX11) (T := TX11) (Z := 43) (ci := 11) (f := 18) dX11_ofPond_100 inG11 rfl (by decide) k1282 wc_162 rfl ?_
            refine J_if_eq (tgt := 163) dX11_ofPond_103 (by decide) (fun c51 => ?_) (fun c51 => ?_)
            · replace E := xq_ep c51 E
              refine J_iconst (v := 1) dX11_ofPond_163 (by decide) ?_
              exact J_zret hq dX11_ofPond_164 rfl rfl wlen (Nat.le_refl _) (Nat.le_refl _) ⟨true, u37, g38, rfl, rfl, h39, h40, h41, (ab_i fc49 (ab_i fc33 (ab_i fc15 hp4 (bd_w (l := (-1)) (h := 999) h8 (by decide))) (bd_w (l := (-1)) (h := 999) h26 (by decide))) (bd_w (l := (-1)) (h := 999) h42 (by decide))), (rh_c ((fr47 170 (Nat.ne_of_beq_eq_false rfl) (Nat.ne_of_beq_eq_false rfl)).trans ((fr31 170 (Nat.ne_of_beq_eq_false rfl) (Nat.ne_of_beq_eq_false rfl)).trans (fr13 170 (Nat.ne_of_beq_eq_false rfl) (Nat.ne_of_beq_eq_false rfl)))) hp5), (fun _ => (gv_r rfl rfl rfl (gv_t (gv_t (h9 c16) (h27 c34)) (h43 c50)))), E, (fun c k_ => ((fr47 c (nin_ne (a := 162) k_ rfl) (nin_ne (a := 171) k_ rfl)).trans ((fr31 c (nin_ne (a := 162) k_ rfl) (nin_ne (a := 171) k_ rfl)).trans (fr13 c (nin_ne (a := 162) k_ rfl) (nin_ne (a := 171) k_ rfl))))), (fun j k8_ k10_ k11_ k12_ k14_ k15_ k16_ k17_ k18_ => ((fc48 j k8_ k10_ k11_ k12_ k14_ k15_ k16_ k17_ k18_).trans ((fc32 j k8_ k10_ k11_ k12_ k14_ k15_ k16_ k17_ k18_).trans (fc14 j k8_ k10_ k11_ k12_ k14_ k15_ k16_ k17_ k18_))))⟩
            · replace E := xq_en c51 E
              have ho52 := Or.resolve_left (h44 c50) c51
              have hg53 : ¬ u21 162 18 = 0 := fun e => Or.elim h45 c51 (fun q => c51 (q.trans e))
              have ho54 := Or.resolve_left (h28 c34) hg53
              have hg55 : ¬ u3 162 18 = 0 := fun e => Or.elim h29 hg53 (fun q => hg53 (q.trans e))
              have ho56 := Or.resolve_left (h10 c16) hg55
              have hg57 : ¬ u 162 18 = 0 := fun e => Or.elim h11 hg55 (fun q => hg55 (q.trans e))
              refine J_aload_n (i := 0) (j := 1) dX11_ofPond_106 rfl rfl ?_
              refine J_get (C := RX11) (T := TX11) (Z := 43) (ci := 11) (f := 19) dX11_ofPond_107 inG11 rfl (by decide) k1283 wc_162 rfl ?_
              refine J_bipush (v := 13) dX11_ofPond_110 (by decide) ?_
              refine J_bipush (v := 16) dX11_ofPond_112 (by decide) ?_
              refine J_aload_n (i := 0) (j := 1) dX11_ofPond_114 rfl rfl ?_
              refine J_get (C := RX11) (T := TX11) (Z := 43) (ci := 11) (f := 20) dX11_ofPond_115 inG11 rfl (by decide) k1284 wc_162 rfl ?_
              refine J_iconst (v := 0) dX11_ofPond_118 (by decide) ?_
              refine J_iald dX11_ofPond_119 wc_171 (vin (bd_c (v := 0) (lo := 0) (hi := 0) (by decide)) (by decide)) ?_
              refine J_ci (v := u3 171 0) ((fc49 0 (Nat.ne_of_beq_eq_false rfl)).trans (fc33 0 (Nat.ne_of_beq_eq_false rfl))) ?_
              refine J_imul dX11_ofPond_120 ?_
              refine J_iadd dX11_ofPond_121 ?_
              refine J_iload_n (i := 1) (j := 2) dX11_ofPond_122 rfl rfl ?_
              refine J_iadd dX11_ofPond_123 ?_
              refine J_aload_n (i := 0) (j := 1) dX11_ofPond_124 rfl rfl ?_
              refine J_get (C := RX11) (T := TX11) (Z := 43) (ci := 11) (f := 20) dX11_ofPond_125 inG11 rfl (by decide) k1284 wc_162 rfl ?_
              refine J_iconst (v := 1) dX11_ofPond_128 (by decide) ?_
              refine J_iald dX11_ofPond_129 wc_171 (vin (bd_c (v := 1) (lo := 1) (hi := 1) (by decide)) (by decide)) ?_
              refine J_ci (v := u21 171 1) (fc49 1 (Nat.ne_of_beq_eq_false rfl)) ?_
              obtain ⟨u58, e59⟩ : ∃ z, z = ms u37 170 ((((13 : Int32) + ((16 : Int32) * (u3 171 0))) + to).toNatClampNeg) (u21 171 1) := ⟨_, rfl⟩
              refine J_iast dX11_ofPond_130 wc_170 (vin (bd_add (l := 23) (h := 154) (bd_add (l := 13) (h := 141) (bd_c (v := 13) (lo := 13) (hi := 13) (by decide)) (bd_mul (l := 0) (h := 128) (bd_c (v := 16) (lo := 16) (hi := 16) (by decide)) (bd_le_hi h8 ho56.2 (bd_sub (l := (-1)) (h := 8) (hp5).2.1 (bd_c (v := 1) (lo := 1) (hi := 1) (by decide)) (by decide))) (by decide)) (by decide)) (bd_ne_lo hp6 c18 (by decide)) (by decide)) (by decide)) (ws e59 wk_170 rfl) ?_
              replace E := xq_le e59 E
              refine J_iload_n (i := 2) (j := 3) dX11_ofPond_131 rfl rfl ?_
              refine J_iconst (v := 2) dX11_ofPond_132 (by decide) ?_
              refine J_icmp_ne (tgt := 163) dX11_ofPond_133 (by decide) (fun q => absurd (by decide) q) (fun _ => ?_)
              refine J_aload_n (i := 0) (j := 1) dX11_ofPond_136 rfl rfl ?_
              refine J_get (C := RX11) (T := TX11) (Z := 43) (ci := 11) (f := 19) dX11_ofPond_137 inG11 rfl (by decide) k1283 wc_162 rfl ?_
              refine J_bipush (v := 13) dX11_ofPond_140 (by decide) ?_
              refine J_bipush (v := 16) dX11_ofPond_142 (by decide) ?_
              refine J_aload_n (i := 0) (j := 1) dX11_ofPond_144 rfl rfl ?_
              refine J_get (C := RX11) (T := TX11) (Z := 43) (ci := 11) (f := 20) dX11_ofPond_145 inG11 rfl (by decide) k1284 wc_162 rfl ?_
              refine J_iconst (v := 0) dX11_ofPond_148 (by decide) ?_
              refine J_iald dX11_ofPond_149 wc_171 (vin (bd_c (v := 0) (lo := 0) (hi := 0) (by decide)) (by decide)) ?_
              refine J_ci (v := u3 171 0) ((congrFun (ms_c e59 (Nat.ne_of_beq_eq_false rfl)) 0).trans ((fc49 0 (Nat.ne_of_beq_eq_false rfl)).trans (fc33 0 (Nat.ne_of_beq_eq_false rfl)))) ?_
              refine J_imul dX11_ofPond_150 ?_
              refine J_iadd dX11_ofPond_151 ?_
              refine J_iload_n (i := 1) (j := 2) dX11_ofPond_152 rfl rfl ?_
              refine J_iadd dX11_ofPond_153 ?_
              refine J_iconst (v := 1) dX11_ofPond_154 (by decide) ?_
              refine J_iadd dX11_ofPond_155 ?_
              refine J_aload_n (i := 0) (j := 1) dX11_ofPond_156 rfl rfl ?_
              refine J_get (C := RX11) (T := TX11) (Z := 43) (ci := 11) (f := 20) dX11_ofPond_157 inG11 rfl (by decide) k1284 wc_162 rfl ?_
              refine J_iconst (v := 2) dX11_ofPond_160 (by decide) ?_
              refine J_iald dX11_ofPond_161 wc_171 (vin (bd_c (v := 2) (lo := 2) (hi := 2) (by decide)) (by decide)) ?_
              refine J_ci (v := u37 171 2) (congrFun (ms_c e59 (Nat.ne_of_beq_eq_false rfl)) 2) ?_
              obtain ⟨u60, e61⟩ : ∃ z, z = ms u58 170 (((((13 : Int32) + ((16 : Int32) * (u3 171 0))) + to) + 1).toNatClampNeg) (u37 171 2) := ⟨_, rfl⟩
              refine J_iast dX11_ofPond_162 wc_170 (vin (bd_add (l := 24) (h := 155) (bd_add (l := 23) (h := 154) (bd_add (l := 13) (h := 141) (bd_c (v := 13) (lo := 13) (hi := 13) (by decide)) (bd_mul (l := 0) (h := 128) (bd_c (v := 16) (lo := 16) (hi := 16) (by decide)) (bd_le_hi h8 ho56.2 (bd_sub (l := (-1)) (h := 8) (hp5).2.1 (bd_c (v := 1) (lo := 1) (hi := 1) (by decide)) (by decide))) (by decide)) (by decide)) (bd_ne_lo hp6 c18 (by decide)) (by decide)) (bd_c (v := 1) (lo := 1) (hi := 1) (by decide)) (by decide)) (by decide)) (ws e61 wk_170 rfl) ?_
              replace E := xq_le e61 E
              refine J_iconst (v := 1) dX11_ofPond_163 (by decide) ?_
              exact J_zret hq dX11_ofPond_164 rfl rfl wlen (Nat.le_refl _) (Nat.le_refl _) ⟨true, u60, g38, rfl, rfl, (bd_r ((congrFun (ms_c e61 (Nat.ne_of_beq_eq_false rfl)) 8).trans (congrFun (ms_c e59 (Nat.ne_of_beq_eq_false rfl)) 8)) h39), (bd_r ((congrFun (ms_c e61 (Nat.ne_of_beq_eq_false rfl)) 12).trans (congrFun (ms_c e59 (Nat.ne_of_beq_eq_false rfl)) 12)) h40), (bd_r ((congrFun (ms_c e61 (Nat.ne_of_beq_eq_false rfl)) 17).trans (congrFun (ms_c e59 (Nat.ne_of_beq_eq_false rfl)) 17)) h41), (ab_c ((ms_c e61 (Nat.ne_of_beq_eq_false rfl)).trans (ms_c e59 (Nat.ne_of_beq_eq_false rfl))) (ab_i fc49 (ab_i fc33 (ab_i fc15 hp4 (bd_w (l := (-1)) (h := 999) (bd_le_hi h8 ho56.2 (bd_sub (l := (-1)) (h := 8) (hp5).2.1 (bd_c (v := 1) (lo := 1) (hi := 1) (by decide)) (by decide))) (by decide))) (bd_w (l := (-1)) (h := 999) h26 (by decide))) (bd_w (l := (-1)) (h := 999) h42 (by decide)))), (rh_p1 e61 (bd_le_hi h8 ho56.2 (bd_sub (l := (-1)) (h := 8) (hp5).2.1 (bd_c (v := 1) (lo := 1) (hi := 1) (by decide)) (by decide))) (bd_w (l := 0) (h := 15) (bd_add (l := 11) (h := 14) (bd_ne_lo hp6 c18 (by decide)) (bd_c (v := 1) (lo := 1) (hi := 1) (by decide)) (by decide)) (by decide)) (bd_w (l := (-1)) (h := 999) h42 (by decide)) (bd_n89 (bd_add (l := 11) (h := 14) (bd_ne_lo hp6 c18 (by decide)) (bd_c (v := 1) (lo := 1) (hi := 1) (by decide)) (by decide)) (by decide)) (rh_p e59 (bd_le_hi h8 ho56.2 (bd_sub (l := (-1)) (h := 8) (hp5).2.1 (bd_c (v := 1) (lo := 1) (hi := 1) (by decide)) (by decide))) (bd_w (l := 0) (h := 15) (bd_ne_lo hp6 c18 (by decide)) (by decide)) (bd_w (l := (-1)) (h := 999) h26 (by decide)) (bd_n89 (bd_ne_lo hp6 c18 (by decide)) (by decide)) (rh_c ((fr47 170 (Nat.ne_of_beq_eq_false rfl) (Nat.ne_of_beq_eq_false rfl)).trans ((fr31 170 (Nat.ne_of_beq_eq_false rfl) (Nat.ne_of_beq_eq_false rfl)).trans (fr13 170 (Nat.ne_of_beq_eq_false rfl) (Nat.ne_of_beq_eq_false rfl)))) hp5))), (fun _ => (gv_r rfl ((congrFun (ms_c e61 (Nat.ne_of_beq_eq_false rfl)) 8).trans (congrFun (ms_c e59 (Nat.ne_of_beq_eq_false rfl)) 8)) ((congrFun (ms_c e61 (Nat.ne_of_beq_eq_false rfl)) 11).trans (congrFun (ms_c e59 (Nat.ne_of_beq_eq_false rfl)) 11)) (gv_t (gv_t (h9 c16) (h27 c34)) (h43 c50)))), E, (fun c k_ => ((ms_c e61 (nin_ne (a := 170) k_ rfl)).trans ((ms_c e59 (nin_ne (a := 170) k_ rfl)).trans ((fr47 c (nin_ne (a := 162) k_ rfl) (nin_ne (a := 171) k_ rfl)).trans ((fr31 c (nin_ne (a := 162) k_ rfl) (nin_ne (a := 171) k_ rfl)).trans (fr13 c (nin_ne (a := 162) k_ rfl) (nin_ne (a := 171) k_ rfl))))))), (fun j k8_ k10_ k11_ k12_ k14_ k15_ k16_ k17_ k18_ => ((congrFun (ms_c e61 (Nat.ne_of_beq_eq_false rfl)) j).trans ((congrFun (ms_c e59 (Nat.ne_of_beq_eq_false rfl)) j).trans ((fc48 j k8_ k10_ k11_ k12_ k14_ k15_ k16_ k17_ k18_).trans ((fc32 j k8_ k10_ k11_ k12_ k14_ k15_ k16_ k17_ k18_).trans (fc14 j k8_ k10_ k11_ k12_ k14_ k15_ k16_ k17_ k18_))))))⟩
          · replace E := xq_ef c50 E
            refine J_iconst (v := 0) dX11_ofPond_97 (by decide) ?_
            exact J_zret hq dX11_ofPond_98 rfl rfl wlen (Nat.le_refl _) (Nat.le_refl _) ⟨false, u37, g38, rfl, rfl, h39, h40, h41, (ab_i fc49 (ab_i fc33 (ab_i fc15 hp4 (bd_w (l := (-1)) (h := 999) h8 (by decide))) (bd_w (l := (-1)) (h := 999) h26 (by decide))) (bd_w (l := (-1)) (h := 999) h42 (by decide))), (rh_c ((fr47 170 (Nat.ne_of_beq_eq_false rfl) (Nat.ne_of_beq_eq_false rfl)).trans ((fr31 170 (Nat.ne_of_beq_eq_false rfl) (Nat.ne_of_beq_eq_false rfl)).trans (fr13 170 (Nat.ne_of_beq_eq_false rfl) (Nat.ne_of_beq_eq_false rfl)))) hp5), (fun q => absurd q (by decide)), E, (fun c k_ => ((fr47 c (nin_ne (a := 162) k_ rfl) (nin_ne (a := 171) k_ rfl)).trans ((fr31 c (nin_ne (a := 162) k_ rfl) (nin_ne (a := 171) k_ rfl)).trans (fr13 c (nin_ne (a := 162) k_ rfl) (nin_ne (a := 171) k_ rfl))))), (fun j k8_ k10_ k11_ k12_ k14_ k15_ k16_ k17_ k18_ => ((fc48 j k8_ k10_ k11_ k12_ k14_ k15_ k16_ k17_ k18_).trans ((fc32 j k8_ k10_ k11_ k12_ k14_ k15_ k16_ k17_ k18_).trans (fc14 j k8_ k10_ k11_ k12_ k14_ k15_ k16_ k17_ k18_))))⟩
      · replace E := xq_ep c18 E
        refine J_iconst (v := 1) dX11_ofPond_31 (by decide) ?_
        refine J_goto (tgt := 36) dX11_ofPond_32 (by decide) ?_
        refine J_istore (i := 6) (lw := [(6, .int 1), (0, .ref 162), (1, .int to), (2, .int 2), (3, .int low), (4, .int high), (5, .int second)]) dX11_ofPond_36 (by decide) rfl ?_
        refine J_aload_n (i := 0) (j := 1) dX11_ofPond_38 rfl rfl ?_
        refine J_iconst (v := 1) dX11_ofPond_39 (by decide) ?_
        refine J_iload (i := 6) (j := 0) dX11_ofPond_40 rfl ?_
        refine J_if_eq (tgt := 56) dX11_ofPond_42 (by decide) (fun q => absurd q (by decide)) (fun _ => ?_)
        refine J_aload_n (i := 0) (j := 1) dX11_ofPond_45 rfl rfl ?_
        refine J_get (C := RX11) (T := TX11) (Z := 43) (ci := 11) (f := 20) dX11_ofPond_46 inG11 rfl (by decide) k1284 wc_162 rfl ?_
        refine J_iconst (v := 0) dX11_ofPond_49 (by decide) ?_
        refine J_iald dX11_ofPond_50 wc_171 (vin (bd_c (v := 0) (lo := 0) (hi := 0) (by decide)) (by decide)) ?_
        refine J_ci (v := u3 171 0) rfl ?_
        refine J_iconst (v := 1) dX11_ofPond_51 (by decide) ?_
        refine J_iadd dX11_ofPond_52 ?_
        refine J_goto (tgt := 57) dX11_ofPond_53 (by decide) ?_
        refine J_iload (i := 6) (j := 0) dX11_ofPond_57 rfl ?_
        refine J_if_eq (tgt := 73) dX11_ofPond_59 (by decide) (fun q => absurd q (by decide)) (fun _ => ?_)
        refine J_aload_n (i := 0) (j := 1) dX11_ofPond_62 rfl rfl ?_
        refine J_get (C := RX11) (T := TX11) (Z := 43) (ci := 11) (f := 19) dX11_ofPond_63 inG11 rfl (by decide) k1283 wc_162 rfl ?_
        refine J_iconst (v := 0) dX11_ofPond_66 (by decide) ?_
        refine J_iald dX11_ofPond_67 wc_170 (vin (bd_c (v := 0) (lo := 0) (hi := 0) (by decide)) (by decide)) ?_
        refine J_ci (v := u 170 0) (congrFun (fr13 170 (Nat.ne_of_beq_eq_false rfl) (Nat.ne_of_beq_eq_false rfl)) 0) ?_
        refine J_iconst (v := 1) dX11_ofPond_68 (by decide) ?_
        refine J_isub dX11_ofPond_69 ?_
        refine J_goto (tgt := 75) dX11_ofPond_70 (by decide) ?_
        refine J_callV (As := [.int 1, .int ((u3 171 0) + 1), .int ((u 170 0) - 1)]) (rest := []) dX11_ofPond_75 (c_M_take1X (d := 3) (u := u3) (g := g4) (ex := ex) (low := ((u3 171 0) + 1)) (high := ((u 170 0) - 1))  (by decide) h5 (bd_r (fc14 9 (Nat.ne_of_beq_eq_false rfl) (Nat.ne_of_beq_eq_false rfl) (Nat.ne_of_beq_eq_false rfl) (Nat.ne_of_beq_eq_false rfl) (Nat.ne_of_beq_eq_false rfl) (Nat.ne_of_beq_eq_false rfl) (Nat.ne_of_beq_eq_false rfl) (Nat.ne_of_beq_eq_false rfl) (Nat.ne_of_beq_eq_false rfl)) hp1) h6 h7) hq.n k1456 k1458 k44 wc_162 rfl rfl k97 k1459 np_X11_take (Nat.le_trans (by decide) hd) (by decide) (Nat.le_refl _) (Nat.le_refl _) wlen rfl (Nat.le_of_ble_eq_true rfl) (fun r_ h_ p62 => ?_)
        obtain ⟨t63, u64, g65, rfl, rfl, h66, h67, h68, h69, h70, h71, h72, hx73, fr74, fc75, fc76⟩ := p62
        replace E := xq_e3 hx73 E
        refine J_ifB_eq (tgt := 97) dX11_ofPond_78 (by decide) (fun c77 => ?_) (fun c77 => ?_)
        · replace E := xq_ef c77 E
          refine J_iconst (v := 0) dX11_ofPond_97 (by decide) ?_
          exact J_zret hq dX11_ofPond_98 rfl rfl wlen (Nat.le_refl _) (Nat.le_refl _) ⟨false, u64, g65, rfl, rfl, h66, h67, h68, (ab_i fc76 (ab_i fc15 hp4 (bd_w (l := (-1)) (h := 999) h8 (by decide))) (bd_w (l := (-1)) (h := 999) h69 (by decide))), (rh_c ((fr74 170 (Nat.ne_of_beq_eq_false rfl) (Nat.ne_of_beq_eq_false rfl)).trans (fr13 170 (Nat.ne_of_beq_eq_false rfl) (Nat.ne_of_beq_eq_false rfl))) hp5), (fun q => absurd q (by decide)), E, (fun c k_ => ((fr74 c (nin_ne (a := 162) k_ rfl) (nin_ne (a := 171) k_ rfl)).trans (fr13 c (nin_ne (a := 162) k_ rfl) (nin_ne (a := 171) k_ rfl)))), (fun j k8_ k10_ k11_ k12_ k14_ k15_ k16_ k17_ k18_ => ((fc75 j k8_ k10_ k11_ k12_ k14_ k15_ k16_ k17_ k18_).trans (fc14 j k8_ k10_ k11_ k12_ k14_ k15_ k16_ k17_ k18_)))⟩
        · replace E := xq_ep c77 E
          refine J_iload_n (i := 2) (j := 3) dX11_ofPond_81 rfl rfl ?_
          refine J_iconst (v := 2) dX11_ofPond_82 (by decide) ?_
          refine J_icmp_ne (tgt := 99) dX11_ofPond_83 (by decide) (fun q => absurd (by decide) q) (fun _ => ?_)
          refine J_aload_n (i := 0) (j := 1) dX11_ofPond_86 rfl rfl ?_
          refine J_iconst (v := 2) dX11_ofPond_87 (by decide) ?_
          refine J_iconst (v := 0) dX11_ofPond_88 (by decide) ?_
          refine J_iload (i := 5) (j := 6) dX11_ofPond_89 rfl ?_
          refine J_callV (As := [.int 2, .int 0, .int second]) (rest := []) dX11_ofPond_91 (c_M_take2X (d := 3) (u := u64) (g := g65) (ex := ex) (low := 0) (high := second)  (by decide) h66 (bd_r ((fc75 9 (Nat.ne_of_beq_eq_false rfl) (Nat.ne_of_beq_eq_false rfl) (Nat.ne_of_beq_eq_false rfl) (Nat.ne_of_beq_eq_false rfl) (Nat.ne_of_beq_eq_false rfl) (Nat.ne_of_beq_eq_false rfl) (Nat.ne_of_beq_eq_false rfl) (Nat.ne_of_beq_eq_false rfl) (Nat.ne_of_beq_eq_false rfl)).trans (fc14 9 (Nat.ne_of_beq_eq_false rfl) (Nat.ne_of_beq_eq_false rfl) (Nat.ne_of_beq_eq_false rfl) (Nat.ne_of_beq_eq_false rfl) (Nat.ne_of_beq_eq_false rfl) (Nat.ne_of_beq_eq_false rfl) (Nat.ne_of_beq_eq_false rfl) (Nat.ne_of_beq_eq_false rfl) (Nat.ne_of_beq_eq_false rfl))) hp1) h67 h68) hq.n k1456 k1458 k44 wc_162 rfl rfl k97 k1459 np_X11_take (Nat.le_trans (by decide) hd) (by decide) (Nat.le_refl _) (Nat.le_refl _) wlen rfl (Nat.le_of_ble_eq_true rfl) (fun r_ h_ p78 => ?_)
          obtain ⟨t79, u80, g81, rfl, rfl, h82, h83, h84, h85, h86, h87, h88, hx89, fr90, fc91, fc92⟩ := p78
          replace E := xq_e3 hx89 E
          refine J_ifB_ne (tgt := 99) dX11_ofPond_94 (by decide) (fun c93 => ?_) (fun c93 => ?_)
          · replace E := xq_ep c93 E
            refine J_aload_n (i := 0) (j := 1) dX11_ofPond_99 rfl rfl ?_
            refine J_get (C := RX11) (T := TX11) (Z := 43) (ci := 11) (f := 18) dX11_ofPond_100 inG11 rfl (by decide) k1282 wc_162 rfl ?_
            refine J_if_eq (tgt := 163) dX11_ofPond_103 (by decide) (fun c94 => ?_) (fun c94 => ?_)
            · replace E := xq_ep c94 E
              refine J_iconst (v := 1) dX11_ofPond_163 (by decide) ?_
              exact J_zret hq dX11_ofPond_164 rfl rfl wlen (Nat.le_refl _) (Nat.le_refl _) ⟨true, u80, g81, rfl, rfl, h82, h83, h84, (ab_i fc92 (ab_i fc76 (ab_i fc15 hp4 (bd_w (l := (-1)) (h := 999) h8 (by decide))) (bd_w (l := (-1)) (h := 999) h69 (by decide))) (bd_w (l := (-1)) (h := 999) h85 (by decide))), (rh_c ((fr90 170 (Nat.ne_of_beq_eq_false rfl) (Nat.ne_of_beq_eq_false rfl)).trans ((fr74 170 (Nat.ne_of_beq_eq_false rfl) (Nat.ne_of_beq_eq_false rfl)).trans (fr13 170 (Nat.ne_of_beq_eq_false rfl) (Nat.ne_of_beq_eq_false rfl)))) hp5), (fun _ => (gv_r rfl rfl rfl (gv_t (gv_t (h9 c16) (h70 c77)) (h86 c93)))), E, (fun c k_ => ((fr90 c (nin_ne (a := 162) k_ rfl) (nin_ne (a := 171) k_ rfl)).trans ((fr74 c (nin_ne (a := 162) k_ rfl) (nin_ne (a := 171) k_ rfl)).trans (fr13 c (nin_ne (a := 162) k_ rfl) (nin_ne (a := 171) k_ rfl))))), (fun j k8_ k10_ k11_ k12_ k14_ k15_ k16_ k17_ k18_ => ((fc91 j k8_ k10_ k11_ k12_ k14_ k15_ k16_ k17_ k18_).trans ((fc75 j k8_ k10_ k11_ k12_ k14_ k15_ k16_ k17_ k18_).trans (fc14 j k8_ k10_ k11_ k12_ k14_ k15_ k16_ k17_ k18_))))⟩
            · replace E := xq_en c94 E
              have ho95 := Or.resolve_left (h87 c93) c94
              have hg96 : ¬ u64 162 18 = 0 := fun e => Or.elim h88 c94 (fun q => c94 (q.trans e))
              have ho97 := Or.resolve_left (h71 c77) hg96
              have hg98 : ¬ u3 162 18 = 0 := fun e => Or.elim h72 hg96 (fun q => hg96 (q.trans e))
              have ho99 := Or.resolve_left (h10 c16) hg98
              have hg100 : ¬ u 162 18 = 0 := fun e => Or.elim h11 hg98 (fun q => hg98 (q.trans e))
              refine J_aload_n (i := 0) (j := 1) dX11_ofPond_106 rfl rfl ?_
              refine J_get (C := RX11) (T := TX11) (Z := 43) (ci := 11) (f := 19) dX11_ofPond_107 inG11 rfl (by decide) k1283 wc_162 rfl ?_
              refine J_bipush (v := 13) dX11_ofPond_110 (by decide) ?_
              refine J_bipush (v := 16) dX11_ofPond_112 (by decide) ?_
              refine J_aload_n (i := 0) (j := 1) dX11_ofPond_114 rfl rfl ?_
              refine J_get (C := RX11) (T := TX11) (Z := 43) (ci := 11) (f := 20) dX11_ofPond_115 inG11 rfl (by decide) k1284 wc_162 rfl ?_
              refine J_iconst (v := 0) dX11_ofPond_118 (by decide) ?_
              refine J_iald dX11_ofPond_119 wc_171 (vin (bd_c (v := 0) (lo := 0) (hi := 0) (by decide)) (by decide)) ?_
              refine J_ci (v := u3 171 0) ((fc92 0 (Nat.ne_of_beq_eq_false rfl)).trans (fc76 0 (Nat.ne_of_beq_eq_false rfl))) ?_
              refine J_imul dX11_ofPond_120 ?_
              refine J_iadd dX11_ofPond_121 ?_
              refine J_iload_n (i := 1) (j := 2) dX11_ofPond_122 rfl rfl ?_
              refine J_iadd dX11_ofPond_123 ?_
              refine J_aload_n (i := 0) (j := 1) dX11_ofPond_124 rfl rfl ?_
              refine J_get (C := RX11) (T := TX11) (Z := 43) (ci := 11) (f := 20) dX11_ofPond_125 inG11 rfl (by decide) k1284 wc_162 rfl ?_
              refine J_iconst (v := 1) dX11_ofPond_128 (by decide) ?_
              refine J_iald dX11_ofPond_129 wc_171 (vin (bd_c (v := 1) (lo := 1) (hi := 1) (by decide)) (by decide)) ?_
              refine J_ci (v := u64 171 1) (fc92 1 (Nat.ne_of_beq_eq_false rfl)) ?_
              obtain ⟨u101, e102⟩ : ∃ z, z = ms u80 170 ((((13 : Int32) + ((16 : Int32) * (u3 171 0))) + to).toNatClampNeg) (u64 171 1) := ⟨_, rfl⟩
              refine J_iast dX11_ofPond_130 wc_170 (vin (bd_add (l := 22) (h := 134) (bd_add (l := 13) (h := 125) (bd_c (v := 13) (lo := 13) (hi := 13) (by decide)) (bd_mul (l := 0) (h := 112) (bd_c (v := 16) (lo := 16) (hi := 16) (by decide)) (bd_adc (c := 1) (h := 7) h8 ho97.1 (bd_le_hi h69 ho97.2 (bd_le_lo (bd_sub (l := (-1)) (h := 8) (hp5).2.1 (bd_c (v := 1) (lo := 1) (hi := 1) (by decide)) (by decide)) ho99.2 h8)) (by decide)) (by decide)) (by decide)) (bd_r c18 (bd_c (v := 9) (lo := 9) (hi := 9) (by decide))) (by decide)) (by decide)) (ws e102 wk_170 rfl) ?_
              replace E := xq_le e102 E
              refine J_iload_n (i := 2) (j := 3) dX11_ofPond_131 rfl rfl ?_
              refine J_iconst (v := 2) dX11_ofPond_132 (by decide) ?_
              refine J_icmp_ne (tgt := 163) dX11_ofPond_133 (by decide) (fun q => absurd (by decide) q) (fun _ => ?_)
              refine J_aload_n (i := 0) (j := 1) dX11_ofPond_136 rfl rfl ?_
              refine J_get (C := RX11) (T := TX11) (Z := 43) (ci := 11) (f := 19) dX11_ofPond_137 inG11 rfl (by decide) k1283 wc_162 rfl ?_
              refine J_bipush (v := 13) dX11_ofPond_140 (by decide) ?_
              refine J_bipush (v := 16) dX11_ofPond_142 (by decide) ?_
              refine J_aload_n (i := 0) (j := 1) dX11_ofPond_144 rfl rfl ?_
              refine J_get (C := RX11) (T := TX11) (Z := 43) (ci := 11) (f := 20) dX11_ofPond_145 inG11 rfl (by decide) k1284 wc_162 rfl ?_
              refine J_iconst (v := 0) dX11_ofPond_148 (by decide) ?_
              refine J_iald dX11_ofPond_149 wc_171 (vin (bd_c (v := 0) (lo := 0) (hi := 0) (by decide)) (by decide)) ?_
              refine J_ci (v := u3 171 0) ((congrFun (ms_c e102 (Nat.ne_of_beq_eq_false rfl)) 0).trans ((fc92 0 (Nat.ne_of_beq_eq_false rfl)).trans (fc76 0 (Nat.ne_of_beq_eq_false rfl)))) ?_
              refine J_imul dX11_ofPond_150 ?_
              refine J_iadd dX11_ofPond_151 ?_
              refine J_iload_n (i := 1) (j := 2) dX11_ofPond_152 rfl rfl ?_
              refine J_iadd dX11_ofPond_153 ?_
              refine J_iconst (v := 1) dX11_ofPond_154 (by decide) ?_
              refine J_iadd dX11_ofPond_155 ?_
              refine J_aload_n (i := 0) (j := 1) dX11_ofPond_156 rfl rfl ?_
              refine J_get (C := RX11) (T := TX11) (Z := 43) (ci := 11) (f := 20) dX11_ofPond_157 inG11 rfl (by decide) k1284 wc_162 rfl ?_
              refine J_iconst (v := 2) dX11_ofPond_160 (by decide) ?_
              refine J_iald dX11_ofPond_161 wc_171 (vin (bd_c (v := 2) (lo := 2) (hi := 2) (by decide)) (by decide)) ?_
              refine J_ci (v := u80 171 2) (congrFun (ms_c e102 (Nat.ne_of_beq_eq_false rfl)) 2) ?_
              obtain ⟨u103, e104⟩ : ∃ z, z = ms u101 170 (((((13 : Int32) + ((16 : Int32) * (u3 171 0))) + to) + 1).toNatClampNeg) (u80 171 2) := ⟨_, rfl⟩
              refine J_iast dX11_ofPond_162 wc_170 (vin (bd_add (l := 23) (h := 135) (bd_add (l := 22) (h := 134) (bd_add (l := 13) (h := 125) (bd_c (v := 13) (lo := 13) (hi := 13) (by decide)) (bd_mul (l := 0) (h := 112) (bd_c (v := 16) (lo := 16) (hi := 16) (by decide)) (bd_adc (c := 1) (h := 7) h8 ho97.1 (bd_le_hi h69 ho97.2 (bd_le_lo (bd_sub (l := (-1)) (h := 8) (hp5).2.1 (bd_c (v := 1) (lo := 1) (hi := 1) (by decide)) (by decide)) ho99.2 h8)) (by decide)) (by decide)) (by decide)) (bd_r c18 (bd_c (v := 9) (lo := 9) (hi := 9) (by decide))) (by decide)) (bd_c (v := 1) (lo := 1) (hi := 1) (by decide)) (by decide)) (by decide)) (ws e104 wk_170 rfl) ?_
              replace E := xq_le e104 E
              refine J_iconst (v := 1) dX11_ofPond_163 (by decide) ?_
              exact J_zret hq dX11_ofPond_164 rfl rfl wlen (Nat.le_refl _) (Nat.le_refl _) ⟨true, u103, g81, rfl, rfl, (bd_r ((congrFun (ms_c e104 (Nat.ne_of_beq_eq_false rfl)) 8).trans (congrFun (ms_c e102 (Nat.ne_of_beq_eq_false rfl)) 8)) h82), (bd_r ((congrFun (ms_c e104 (Nat.ne_of_beq_eq_false rfl)) 12).trans (congrFun (ms_c e102 (Nat.ne_of_beq_eq_false rfl)) 12)) h83), (bd_r ((congrFun (ms_c e104 (Nat.ne_of_beq_eq_false rfl)) 17).trans (congrFun (ms_c e102 (Nat.ne_of_beq_eq_false rfl)) 17)) h84), (ab_c ((ms_c e104 (Nat.ne_of_beq_eq_false rfl)).trans (ms_c e102 (Nat.ne_of_beq_eq_false rfl))) (ab_i fc92 (ab_i fc76 (ab_i fc15 hp4 (bd_w (l := (-1)) (h := 999) (bd_adc (c := 1) (h := 7) h8 ho97.1 (bd_le_hi h69 ho97.2 (bd_le_lo (bd_sub (l := (-1)) (h := 8) (hp5).2.1 (bd_c (v := 1) (lo := 1) (hi := 1) (by decide)) (by decide)) ho99.2 h8)) (by decide)) (by decide))) (bd_w (l := (-1)) (h := 999) (bd_le_hi (bd_le_lo h69 ho97.1 (bd_add (l := 1) (h := 9) (bd_le_hi h8 ho99.2 (bd_le_lo (bd_sub (l := (-1)) (h := 8) (hp5).2.1 (bd_c (v := 1) (lo := 1) (hi := 1) (by decide)) (by decide)) ho97.2 h69)) (bd_c (v := 1) (lo := 1) (hi := 1) (by decide)) (by decide))) ho97.2 (bd_le_lo (bd_sub (l := (-1)) (h := 8) (hp5).2.1 (bd_c (v := 1) (lo := 1) (hi := 1) (by decide)) (by decide)) ho99.2 (bd_adc (c := 1) (h := 998) h8 ho97.1 h69 (by decide)))) (by decide))) (bd_w (l := (-1)) (h := 999) h85 (by decide)))), (rh_p1 e104 (bd_w (l := 0) (h := 8) (bd_adc (c := 1) (h := 7) h8 ho97.1 (bd_le_hi h69 ho97.2 (bd_le_lo (bd_sub (l := (-1)) (h := 8) (hp5).2.1 (bd_c (v := 1) (lo := 1) (hi := 1) (by decide)) (by decide)) ho99.2 h8)) (by decide)) (by decide)) (bd_w (l := 0) (h := 15) (bd_add (l := 10) (h := 10) (bd_r c18 (bd_c (v := 9) (lo := 9) (hi := 9) (by decide))) (bd_c (v := 1) (lo := 1) (hi := 1) (by decide)) (by decide)) (by decide)) (bd_w (l := (-1)) (h := 999) h85 (by decide)) (bd_n89 (bd_add (l := 10) (h := 10) (bd_r c18 (bd_c (v := 9) (lo := 9) (hi := 9) (by decide))) (bd_c (v := 1) (lo := 1) (hi := 1) (by decide)) (by decide)) (by decide)) (rh_p e102 (bd_w (l := 0) (h := 8) (bd_adc (c := 1) (h := 7) h8 ho97.1 (bd_le_hi h69 ho97.2 (bd_le_lo (bd_sub (l := (-1)) (h := 8) (hp5).2.1 (bd_c (v := 1) (lo := 1) (hi := 1) (by decide)) (by decide)) ho99.2 h8)) (by decide)) (by decide)) (bd_w (l := 0) (h := 15) (bd_r c18 (bd_c (v := 9) (lo := 9) (hi := 9) (by decide))) (by decide)) (bd_w (l := (-1)) (h := 999) (bd_le_hi (bd_le_lo h69 ho97.1 (bd_add (l := 1) (h := 9) (bd_le_hi h8 ho99.2 (bd_le_lo (bd_sub (l := (-1)) (h := 8) (hp5).2.1 (bd_c (v := 1) (lo := 1) (hi := 1) (by decide)) (by decide)) ho97.2 h69)) (bd_c (v := 1) (lo := 1) (hi := 1) (by decide)) (by decide))) ho97.2 (bd_le_lo (bd_sub (l := (-1)) (h := 8) (hp5).2.1 (bd_c (v := 1) (lo := 1) (hi := 1) (by decide)) (by decide)) ho99.2 (bd_adc (c := 1) (h := 998) h8 ho97.1 h69 (by decide)))) (by decide)) (fun _ => (bd_w (l := (-1)) (h := 8) (bd_le_hi (bd_le_lo h69 ho97.1 (bd_add (l := 1) (h := 9) (bd_le_hi h8 ho99.2 (bd_le_lo (bd_sub (l := (-1)) (h := 8) (hp5).2.1 (bd_c (v := 1) (lo := 1) (hi := 1) (by decide)) (by decide)) ho97.2 h69)) (bd_c (v := 1) (lo := 1) (hi := 1) (by decide)) (by decide))) ho97.2 (bd_le_lo (bd_sub (l := (-1)) (h := 8) (hp5).2.1 (bd_c (v := 1) (lo := 1) (hi := 1) (by decide)) (by decide)) ho99.2 (bd_adc (c := 1) (h := 998) h8 ho97.1 h69 (by decide)))) (by decide))) (rh_c ((fr90 170 (Nat.ne_of_beq_eq_false rfl) (Nat.ne_of_beq_eq_false rfl)).trans ((fr74 170 (Nat.ne_of_beq_eq_false rfl) (Nat.ne_of_beq_eq_false rfl)).trans (fr13 170 (Nat.ne_of_beq_eq_false rfl) (Nat.ne_of_beq_eq_false rfl)))) hp5))), (fun _ => (gv_r rfl ((congrFun (ms_c e104 (Nat.ne_of_beq_eq_false rfl)) 8).trans (congrFun (ms_c e102 (Nat.ne_of_beq_eq_false rfl)) 8)) ((congrFun (ms_c e104 (Nat.ne_of_beq_eq_false rfl)) 11).trans (congrFun (ms_c e102 (Nat.ne_of_beq_eq_false rfl)) 11)) (gv_t (gv_t (h9 c16) (h70 c77)) (h86 c93)))), E, (fun c k_ => ((ms_c e104 (nin_ne (a := 170) k_ rfl)).trans ((ms_c e102 (nin_ne (a := 170) k_ rfl)).trans ((fr90 c (nin_ne (a := 162) k_ rfl) (nin_ne (a := 171) k_ rfl)).trans ((fr74 c (nin_ne (a := 162) k_ rfl) (nin_ne (a := 171) k_ rfl)).trans (fr13 c (nin_ne (a := 162) k_ rfl) (nin_ne (a := 171) k_ rfl))))))), (fun j k8_ k10_ k11_ k12_ k14_ k15_ k16_ k17_ k18_ => ((congrFun (ms_c e104 (Nat.ne_of_beq_eq_false rfl)) j).trans ((congrFun (ms_c e102 (Nat.ne_of_beq_eq_false rfl)) j).trans ((fc91 j k8_ k10_ k11_ k12_ k14_ k15_ k16_ k17_ k18_).trans ((fc75 j k8_ k10_ k11_ k12_ k14_ k15_ k16_ k17_ k18_).trans (fc14 j k8_ k10_ k11_ k12_ k14_ k15_ k16_ k17_ k18_))))))⟩
          · replace E := xq_ef c93 E
            refine J_iconst (v := 0) dX11_ofPond_97 (by decide) ?_
            exact J_zret hq dX11_ofPond_98 rfl rfl wlen (Nat.le_refl _) (Nat.le_refl _) ⟨false, u80, g81, rfl, rfl, h82, h83, h84, (ab_i fc92 (ab_i fc76 (ab_i fc15 hp4 (bd_w (l := (-1)) (h := 999) h8 (by decide))) (bd_w (l := (-1)) (h := 999) h69 (by decide))) (bd_w (l := (-1)) (h := 999) h85 (by decide))), (rh_c ((fr90 170 (Nat.ne_of_beq_eq_false rfl) (Nat.ne_of_beq_eq_false rfl)).trans ((fr74 170 (Nat.ne_of_beq_eq_false rfl) (Nat.ne_of_beq_eq_false rfl)).trans (fr13 170 (Nat.ne_of_beq_eq_false rfl) (Nat.ne_of_beq_eq_false rfl)))) hp5), (fun q => absurd q (by decide)), E, (fun c k_ => ((fr90 c (nin_ne (a := 162) k_ rfl) (nin_ne (a := 171) k_ rfl)).trans ((fr74 c (nin_ne (a := 162) k_ rfl) (nin_ne (a := 171) k_ rfl)).trans (fr13 c (nin_ne (a := 162) k_ rfl) (nin_ne (a := 171) k_ rfl))))), (fun j k8_ k10_ k11_ k12_ k14_ k15_ k16_ k17_ k18_ => ((fc91 j k8_ k10_ k11_ k12_ k14_ k15_ k16_ k17_ k18_).trans ((fc75 j k8_ k10_ k11_ k12_ k14_ k15_ k16_ k17_ k18_).trans (fc14 j k8_ k10_ k11_ k12_ k14_ k15_ k16_ k17_ k18_))))⟩
  · replace E := xq_ef c16 E
    refine J_iconst (v := 0) dX11_ofPond_17 (by decide) ?_
    exact J_zret hq dX11_ofPond_18 rfl rfl wlen (Nat.le_refl _) (Nat.le_refl _) ⟨false, u3, g4, rfl, rfl, h5, h6, h7, (ab_i fc15 hp4 (bd_w (l := (-1)) (h := 999) h8 (by decide))), (rh_c (fr13 170 (Nat.ne_of_beq_eq_false rfl) (Nat.ne_of_beq_eq_false rfl)) hp5), (fun q => absurd q (by decide)), E, (fun c k_ => (fr13 c (nin_ne (a := 162) k_ rfl) (nin_ne (a := 171) k_ rfl))), (fun j k8_ k10_ k11_ k12_ k14_ k15_ k16_ k17_ k18_ => (fc14 j k8_ k10_ k11_ k12_ k14_ k15_ k16_ k17_ k18_))⟩
set_option maxRecDepth 100000 in
noncomputable def Fx_M_daysLineX_J30 (to : Int32) (t2 : Bool) (u3 : Nat → Nat → Int32) (g4 : Nat → Nat → Int64) (w16 : Int32) : Bool × (Nat → Nat → Int32) × (Nat → Nat → Int64) := xq_lt (ms u3 170 to.toNatClampNeg w16) fun u18 => (t2, u18, g4)
set_option maxRecDepth 100000 in
noncomputable def Fx_M_daysLineX (to : Int32) (u : Nat → Nat → Int32) (g : Nat → Nat → Int64) : Bool × (Nat → Nat → Int32) × (Nat → Nat → Int64) := xq_c3 (Fx_M_numberX (0 : Int32) (99 : Int32) u g) fun t2 u3 g4 => if t2 = true then (Fx_M_daysLineX_J30 to t2 u3 g4 (u3 162 17)) else (xq_lt (u3 170 to.toNatClampNeg) fun v20 => Fx_M_daysLineX_J30 to t2 u3 g4 v20)
set_option maxHeartbeats 4000000 in
set_option maxRecDepth 100000 in
theorem c_M_daysLineX {d : Nat} {u : Nat → Nat → Int32} {g : Nat → Nat → Int64} {ex : List MC} {to : Int32} (hd : 3 ≤ d) (hp0 : Bd 0 600 (u 162 8)) (hp1 : Bd 0 600 (u 162 9)) (hp2 : Bd 0 999 (u 162 12)) (hp3 : Bd 0 999 (u 162 17)) (hp4 : AB u 171 (-1) 999) (hp5 : (RH u)) (hp6 : Bd 2 4 to) : CT con0 d 0 0 yX11_daysLine cX11_daysLine 3 (some .boolean) [.ref 162, .int to] (Wd u g ex) (fun r h2 => ∃ (z : Bool) (u2 : Nat → Nat → Int32) (g2 : Nat → Nat → Int64), r = some (.int (bI z)) ∧ h2 = Wd u2 g2 ex ∧ Bd 0 600 (u2 162 8) ∧ Bd 0 999 (u2 162 12) ∧ Bd 0 999 (u2 162 17) ∧ AB u2 171 (-1) 999 ∧ (RH u2) ∧ (z = true → GV (u 162 8) (u2 162 8) (u2 162 11)) ∧ (z, u2, g2) = Fx_M_daysLineX to u g ∧ (∀ c, nin c [(162, 162), (170, 171)] = true → u2 c = u c) ∧ (∀ j, j ≠ 8 → j ≠ 10 → j ≠ 11 → j ≠ 12 → j ≠ 14 → j ≠ 15 → j ≠ 16 → j ≠ 17 → j ≠ 18 → u2 162 j = u 162 j)) := by
  refine CT_of (by decide) (Nat.le_of_ble_eq_true rfl) (fun x hq => ?_)
  show J x yX11_daysLine cX11_daysLine 3 (some .boolean) d 0 0 (Wd u g ex).length 0 [(0, .ref 162), (1, .int to)] [] (Wd u g ex) 0 0
  have E : Fx_M_daysLineX to u g = Fx_M_daysLineX to u g := rfl
  refine J_aload_n (i := 0) (j := 0) dX11_daysLine_0 rfl rfl ?_
  refine J_iconst (v := 0) dX11_daysLine_1 (by decide) ?_
  refine J_bipush (v := 99) dX11_daysLine_2 (by decide) ?_
  refine J_callV (As := [.int 0, .int 99]) (rest := []) dX11_daysLine_4 (c_M_numberX (d := 2) (u := u) (g := g) (ex := ex) (low := 0) (high := 99)  (by decide) hp0 hp1 hp2 hp3) hq.n k1460 k1462 k45 wc_162 rfl rfl k97 k1463 np_X11_number (Nat.le_trans (by decide) hd) (by decide) (Nat.le_refl _) (Nat.le_refl _) wlen rfl (Nat.le_of_ble_eq_true rfl) (fun r_ h_ p1 => ?_)
  obtain ⟨t2, u3, g4, rfl, rfl, h5, h6, h7, h8, h9, h10, hx11, fr12, fc13⟩ := p1
  replace E := xq_e3 hx11 E
  refine J_istore_n (i := 2) (lw := [(2, .int (bI t2)), (0, .ref 162), (1, .int to)]) dX11_daysLine_7 rfl (by decide) rfl ?_
  refine J_aload_n (i := 0) (j := 1) dX11_daysLine_8 rfl rfl ?_
  refine J_get (C := RX11) (T := TX11) (Z := 43) (ci := 11) (f := 19) dX11_daysLine_9 inG11 rfl (by decide) k1283 wc_162 rfl ?_
  refine J_iload_n (i := 1) (j := 2) dX11_daysLine_12 rfl rfl ?_
  refine J_iload_n (i := 2) (j := 0) dX11_daysLine_13 rfl rfl ?_
  have jn17 : ∀ (w16 : Int32), Bd (-1) 999 w16 → Fx_M_daysLineX_J30 to t2 u3 g4 w16 = Fx_M_daysLineX to u g → J x yX11_daysLine cX11_daysLine 3 (some .boolean) d 0 0 (Wd u g ex).length 30 [(2, .int (bI t2))] [.int w16, .int to, .ref 170] (Wd u3 g4 ex) 0 0 := by
    intro w16 bw16 E
    obtain ⟨u18, e19⟩ : ∃ z, z = ms u3 170 to.toNatClampNeg w16 := ⟨_, rfl⟩
    refine J_iast dX11_daysLine_30 wc_170 (vin hp6 (by decide)) (ws e19 wk_170 rfl) ?_
    replace E := xq_le e19 E
    refine J_iload_n (i := 2) (j := 0) dX11_daysLine_31 rfl rfl ?_
    exact J_zret hq dX11_daysLine_32 rfl (bI_n _) wlen (Nat.le_refl _) (Nat.le_refl _) ⟨t2, u18, g4, rfl, rfl, (bd_r (congrFun (ms_c e19 (Nat.ne_of_beq_eq_false rfl)) 8) h5), (bd_r (congrFun (ms_c e19 (Nat.ne_of_beq_eq_false rfl)) 12) h6), (bd_r (congrFun (ms_c e19 (Nat.ne_of_beq_eq_false rfl)) 17) h7), (ab_c ((ms_c e19 (Nat.ne_of_beq_eq_false rfl)).trans (fr12 171 (Nat.ne_of_beq_eq_false rfl))) hp4), (rh_d e19 hp6 bw16 (rh_c (fr12 170 (Nat.ne_of_beq_eq_false rfl)) hp5)), (fun q => (gv_r rfl (congrFun (ms_c e19 (Nat.ne_of_beq_eq_false rfl)) 8) (congrFun (ms_c e19 (Nat.ne_of_beq_eq_false rfl)) 11) (h8 q))), E, (fun c k_ => ((ms_c e19 (nin_ne (a := 170) k_ rfl)).trans (fr12 c (nin_ne (a := 162) k_ rfl)))), (fun j k8_ k10_ k11_ k12_ k14_ k15_ k16_ k17_ k18_ => ((congrFun (ms_c e19 (Nat.ne_of_beq_eq_false rfl)) j).trans (fc13 j k8_ k10_ k11_ k12_ k14_ k15_ k16_ k17_ k18_)))⟩
  refine J_ifB_eq (tgt := 24) dX11_daysLine_14 (by decide) (fun c14 => ?_) (fun c14 => ?_)
  · replace E := xq_ef c14 E
    refine J_aload_n (i := 0) (j := 1) dX11_daysLine_24 rfl rfl ?_
    refine J_get (C := RX11) (T := TX11) (Z := 43) (ci := 11) (f := 19) dX11_daysLine_25 inG11 rfl (by decide) k1283 wc_162 rfl ?_
    refine J_iload_n (i := 1) (j := 2) dX11_daysLine_28 rfl rfl ?_
    refine J_iald dX11_daysLine_29 wc_170 (vin hp6 (by decide)) ?_
    refine J_topi (fun v20 qv20 => ?_)
    replace E := xq_le qv20 E
    refine J_lv [0] rfl ?_
    exact jn17 v20 (bd_r qv20 ((ab_c (fr12 170 (Nat.ne_of_beq_eq_false rfl)) (hp5).1) to.toNatClampNeg)) E
  · replace E := xq_ep c14 E
    refine J_aload_n (i := 0) (j := 1) dX11_daysLine_17 rfl rfl ?_
    refine J_get (C := RX11) (T := TX11) (Z := 43) (ci := 11) (f := 17) dX11_daysLine_18 inG11 rfl (by decide) k1281 wc_162 rfl ?_
    refine J_goto (tgt := 30) dX11_daysLine_21 (by decide) ?_
    refine J_lv [0] rfl ?_
    exact jn17 (u3 162 17) (bd_w (l := (-1)) (h := 999) h7 (by decide)) E
set_option maxRecDepth 100000 in
noncomputable def Fx_M_hillLineX_J328 (w18 : Int32) (u22 : Nat → Nat → Int32) (g23 : Nat → Nat → Int64) (w52 : Int32) : Bool × (Nat → Nat → Int32) × (Nat → Nat → Int64) := if w18 = (9 : Int32) then (xq_c3 (Fx_M_ofPond2X w18 (0 : Int32) w52 (10 : Int32) u22 g23) fun t56 u57 g58 => (t56, u57, g58)) else (if w18 = (13 : Int32) then (xq_c3 (Fx_M_ofPond2X w18 (0 : Int32) w52 (10 : Int32) u22 g23) fun t83 u84 g85 => (t83, u84, g85)) else (xq_c3 (Fx_M_ofPond1X w18 (0 : Int32) w52 (10 : Int32) u22 g23) fun t70 u71 g72 => (t70, u71, g72)))
set_option maxRecDepth 100000 in
noncomputable def Fx_M_hillLineX_J184 (at0 : Int32) (u : Nat → Nat → Int32) (g : Nat → Nat → Int64) (w3 : Int64) (w18 : Int32) : Bool × (Nat → Nat → Int32) × (Nat → Nat → Int64) := if w18 = ((-1) : Int32) then (if (lg_cmp w3 (1886350948 : Int64)) = (0 : Int32) then (xq_c2 (Fx_M_tokenX u g) fun u114 g115 => xq_c3 (Fx_M_pondLineX at0 u114 g115) fun t125 u126 g127 => (t125, u126, g127)) else (if (lg_cmp w3 (1918986606 : Int64)) = (0 : Int32) then (xq_c2 (Fx_M_tokenX u g) fun u139 g140 => xq_c3 (Fx_M_rainLineX at0 u139 g140) fun t150 u151 g152 => (t150, u151, g152)) else (xq_lt (Fx_M_stopsX u g) fun u163 => (false, u163, g)))) else (xq_c2 (Fx_M_tokenX u g) fun u22 g23 => if (lg_cmp w3 (1886350948 : Int64)) = (0 : Int32) then (xq_c3 (Fx_M_pondLineX at0 u22 g23) fun t34 u35 g36 => (t34, u35, g36)) else (if (lg_cmp w3 (1918986606 : Int64)) = (0 : Int32) then (xq_c3 (Fx_M_rainLineX at0 u22 g23) fun t100 u101 g102 => (t100, u101, g102)) else (if w18 = (3 : Int32) then (Fx_M_hillLineX_J328 w18 u22 g23 (24 : Int32)) else (if w18 = (4 : Int32) then (Fx_M_hillLineX_J328 w18 u22 g23 (10 : Int32)) else (if w18 = (13 : Int32) then (Fx_M_hillLineX_J328 w18 u22 g23 (10 : Int32)) else (if w18 = (5 : Int32) then (Fx_M_hillLineX_J328 w18 u22 g23 (999 : Int32)) else (if w18 = (6 : Int32) then (Fx_M_hillLineX_J328 w18 u22 g23 (3 : Int32)) else (Fx_M_hillLineX_J328 w18 u22 g23 (99 : Int32)))))))))
set_option maxRecDepth 100000 in
noncomputable def Fx_M_hillLineX_J184b (at0 : Int32) (u : Nat → Nat → Int32) (g : Nat → Nat → Int64) (w3 : Int64) (w186 : Int32) : Bool × (Nat → Nat → Int32) × (Nat → Nat → Int64) := xq_c2 (Fx_M_tokenX u g) fun u189 g190 => if (lg_cmp w3 (1886350948 : Int64)) = (0 : Int32) then (xq_c3 (Fx_M_pondLineX at0 u189 g190) fun t201 u202 g203 => (t201, u202, g203)) else (if (lg_cmp w3 (1918986606 : Int64)) = (0 : Int32) then (xq_c3 (Fx_M_rainLineX at0 u189 g190) fun t228 u229 g230 => (t228, u229, g230)) else (xq_c3 (Fx_M_daysLineX (4 : Int32) u189 g190) fun t215 u216 g217 => (t215, u216, g217)))
set_option maxRecDepth 100000 in
noncomputable def Fx_M_hillLineX_J184c (at0 : Int32) (u : Nat → Nat → Int32) (g : Nat → Nat → Int64) (w3 : Int64) (w259 : Int32) : Bool × (Nat → Nat → Int32) × (Nat → Nat → Int64) := xq_c2 (Fx_M_tokenX u g) fun u262 g263 => if (lg_cmp w3 (1886350948 : Int64)) = (0 : Int32) then (xq_c3 (Fx_M_pondLineX at0 u262 g263) fun t274 u275 g276 => (t274, u275, g276)) else (if (lg_cmp w3 (1918986606 : Int64)) = (0 : Int32) then (xq_c3 (Fx_M_rainLineX at0 u262 g263) fun t301 u302 g303 => (t301, u302, g303)) else (xq_c3 (Fx_M_daysLineX (3 : Int32) u262 g263) fun t288 u289 g290 => (t288, u289, g290)))
set_option maxRecDepth 100000 in
noncomputable def Fx_M_hillLineX_J184d (at0 : Int32) (u : Nat → Nat → Int32) (g : Nat → Nat → Int64) (w3 : Int64) (w332 : Int32) : Bool × (Nat → Nat → Int32) × (Nat → Nat → Int64) := xq_c2 (Fx_M_tokenX u g) fun u335 g336 => if (lg_cmp w3 (1886350948 : Int64)) = (0 : Int32) then (xq_c3 (Fx_M_pondLineX at0 u335 g336) fun t347 u348 g349 => (t347, u348, g349)) else (if (lg_cmp w3 (1918986606 : Int64)) = (0 : Int32) then (xq_c3 (Fx_M_rainLineX at0 u335 g336) fun t374 u375 g376 => (t374, u375, g376)) else (xq_c3 (Fx_M_daysLineX (2 : Int32) u335 g336) fun t361 u362 g363 => (t361, u362, g363)))
set_option maxRecDepth 100000 in
noncomputable def Fx_M_hillLineX_J16 (at0 : Int32) (u : Nat → Nat → Int32) (g : Nat → Nat → Int64) (w3 : Int64) : Bool × (Nat → Nat → Int32) × (Nat → Nat → Int64) := if (lg_cmp w3 (1835363940 : Int64)) = (0 : Int32) then (if (lg_cmp w3 (1685026670 : Int64)) = (0 : Int32) then (Fx_M_hillLineX_J184d at0 u g w3 (8 : Int32)) else (if (lg_cmp w3 (418548114533 : Int64)) = (0 : Int32) then (Fx_M_hillLineX_J184d at0 u g w3 (9 : Int32)) else (if (lg_cmp w3 (422607680115 : Int64)) = (0 : Int32) then (Fx_M_hillLineX_J184d at0 u g w3 (3 : Int32)) else (if (lg_cmp w3 (1735353715 : Int64)) = (0 : Int32) then (Fx_M_hillLineX_J184d at0 u g w3 (4 : Int32)) else (if (lg_cmp w3 (1751216749 : Int64)) = (0 : Int32) then (Fx_M_hillLineX_J184d at0 u g w3 (5 : Int32)) else (if (lg_cmp w3 (478745093490 : Int64)) = (0 : Int32) then (Fx_M_hillLineX_J184d at0 u g w3 (6 : Int32)) else (if (lg_cmp w3 (1919509349 : Int64)) = (0 : Int32) then (Fx_M_hillLineX_J184d at0 u g w3 (7 : Int32)) else (if (lg_cmp w3 (7823737 : Int64)) = (0 : Int32) then (Fx_M_hillLineX_J184d at0 u g w3 (11 : Int32)) else (if (lg_cmp w3 (1734440037 : Int64)) = (0 : Int32) then (Fx_M_hillLineX_J184d at0 u g w3 (12 : Int32)) else (if (lg_cmp w3 (1936287598 : Int64)) = (0 : Int32) then (Fx_M_hillLineX_J184d at0 u g w3 (13 : Int32)) else (Fx_M_hillLineX_J184d at0 u g w3 ((-1) : Int32)))))))))))) else (if (lg_cmp w3 (2003395685 : Int64)) = (0 : Int32) then (if (lg_cmp w3 (1685026670 : Int64)) = (0 : Int32) then (Fx_M_hillLineX_J184c at0 u g w3 (8 : Int32)) else (if (lg_cmp w3 (418548114533 : Int64)) = (0 : Int32) then (Fx_M_hillLineX_J184c at0 u g w3 (9 : Int32)) else (if (lg_cmp w3 (422607680115 : Int64)) = (0 : Int32) then (Fx_M_hillLineX_J184c at0 u g w3 (3 : Int32)) else (if (lg_cmp w3 (1735353715 : Int64)) = (0 : Int32) then (Fx_M_hillLineX_J184c at0 u g w3 (4 : Int32)) else (if (lg_cmp w3 (1751216749 : Int64)) = (0 : Int32) then (Fx_M_hillLineX_J184c at0 u g w3 (5 : Int32)) else (if (lg_cmp w3 (478745093490 : Int64)) = (0 : Int32) then (Fx_M_hillLineX_J184c at0 u g w3 (6 : Int32)) else (if (lg_cmp w3 (1919509349 : Int64)) = (0 : Int32) then (Fx_M_hillLineX_J184c at0 u g w3 (7 : Int32)) else (if (lg_cmp w3 (7823737 : Int64)) = (0 : Int32) then (Fx_M_hillLineX_J184c at0 u g w3 (11 : Int32)) else (if (lg_cmp w3 (1734440037 : Int64)) = (0 : Int32) then (Fx_M_hillLineX_J184c at0 u g w3 (12 : Int32)) else (if (lg_cmp w3 (1936287598 : Int64)) = (0 : Int32) then (Fx_M_hillLineX_J184c at0 u g w3 (13 : Int32)) else (Fx_M_hillLineX_J184c at0 u g w3 ((-1) : Int32)))))))))))) else (if (lg_cmp w3 (491496238692 : Int64)) = (0 : Int32) then (if (lg_cmp w3 (1685026670 : Int64)) = (0 : Int32) then (Fx_M_hillLineX_J184b at0 u g w3 (8 : Int32)) else (if (lg_cmp w3 (418548114533 : Int64)) = (0 : Int32) then (Fx_M_hillLineX_J184b at0 u g w3 (9 : Int32)) else (if (lg_cmp w3 (422607680115 : Int64)) = (0 : Int32) then (Fx_M_hillLineX_J184b at0 u g w3 (3 : Int32)) else (if (lg_cmp w3 (1735353715 : Int64)) = (0 : Int32) then (Fx_M_hillLineX_J184b at0 u g w3 (4 : Int32)) else (if (lg_cmp w3 (1751216749 : Int64)) = (0 : Int32) then (Fx_M_hillLineX_J184b at0 u g w3 (5 : Int32)) else (if (lg_cmp w3 (478745093490 : Int64)) = (0 : Int32) then (Fx_M_hillLineX_J184b at0 u g w3 (6 : Int32)) else (if (lg_cmp w3 (1919509349 : Int64)) = (0 : Int32) then (Fx_M_hillLineX_J184b at0 u g w3 (7 : Int32)) else (if (lg_cmp w3 (7823737 : Int64)) = (0 : Int32) then (Fx_M_hillLineX_J184b at0 u g w3 (11 : Int32)) else (if (lg_cmp w3 (1734440037 : Int64)) = (0 : Int32) then (Fx_M_hillLineX_J184b at0 u g w3 (12 : Int32)) else (if (lg_cmp w3 (1936287598 : Int64)) = (0 : Int32) then (Fx_M_hillLineX_J184b at0 u g w3 (13 : Int32)) else (Fx_M_hillLineX_J184b at0 u g w3 ((-1) : Int32)))))))))))) else (if (lg_cmp w3 (1685026670 : Int64)) = (0 : Int32) then (Fx_M_hillLineX_J184 at0 u g w3 (8 : Int32)) else (if (lg_cmp w3 (418548114533 : Int64)) = (0 : Int32) then (Fx_M_hillLineX_J184 at0 u g w3 (9 : Int32)) else (if (lg_cmp w3 (422607680115 : Int64)) = (0 : Int32) then (Fx_M_hillLineX_J184 at0 u g w3 (3 : Int32)) else (if (lg_cmp w3 (1735353715 : Int64)) = (0 : Int32) then (Fx_M_hillLineX_J184 at0 u g w3 (4 : Int32)) else (if (lg_cmp w3 (1751216749 : Int64)) = (0 : Int32) then (Fx_M_hillLineX_J184 at0 u g w3 (5 : Int32)) else (if (lg_cmp w3 (478745093490 : Int64)) = (0 : Int32) then (Fx_M_hillLineX_J184 at0 u g w3 (6 : Int32)) else (if (lg_cmp w3 (1919509349 : Int64)) = (0 : Int32) then (Fx_M_hillLineX_J184 at0 u g w3 (7 : Int32)) else (if (lg_cmp w3 (7823737 : Int64)) = (0 : Int32) then (Fx_M_hillLineX_J184 at0 u g w3 (11 : Int32)) else (if (lg_cmp w3 (1734440037 : Int64)) = (0 : Int32) then (Fx_M_hillLineX_J184 at0 u g w3 (12 : Int32)) else (if (lg_cmp w3 (1936287598 : Int64)) = (0 : Int32) then (Fx_M_hillLineX_J184 at0 u g w3 (13 : Int32)) else (Fx_M_hillLineX_J184 at0 u g w3 ((-1) : Int32))))))))))))))
set_option maxRecDepth 100000 in
noncomputable def Fx_M_hillLineX (at0 : Int32) (u : Nat → Nat → Int32) (g : Nat → Nat → Int64) : Bool × (Nat → Nat → Int32) × (Nat → Nat → Int64) := if (u 162 11) = (2 : Int32) then (xq_lt (g 162 13) fun l395 => Fx_M_hillLineX_J16 at0 u g l395) else (Fx_M_hillLineX_J16 at0 u g (0 : Int64))
set_option maxHeartbeats 4000000 in
set_option maxRecDepth 100000 in
theorem c_M_hillLineX {d : Nat} {u : Nat → Nat → Int32} {g : Nat → Nat → Int64} {ex : List MC} {at0 : Int32} (hd : 5 ≤ d) (hp0 : Bd 0 600 (u 162 8)) (hp1 : Bd 0 600 (u 162 9)) (hp2 : Bd 0 999 (u 162 12)) (hp3 : Bd 0 999 (u 162 17)) (hp4 : AB u 171 (-1) 999) (hp5 : (RH u)) : CT con0 d 0 0 yX11_hillLine cX11_hillLine 7 (some .boolean) [.ref 162, .int at0] (Wd u g ex) (fun r h2 => ∃ (z : Bool) (u2 : Nat → Nat → Int32) (g2 : Nat → Nat → Int64), r = some (.int (bI z)) ∧ h2 = Wd u2 g2 ex ∧ Bd 0 600 (u2 162 8) ∧ Bd 0 999 (u2 162 12) ∧ Bd 0 999 (u2 162 17) ∧ AB u2 171 (-1) 999 ∧ (RH u2) ∧ (z = true → GV (u 162 8) (u2 162 8) (u2 162 11)) ∧ (z, u2, g2) = Fx_M_hillLineX at0 u g ∧ (∀ c, nin c [(162, 162), (170, 171)] = true → u2 c = u c) ∧ (∀ j, j ≠ 8 → j ≠ 10 → j ≠ 11 → j ≠ 12 → j ≠ 14 → j ≠ 15 → j ≠ 16 → j ≠ 17 → j ≠ 18 → u2 162 j = u 162 j)) := by
  refine CT_of (by decide) (Nat.le_of_ble_eq_true rfl) (fun x hq => ?_)
  show J x yX11_hillLine cX11_hillLine 7 (some .boolean) d 0 0 (Wd u g ex).length 0 [(0, .ref 162), (1, .int at0)] [] (Wd u g ex) 0 0
  have E : Fx_M_hillLineX at0 u g = Fx_M_hillLineX at0 u g := rfl
  refine J_aload_n (i := 0) (j := 0) dX11_hillLine_0 rfl rfl ?_
  refine J_get (C := RX11) (T := TX11) (Z := 43) (ci := 11) (f := 11) dX11_hillLine_1 inG11 rfl (by decide) k1275 wc_162 rfl ?_
  refine J_iconst (v := 2) dX11_hillLine_4 (by decide) ?_
  have jn4 : ∀ (w3 : Int64), Fx_M_hillLineX_J16 at0 u g w3 = Fx_M_hillLineX at0 u g → J x yX11_hillLine cX11_hillLine 7 (some .boolean) d 0 0 (Wd u g ex).length 16 [(0, .ref 162), (1, .int at0)] [.long w3] (Wd u g ex) 0 0 := by
    intro w3 E
    refine J_lstore_n (i := 2) (lw := [(2, .long w3), (0, .ref 162), (1, .int at0)]) dX11_hillLine_16 rfl (by decide) rfl ?_
    refine J_lload_n (i := 2) (j := 0) dX11_hillLine_17 rfl rfl ?_
    refine J_ldc2 (v := 1835363940) dX11_hillLine_18 k1429 ?_
    refine J_lcmp dX11_hillLine_21 ?_
    refine J_if_ne (tgt := 29) dX11_hillLine_22 (by decide) (fun c5 => ?_) (fun c5 => ?_)
    · replace E := xq_en c5 E
      refine J_lload_n (i := 2) (j := 0) dX11_hillLine_29 rfl rfl ?_
      refine J_ldc2 (v := 2003395685) dX11_hillLine_30 k1430 ?_
      refine J_lcmp dX11_hillLine_33 ?_
      refine J_if_ne (tgt := 41) dX11_hillLine_34 (by decide) (fun c6 => ?_) (fun c6 => ?_)
      · replace E := xq_en c6 E
        refine J_lload_n (i := 2) (j := 0) dX11_hillLine_41 rfl rfl ?_
        refine J_ldc2 (v := 491496238692) dX11_hillLine_42 k1431 ?_
        refine J_lcmp dX11_hillLine_45 ?_
        refine J_if_ne (tgt := 53) dX11_hillLine_46 (by decide) (fun c7 => ?_) (fun c7 => ?_)
        · replace E := xq_en c7 E
          refine J_iconst (v := (-1)) dX11_hillLine_53 (by decide) ?_
          refine J_istore (i := 4) (lw := [(4, .int (-1)), (2, .long w3), (0, .ref 162), (1, .int at0)]) dX11_hillLine_54 (by decide) rfl ?_
          refine J_lload_n (i := 2) (j := 1) dX11_hillLine_56 rfl rfl ?_
          refine J_ldc2 (v := 1685026670) dX11_hillLine_57 k1432 ?_
          refine J_lcmp dX11_hillLine_60 ?_
          have jn19 : ∀ (w18 : Int32), Bd (-1) 13 w18 → Fx_M_hillLineX_J184 at0 u g w3 w18 = Fx_M_hillLineX at0 u g → J x yX11_hillLine cX11_hillLine 7 (some .boolean) d 0 0 (Wd u g ex).length 184 [(0, .ref 162), (1, .int at0), (2, .long w3), (4, .int (-1))] [.int w18] (Wd u g ex) 0 0 := by
            intro w18 bw18 E
            refine J_istore (i := 5) (lw := [(5, .int w18), (0, .ref 162), (1, .int at0), (2, .long w3), (4, .int (-1))]) dX11_hillLine_184 (by decide) rfl ?_
            refine J_iload (i := 4) (j := 4) dX11_hillLine_186 rfl ?_
            refine J_iconst (v := (-1)) dX11_hillLine_188 (by decide) ?_
            refine J_icmp_ne (tgt := 219) dX11_hillLine_189 (by decide) (fun q => absurd (by decide) q) (fun _ => ?_)
            refine J_iload (i := 5) (j := 0) dX11_hillLine_192 rfl ?_
            refine J_iconst (v := (-1)) dX11_hillLine_194 (by decide) ?_
            refine J_icmp_ne (tgt := 219) dX11_hillLine_195 (by decide) (fun c20 => ?_) (fun c20 => ?_)
            · replace E := xq_en c20 E
              refine J_aload_n (i := 0) (j := 1) dX11_hillLine_219 rfl rfl ?_
              refine J_callV (As := []) (rest := []) dX11_hillLine_220 (c_M_tokenX (d := 1) (u := u) (g := g) (ex := ex)   (by decide) hp0 hp1 hp2) hq.n k1417 k1419 k38 wc_162 rfl rfl k97 k1420 np_X11_token (Nat.le_trans (by decide) hd) (by decide) (Nat.le_refl _) (Nat.le_refl _) wlen rfl (Nat.le_of_ble_eq_true rfl) (fun r_ h_ p21 => ?_)
              obtain ⟨u22, g23, rfl, rfl, h24, h25, h26, h27, h28, hx29, fr30, fc31⟩ := p21
              replace E := xq_e2 hx29 E
              refine J_lload_n (i := 2) (j := 3) dX11_hillLine_223 rfl rfl ?_
              refine J_ldc2 (v := 1886350948) dX11_hillLine_224 k1442 ?_
              refine J_lcmp dX11_hillLine_227 ?_
              refine J_if_eq (tgt := 239) dX11_hillLine_228 (by decide) (fun c32 => ?_) (fun c32 => ?_)
              · replace E := xq_ep c32 E
                refine J_lload_n (i := 2) (j := 3) dX11_hillLine_239 rfl rfl ?_
                refine J_ldc2 (v := 1886350948) dX11_hillLine_240 k1442 ?_
                refine J_lcmp dX11_hillLine_243 ?_
                refine J_if_ne (tgt := 255) dX11_hillLine_244 (by decide) (fun q => absurd c32 q) (fun _ => ?_)
                refine J_aload_n (i := 0) (j := 1) dX11_hillLine_247 rfl rfl ?_
                refine J_iload_n (i := 1) (j := 2) dX11_hillLine_248 rfl rfl ?_
                refine J_callV (As := [.int at0]) (rest := []) dX11_hillLine_249 (c_M_pondLineX (d := 4) (u := u22) (g := g23) (ex := ex) (at0 := at0)  (by decide) h24 (bd_r (fc31 9 (Nat.ne_of_beq_eq_false rfl) (Nat.ne_of_beq_eq_false rfl) (Nat.ne_of_beq_eq_false rfl) (Nat.ne_of_beq_eq_false rfl)) hp1) h27 (bd_r (fc31 17 (Nat.ne_of_beq_eq_false rfl) (Nat.ne_of_beq_eq_false rfl) (Nat.ne_of_beq_eq_false rfl) (Nat.ne_of_beq_eq_false rfl)) hp3) (ab_c (fr30 171 (Nat.ne_of_beq_eq_false rfl)) hp4) (rh_c (fr30 170 (Nat.ne_of_beq_eq_false rfl)) hp5)) hq.n k1448 k1450 k42 wc_162 rfl rfl k97 k1451 np_X11_pondLine (Nat.le_trans (by decide) hd) (by decide) (Nat.le_refl _) (Nat.le_refl _) wlen rfl (Nat.le_of_ble_eq_true rfl) (fun r_ h_ p33 => ?_)
                obtain ⟨t34, u35, g36, rfl, rfl, h37, h38, h39, h40, h41, h42, hx43, fr44, fc45⟩ := p33
                replace E := xq_e3 hx43 E
                refine J_goto (tgt := 260) dX11_hillLine_252 (by decide) ?_
                exact J_zret hq dX11_hillLine_260 rfl (bI_n _) wlen (Nat.le_refl _) (Nat.le_refl _) ⟨t34, u35, g36, rfl, rfl, h37, h38, h39, h40, h41, (fun q => (gv_r rfl rfl rfl (gv_t h28 (h42 q)))), E, (fun c k_ => ((fr44 c (nin_sub (M := [(162, 162), (170, 171)]) k_ rfl)).trans (fr30 c (nin_ne (a := 162) k_ rfl)))), (fun j k8_ k10_ k11_ k12_ k14_ k15_ k16_ k17_ k18_ => ((fc45 j k8_ k10_ k11_ k12_ k14_ k15_ k16_ k17_ k18_).trans (fc31 j k8_ k10_ k11_ k12_)))⟩
              · replace E := xq_en c32 E
                refine J_lload_n (i := 2) (j := 3) dX11_hillLine_231 rfl rfl ?_
                refine J_ldc2 (v := 1918986606) dX11_hillLine_232 k1443 ?_
                refine J_lcmp dX11_hillLine_235 ?_
                refine J_if_ne (tgt := 261) dX11_hillLine_236 (by decide) (fun c46 => ?_) (fun c46 => ?_)
                · replace E := xq_en c46 E
                  refine J_iload (i := 4) (j := 4) dX11_hillLine_261 rfl ?_
                  refine J_iconst (v := (-1)) dX11_hillLine_263 (by decide) ?_
                  refine J_icmp_eq (tgt := 274) dX11_hillLine_264 (by decide) (fun _ => ?_) (fun q => absurd (by decide) q)
                  refine J_iload (i := 5) (j := 0) dX11_hillLine_274 rfl ?_
                  refine J_iconst (v := 3) dX11_hillLine_276 (by decide) ?_
                  have jn53 : ∀ (w52 : Int32), Bd 3 999 w52 → Fx_M_hillLineX_J328 w18 u22 g23 w52 = Fx_M_hillLineX at0 u g → J x yX11_hillLine cX11_hillLine 7 (some .boolean) d 0 0 (Wd u g ex).length 328 [(0, .ref 162), (5, .int w18)] [.int w52] (Wd u22 g23 ex) 0 0 := by
                    intro w52 bw52 E
                    refine J_istore (i := 6) (lw := [(6, .int w52), (0, .ref 162), (5, .int w18)]) dX11_hillLine_328 (by decide) rfl ?_
                    refine J_aload_n (i := 0) (j := 1) dX11_hillLine_330 rfl rfl ?_
                    refine J_iload (i := 5) (j := 2) dX11_hillLine_331 rfl ?_
                    refine J_iload (i := 5) (j := 2) dX11_hillLine_333 rfl ?_
                    refine J_bipush (v := 9) dX11_hillLine_335 (by decide) ?_
                    refine J_icmp_eq (tgt := 347) dX11_hillLine_337 (by decide) (fun c54 => ?_) (fun c54 => ?_)
                    · replace E := xq_ep c54 E
                      refine J_iconst (v := 2) dX11_hillLine_347 (by decide) ?_
                      refine J_goto (tgt := 352) dX11_hillLine_348 (by decide) ?_
                      refine J_iconst (v := 0) dX11_hillLine_352 (by decide) ?_
                      refine J_iload (i := 6) (j := 0) dX11_hillLine_353 rfl ?_
                      refine J_bipush (v := 10) dX11_hillLine_355 (by decide) ?_
                      refine J_callV (As := [.int w18, .int 2, .int 0, .int w52, .int 10]) (rest := []) dX11_hillLine_357 (c_M_ofPond2X (d := 4) (u := u22) (g := g23) (ex := ex) (to := w18) (low := 0) (high := w52) (second := 10)  (by decide) h24 (bd_r (fc31 9 (Nat.ne_of_beq_eq_false rfl) (Nat.ne_of_beq_eq_false rfl) (Nat.ne_of_beq_eq_false rfl) (Nat.ne_of_beq_eq_false rfl)) hp1) h27 (bd_r (fc31 17 (Nat.ne_of_beq_eq_false rfl) (Nat.ne_of_beq_eq_false rfl) (Nat.ne_of_beq_eq_false rfl) (Nat.ne_of_beq_eq_false rfl)) hp3) (ab_c (fr30 171 (Nat.ne_of_beq_eq_false rfl)) hp4) (rh_c (fr30 170 (Nat.ne_of_beq_eq_false rfl)) hp5) (bd_w (l := 9) (h := 13) (bd_r c54 (bd_c (v := 9) (lo := 9) (hi := 9) (by decide))) (by decide))) hq.n k1472 k1474 k48 wc_162 rfl rfl k97 k1475 np_X11_ofPond (Nat.le_trans (by decide) hd) (by decide) (Nat.le_refl _) (Nat.le_refl _) wlen rfl (Nat.le_of_ble_eq_true rfl) (fun r_ h_ p55 => ?_)
                      obtain ⟨t56, u57, g58, rfl, rfl, h59, h60, h61, h62, h63, h64, hx65, fr66, fc67⟩ := p55
                      replace E := xq_e3 hx65 E
                      exact J_zret hq dX11_hillLine_360 rfl (bI_n _) wlen (Nat.le_refl _) (Nat.le_refl _) ⟨t56, u57, g58, rfl, rfl, h59, h60, h61, h62, h63, (fun q => (gv_r rfl rfl rfl (gv_t h28 (h64 q)))), E, (fun c k_ => ((fr66 c (nin_sub (M := [(162, 162), (170, 171)]) k_ rfl)).trans (fr30 c (nin_ne (a := 162) k_ rfl)))), (fun j k8_ k10_ k11_ k12_ k14_ k15_ k16_ k17_ k18_ => ((fc67 j k8_ k10_ k11_ k12_ k14_ k15_ k16_ k17_ k18_).trans (fc31 j k8_ k10_ k11_ k12_)))⟩
                    · replace E := xq_en c54 E
                      refine J_iload (i := 5) (j := 2) dX11_hillLine_340 rfl ?_
                      refine J_bipush (v := 13) dX11_hillLine_342 (by decide) ?_
                      refine J_icmp_ne (tgt := 351) dX11_hillLine_344 (by decide) (fun c68 => ?_) (fun c68 => ?_)
                      · replace E := xq_en c68 E
                        refine J_iconst (v := 1) dX11_hillLine_351 (by decide) ?_
                        refine J_iconst (v := 0) dX11_hillLine_352 (by decide) ?_
                        refine J_iload (i := 6) (j := 0) dX11_hillLine_353 rfl ?_
                        refine J_bipush (v := 10) dX11_hillLine_355 (by decide) ?_
                        refine J_callV (As := [.int w18, .int 1, .int 0, .int w52, .int 10]) (rest := []) dX11_hillLine_357 (c_M_ofPond1X (d := 4) (u := u22) (g := g23) (ex := ex) (to := w18) (low := 0) (high := w52) (second := 10)  (by decide) h24 (bd_r (fc31 9 (Nat.ne_of_beq_eq_false rfl) (Nat.ne_of_beq_eq_false rfl) (Nat.ne_of_beq_eq_false rfl) (Nat.ne_of_beq_eq_false rfl)) hp1) h27 (bd_r (fc31 17 (Nat.ne_of_beq_eq_false rfl) (Nat.ne_of_beq_eq_false rfl) (Nat.ne_of_beq_eq_false rfl) (Nat.ne_of_beq_eq_false rfl)) hp3) (ab_c (fr30 171 (Nat.ne_of_beq_eq_false rfl)) hp4) (rh_c (fr30 170 (Nat.ne_of_beq_eq_false rfl)) hp5) (bd_w (l := 0) (h := 15) (bd_ne_hi (bd_ne_lo bw18 c20 (by decide)) c68 (by decide)) (by decide))) hq.n k1472 k1474 k48 wc_162 rfl rfl k97 k1475 np_X11_ofPond (Nat.le_trans (by decide) hd) (by decide) (Nat.le_refl _) (Nat.le_refl _) wlen rfl (Nat.le_of_ble_eq_true rfl) (fun r_ h_ p69 => ?_)
                        obtain ⟨t70, u71, g72, rfl, rfl, h73, h74, h75, h76, h77, h78, hx79, fr80, fc81⟩ := p69
                        replace E := xq_e3 hx79 E
                        exact J_zret hq dX11_hillLine_360 rfl (bI_n _) wlen (Nat.le_refl _) (Nat.le_refl _) ⟨t70, u71, g72, rfl, rfl, h73, h74, h75, h76, h77, (fun q => (gv_r rfl rfl rfl (gv_t h28 (h78 q)))), E, (fun c k_ => ((fr80 c (nin_sub (M := [(162, 162), (170, 171)]) k_ rfl)).trans (fr30 c (nin_ne (a := 162) k_ rfl)))), (fun j k8_ k10_ k11_ k12_ k14_ k15_ k16_ k17_ k18_ => ((fc81 j k8_ k10_ k11_ k12_ k14_ k15_ k16_ k17_ k18_).trans (fc31 j k8_ k10_ k11_ k12_)))⟩
                      · replace E := xq_ep c68 E
                        refine J_iconst (v := 2) dX11_hillLine_347 (by decide) ?_
                        refine J_goto (tgt := 352) dX11_hillLine_348 (by decide) ?_
                        refine J_iconst (v := 0) dX11_hillLine_352 (by decide) ?_
                        refine J_iload (i := 6) (j := 0) dX11_hillLine_353 rfl ?_
                        refine J_bipush (v := 10) dX11_hillLine_355 (by decide) ?_
                        refine J_callV (As := [.int w18, .int 2, .int 0, .int w52, .int 10]) (rest := []) dX11_hillLine_357 (c_M_ofPond2X (d := 4) (u := u22) (g := g23) (ex := ex) (to := w18) (low := 0) (high := w52) (second := 10)  (by decide) h24 (bd_r (fc31 9 (Nat.ne_of_beq_eq_false rfl) (Nat.ne_of_beq_eq_false rfl) (Nat.ne_of_beq_eq_false rfl) (Nat.ne_of_beq_eq_false rfl)) hp1) h27 (bd_r (fc31 17 (Nat.ne_of_beq_eq_false rfl) (Nat.ne_of_beq_eq_false rfl) (Nat.ne_of_beq_eq_false rfl) (Nat.ne_of_beq_eq_false rfl)) hp3) (ab_c (fr30 171 (Nat.ne_of_beq_eq_false rfl)) hp4) (rh_c (fr30 170 (Nat.ne_of_beq_eq_false rfl)) hp5) (bd_w (l := 9) (h := 13) (bd_r c68 (bd_c (v := 13) (lo := 13) (hi := 13) (by decide))) (by decide))) hq.n k1472 k1474 k48 wc_162 rfl rfl k97 k1475 np_X11_ofPond (Nat.le_trans (by decide) hd) (by decide) (Nat.le_refl _) (Nat.le_refl _) wlen rfl (Nat.le_of_ble_eq_true rfl) (fun r_ h_ p82 => ?_)
                        obtain ⟨t83, u84, g85, rfl, rfl, h86, h87, h88, h89, h90, h91, hx92, fr93, fc94⟩ := p82
                        replace E := xq_e3 hx92 E
                        exact J_zret hq dX11_hillLine_360 rfl (bI_n _) wlen (Nat.le_refl _) (Nat.le_refl _) ⟨t83, u84, g85, rfl, rfl, h86, h87, h88, h89, h90, (fun q => (gv_r rfl rfl rfl (gv_t h28 (h91 q)))), E, (fun c k_ => ((fr93 c (nin_sub (M := [(162, 162), (170, 171)]) k_ rfl)).trans (fr30 c (nin_ne (a := 162) k_ rfl)))), (fun j k8_ k10_ k11_ k12_ k14_ k15_ k16_ k17_ k18_ => ((fc94 j k8_ k10_ k11_ k12_ k14_ k15_ k16_ k17_ k18_).trans (fc31 j k8_ k10_ k11_ k12_)))⟩
                  refine J_icmp_ne (tgt := 285) dX11_hillLine_277 (by decide) (fun c47 => ?_) (fun c47 => ?_)
                  · replace E := xq_en c47 E
                    refine J_iload (i := 5) (j := 0) dX11_hillLine_285 rfl ?_
                    refine J_iconst (v := 4) dX11_hillLine_287 (by decide) ?_
                    refine J_icmp_eq (tgt := 298) dX11_hillLine_288 (by decide) (fun c95 => ?_) (fun c95 => ?_)
                    · replace E := xq_ep c95 E
                      refine J_bipush (v := 10) dX11_hillLine_298 (by decide) ?_
                      refine J_goto (tgt := 328) dX11_hillLine_300 (by decide) ?_
                      refine J_lv [1, 0] rfl ?_
                      exact jn53 (10 : Int32) (bd_w (l := 3) (h := 999) (bd_c (v := 10) (lo := 10) (hi := 10) (by decide)) (by decide)) E
                    · replace E := xq_en c95 E
                      refine J_iload (i := 5) (j := 0) dX11_hillLine_291 rfl ?_
                      refine J_bipush (v := 13) dX11_hillLine_293 (by decide) ?_
                      refine J_icmp_ne (tgt := 303) dX11_hillLine_295 (by decide) (fun c96 => ?_) (fun c96 => ?_)
                      · replace E := xq_en c96 E
                        refine J_iload (i := 5) (j := 0) dX11_hillLine_303 rfl ?_
                        refine J_iconst (v := 5) dX11_hillLine_305 (by decide) ?_
                        refine J_icmp_ne (tgt := 315) dX11_hillLine_306 (by decide) (fun c97 => ?_) (fun c97 => ?_)
                        · replace E := xq_en c97 E
                          refine J_iload (i := 5) (j := 0) dX11_hillLine_315 rfl ?_
                          refine J_bipush (v := 6) dX11_hillLine_317 (by decide) ?_
                          refine J_icmp_ne (tgt := 326) dX11_hillLine_319 (by decide) (fun c98 => ?_) (fun c98 => ?_)
                          · replace E := xq_en c98 E
                            refine J_bipush (v := 99) dX11_hillLine_326 (by decide) ?_
                            refine J_lv [1, 0] rfl ?_
                            exact jn53 (99 : Int32) (bd_w (l := 3) (h := 999) (bd_c (v := 99) (lo := 99) (hi := 99) (by decide)) (by decide)) E
                          · replace E := xq_ep c98 E
                            refine J_iconst (v := 3) dX11_hillLine_322 (by decide) ?_
                            refine J_goto (tgt := 328) dX11_hillLine_323 (by decide) ?_
                            refine J_lv [1, 0] rfl ?_
                            exact jn53 (3 : Int32) (bd_w (l := 3) (h := 999) (bd_c (v := 3) (lo := 3) (hi := 3) (by decide)) (by decide)) E
                        · replace E := xq_ep c97 E
                          refine J_sipush (v := 999) dX11_hillLine_309 (by decide) ?_
                          refine J_goto (tgt := 328) dX11_hillLine_312 (by decide) ?_
                          refine J_lv [1, 0] rfl ?_
                          exact jn53 (999 : Int32) (bd_w (l := 3) (h := 999) (bd_c (v := 999) (lo := 999) (hi := 999) (by decide)) (by decide)) E
                      · replace E := xq_ep c96 E
                        refine J_bipush (v := 10) dX11_hillLine_298 (by decide) ?_
                        refine J_goto (tgt := 328) dX11_hillLine_300 (by decide) ?_
                        refine J_lv [1, 0] rfl ?_
                        exact jn53 (10 : Int32) (bd_w (l := 3) (h := 999) (bd_c (v := 10) (lo := 10) (hi := 10) (by decide)) (by decide)) E
                  · replace E := xq_ep c47 E
                    refine J_bipush (v := 24) dX11_hillLine_280 (by decide) ?_
                    refine J_goto (tgt := 328) dX11_hillLine_282 (by decide) ?_
                    refine J_lv [1, 0] rfl ?_
                    exact jn53 (24 : Int32) (bd_w (l := 3) (h := 999) (bd_c (v := 24) (lo := 24) (hi := 24) (by decide)) (by decide)) E
                · replace E := xq_ep c46 E
                  refine J_lload_n (i := 2) (j := 3) dX11_hillLine_239 rfl rfl ?_
                  refine J_ldc2 (v := 1886350948) dX11_hillLine_240 k1442 ?_
                  refine J_lcmp dX11_hillLine_243 ?_
                  refine J_if_ne (tgt := 255) dX11_hillLine_244 (by decide) (fun _ => ?_) (fun q => absurd q c32)
                  refine J_aload_n (i := 0) (j := 1) dX11_hillLine_255 rfl rfl ?_
                  refine J_iload_n (i := 1) (j := 2) dX11_hillLine_256 rfl rfl ?_
                  refine J_callV (As := [.int at0]) (rest := []) dX11_hillLine_257 (c_M_rainLineX (d := 4) (u := u22) (g := g23) (ex := ex) (at0 := at0)  (by decide) h24 (bd_r (fc31 9 (Nat.ne_of_beq_eq_false rfl) (Nat.ne_of_beq_eq_false rfl) (Nat.ne_of_beq_eq_false rfl) (Nat.ne_of_beq_eq_false rfl)) hp1) h27 (bd_r (fc31 17 (Nat.ne_of_beq_eq_false rfl) (Nat.ne_of_beq_eq_false rfl) (Nat.ne_of_beq_eq_false rfl) (Nat.ne_of_beq_eq_false rfl)) hp3) (ab_c (fr30 171 (Nat.ne_of_beq_eq_false rfl)) hp4) (rh_c (fr30 170 (Nat.ne_of_beq_eq_false rfl)) hp5)) hq.n k1464 k1466 k46 wc_162 rfl rfl k97 k1467 np_X11_rainLine (Nat.le_trans (by decide) hd) (by decide) (Nat.le_refl _) (Nat.le_refl _) wlen rfl (Nat.le_of_ble_eq_true rfl) (fun r_ h_ p99 => ?_)
                  obtain ⟨t100, u101, g102, rfl, rfl, h103, h104, h105, h106, h107, h108, hx109, fr110, fc111⟩ := p99
                  replace E := xq_e3 hx109 E
                  exact J_zret hq dX11_hillLine_260 rfl (bI_n _) wlen (Nat.le_refl _) (Nat.le_refl _) ⟨t100, u101, g102, rfl, rfl, h103, h104, h105, h106, h107, (fun q => (gv_r rfl rfl rfl (gv_t h28 (h108 q)))), E, (fun c k_ => ((fr110 c (nin_sub (M := [(162, 162), (170, 171)]) k_ rfl)).trans (fr30 c (nin_ne (a := 162) k_ rfl)))), (fun j k8_ k10_ k11_ k12_ k14_ k15_ k16_ k17_ k18_ => ((fc111 j k8_ k10_ k11_ k12_ k14_ k15_ k16_ k17_ k18_).trans (fc31 j k8_ k10_ k11_ k12_)))⟩
            · replace E := xq_ep c20 E
              refine J_lload_n (i := 2) (j := 3) dX11_hillLine_198 rfl rfl ?_
              refine J_ldc2 (v := 1886350948) dX11_hillLine_199 k1442 ?_
              refine J_lcmp dX11_hillLine_202 ?_
              refine J_if_eq (tgt := 219) dX11_hillLine_203 (by decide) (fun c112 => ?_) (fun c112 => ?_)
              · replace E := xq_ep c112 E
                refine J_aload_n (i := 0) (j := 1) dX11_hillLine_219 rfl rfl ?_
                refine J_callV (As := []) (rest := []) dX11_hillLine_220 (c_M_tokenX (d := 1) (u := u) (g := g) (ex := ex)   (by decide) hp0 hp1 hp2) hq.n k1417 k1419 k38 wc_162 rfl rfl k97 k1420 np_X11_token (Nat.le_trans (by decide) hd) (by decide) (Nat.le_refl _) (Nat.le_refl _) wlen rfl (Nat.le_of_ble_eq_true rfl) (fun r_ h_ p113 => ?_)
                obtain ⟨u114, g115, rfl, rfl, h116, h117, h118, h119, h120, hx121, fr122, fc123⟩ := p113
                replace E := xq_e2 hx121 E
                refine J_lload_n (i := 2) (j := 3) dX11_hillLine_223 rfl rfl ?_
                refine J_ldc2 (v := 1886350948) dX11_hillLine_224 k1442 ?_
                refine J_lcmp dX11_hillLine_227 ?_
                refine J_if_eq (tgt := 239) dX11_hillLine_228 (by decide) (fun _ => ?_) (fun q => absurd c112 q)
                refine J_lload_n (i := 2) (j := 3) dX11_hillLine_239 rfl rfl ?_
                refine J_ldc2 (v := 1886350948) dX11_hillLine_240 k1442 ?_
                refine J_lcmp dX11_hillLine_243 ?_
                refine J_if_ne (tgt := 255) dX11_hillLine_244 (by decide) (fun q => absurd c112 q) (fun _ => ?_)
                refine J_aload_n (i := 0) (j := 1) dX11_hillLine_247 rfl rfl ?_
                refine J_iload_n (i := 1) (j := 2) dX11_hillLine_248 rfl rfl ?_
                refine J_callV (As := [.int at0]) (rest := []) dX11_hillLine_249 (c_M_pondLineX (d := 4) (u := u114) (g := g115) (ex := ex) (at0 := at0)  (by decide) h116 (bd_r (fc123 9 (Nat.ne_of_beq_eq_false rfl) (Nat.ne_of_beq_eq_false rfl) (Nat.ne_of_beq_eq_false rfl) (Nat.ne_of_beq_eq_false rfl)) hp1) h119 (bd_r (fc123 17 (Nat.ne_of_beq_eq_false rfl) (Nat.ne_of_beq_eq_false rfl) (Nat.ne_of_beq_eq_false rfl) (Nat.ne_of_beq_eq_false rfl)) hp3) (ab_c (fr122 171 (Nat.ne_of_beq_eq_false rfl)) hp4) (rh_c (fr122 170 (Nat.ne_of_beq_eq_false rfl)) hp5)) hq.n k1448 k1450 k42 wc_162 rfl rfl k97 k1451 np_X11_pondLine (Nat.le_trans (by decide) hd) (by decide) (Nat.le_refl _) (Nat.le_refl _) wlen rfl (Nat.le_of_ble_eq_true rfl) (fun r_ h_ p124 => ?_)
                obtain ⟨t125, u126, g127, rfl, rfl, h128, h129, h130, h131, h132, h133, hx134, fr135, fc136⟩ := p124
                replace E := xq_e3 hx134 E
                refine J_goto (tgt := 260) dX11_hillLine_252 (by decide) ?_
                exact J_zret hq dX11_hillLine_260 rfl (bI_n _) wlen (Nat.le_refl _) (Nat.le_refl _) ⟨t125, u126, g127, rfl, rfl, h128, h129, h130, h131, h132, (fun q => (gv_r rfl rfl rfl (gv_t h120 (h133 q)))), E, (fun c k_ => ((fr135 c (nin_sub (M := [(162, 162), (170, 171)]) k_ rfl)).trans (fr122 c (nin_ne (a := 162) k_ rfl)))), (fun j k8_ k10_ k11_ k12_ k14_ k15_ k16_ k17_ k18_ => ((fc136 j k8_ k10_ k11_ k12_ k14_ k15_ k16_ k17_ k18_).trans (fc123 j k8_ k10_ k11_ k12_)))⟩
              · replace E := xq_en c112 E
                refine J_lload_n (i := 2) (j := 3) dX11_hillLine_206 rfl rfl ?_
                refine J_ldc2 (v := 1918986606) dX11_hillLine_207 k1443 ?_
                refine J_lcmp dX11_hillLine_210 ?_
                refine J_if_eq (tgt := 219) dX11_hillLine_211 (by decide) (fun c137 => ?_) (fun c137 => ?_)
                · replace E := xq_ep c137 E
                  refine J_aload_n (i := 0) (j := 1) dX11_hillLine_219 rfl rfl ?_
                  refine J_callV (As := []) (rest := []) dX11_hillLine_220 (c_M_tokenX (d := 1) (u := u) (g := g) (ex := ex)   (by decide) hp0 hp1 hp2) hq.n k1417 k1419 k38 wc_162 rfl rfl k97 k1420 np_X11_token (Nat.le_trans (by decide) hd) (by decide) (Nat.le_refl _) (Nat.le_refl _) wlen rfl (Nat.le_of_ble_eq_true rfl) (fun r_ h_ p138 => ?_)
                  obtain ⟨u139, g140, rfl, rfl, h141, h142, h143, h144, h145, hx146, fr147, fc148⟩ := p138
                  replace E := xq_e2 hx146 E
                  refine J_lload_n (i := 2) (j := 3) dX11_hillLine_223 rfl rfl ?_
                  refine J_ldc2 (v := 1886350948) dX11_hillLine_224 k1442 ?_
                  refine J_lcmp dX11_hillLine_227 ?_
                  refine J_if_eq (tgt := 239) dX11_hillLine_228 (by decide) (fun q => absurd q c112) (fun _ => ?_)
                  refine J_lload_n (i := 2) (j := 3) dX11_hillLine_231 rfl rfl ?_
                  refine J_ldc2 (v := 1918986606) dX11_hillLine_232 k1443 ?_
                  refine J_lcmp dX11_hillLine_235 ?_
                  refine J_if_ne (tgt := 261) dX11_hillLine_236 (by decide) (fun q => absurd c137 q) (fun _ => ?_)
                  refine J_lload_n (i := 2) (j := 3) dX11_hillLine_239 rfl rfl ?_
                  refine J_ldc2 (v := 1886350948) dX11_hillLine_240 k1442 ?_
                  refine J_lcmp dX11_hillLine_243 ?_
                  refine J_if_ne (tgt := 255) dX11_hillLine_244 (by decide) (fun _ => ?_) (fun q => absurd q c112)
                  refine J_aload_n (i := 0) (j := 1) dX11_hillLine_255 rfl rfl ?_
                  refine J_iload_n (i := 1) (j := 2) dX11_hillLine_256 rfl rfl ?_
                  refine J_callV (As := [.int at0]) (rest := []) dX11_hillLine_257 (c_M_rainLineX (d := 4) (u := u139) (g := g140) (ex := ex) (at0 := at0)  (by decide) h141 (bd_r (fc148 9 (Nat.ne_of_beq_eq_false rfl) (Nat.ne_of_beq_eq_false rfl) (Nat.ne_of_beq_eq_false rfl) (Nat.ne_of_beq_eq_false rfl)) hp1) h144 (bd_r (fc148 17 (Nat.ne_of_beq_eq_false rfl) (Nat.ne_of_beq_eq_false rfl) (Nat.ne_of_beq_eq_false rfl) (Nat.ne_of_beq_eq_false rfl)) hp3) (ab_c (fr147 171 (Nat.ne_of_beq_eq_false rfl)) hp4) (rh_c (fr147 170 (Nat.ne_of_beq_eq_false rfl)) hp5)) hq.n k1464 k1466 k46 wc_162 rfl rfl k97 k1467 np_X11_rainLine (Nat.le_trans (by decide) hd) (by decide) (Nat.le_refl _) (Nat.le_refl _) wlen rfl (Nat.le_of_ble_eq_true rfl) (fun r_ h_ p149 => ?_)
                  obtain ⟨t150, u151, g152, rfl, rfl, h153, h154, h155, h156, h157, h158, hx159, fr160, fc161⟩ := p149
                  replace E := xq_e3 hx159 E
                  exact J_zret hq dX11_hillLine_260 rfl (bI_n _) wlen (Nat.le_refl _) (Nat.le_refl _) ⟨t150, u151, g152, rfl, rfl, h153, h154, h155, h156, h157, (fun q => (gv_r rfl rfl rfl (gv_t h145 (h158 q)))), E, (fun c k_ => ((fr160 c (nin_sub (M := [(162, 162), (170, 171)]) k_ rfl)).trans (fr147 c (nin_ne (a := 162) k_ rfl)))), (fun j k8_ k10_ k11_ k12_ k14_ k15_ k16_ k17_ k18_ => ((fc161 j k8_ k10_ k11_ k12_ k14_ k15_ k16_ k17_ k18_).trans (fc148 j k8_ k10_ k11_ k12_)))⟩
                · replace E := xq_en c137 E
                  refine J_aload_n (i := 0) (j := 1) dX11_hillLine_214 rfl rfl ?_
                  refine J_callV (As := []) (rest := []) dX11_hillLine_215 (c_M_stopsX (d := 0) (u := u) (g := g) (ex := ex)   (by decide) ) hq.n k1444 k1446 k41 wc_162 rfl rfl k97 k1447 np_X11_stops (Nat.le_trans (by decide) hd) (by decide) (Nat.le_refl _) (Nat.le_refl _) wlen rfl (Nat.le_of_ble_eq_true rfl) (fun r_ h_ p162 => ?_)
                  obtain ⟨u163, rfl, rfl, hx164, fr165, fc166⟩ := p162
                  replace E := xq_le hx164 E
                  exact J_zret hq dX11_hillLine_218 rfl rfl wlen (Nat.le_refl _) (Nat.le_refl _) ⟨false, u163, g, rfl, rfl, (bd_r (fc166 8 (Nat.ne_of_beq_eq_false rfl)) hp0), (bd_r (fc166 12 (Nat.ne_of_beq_eq_false rfl)) hp2), (bd_r (fc166 17 (Nat.ne_of_beq_eq_false rfl)) hp3), (ab_c (fr165 171 (Nat.ne_of_beq_eq_false rfl)) hp4), (rh_c (fr165 170 (Nat.ne_of_beq_eq_false rfl)) hp5), (fun q => absurd q (by decide)), E, (fun c k_ => (fr165 c (nin_ne (a := 162) k_ rfl))), (fun j k8_ k10_ k11_ k12_ k14_ k15_ k16_ k17_ k18_ => (fc166 j k14_))⟩
          refine J_if_ne (tgt := 69) dX11_hillLine_61 (by decide) (fun c8 => ?_) (fun c8 => ?_)
          · replace E := xq_en c8 E
            refine J_lload_n (i := 2) (j := 1) dX11_hillLine_69 rfl rfl ?_
            refine J_ldc2 (v := 418548114533) dX11_hillLine_70 k1433 ?_
            refine J_lcmp dX11_hillLine_73 ?_
            refine J_if_ne (tgt := 82) dX11_hillLine_74 (by decide) (fun c167 => ?_) (fun c167 => ?_)
            · replace E := xq_en c167 E
              refine J_lload_n (i := 2) (j := 1) dX11_hillLine_82 rfl rfl ?_
              refine J_ldc2 (v := 422607680115) dX11_hillLine_83 k1434 ?_
              refine J_lcmp dX11_hillLine_86 ?_
              refine J_if_ne (tgt := 94) dX11_hillLine_87 (by decide) (fun c168 => ?_) (fun c168 => ?_)
              · replace E := xq_en c168 E
                refine J_lload_n (i := 2) (j := 1) dX11_hillLine_94 rfl rfl ?_
                refine J_ldc2 (v := 1735353715) dX11_hillLine_95 k1435 ?_
                refine J_lcmp dX11_hillLine_98 ?_
                refine J_if_ne (tgt := 106) dX11_hillLine_99 (by decide) (fun c169 => ?_) (fun c169 => ?_)
                · replace E := xq_en c169 E
                  refine J_lload_n (i := 2) (j := 1) dX11_hillLine_106 rfl rfl ?_
                  refine J_ldc2 (v := 1751216749) dX11_hillLine_107 k1436 ?_
                  refine J_lcmp dX11_hillLine_110 ?_
                  refine J_if_ne (tgt := 118) dX11_hillLine_111 (by decide) (fun c170 => ?_) (fun c170 => ?_)
                  · replace E := xq_en c170 E
                    refine J_lload_n (i := 2) (j := 1) dX11_hillLine_118 rfl rfl ?_
                    refine J_ldc2 (v := 478745093490) dX11_hillLine_119 k1437 ?_
                    refine J_lcmp dX11_hillLine_122 ?_
                    refine J_if_ne (tgt := 131) dX11_hillLine_123 (by decide) (fun c171 => ?_) (fun c171 => ?_)
                    · replace E := xq_en c171 E
                      refine J_lload_n (i := 2) (j := 1) dX11_hillLine_131 rfl rfl ?_
                      refine J_ldc2 (v := 1919509349) dX11_hillLine_132 k1438 ?_
                      refine J_lcmp dX11_hillLine_135 ?_
                      refine J_if_ne (tgt := 144) dX11_hillLine_136 (by decide) (fun c172 => ?_) (fun c172 => ?_)
                      · replace E := xq_en c172 E
                        refine J_lload_n (i := 2) (j := 1) dX11_hillLine_144 rfl rfl ?_
                        refine J_ldc2 (v := 7823737) dX11_hillLine_145 k1439 ?_
                        refine J_lcmp dX11_hillLine_148 ?_
                        refine J_if_ne (tgt := 157) dX11_hillLine_149 (by decide) (fun c173 => ?_) (fun c173 => ?_)
                        · replace E := xq_en c173 E
                          refine J_lload_n (i := 2) (j := 1) dX11_hillLine_157 rfl rfl ?_
                          refine J_ldc2 (v := 1734440037) dX11_hillLine_158 k1440 ?_
                          refine J_lcmp dX11_hillLine_161 ?_
                          refine J_if_ne (tgt := 170) dX11_hillLine_162 (by decide) (fun c174 => ?_) (fun c174 => ?_)
                          · replace E := xq_en c174 E
                            refine J_lload_n (i := 2) (j := 1) dX11_hillLine_170 rfl rfl ?_
                            refine J_ldc2 (v := 1936287598) dX11_hillLine_171 k1441 ?_
                            refine J_lcmp dX11_hillLine_174 ?_
                            refine J_if_ne (tgt := 183) dX11_hillLine_175 (by decide) (fun c175 => ?_) (fun c175 => ?_)
                            · replace E := xq_en c175 E
                              refine J_iconst (v := (-1)) dX11_hillLine_183 (by decide) ?_
                              refine J_lv [2, 3, 1, 0] rfl ?_
                              exact jn19 ((-1) : Int32) (bd_w (l := (-1)) (h := 13) (bd_c (v := (-1)) (lo := (-1)) (hi := (-1)) (by decide)) (by decide)) E
                            · replace E := xq_ep c175 E
                              refine J_bipush (v := 13) dX11_hillLine_178 (by decide) ?_
                              refine J_goto (tgt := 184) dX11_hillLine_180 (by decide) ?_
                              refine J_lv [2, 3, 1, 0] rfl ?_
                              exact jn19 (13 : Int32) (bd_w (l := (-1)) (h := 13) (bd_c (v := 13) (lo := 13) (hi := 13) (by decide)) (by decide)) E
                          · replace E := xq_ep c174 E
                            refine J_bipush (v := 12) dX11_hillLine_165 (by decide) ?_
                            refine J_goto (tgt := 184) dX11_hillLine_167 (by decide) ?_
                            refine J_lv [2, 3, 1, 0] rfl ?_
                            exact jn19 (12 : Int32) (bd_w (l := (-1)) (h := 13) (bd_c (v := 12) (lo := 12) (hi := 12) (by decide)) (by decide)) E
                        · replace E := xq_ep c173 E
                          refine J_bipush (v := 11) dX11_hillLine_152 (by decide) ?_
                          refine J_goto (tgt := 184) dX11_hillLine_154 (by decide) ?_
                          refine J_lv [2, 3, 1, 0] rfl ?_
                          exact jn19 (11 : Int32) (bd_w (l := (-1)) (h := 13) (bd_c (v := 11) (lo := 11) (hi := 11) (by decide)) (by decide)) E
                      · replace E := xq_ep c172 E
                        refine J_bipush (v := 7) dX11_hillLine_139 (by decide) ?_
                        refine J_goto (tgt := 184) dX11_hillLine_141 (by decide) ?_
                        refine J_lv [2, 3, 1, 0] rfl ?_
                        exact jn19 (7 : Int32) (bd_w (l := (-1)) (h := 13) (bd_c (v := 7) (lo := 7) (hi := 7) (by decide)) (by decide)) E
                    · replace E := xq_ep c171 E
                      refine J_bipush (v := 6) dX11_hillLine_126 (by decide) ?_
                      refine J_goto (tgt := 184) dX11_hillLine_128 (by decide) ?_
                      refine J_lv [2, 3, 1, 0] rfl ?_
                      exact jn19 (6 : Int32) (bd_w (l := (-1)) (h := 13) (bd_c (v := 6) (lo := 6) (hi := 6) (by decide)) (by decide)) E
                  · replace E := xq_ep c170 E
                    refine J_iconst (v := 5) dX11_hillLine_114 (by decide) ?_
                    refine J_goto (tgt := 184) dX11_hillLine_115 (by decide) ?_
                    refine J_lv [2, 3, 1, 0] rfl ?_
                    exact jn19 (5 : Int32) (bd_w (l := (-1)) (h := 13) (bd_c (v := 5) (lo := 5) (hi := 5) (by decide)) (by decide)) E
                · replace E := xq_ep c169 E
                  refine J_iconst (v := 4) dX11_hillLine_102 (by decide) ?_
                  refine J_goto (tgt := 184) dX11_hillLine_103 (by decide) ?_
                  refine J_lv [2, 3, 1, 0] rfl ?_
                  exact jn19 (4 : Int32) (bd_w (l := (-1)) (h := 13) (bd_c (v := 4) (lo := 4) (hi := 4) (by decide)) (by decide)) E
              · replace E := xq_ep c168 E
                refine J_iconst (v := 3) dX11_hillLine_90 (by decide) ?_
                refine J_goto (tgt := 184) dX11_hillLine_91 (by decide) ?_
                refine J_lv [2, 3, 1, 0] rfl ?_
                exact jn19 (3 : Int32) (bd_w (l := (-1)) (h := 13) (bd_c (v := 3) (lo := 3) (hi := 3) (by decide)) (by decide)) E
            · replace E := xq_ep c167 E
              refine J_bipush (v := 9) dX11_hillLine_77 (by decide) ?_
              refine J_goto (tgt := 184) dX11_hillLine_79 (by decide) ?_
              refine J_lv [2, 3, 1, 0] rfl ?_
              exact jn19 (9 : Int32) (bd_w (l := (-1)) (h := 13) (bd_c (v := 9) (lo := 9) (hi := 9) (by decide)) (by decide)) E
          · replace E := xq_ep c8 E
            refine J_bipush (v := 8) dX11_hillLine_64 (by decide) ?_
            refine J_goto (tgt := 184) dX11_hillLine_66 (by decide) ?_
            refine J_lv [2, 3, 1, 0] rfl ?_
            exact jn19 (8 : Int32) (bd_w (l := (-1)) (h := 13) (bd_c (v := 8) (lo := 8) (hi := 8) (by decide)) (by decide)) E
        · replace E := xq_ep c7 E
          refine J_iconst (v := 4) dX11_hillLine_49 (by decide) ?_
          refine J_goto (tgt := 54) dX11_hillLine_50 (by decide) ?_
          refine J_istore (i := 4) (lw := [(4, .int 4), (2, .long w3), (0, .ref 162), (1, .int at0)]) dX11_hillLine_54 (by decide) rfl ?_
          refine J_lload_n (i := 2) (j := 1) dX11_hillLine_56 rfl rfl ?_
          refine J_ldc2 (v := 1685026670) dX11_hillLine_57 k1432 ?_
          refine J_lcmp dX11_hillLine_60 ?_
          have jn187 : ∀ (w186 : Int32), Bd (-1) 13 w186 → Fx_M_hillLineX_J184b at0 u g w3 w186 = Fx_M_hillLineX at0 u g → J x yX11_hillLine cX11_hillLine 7 (some .boolean) d 0 0 (Wd u g ex).length 184 [(0, .ref 162), (1, .int at0), (2, .long w3), (4, .int 4)] [.int w186] (Wd u g ex) 0 0 := by
            intro w186 bw186 E
            refine J_istore (i := 5) (lw := [(5, .int w186), (0, .ref 162), (1, .int at0), (2, .long w3), (4, .int 4)]) dX11_hillLine_184 (by decide) rfl ?_
            refine J_iload (i := 4) (j := 4) dX11_hillLine_186 rfl ?_
            refine J_iconst (v := (-1)) dX11_hillLine_188 (by decide) ?_
            refine J_icmp_ne (tgt := 219) dX11_hillLine_189 (by decide) (fun _ => ?_) (fun q => absurd q (by decide))
            refine J_aload_n (i := 0) (j := 1) dX11_hillLine_219 rfl rfl ?_
            refine J_callV (As := []) (rest := []) dX11_hillLine_220 (c_M_tokenX (d := 1) (u := u) (g := g) (ex := ex)   (by decide) hp0 hp1 hp2) hq.n k1417 k1419 k38 wc_162 rfl rfl k97 k1420 np_X11_token (Nat.le_trans (by decide) hd) (by decide) (Nat.le_refl _) (Nat.le_refl _) wlen rfl (Nat.le_of_ble_eq_true rfl) (fun r_ h_ p188 => ?_)
            obtain ⟨u189, g190, rfl, rfl, h191, h192, h193, h194, h195, hx196, fr197, fc198⟩ := p188
            replace E := xq_e2 hx196 E
            refine J_lload_n (i := 2) (j := 3) dX11_hillLine_223 rfl rfl ?_
            refine J_ldc2 (v := 1886350948) dX11_hillLine_224 k1442 ?_
            refine J_lcmp dX11_hillLine_227 ?_
            refine J_if_eq (tgt := 239) dX11_hillLine_228 (by decide) (fun c199 => ?_) (fun c199 => ?_)
            · replace E := xq_ep c199 E
              refine J_lload_n (i := 2) (j := 3) dX11_hillLine_239 rfl rfl ?_
              refine J_ldc2 (v := 1886350948) dX11_hillLine_240 k1442 ?_
              refine J_lcmp dX11_hillLine_243 ?_
              refine J_if_ne (tgt := 255) dX11_hillLine_244 (by decide) (fun q => absurd c199 q) (fun _ => ?_)
              refine J_aload_n (i := 0) (j := 1) dX11_hillLine_247 rfl rfl ?_
              refine J_iload_n (i := 1) (j := 2) dX11_hillLine_248 rfl rfl ?_
              refine J_callV (As := [.int at0]) (rest := []) dX11_hillLine_249 (c_M_pondLineX (d := 4) (u := u189) (g := g190) (ex := ex) (at0 := at0)  (by decide) h191 (bd_r (fc198 9 (Nat.ne_of_beq_eq_false rfl) (Nat.ne_of_beq_eq_false rfl) (Nat.ne_of_beq_eq_false rfl) (Nat.ne_of_beq_eq_false rfl)) hp1) h194 (bd_r (fc198 17 (Nat.ne_of_beq_eq_false rfl) (Nat.ne_of_beq_eq_false rfl) (Nat.ne_of_beq_eq_false rfl) (Nat.ne_of_beq_eq_false rfl)) hp3) (ab_c (fr197 171 (Nat.ne_of_beq_eq_false rfl)) hp4) (rh_c (fr197 170 (Nat.ne_of_beq_eq_false rfl)) hp5)) hq.n k1448 k1450 k42 wc_162 rfl rfl k97 k1451 np_X11_pondLine (Nat.le_trans (by decide) hd) (by decide) (Nat.le_refl _) (Nat.le_refl _) wlen rfl (Nat.le_of_ble_eq_true rfl) (fun r_ h_ p200 => ?_)
              obtain ⟨t201, u202, g203, rfl, rfl, h204, h205, h206, h207, h208, h209, hx210, fr211, fc212⟩ := p200
              replace E := xq_e3 hx210 E
              refine J_goto (tgt := 260) dX11_hillLine_252 (by decide) ?_
              exact J_zret hq dX11_hillLine_260 rfl (bI_n _) wlen (Nat.le_refl _) (Nat.le_refl _) ⟨t201, u202, g203, rfl, rfl, h204, h205, h206, h207, h208, (fun q => (gv_r rfl rfl rfl (gv_t h195 (h209 q)))), E, (fun c k_ => ((fr211 c (nin_sub (M := [(162, 162), (170, 171)]) k_ rfl)).trans (fr197 c (nin_ne (a := 162) k_ rfl)))), (fun j k8_ k10_ k11_ k12_ k14_ k15_ k16_ k17_ k18_ => ((fc212 j k8_ k10_ k11_ k12_ k14_ k15_ k16_ k17_ k18_).trans (fc198 j k8_ k10_ k11_ k12_)))⟩
            · replace E := xq_en c199 E
              refine J_lload_n (i := 2) (j := 3) dX11_hillLine_231 rfl rfl ?_
              refine J_ldc2 (v := 1918986606) dX11_hillLine_232 k1443 ?_
              refine J_lcmp dX11_hillLine_235 ?_
              refine J_if_ne (tgt := 261) dX11_hillLine_236 (by decide) (fun c213 => ?_) (fun c213 => ?_)
              · replace E := xq_en c213 E
                refine J_iload (i := 4) (j := 4) dX11_hillLine_261 rfl ?_
                refine J_iconst (v := (-1)) dX11_hillLine_263 (by decide) ?_
                refine J_icmp_eq (tgt := 274) dX11_hillLine_264 (by decide) (fun q => absurd q (by decide)) (fun _ => ?_)
                refine J_aload_n (i := 0) (j := 1) dX11_hillLine_267 rfl rfl ?_
                refine J_iload (i := 4) (j := 4) dX11_hillLine_268 rfl ?_
                refine J_callV (As := [.int 4]) (rest := []) dX11_hillLine_270 (c_M_daysLineX (d := 3) (u := u189) (g := g190) (ex := ex) (to := 4)  (by decide) h191 (bd_r (fc198 9 (Nat.ne_of_beq_eq_false rfl) (Nat.ne_of_beq_eq_false rfl) (Nat.ne_of_beq_eq_false rfl) (Nat.ne_of_beq_eq_false rfl)) hp1) h194 (bd_r (fc198 17 (Nat.ne_of_beq_eq_false rfl) (Nat.ne_of_beq_eq_false rfl) (Nat.ne_of_beq_eq_false rfl) (Nat.ne_of_beq_eq_false rfl)) hp3) (ab_c (fr197 171 (Nat.ne_of_beq_eq_false rfl)) hp4) (rh_c (fr197 170 (Nat.ne_of_beq_eq_false rfl)) hp5) (bd_w (l := 2) (h := 4) (bd_c (v := 4) (lo := 4) (hi := 4) (by decide)) (by decide))) hq.n k1468 k1470 k47 wc_162 rfl rfl k97 k1471 np_X11_daysLine (Nat.le_trans (by decide) hd) (by decide) (Nat.le_refl _) (Nat.le_refl _) wlen rfl (Nat.le_of_ble_eq_true rfl) (fun r_ h_ p214 => ?_)
                obtain ⟨t215, u216, g217, rfl, rfl, h218, h219, h220, h221, h222, h223, hx224, fr225, fc226⟩ := p214
                replace E := xq_e3 hx224 E
                exact J_zret hq dX11_hillLine_273 rfl (bI_n _) wlen (Nat.le_refl _) (Nat.le_refl _) ⟨t215, u216, g217, rfl, rfl, h218, h219, h220, h221, h222, (fun q => (gv_r rfl rfl rfl (gv_t h195 (h223 q)))), E, (fun c k_ => ((fr225 c (nin_sub (M := [(162, 162), (170, 171)]) k_ rfl)).trans (fr197 c (nin_ne (a := 162) k_ rfl)))), (fun j k8_ k10_ k11_ k12_ k14_ k15_ k16_ k17_ k18_ => ((fc226 j k8_ k10_ k11_ k12_ k14_ k15_ k16_ k17_ k18_).trans (fc198 j k8_ k10_ k11_ k12_)))⟩
              · replace E := xq_ep c213 E
                refine J_lload_n (i := 2) (j := 3) dX11_hillLine_239 rfl rfl ?_
                refine J_ldc2 (v := 1886350948) dX11_hillLine_240 k1442 ?_
                refine J_lcmp dX11_hillLine_243 ?_
                refine J_if_ne (tgt := 255) dX11_hillLine_244 (by decide) (fun _ => ?_) (fun q => absurd q c199)
                refine J_aload_n (i := 0) (j := 1) dX11_hillLine_255 rfl rfl ?_
                refine J_iload_n (i := 1) (j := 2) dX11_hillLine_256 rfl rfl ?_
                refine J_callV (As := [.int at0]) (rest := []) dX11_hillLine_257 (c_M_rainLineX (d := 4) (u := u189) (g := g190) (ex := ex) (at0 := at0)  (by decide) h191 (bd_r (fc198 9 (Nat.ne_of_beq_eq_false rfl) (Nat.ne_of_beq_eq_false rfl) (Nat.ne_of_beq_eq_false rfl) (Nat.ne_of_beq_eq_false rfl)) hp1) h194 (bd_r (fc198 17 (Nat.ne_of_beq_eq_false rfl) (Nat.ne_of_beq_eq_false rfl) (Nat.ne_of_beq_eq_false rfl) (Nat.ne_of_beq_eq_false rfl)) hp3) (ab_c (fr197 171 (Nat.ne_of_beq_eq_false rfl)) hp4) (rh_c (fr197 170 (Nat.ne_of_beq_eq_false rfl)) hp5)) hq.n k1464 k1466 k46 wc_162 rfl rfl k97 k1467 np_X11_rainLine (Nat.le_trans (by decide) hd) (by decide) (Nat.le_refl _) (Nat.le_refl _) wlen rfl (Nat.le_of_ble_eq_true rfl) (fun r_ h_ p227 => ?_)
                obtain ⟨t228, u229, g230, rfl, rfl, h231, h232, h233, h234, h235, h236, hx237, fr238, fc239⟩ := p227
                replace E := xq_e3 hx237 E
                exact J_zret hq dX11_hillLine_260 rfl (bI_n _) wlen (Nat.le_refl _) (Nat.le_refl _) ⟨t228, u229, g230, rfl, rfl, h231, h232, h233, h234, h235, (fun q => (gv_r rfl rfl rfl (gv_t h195 (h236 q)))), E, (fun c k_ => ((fr238 c (nin_sub (M := [(162, 162), (170, 171)]) k_ rfl)).trans (fr197 c (nin_ne (a := 162) k_ rfl)))), (fun j k8_ k10_ k11_ k12_ k14_ k15_ k16_ k17_ k18_ => ((fc239 j k8_ k10_ k11_ k12_ k14_ k15_ k16_ k17_ k18_).trans (fc198 j k8_ k10_ k11_ k12_)))⟩
          refine J_if_ne (tgt := 69) dX11_hillLine_61 (by decide) (fun c176 => ?_) (fun c176 => ?_)
          · replace E := xq_en c176 E
            refine J_lload_n (i := 2) (j := 1) dX11_hillLine_69 rfl rfl ?_
            refine J_ldc2 (v := 418548114533) dX11_hillLine_70 k1433 ?_
            refine J_lcmp dX11_hillLine_73 ?_
            refine J_if_ne (tgt := 82) dX11_hillLine_74 (by decide) (fun c240 => ?_) (fun c240 => ?_)
            · replace E := xq_en c240 E
              refine J_lload_n (i := 2) (j := 1) dX11_hillLine_82 rfl rfl ?_
              refine J_ldc2 (v := 422607680115) dX11_hillLine_83 k1434 ?_
              refine J_lcmp dX11_hillLine_86 ?_
              refine J_if_ne (tgt := 94) dX11_hillLine_87 (by decide) (fun c241 => ?_) (fun c241 => ?_)
              · replace E := xq_en c241 E
                refine J_lload_n (i := 2) (j := 1) dX11_hillLine_94 rfl rfl ?_
                refine J_ldc2 (v := 1735353715) dX11_hillLine_95 k1435 ?_
                refine J_lcmp dX11_hillLine_98 ?_
                refine J_if_ne (tgt := 106) dX11_hillLine_99 (by decide) (fun c242 => ?_) (fun c242 => ?_)
                · replace E := xq_en c242 E
                  refine J_lload_n (i := 2) (j := 1) dX11_hillLine_106 rfl rfl ?_
                  refine J_ldc2 (v := 1751216749) dX11_hillLine_107 k1436 ?_
                  refine J_lcmp dX11_hillLine_110 ?_
                  refine J_if_ne (tgt := 118) dX11_hillLine_111 (by decide) (fun c243 => ?_) (fun c243 => ?_)
                  · replace E := xq_en c243 E
                    refine J_lload_n (i := 2) (j := 1) dX11_hillLine_118 rfl rfl ?_
                    refine J_ldc2 (v := 478745093490) dX11_hillLine_119 k1437 ?_
                    refine J_lcmp dX11_hillLine_122 ?_
                    refine J_if_ne (tgt := 131) dX11_hillLine_123 (by decide) (fun c244 => ?_) (fun c244 => ?_)
                    · replace E := xq_en c244 E
                      refine J_lload_n (i := 2) (j := 1) dX11_hillLine_131 rfl rfl ?_
                      refine J_ldc2 (v := 1919509349) dX11_hillLine_132 k1438 ?_
                      refine J_lcmp dX11_hillLine_135 ?_
                      refine J_if_ne (tgt := 144) dX11_hillLine_136 (by decide) (fun c245 => ?_) (fun c245 => ?_)
                      · replace E := xq_en c245 E
                        refine J_lload_n (i := 2) (j := 1) dX11_hillLine_144 rfl rfl ?_
                        refine J_ldc2 (v := 7823737) dX11_hillLine_145 k1439 ?_
                        refine J_lcmp dX11_hillLine_148 ?_
                        refine J_if_ne (tgt := 157) dX11_hillLine_149 (by decide) (fun c246 => ?_) (fun c246 => ?_)
                        · replace E := xq_en c246 E
                          refine J_lload_n (i := 2) (j := 1) dX11_hillLine_157 rfl rfl ?_
                          refine J_ldc2 (v := 1734440037) dX11_hillLine_158 k1440 ?_
                          refine J_lcmp dX11_hillLine_161 ?_
                          refine J_if_ne (tgt := 170) dX11_hillLine_162 (by decide) (fun c247 => ?_) (fun c247 => ?_)
                          · replace E := xq_en c247 E
                            refine J_lload_n (i := 2) (j := 1) dX11_hillLine_170 rfl rfl ?_
                            refine J_ldc2 (v := 1936287598) dX11_hillLine_171 k1441 ?_
                            refine J_lcmp dX11_hillLine_174 ?_
                            refine J_if_ne (tgt := 183) dX11_hillLine_175 (by decide) (fun c248 => ?_) (fun c248 => ?_)
                            · replace E := xq_en c248 E
                              refine J_iconst (v := (-1)) dX11_hillLine_183 (by decide) ?_
                              refine J_lv [2, 3, 1, 0] rfl ?_
                              exact jn187 ((-1) : Int32) (bd_w (l := (-1)) (h := 13) (bd_c (v := (-1)) (lo := (-1)) (hi := (-1)) (by decide)) (by decide)) E
                            · replace E := xq_ep c248 E
                              refine J_bipush (v := 13) dX11_hillLine_178 (by decide) ?_
                              refine J_goto (tgt := 184) dX11_hillLine_180 (by decide) ?_
                              refine J_lv [2, 3, 1, 0] rfl ?_
                              exact jn187 (13 : Int32) (bd_w (l := (-1)) (h := 13) (bd_c (v := 13) (lo := 13) (hi := 13) (by decide)) (by decide)) E
                          · replace E := xq_ep c247 E
                            refine J_bipush (v := 12) dX11_hillLine_165 (by decide) ?_
                            refine J_goto (tgt := 184) dX11_hillLine_167 (by decide) ?_
                            refine J_lv [2, 3, 1, 0] rfl ?_
                            exact jn187 (12 : Int32) (bd_w (l := (-1)) (h := 13) (bd_c (v := 12) (lo := 12) (hi := 12) (by decide)) (by decide)) E
                        · replace E := xq_ep c246 E
                          refine J_bipush (v := 11) dX11_hillLine_152 (by decide) ?_
                          refine J_goto (tgt := 184) dX11_hillLine_154 (by decide) ?_
                          refine J_lv [2, 3, 1, 0] rfl ?_
                          exact jn187 (11 : Int32) (bd_w (l := (-1)) (h := 13) (bd_c (v := 11) (lo := 11) (hi := 11) (by decide)) (by decide)) E
                      · replace E := xq_ep c245 E
                        refine J_bipush (v := 7) dX11_hillLine_139 (by decide) ?_
                        refine J_goto (tgt := 184) dX11_hillLine_141 (by decide) ?_
                        refine J_lv [2, 3, 1, 0] rfl ?_
                        exact jn187 (7 : Int32) (bd_w (l := (-1)) (h := 13) (bd_c (v := 7) (lo := 7) (hi := 7) (by decide)) (by decide)) E
                    · replace E := xq_ep c244 E
                      refine J_bipush (v := 6) dX11_hillLine_126 (by decide) ?_
                      refine J_goto (tgt := 184) dX11_hillLine_128 (by decide) ?_
                      refine J_lv [2, 3, 1, 0] rfl ?_
                      exact jn187 (6 : Int32) (bd_w (l := (-1)) (h := 13) (bd_c (v := 6) (lo := 6) (hi := 6) (by decide)) (by decide)) E
                  · replace E := xq_ep c243 E
                    refine J_iconst (v := 5) dX11_hillLine_114 (by decide) ?_
                    refine J_goto (tgt := 184) dX11_hillLine_115 (by decide) ?_
                    refine J_lv [2, 3, 1, 0] rfl ?_
                    exact jn187 (5 : Int32) (bd_w (l := (-1)) (h := 13) (bd_c (v := 5) (lo := 5) (hi := 5) (by decide)) (by decide)) E
                · replace E := xq_ep c242 E
                  refine J_iconst (v := 4) dX11_hillLine_102 (by decide) ?_
                  refine J_goto (tgt := 184) dX11_hillLine_103 (by decide) ?_
                  refine J_lv [2, 3, 1, 0] rfl ?_
                  exact jn187 (4 : Int32) (bd_w (l := (-1)) (h := 13) (bd_c (v := 4) (lo := 4) (hi := 4) (by decide)) (by decide)) E
              · replace E := xq_ep c241 E
                refine J_iconst (v := 3) dX11_hillLine_90 (by decide) ?_
                refine J_goto (tgt := 184) dX11_hillLine_91 (by decide) ?_
                refine J_lv [2, 3, 1, 0] rfl ?_
                exact jn187 (3 : Int32) (bd_w (l := (-1)) (h := 13) (bd_c (v := 3) (lo := 3) (hi := 3) (by decide)) (by decide)) E
            · replace E := xq_ep c240 E
              refine J_bipush (v := 9) dX11_hillLine_77 (by decide) ?_
              refine J_goto (tgt := 184) dX11_hillLine_79 (by decide) ?_
              refine J_lv [2, 3, 1, 0] rfl ?_
              exact jn187 (9 : Int32) (bd_w (l := (-1)) (h := 13) (bd_c (v := 9) (lo := 9) (hi := 9) (by decide)) (by decide)) E
          · replace E := xq_ep c176 E
            refine J_bipush (v := 8) dX11_hillLine_64 (by decide) ?_
            refine J_goto (tgt := 184) dX11_hillLine_66 (by decide) ?_
            refine J_lv [2, 3, 1, 0] rfl ?_
            exact jn187 (8 : Int32) (bd_w (l := (-1)) (h := 13) (bd_c (v := 8) (lo := 8) (hi := 8) (by decide)) (by decide)) E
      · replace E := xq_ep c6 E
        refine J_iconst (v := 3) dX11_hillLine_37 (by decide) ?_
        refine J_goto (tgt := 54) dX11_hillLine_38 (by decide) ?_
        refine J_istore (i := 4) (lw := [(4, .int 3), (2, .long w3), (0, .ref 162), (1, .int at0)]) dX11_hillLine_54 (by decide) rfl ?_
        refine J_lload_n (i := 2) (j := 1) dX11_hillLine_56 rfl rfl ?_
        refine J_ldc2 (v := 1685026670) dX11_hillLine_57 k1432 ?_
        refine J_lcmp dX11_hillLine_60 ?_
        have jn260 : ∀ (w259 : Int32), Bd (-1) 13 w259 → Fx_M_hillLineX_J184c at0 u g w3 w259 = Fx_M_hillLineX at0 u g → J x yX11_hillLine cX11_hillLine 7 (some .boolean) d 0 0 (Wd u g ex).length 184 [(0, .ref 162), (1, .int at0), (2, .long w3), (4, .int 3)] [.int w259] (Wd u g ex) 0 0 := by
          intro w259 bw259 E
          refine J_istore (i := 5) (lw := [(5, .int w259), (0, .ref 162), (1, .int at0), (2, .long w3), (4, .int 3)]) dX11_hillLine_184 (by decide) rfl ?_
          refine J_iload (i := 4) (j := 4) dX11_hillLine_186 rfl ?_
          refine J_iconst (v := (-1)) dX11_hillLine_188 (by decide) ?_
          refine J_icmp_ne (tgt := 219) dX11_hillLine_189 (by decide) (fun _ => ?_) (fun q => absurd q (by decide))
          refine J_aload_n (i := 0) (j := 1) dX11_hillLine_219 rfl rfl ?_
          refine J_callV (As := []) (rest := []) dX11_hillLine_220 (c_M_tokenX (d := 1) (u := u) (g := g) (ex := ex)   (by decide) hp0 hp1 hp2) hq.n k1417 k1419 k38 wc_162 rfl rfl k97 k1420 np_X11_token (Nat.le_trans (by decide) hd) (by decide) (Nat.le_refl _) (Nat.le_refl _) wlen rfl (Nat.le_of_ble_eq_true rfl) (fun r_ h_ p261 => ?_)
          obtain ⟨u262, g263, rfl, rfl, h264, h265, h266, h267, h268, hx269, fr270, fc271⟩ := p261
          replace E := xq_e2 hx269 E
          refine J_lload_n (i := 2) (j := 3) dX11_hillLine_223 rfl rfl ?_
          refine J_ldc2 (v := 1886350948) dX11_hillLine_224 k1442 ?_
          refine J_lcmp dX11_hillLine_227 ?_
          refine J_if_eq (tgt := 239) dX11_hillLine_228 (by decide) (fun c272 => ?_) (fun c272 => ?_)
          · replace E := xq_ep c272 E
            refine J_lload_n (i := 2) (j := 3) dX11_hillLine_239 rfl rfl ?_
            refine J_ldc2 (v := 1886350948) dX11_hillLine_240 k1442 ?_
            refine J_lcmp dX11_hillLine_243 ?_
            refine J_if_ne (tgt := 255) dX11_hillLine_244 (by decide) (fun q => absurd c272 q) (fun _ => ?_)
            refine J_aload_n (i := 0) (j := 1) dX11_hillLine_247 rfl rfl ?_
            refine J_iload_n (i := 1) (j := 2) dX11_hillLine_248 rfl rfl ?_
            refine J_callV (As := [.int at0]) (rest := []) dX11_hillLine_249 (c_M_pondLineX (d := 4) (u := u262) (g := g263) (ex := ex) (at0 := at0)  (by decide) h264 (bd_r (fc271 9 (Nat.ne_of_beq_eq_false rfl) (Nat.ne_of_beq_eq_false rfl) (Nat.ne_of_beq_eq_false rfl) (Nat.ne_of_beq_eq_false rfl)) hp1) h267 (bd_r (fc271 17 (Nat.ne_of_beq_eq_false rfl) (Nat.ne_of_beq_eq_false rfl) (Nat.ne_of_beq_eq_false rfl) (Nat.ne_of_beq_eq_false rfl)) hp3) (ab_c (fr270 171 (Nat.ne_of_beq_eq_false rfl)) hp4) (rh_c (fr270 170 (Nat.ne_of_beq_eq_false rfl)) hp5)) hq.n k1448 k1450 k42 wc_162 rfl rfl k97 k1451 np_X11_pondLine (Nat.le_trans (by decide) hd) (by decide) (Nat.le_refl _) (Nat.le_refl _) wlen rfl (Nat.le_of_ble_eq_true rfl) (fun r_ h_ p273 => ?_)
            obtain ⟨t274, u275, g276, rfl, rfl, h277, h278, h279, h280, h281, h282, hx283, fr284, fc285⟩ := p273
            replace E := xq_e3 hx283 E
            refine J_goto (tgt := 260) dX11_hillLine_252 (by decide) ?_
            exact J_zret hq dX11_hillLine_260 rfl (bI_n _) wlen (Nat.le_refl _) (Nat.le_refl _) ⟨t274, u275, g276, rfl, rfl, h277, h278, h279, h280, h281, (fun q => (gv_r rfl rfl rfl (gv_t h268 (h282 q)))), E, (fun c k_ => ((fr284 c (nin_sub (M := [(162, 162), (170, 171)]) k_ rfl)).trans (fr270 c (nin_ne (a := 162) k_ rfl)))), (fun j k8_ k10_ k11_ k12_ k14_ k15_ k16_ k17_ k18_ => ((fc285 j k8_ k10_ k11_ k12_ k14_ k15_ k16_ k17_ k18_).trans (fc271 j k8_ k10_ k11_ k12_)))⟩
          · replace E := xq_en c272 E
            refine J_lload_n (i := 2) (j := 3) dX11_hillLine_231 rfl rfl ?_
            refine J_ldc2 (v := 1918986606) dX11_hillLine_232 k1443 ?_
            refine J_lcmp dX11_hillLine_235 ?_
            refine J_if_ne (tgt := 261) dX11_hillLine_236 (by decide) (fun c286 => ?_) (fun c286 => ?_)
            · replace E := xq_en c286 E
              refine J_iload (i := 4) (j := 4) dX11_hillLine_261 rfl ?_
              refine J_iconst (v := (-1)) dX11_hillLine_263 (by decide) ?_
              refine J_icmp_eq (tgt := 274) dX11_hillLine_264 (by decide) (fun q => absurd q (by decide)) (fun _ => ?_)
              refine J_aload_n (i := 0) (j := 1) dX11_hillLine_267 rfl rfl ?_
              refine J_iload (i := 4) (j := 4) dX11_hillLine_268 rfl ?_
              refine J_callV (As := [.int 3]) (rest := []) dX11_hillLine_270 (c_M_daysLineX (d := 3) (u := u262) (g := g263) (ex := ex) (to := 3)  (by decide) h264 (bd_r (fc271 9 (Nat.ne_of_beq_eq_false rfl) (Nat.ne_of_beq_eq_false rfl) (Nat.ne_of_beq_eq_false rfl) (Nat.ne_of_beq_eq_false rfl)) hp1) h267 (bd_r (fc271 17 (Nat.ne_of_beq_eq_false rfl) (Nat.ne_of_beq_eq_false rfl) (Nat.ne_of_beq_eq_false rfl) (Nat.ne_of_beq_eq_false rfl)) hp3) (ab_c (fr270 171 (Nat.ne_of_beq_eq_false rfl)) hp4) (rh_c (fr270 170 (Nat.ne_of_beq_eq_false rfl)) hp5) (bd_w (l := 2) (h := 4) (bd_c (v := 3) (lo := 3) (hi := 3) (by decide)) (by decide))) hq.n k1468 k1470 k47 wc_162 rfl rfl k97 k1471 np_X11_daysLine (Nat.le_trans (by decide) hd) (by decide) (Nat.le_refl _) (Nat.le_refl _) wlen rfl (Nat.le_of_ble_eq_true rfl) (fun r_ h_ p287 => ?_)
              obtain ⟨t288, u289, g290, rfl, rfl, h291, h292, h293, h294, h295, h296, hx297, fr298, fc299⟩ := p287
              replace E := xq_e3 hx297 E
              exact J_zret hq dX11_hillLine_273 rfl (bI_n _) wlen (Nat.le_refl _) (Nat.le_refl _) ⟨t288, u289, g290, rfl, rfl, h291, h292, h293, h294, h295, (fun q => (gv_r rfl rfl rfl (gv_t h268 (h296 q)))), E, (fun c k_ => ((fr298 c (nin_sub (M := [(162, 162), (170, 171)]) k_ rfl)).trans (fr270 c (nin_ne (a := 162) k_ rfl)))), (fun j k8_ k10_ k11_ k12_ k14_ k15_ k16_ k17_ k18_ => ((fc299 j k8_ k10_ k11_ k12_ k14_ k15_ k16_ k17_ k18_).trans (fc271 j k8_ k10_ k11_ k12_)))⟩
            · replace E := xq_ep c286 E
              refine J_lload_n (i := 2) (j := 3) dX11_hillLine_239 rfl rfl ?_
              refine J_ldc2 (v := 1886350948) dX11_hillLine_240 k1442 ?_
              refine J_lcmp dX11_hillLine_243 ?_
              refine J_if_ne (tgt := 255) dX11_hillLine_244 (by decide) (fun _ => ?_) (fun q => absurd q c272)
              refine J_aload_n (i := 0) (j := 1) dX11_hillLine_255 rfl rfl ?_
              refine J_iload_n (i := 1) (j := 2) dX11_hillLine_256 rfl rfl ?_
              refine J_callV (As := [.int at0]) (rest := []) dX11_hillLine_257 (c_M_rainLineX (d := 4) (u := u262) (g := g263) (ex := ex) (at0 := at0)  (by decide) h264 (bd_r (fc271 9 (Nat.ne_of_beq_eq_false rfl) (Nat.ne_of_beq_eq_false rfl) (Nat.ne_of_beq_eq_false rfl) (Nat.ne_of_beq_eq_false rfl)) hp1) h267 (bd_r (fc271 17 (Nat.ne_of_beq_eq_false rfl) (Nat.ne_of_beq_eq_false rfl) (Nat.ne_of_beq_eq_false rfl) (Nat.ne_of_beq_eq_false rfl)) hp3) (ab_c (fr270 171 (Nat.ne_of_beq_eq_false rfl)) hp4) (rh_c (fr270 170 (Nat.ne_of_beq_eq_false rfl)) hp5)) hq.n k1464 k1466 k46 wc_162 rfl rfl k97 k1467 np_X11_rainLine (Nat.le_trans (by decide) hd) (by decide) (Nat.le_refl _) (Nat.le_refl _) wlen rfl (Nat.le_of_ble_eq_true rfl) (fun r_ h_ p300 => ?_)
              obtain ⟨t301, u302, g303, rfl, rfl, h304, h305, h306, h307, h308, h309, hx310, fr311, fc312⟩ := p300
              replace E := xq_e3 hx310 E
              exact J_zret hq dX11_hillLine_260 rfl (bI_n _) wlen (Nat.le_refl _) (Nat.le_refl _) ⟨t301, u302, g303, rfl, rfl, h304, h305, h306, h307, h308, (fun q => (gv_r rfl rfl rfl (gv_t h268 (h309 q)))), E, (fun c k_ => ((fr311 c (nin_sub (M := [(162, 162), (170, 171)]) k_ rfl)).trans (fr270 c (nin_ne (a := 162) k_ rfl)))), (fun j k8_ k10_ k11_ k12_ k14_ k15_ k16_ k17_ k18_ => ((fc312 j k8_ k10_ k11_ k12_ k14_ k15_ k16_ k17_ k18_).trans (fc271 j k8_ k10_ k11_ k12_)))⟩
        refine J_if_ne (tgt := 69) dX11_hillLine_61 (by decide) (fun c249 => ?_) (fun c249 => ?_)
        · replace E := xq_en c249 E
          refine J_lload_n (i := 2) (j := 1) dX11_hillLine_69 rfl rfl ?_
          refine J_ldc2 (v := 418548114533) dX11_hillLine_70 k1433 ?_
          refine J_lcmp dX11_hillLine_73 ?_
          refine J_if_ne (tgt := 82) dX11_hillLine_74 (by decide) (fun c313 => ?_) (fun c313 => ?_)
          · replace E := xq_en c313 E
            refine J_lload_n (i := 2) (j := 1) dX11_hillLine_82 rfl rfl ?_
            refine J_ldc2 (v := 422607680115) dX11_hillLine_83 k1434 ?_
            refine J_lcmp dX11_hillLine_86 ?_
            refine J_if_ne (tgt := 94) dX11_hillLine_87 (by decide) (fun c314 => ?_) (fun c314 => ?_)
            · replace E := xq_en c314 E
              refine J_lload_n (i := 2) (j := 1) dX11_hillLine_94 rfl rfl ?_
              refine J_ldc2 (v := 1735353715) dX11_hillLine_95 k1435 ?_
              refine J_lcmp dX11_hillLine_98 ?_
              refine J_if_ne (tgt := 106) dX11_hillLine_99 (by decide) (fun c315 => ?_) (fun c315 => ?_)
              · replace E := xq_en c315 E
                refine J_lload_n (i := 2) (j := 1) dX11_hillLine_106 rfl rfl ?_
                refine J_ldc2 (v := 1751216749) dX11_hillLine_107 k1436 ?_
                refine J_lcmp dX11_hillLine_110 ?_
                refine J_if_ne (tgt := 118) dX11_hillLine_111 (by decide) (fun c316 => ?_) (fun c316 => ?_)
                · replace E := xq_en c316 E
                  refine J_lload_n (i := 2) (j := 1) dX11_hillLine_118 rfl rfl ?_
                  refine J_ldc2 (v := 478745093490) dX11_hillLine_119 k1437 ?_
                  refine J_lcmp dX11_hillLine_122 ?_
                  refine J_if_ne (tgt := 131) dX11_hillLine_123 (by decide) (fun c317 => ?_) (fun c317 => ?_)
                  · replace E := xq_en c317 E
                    refine J_lload_n (i := 2) (j := 1) dX11_hillLine_131 rfl rfl ?_
                    refine J_ldc2 (v := 1919509349) dX11_hillLine_132 k1438 ?_
                    refine J_lcmp dX11_hillLine_135 ?_
                    refine J_if_ne (tgt := 144) dX11_hillLine_136 (by decide) (fun c318 => ?_) (fun c318 => ?_)
                    · replace E := xq_en c318 E
                      refine J_lload_n (i := 2) (j := 1) dX11_hillLine_144 rfl rfl ?_
                      refine J_ldc2 (v := 7823737) dX11_hillLine_145 k1439 ?_
                      refine J_lcmp dX11_hillLine_148 ?_
                      refine J_if_ne (tgt := 157) dX11_hillLine_149 (by decide) (fun c319 => ?_) (fun c319 => ?_)
                      · replace E := xq_en c319 E
                        refine J_lload_n (i := 2) (j := 1) dX11_hillLine_157 rfl rfl ?_
                        refine J_ldc2 (v := 1734440037) dX11_hillLine_158 k1440 ?_
                        refine J_lcmp dX11_hillLine_161 ?_
                        refine J_if_ne (tgt := 170) dX11_hillLine_162 (by decide) (fun c320 => ?_) (fun c320 => ?_)
                        · replace E := xq_en c320 E
                          refine J_lload_n (i := 2) (j := 1) dX11_hillLine_170 rfl rfl ?_
                          refine J_ldc2 (v := 1936287598) dX11_hillLine_171 k1441 ?_
                          refine J_lcmp dX11_hillLine_174 ?_
                          refine J_if_ne (tgt := 183) dX11_hillLine_175 (by decide) (fun c321 => ?_) (fun c321 => ?_)
                          · replace E := xq_en c321 E
                            refine J_iconst (v := (-1)) dX11_hillLine_183 (by decide) ?_
                            refine J_lv [2, 3, 1, 0] rfl ?_
                            exact jn260 ((-1) : Int32) (bd_w (l := (-1)) (h := 13) (bd_c (v := (-1)) (lo := (-1)) (hi := (-1)) (by decide)) (by decide)) E
                          · replace E := xq_ep c321 E
                            refine J_bipush (v := 13) dX11_hillLine_178 (by decide) ?_
                            refine J_goto (tgt := 184) dX11_hillLine_180 (by decide) ?_
                            refine J_lv [2, 3, 1, 0] rfl ?_
                            exact jn260 (13 : Int32) (bd_w (l := (-1)) (h := 13) (bd_c (v := 13) (lo := 13) (hi := 13) (by decide)) (by decide)) E
                        · replace E := xq_ep c320 E
                          refine J_bipush (v := 12) dX11_hillLine_165 (by decide) ?_
                          refine J_goto (tgt := 184) dX11_hillLine_167 (by decide) ?_
                          refine J_lv [2, 3, 1, 0] rfl ?_
                          exact jn260 (12 : Int32) (bd_w (l := (-1)) (h := 13) (bd_c (v := 12) (lo := 12) (hi := 12) (by decide)) (by decide)) E
                      · replace E := xq_ep c319 E
                        refine J_bipush (v := 11) dX11_hillLine_152 (by decide) ?_
                        refine J_goto (tgt := 184) dX11_hillLine_154 (by decide) ?_
                        refine J_lv [2, 3, 1, 0] rfl ?_
                        exact jn260 (11 : Int32) (bd_w (l := (-1)) (h := 13) (bd_c (v := 11) (lo := 11) (hi := 11) (by decide)) (by decide)) E
                    · replace E := xq_ep c318 E
                      refine J_bipush (v := 7) dX11_hillLine_139 (by decide) ?_
                      refine J_goto (tgt := 184) dX11_hillLine_141 (by decide) ?_
                      refine J_lv [2, 3, 1, 0] rfl ?_
                      exact jn260 (7 : Int32) (bd_w (l := (-1)) (h := 13) (bd_c (v := 7) (lo := 7) (hi := 7) (by decide)) (by decide)) E
                  · replace E := xq_ep c317 E
                    refine J_bipush (v := 6) dX11_hillLine_126 (by decide) ?_
                    refine J_goto (tgt := 184) dX11_hillLine_128 (by decide) ?_
                    refine J_lv [2, 3, 1, 0] rfl ?_
                    exact jn260 (6 : Int32) (bd_w (l := (-1)) (h := 13) (bd_c (v := 6) (lo := 6) (hi := 6) (by decide)) (by decide)) E
                · replace E := xq_ep c316 E
                  refine J_iconst (v := 5) dX11_hillLine_114 (by decide) ?_
                  refine J_goto (tgt := 184) dX11_hillLine_115 (by decide) ?_
                  refine J_lv [2, 3, 1, 0] rfl ?_
                  exact jn260 (5 : Int32) (bd_w (l := (-1)) (h := 13) (bd_c (v := 5) (lo := 5) (hi := 5) (by decide)) (by decide)) E
              · replace E := xq_ep c315 E
                refine J_iconst (v := 4) dX11_hillLine_102 (by decide) ?_
                refine J_goto (tgt := 184) dX11_hillLine_103 (by decide) ?_
                refine J_lv [2, 3, 1, 0] rfl ?_
                exact jn260 (4 : Int32) (bd_w (l := (-1)) (h := 13) (bd_c (v := 4) (lo := 4) (hi := 4) (by decide)) (by decide)) E
            · replace E := xq_ep c314 E
              refine J_iconst (v := 3) dX11_hillLine_90 (by decide) ?_
              refine J_goto (tgt := 184) dX11_hillLine_91 (by decide) ?_
              refine J_lv [2, 3, 1, 0] rfl ?_
              exact jn260 (3 : Int32) (bd_w (l := (-1)) (h := 13) (bd_c (v := 3) (lo := 3) (hi := 3) (by decide)) (by decide)) E
          · replace E := xq_ep c313 E
            refine J_bipush (v := 9) dX11_hillLine_77 (by decide) ?_
            refine J_goto (tgt := 184) dX11_hillLine_79 (by decide) ?_
            refine J_lv [2, 3, 1, 0] rfl ?_
            exact jn260 (9 : Int32) (bd_w (l := (-1)) (h := 13) (bd_c (v := 9) (lo := 9) (hi := 9) (by decide)) (by decide)) E
        · replace E := xq_ep c249 E
          refine J_bipush (v := 8) dX11_hillLine_64 (by decide) ?_
          refine J_goto (tgt := 184) dX11_hillLine_66 (by decide) ?_
          refine J_lv [2, 3, 1, 0] rfl ?_
          exact jn260 (8 : Int32) (bd_w (l := (-1)) (h := 13) (bd_c (v := 8) (lo := 8) (hi := 8) (by decide)) (by decide)) E
    · replace E := xq_ep c5 E
      refine J_iconst (v := 2) dX11_hillLine_25 (by decide) ?_
      refine J_goto (tgt := 54) dX11_hillLine_26 (by decide) ?_
      refine J_istore (i := 4) (lw := [(4, .int 2), (2, .long w3), (0, .ref 162), (1, .int at0)]) dX11_hillLine_54 (by decide) rfl ?_
      refine J_lload_n (i := 2) (j := 1) dX11_hillLine_56 rfl rfl ?_
      refine J_ldc2 (v := 1685026670) dX11_hillLine_57 k1432 ?_
      refine J_lcmp dX11_hillLine_60 ?_
      have jn333 : ∀ (w332 : Int32), Bd (-1) 13 w332 → Fx_M_hillLineX_J184d at0 u g w3 w332 = Fx_M_hillLineX at0 u g → J x yX11_hillLine cX11_hillLine 7 (some .boolean) d 0 0 (Wd u g ex).length 184 [(0, .ref 162), (1, .int at0), (2, .long w3), (4, .int 2)] [.int w332] (Wd u g ex) 0 0 := by
        intro w332 bw332 E
        refine J_istore (i := 5) (lw := [(5, .int w332), (0, .ref 162), (1, .int at0), (2, .long w3), (4, .int 2)]) dX11_hillLine_184 (by decide) rfl ?_
        refine J_iload (i := 4) (j := 4) dX11_hillLine_186 rfl ?_
        refine J_iconst (v := (-1)) dX11_hillLine_188 (by decide) ?_
        refine J_icmp_ne (tgt := 219) dX11_hillLine_189 (by decide) (fun _ => ?_) (fun q => absurd q (by decide))
        refine J_aload_n (i := 0) (j := 1) dX11_hillLine_219 rfl rfl ?_
        refine J_callV (As := []) (rest := []) dX11_hillLine_220 (c_M_tokenX (d := 1) (u := u) (g := g) (ex := ex)   (by decide) hp0 hp1 hp2) hq.n k1417 k1419 k38 wc_162 rfl rfl k97 k1420 np_X11_token (Nat.le_trans (by decide) hd) (by decide) (Nat.le_refl _) (Nat.le_refl _) wlen rfl (Nat.le_of_ble_eq_true rfl) (fun r_ h_ p334 => ?_)
        obtain ⟨u335, g336, rfl, rfl, h337, h338, h339, h340, h341, hx342, fr343, fc344⟩ := p334
        replace E := xq_e2 hx342 E
        refine J_lload_n (i := 2) (j := 3) dX11_hillLine_223 rfl rfl ?_
        refine J_ldc2 (v := 1886350948) dX11_hillLine_224 k1442 ?_
        refine J_lcmp dX11_hillLine_227 ?_
        refine J_if_eq (tgt := 239) dX11_hillLine_228 (by decide) (fun c345 => ?_) (fun c345 => ?_)
        · replace E := xq_ep c345 E
          refine J_lload_n (i := 2) (j := 3) dX11_hillLine_239 rfl rfl ?_
          refine J_ldc2 (v := 1886350948) dX11_hillLine_240 k1442 ?_
          refine J_lcmp dX11_hillLine_243 ?_
          refine J_if_ne (tgt := 255) dX11_hillLine_244 (by decide) (fun q => absurd c345 q) (fun _ => ?_)
          refine J_aload_n (i := 0) (j := 1) dX11_hillLine_247 rfl rfl ?_
          refine J_iload_n (i := 1) (j := 2) dX11_hillLine_248 rfl rfl ?_
          refine J_callV (As := [.int at0]) (rest := []) dX11_hillLine_249 (c_M_pondLineX (d := 4) (u := u335) (g := g336) (ex := ex) (at0 := at0)  (by decide) h337 (bd_r (fc344 9 (Nat.ne_of_beq_eq_false rfl) (Nat.ne_of_beq_eq_false rfl) (Nat.ne_of_beq_eq_false rfl) (Nat.ne_of_beq_eq_false rfl)) hp1) h340 (bd_r (fc344 17 (Nat.ne_of_beq_eq_false rfl) (Nat.ne_of_beq_eq_false rfl) (Nat.ne_of_beq_eq_false rfl) (Nat.ne_of_beq_eq_false rfl)) hp3) (ab_c (fr343 171 (Nat.ne_of_beq_eq_false rfl)) hp4) (rh_c (fr343 170 (Nat.ne_of_beq_eq_false rfl)) hp5)) hq.n k1448 k1450 k42 wc_162 rfl rfl k97 k1451 np_X11_pondLine (Nat.le_trans (by decide) hd) (by decide) (Nat.le_refl _) (Nat.le_refl _) wlen rfl (Nat.le_of_ble_eq_true rfl) (fun r_ h_ p346 => ?_)
          obtain ⟨t347, u348, g349, rfl, rfl, h350, h351, h352, h353, h354, h355, hx356, fr357, fc358⟩ := p346
          replace E := xq_e3 hx356 E
          refine J_goto (tgt := 260) dX11_hillLine_252 (by decide) ?_
          exact J_zret hq dX11_hillLine_260 rfl (bI_n _) wlen (Nat.le_refl _) (Nat.le_refl _) ⟨t347, u348, g349, rfl, rfl, h350, h351, h352, h353, h354, (fun q => (gv_r rfl rfl rfl (gv_t h341 (h355 q)))), E, (fun c k_ => ((fr357 c (nin_sub (M := [(162, 162), (170, 171)]) k_ rfl)).trans (fr343 c (nin_ne (a := 162) k_ rfl)))), (fun j k8_ k10_ k11_ k12_ k14_ k15_ k16_ k17_ k18_ => ((fc358 j k8_ k10_ k11_ k12_ k14_ k15_ k16_ k17_ k18_).trans (fc344 j k8_ k10_ k11_ k12_)))⟩
        · replace E := xq_en c345 E
          refine J_lload_n (i := 2) (j := 3) dX11_hillLine_231 rfl rfl ?_
          refine J_ldc2 (v := 1918986606) dX11_hillLine_232 k1443 ?_
          refine J_lcmp dX11_hillLine_235 ?_
          refine J_if_ne (tgt := 261) dX11_hillLine_236 (by decide) (fun c359 => ?_) (fun c359 => ?_)
          · replace E := xq_en c359 E
            refine J_iload (i := 4) (j := 4) dX11_hillLine_261 rfl ?_
            refine J_iconst (v := (-1)) dX11_hillLine_263 (by decide) ?_
            refine J_icmp_eq (tgt := 274) dX11_hillLine_264 (by decide) (fun q => absurd q (by decide)) (fun _ => ?_)
            refine J_aload_n (i := 0) (j := 1) dX11_hillLine_267 rfl rfl ?_
            refine J_iload (i := 4) (j := 4) dX11_hillLine_268 rfl ?_
            refine J_callV (As := [.int 2]) (rest := []) dX11_hillLine_270 (c_M_daysLineX (d := 3) (u := u335) (g := g336) (ex := ex) (to := 2)  (by decide) h337 (bd_r (fc344 9 (Nat.ne_of_beq_eq_false rfl) (Nat.ne_of_beq_eq_false rfl) (Nat.ne_of_beq_eq_false rfl) (Nat.ne_of_beq_eq_false rfl)) hp1) h340 (bd_r (fc344 17 (Nat.ne_of_beq_eq_false rfl) (Nat.ne_of_beq_eq_false rfl) (Nat.ne_of_beq_eq_false rfl) (Nat.ne_of_beq_eq_false rfl)) hp3) (ab_c (fr343 171 (Nat.ne_of_beq_eq_false rfl)) hp4) (rh_c (fr343 170 (Nat.ne_of_beq_eq_false rfl)) hp5) (bd_w (l := 2) (h := 4) (bd_c (v := 2) (lo := 2) (hi := 2) (by decide)) (by decide))) hq.n k1468 k1470 k47 wc_162 rfl rfl k97 k1471 np_X11_daysLine (Nat.le_trans (by decide) hd) (by decide) (Nat.le_refl _) (Nat.le_refl _) wlen rfl (Nat.le_of_ble_eq_true rfl) (fun r_ h_ p360 => ?_)
            obtain ⟨t361, u362, g363, rfl, rfl, h364, h365, h366, h367, h368, h369, hx370, fr371, fc372⟩ := p360
            replace E := xq_e3 hx370 E
            exact J_zret hq dX11_hillLine_273 rfl (bI_n _) wlen (Nat.le_refl _) (Nat.le_refl _) ⟨t361, u362, g363, rfl, rfl, h364, h365, h366, h367, h368, (fun q => (gv_r rfl rfl rfl (gv_t h341 (h369 q)))), E, (fun c k_ => ((fr371 c (nin_sub (M := [(162, 162), (170, 171)]) k_ rfl)).trans (fr343 c (nin_ne (a := 162) k_ rfl)))), (fun j k8_ k10_ k11_ k12_ k14_ k15_ k16_ k17_ k18_ => ((fc372 j k8_ k10_ k11_ k12_ k14_ k15_ k16_ k17_ k18_).trans (fc344 j k8_ k10_ k11_ k12_)))⟩
          · replace E := xq_ep c359 E
            refine J_lload_n (i := 2) (j := 3) dX11_hillLine_239 rfl rfl ?_
            refine J_ldc2 (v := 1886350948) dX11_hillLine_240 k1442 ?_
            refine J_lcmp dX11_hillLine_243 ?_
            refine J_if_ne (tgt := 255) dX11_hillLine_244 (by decide) (fun _ => ?_) (fun q => absurd q c345)
            refine J_aload_n (i := 0) (j := 1) dX11_hillLine_255 rfl rfl ?_
            refine J_iload_n (i := 1) (j := 2) dX11_hillLine_256 rfl rfl ?_
            refine J_callV (As := [.int at0]) (rest := []) dX11_hillLine_257 (c_M_rainLineX (d := 4) (u := u335) (g := g336) (ex := ex) (at0 := at0)  (by decide) h337 (bd_r (fc344 9 (Nat.ne_of_beq_eq_false rfl) (Nat.ne_of_beq_eq_false rfl) (Nat.ne_of_beq_eq_false rfl) (Nat.ne_of_beq_eq_false rfl)) hp1) h340 (bd_r (fc344 17 (Nat.ne_of_beq_eq_false rfl) (Nat.ne_of_beq_eq_false rfl) (Nat.ne_of_beq_eq_false rfl) (Nat.ne_of_beq_eq_false rfl)) hp3) (ab_c (fr343 171 (Nat.ne_of_beq_eq_false rfl)) hp4) (rh_c (fr343 170 (Nat.ne_of_beq_eq_false rfl)) hp5)) hq.n k1464 k1466 k46 wc_162 rfl rfl k97 k1467 np_X11_rainLine (Nat.le_trans (by decide) hd) (by decide) (Nat.le_refl _) (Nat.le_refl _) wlen rfl (Nat.le_of_ble_eq_true rfl) (fun r_ h_ p373 => ?_)
            obtain ⟨t374, u375, g376, rfl, rfl, h377, h378, h379, h380, h381, h382, hx383, fr384, fc385⟩ := p373
            replace E := xq_e3 hx383 E
            exact J_zret hq dX11_hillLine_260 rfl (bI_n _) wlen (Nat.le_refl _) (Nat.le_refl _) ⟨t374, u375, g376, rfl, rfl, h377, h378, h379, h380, h381, (fun q => (gv_r rfl rfl rfl (gv_t h341 (h382 q)))), E, (fun c k_ => ((fr384 c (nin_sub (M := [(162, 162), (170, 171)]) k_ rfl)).trans (fr343 c (nin_ne (a := 162) k_ rfl)))), (fun j k8_ k10_ k11_ k12_ k14_ k15_ k16_ k17_ k18_ => ((fc385 j k8_ k10_ k11_ k12_ k14_ k15_ k16_ k17_ k18_).trans (fc344 j k8_ k10_ k11_ k12_)))⟩
      refine J_if_ne (tgt := 69) dX11_hillLine_61 (by decide) (fun c322 => ?_) (fun c322 => ?_)
      · replace E := xq_en c322 E
        refine J_lload_n (i := 2) (j := 1) dX11_hillLine_69 rfl rfl ?_
        refine J_ldc2 (v := 418548114533) dX11_hillLine_70 k1433 ?_
        refine J_lcmp dX11_hillLine_73 ?_
        refine J_if_ne (tgt := 82) dX11_hillLine_74 (by decide) (fun c386 => ?_) (fun c386 => ?_)
        · replace E := xq_en c386 E
          refine J_lload_n (i := 2) (j := 1) dX11_hillLine_82 rfl rfl ?_
          refine J_ldc2 (v := 422607680115) dX11_hillLine_83 k1434 ?_
          refine J_lcmp dX11_hillLine_86 ?_
          refine J_if_ne (tgt := 94) dX11_hillLine_87 (by decide) (fun c387 => ?_) (fun c387 => ?_)
          · replace E := xq_en c387 E
            refine J_lload_n (i := 2) (j := 1) dX11_hillLine_94 rfl rfl ?_
            refine J_ldc2 (v := 1735353715) dX11_hillLine_95 k1435 ?_
            refine J_lcmp dX11_hillLine_98 ?_
            refine J_if_ne (tgt := 106) dX11_hillLine_99 (by decide) (fun c388 => ?_) (fun c388 => ?_)
            · replace E := xq_en c388 E
              refine J_lload_n (i := 2) (j := 1) dX11_hillLine_106 rfl rfl ?_
              refine J_ldc2 (v := 1751216749) dX11_hillLine_107 k1436 ?_
              refine J_lcmp dX11_hillLine_110 ?_
              refine J_if_ne (tgt := 118) dX11_hillLine_111 (by decide) (fun c389 => ?_) (fun c389 => ?_)
              · replace E := xq_en c389 E
                refine J_lload_n (i := 2) (j := 1) dX11_hillLine_118 rfl rfl ?_
                refine J_ldc2 (v := 478745093490) dX11_hillLine_119 k1437 ?_
                refine J_lcmp dX11_hillLine_122 ?_
                refine J_if_ne (tgt := 131) dX11_hillLine_123 (by decide) (fun c390 => ?_) (fun c390 => ?_)
                · replace E := xq_en c390 E
                  refine J_lload_n (i := 2) (j := 1) dX11_hillLine_131 rfl rfl ?_
                  refine J_ldc2 (v := 1919509349) dX11_hillLine_132 k1438 ?_
                  refine J_lcmp dX11_hillLine_135 ?_
                  refine J_if_ne (tgt := 144) dX11_hillLine_136 (by decide) (fun c391 => ?_) (fun c391 => ?_)
                  · replace E := xq_en c391 E
                    refine J_lload_n (i := 2) (j := 1) dX11_hillLine_144 rfl rfl ?_
                    refine J_ldc2 (v := 7823737) dX11_hillLine_145 k1439 ?_
                    refine J_lcmp dX11_hillLine_148 ?_
                    refine J_if_ne (tgt := 157) dX11_hillLine_149 (by decide) (fun c392 => ?_) (fun c392 => ?_)
                    · replace E := xq_en c392 E
                      refine J_lload_n (i := 2) (j := 1) dX11_hillLine_157 rfl rfl ?_
                      refine J_ldc2 (v := 1734440037) dX11_hillLine_158 k1440 ?_
                      refine J_lcmp dX11_hillLine_161 ?_
                      refine J_if_ne (tgt := 170) dX11_hillLine_162 (by decide) (fun c393 => ?_) (fun c393 => ?_)
                      · replace E := xq_en c393 E
                        refine J_lload_n (i := 2) (j := 1) dX11_hillLine_170 rfl rfl ?_
                        refine J_ldc2 (v := 1936287598) dX11_hillLine_171 k1441 ?_
                        refine J_lcmp dX11_hillLine_174 ?_
                        refine J_if_ne (tgt := 183) dX11_hillLine_175 (by decide) (fun c394 => ?_) (fun c394 => ?_)
                        · replace E := xq_en c394 E
                          refine J_iconst (v := (-1)) dX11_hillLine_183 (by decide) ?_
                          refine J_lv [2, 3, 1, 0] rfl ?_
                          exact jn333 ((-1) : Int32) (bd_w (l := (-1)) (h := 13) (bd_c (v := (-1)) (lo := (-1)) (hi := (-1)) (by decide)) (by decide)) E
                        · replace E := xq_ep c394 E
                          refine J_bipush (v := 13) dX11_hillLine_178 (by decide) ?_
                          refine J_goto (tgt := 184) dX11_hillLine_180 (by decide) ?_
                          refine J_lv [2, 3, 1, 0] rfl ?_
                          exact jn333 (13 : Int32) (bd_w (l := (-1)) (h := 13) (bd_c (v := 13) (lo := 13) (hi := 13) (by decide)) (by decide)) E
                      · replace E := xq_ep c393 E
                        refine J_bipush (v := 12) dX11_hillLine_165 (by decide) ?_
                        refine J_goto (tgt := 184) dX11_hillLine_167 (by decide) ?_
                        refine J_lv [2, 3, 1, 0] rfl ?_
                        exact jn333 (12 : Int32) (bd_w (l := (-1)) (h := 13) (bd_c (v := 12) (lo := 12) (hi := 12) (by decide)) (by decide)) E
                    · replace E := xq_ep c392 E
                      refine J_bipush (v := 11) dX11_hillLine_152 (by decide) ?_
                      refine J_goto (tgt := 184) dX11_hillLine_154 (by decide) ?_
                      refine J_lv [2, 3, 1, 0] rfl ?_
                      exact jn333 (11 : Int32) (bd_w (l := (-1)) (h := 13) (bd_c (v := 11) (lo := 11) (hi := 11) (by decide)) (by decide)) E
                  · replace E := xq_ep c391 E
                    refine J_bipush (v := 7) dX11_hillLine_139 (by decide) ?_
                    refine J_goto (tgt := 184) dX11_hillLine_141 (by decide) ?_
                    refine J_lv [2, 3, 1, 0] rfl ?_
                    exact jn333 (7 : Int32) (bd_w (l := (-1)) (h := 13) (bd_c (v := 7) (lo := 7) (hi := 7) (by decide)) (by decide)) E
                · replace E := xq_ep c390 E
                  refine J_bipush (v := 6) dX11_hillLine_126 (by decide) ?_
                  refine J_goto (tgt := 184) dX11_hillLine_128 (by decide) ?_
                  refine J_lv [2, 3, 1, 0] rfl ?_
                  exact jn333 (6 : Int32) (bd_w (l := (-1)) (h := 13) (bd_c (v := 6) (lo := 6) (hi := 6) (by decide)) (by decide)) E
              · replace E := xq_ep c389 E
                refine J_iconst (v := 5) dX11_hillLine_114 (by decide) ?_
                refine J_goto (tgt := 184) dX11_hillLine_115 (by decide) ?_
                refine J_lv [2, 3, 1, 0] rfl ?_
                exact jn333 (5 : Int32) (bd_w (l := (-1)) (h := 13) (bd_c (v := 5) (lo := 5) (hi := 5) (by decide)) (by decide)) E
            · replace E := xq_ep c388 E
              refine J_iconst (v := 4) dX11_hillLine_102 (by decide) ?_
              refine J_goto (tgt := 184) dX11_hillLine_103 (by decide) ?_
              refine J_lv [2, 3, 1, 0] rfl ?_
              exact jn333 (4 : Int32) (bd_w (l := (-1)) (h := 13) (bd_c (v := 4) (lo := 4) (hi := 4) (by decide)) (by decide)) E
          · replace E := xq_ep c387 E
            refine J_iconst (v := 3) dX11_hillLine_90 (by decide) ?_
            refine J_goto (tgt := 184) dX11_hillLine_91 (by decide) ?_
            refine J_lv [2, 3, 1, 0] rfl ?_
            exact jn333 (3 : Int32) (bd_w (l := (-1)) (h := 13) (bd_c (v := 3) (lo := 3) (hi := 3) (by decide)) (by decide)) E
        · replace E := xq_ep c386 E
          refine J_bipush (v := 9) dX11_hillLine_77 (by decide) ?_
          refine J_goto (tgt := 184) dX11_hillLine_79 (by decide) ?_
          refine J_lv [2, 3, 1, 0] rfl ?_
          exact jn333 (9 : Int32) (bd_w (l := (-1)) (h := 13) (bd_c (v := 9) (lo := 9) (hi := 9) (by decide)) (by decide)) E
      · replace E := xq_ep c322 E
        refine J_bipush (v := 8) dX11_hillLine_64 (by decide) ?_
        refine J_goto (tgt := 184) dX11_hillLine_66 (by decide) ?_
        refine J_lv [2, 3, 1, 0] rfl ?_
        exact jn333 (8 : Int32) (bd_w (l := (-1)) (h := 13) (bd_c (v := 8) (lo := 8) (hi := 8) (by decide)) (by decide)) E
  refine J_icmp_ne (tgt := 15) dX11_hillLine_5 (by decide) (fun c1 => ?_) (fun c1 => ?_)
  · replace E := xq_en c1 E
    refine J_lconst (v := 0) dX11_hillLine_15 (by decide) ?_
    refine J_lv [0, 1] rfl ?_
    exact jn4 (0 : Int64)  E
  · replace E := xq_ep c1 E
    refine J_aload_n (i := 0) (j := 0) dX11_hillLine_8 rfl rfl ?_
    refine J_get (C := RX11) (T := TX11) (Z := 43) (ci := 11) (f := 13) dX11_hillLine_9 inG11 rfl (by decide) k1277 wc_162 rfl ?_
    refine J_topl (fun l395 ql395 => ?_)
    replace E := xq_le ql395 E
    refine J_goto (tgt := 16) dX11_hillLine_12 (by decide) ?_
    refine J_lv [0, 1] rfl ?_
    exact jn4 l395  E
set_option maxRecDepth 100000 in
noncomputable def Fx_M_workLineX_J248 (g40 : Nat → Nat → Int64) (u63 : Nat → Nat → Int32) : Bool × (Nat → Nat → Int32) × (Nat → Nat → Int64) := (true, u63, g40)
set_option maxRecDepth 100000 in
noncomputable def Fx_M_workLineX_J248b (g86 : Nat → Nat → Int64) (u108 : Nat → Nat → Int32) : Bool × (Nat → Nat → Int32) × (Nat → Nat → Int64) := (true, u108, g86)
set_option maxRecDepth 100000 in
noncomputable def Fx_M_workLineX_J176 (u : Nat → Nat → Int32) (w10 : Int32) (u39 : Nat → Nat → Int32) (g40 : Nat → Nat → Int64) (w77 : Int32) (w81 : Int32) : Bool × (Nat → Nat → Int32) × (Nat → Nat → Int64) := xq_c3 (Fx_M_take1X w77 w81 u39 g40) fun t84 u85 g86 => if t84 = true then (if (12 : Int32) ≤ (u 170 0) then (Fx_M_workLineX_J248b g86 u85) else (xq_lt (ms u85 170 (((1 : Int32) + ((3 : Int32) * (u 170 0))).toNatClampNeg) w10) fun u113 => xq_lt (ms u113 170 (((2 : Int32) + ((3 : Int32) * (u 170 0))).toNatClampNeg) (u39 171 0)) fun u115 => xq_lt (ms u115 170 (((3 : Int32) + ((3 : Int32) * (u 170 0))).toNatClampNeg) (u85 171 1)) fun u117 => xq_lt (ms u117 170 0 ((u 170 0) + 1)) fun u119 => Fx_M_workLineX_J248b g86 u119)) else ((false, u85, g86))
set_option maxRecDepth 100000 in
noncomputable def Fx_M_workLineX_J153 (u : Nat → Nat → Int32) (w10 : Int32) (u39 : Nat → Nat → Int32) (g40 : Nat → Nat → Int64) (w77 : Int32) : Bool × (Nat → Nat → Int32) × (Nat → Nat → Int64) := if w10 = (0 : Int32) then (Fx_M_workLineX_J176 u w10 u39 g40 w77 (10 : Int32)) else (if w10 = (3 : Int32) then (Fx_M_workLineX_J176 u w10 u39 g40 w77 (8 : Int32)) else (Fx_M_workLineX_J176 u w10 u39 g40 w77 (24 : Int32)))
set_option maxRecDepth 100000 in
noncomputable def Fx_M_workLineX_J112 (u : Nat → Nat → Int32) (g : Nat → Nat → Int64) (w10 : Int32) (u20 : Nat → Nat → Int32) : Bool × (Nat → Nat → Int32) × (Nat → Nat → Int64) := xq_c2 (Fx_M_tokenX u20 g) fun u25 g26 => xq_lt (ms u25 171 1 (-1)) fun u35 => xq_c3 (Fx_M_take0X (0 : Int32) (8 : Int32) u35 g26) fun t38 u39 g40 => if t38 = true then (if w10 = (4 : Int32) then (if (12 : Int32) ≤ (u 170 0) then (Fx_M_workLineX_J248 g40 u39) else (xq_lt (ms u39 170 (((1 : Int32) + ((3 : Int32) * (u 170 0))).toNatClampNeg) w10) fun u68 => xq_lt (ms u68 170 (((2 : Int32) + ((3 : Int32) * (u 170 0))).toNatClampNeg) (u39 171 0)) fun u70 => xq_lt (ms u70 170 (((3 : Int32) + ((3 : Int32) * (u 170 0))).toNatClampNeg) (-1)) fun u72 => xq_lt (ms u72 170 0 ((u 170 0) + 1)) fun u74 => Fx_M_workLineX_J248 g40 u74)) else (if w10 = (3 : Int32) then (Fx_M_workLineX_J153 u w10 u39 g40 (0 : Int32)) else (Fx_M_workLineX_J153 u w10 u39 g40 (1 : Int32)))) else ((false, u39, g40))
set_option maxRecDepth 100000 in
noncomputable def Fx_M_workLineX_J78 (at0 : Int32) (u : Nat → Nat → Int32) (g : Nat → Nat → Int64) (w10 : Int32) : Bool × (Nat → Nat → Int32) × (Nat → Nat → Int64) := if w10 = ((-1) : Int32) then (xq_lt (Fx_M_stopsX u g) fun u129 => (false, u129, g)) else (if (u 170 0) = (12 : Int32) then (xq_lt (Fx_M_laterX (3 : Int32) at0 u g) fun u123 => Fx_M_workLineX_J112 u g w10 u123) else (Fx_M_workLineX_J112 u g w10 u))
set_option maxRecDepth 100000 in
noncomputable def Fx_M_workLineX_J16 (at0 : Int32) (u : Nat → Nat → Int32) (g : Nat → Nat → Int64) (w3 : Int64) : Bool × (Nat → Nat → Int32) × (Nat → Nat → Int64) := if (lg_cmp w3 (1835363940 : Int64)) = (0 : Int32) then (Fx_M_workLineX_J78 at0 u g (0 : Int32)) else (if (lg_cmp w3 (7106423 : Int64)) = (0 : Int32) then (Fx_M_workLineX_J78 at0 u g (1 : Int32)) else (if (lg_cmp w3 (512869295470 : Int64)) = (0 : Int32) then (Fx_M_workLineX_J78 at0 u g (2 : Int32)) else (if (lg_cmp w3 (491496238692 : Int64)) = (0 : Int32) then (Fx_M_workLineX_J78 at0 u g (3 : Int32)) else (if (lg_cmp w3 (7304564 : Int64)) = (0 : Int32) then (Fx_M_workLineX_J78 at0 u g (4 : Int32)) else (Fx_M_workLineX_J78 at0 u g ((-1) : Int32))))))
set_option maxRecDepth 100000 in
noncomputable def Fx_M_workLineX (at0 : Int32) (u : Nat → Nat → Int32) (g : Nat → Nat → Int64) : Bool × (Nat → Nat → Int32) × (Nat → Nat → Int64) := if (u 162 11) = (2 : Int32) then (xq_lt (g 162 13) fun l137 => Fx_M_workLineX_J16 at0 u g l137) else (Fx_M_workLineX_J16 at0 u g (0 : Int64))
set_option maxHeartbeats 4000000 in
set_option maxRecDepth 100000 in
theorem c_M_workLineX {d : Nat} {u : Nat → Nat → Int32} {g : Nat → Nat → Int64} {ex : List MC} {at0 : Int32} (hd : 4 ≤ d) (hp0 : Bd 0 600 (u 162 8)) (hp1 : Bd 0 600 (u 162 9)) (hp2 : Bd 0 999 (u 162 12)) (hp3 : Bd 0 999 (u 162 17)) (hp4 : AB u 171 (-1) 999) (hp5 : (RP u)) : CT con0 d 0 0 yX11_workLine cX11_workLine 6 (some .boolean) [.ref 162, .int at0] (Wd u g ex) (fun r h2 => ∃ (z : Bool) (u2 : Nat → Nat → Int32) (g2 : Nat → Nat → Int64), r = some (.int (bI z)) ∧ h2 = Wd u2 g2 ex ∧ Bd 0 600 (u2 162 8) ∧ Bd 0 999 (u2 162 12) ∧ Bd 0 999 (u2 162 17) ∧ AB u2 171 (-1) 999 ∧ (RP u2) ∧ (z = true → GV (u 162 8) (u2 162 8) (u2 162 11)) ∧ (z, u2, g2) = Fx_M_workLineX at0 u g ∧ (∀ c, nin c [(162, 162), (170, 171)] = true → u2 c = u c) ∧ (∀ j, j ≠ 8 → j ≠ 10 → j ≠ 11 → j ≠ 12 → j ≠ 14 → j ≠ 15 → j ≠ 16 → j ≠ 17 → j ≠ 18 → u2 162 j = u 162 j)) := by
  refine CT_of (by decide) (Nat.le_of_ble_eq_true rfl) (fun x hq => ?_)
  show J x yX11_workLine cX11_workLine 6 (some .boolean) d 0 0 (Wd u g ex).length 0 [(0, .ref 162), (1, .int at0)] [] (Wd u g ex) 0 0
  have E : Fx_M_workLineX at0 u g = Fx_M_workLineX at0 u g := rfl
  refine J_aload_n (i := 0) (j := 0) dX11_workLine_0 rfl rfl ?_
  refine J_get (C := RX11) (T := TX11) (Z := 43) (ci := 11) (f := 11) dX11_workLine_1 inG11 rfl (by decide) k1275 wc_162 rfl ?_
  refine J_iconst (v := 2) dX11_workLine_4 (by decide) ?_
  have jn4 : ∀ (w3 : Int64), Fx_M_workLineX_J16 at0 u g w3 = Fx_M_workLineX at0 u g → J x yX11_workLine cX11_workLine 6 (some .boolean) d 0 0 (Wd u g ex).length 16 [(0, .ref 162), (1, .int at0)] [.long w3] (Wd u g ex) 0 0 := by
    intro w3 E
    refine J_lstore_n (i := 2) (lw := [(2, .long w3), (0, .ref 162), (1, .int at0)]) dX11_workLine_16 rfl (by decide) rfl ?_
    refine J_lload_n (i := 2) (j := 0) dX11_workLine_17 rfl rfl ?_
    refine J_ldc2 (v := 1835363940) dX11_workLine_18 k1429 ?_
    refine J_lcmp dX11_workLine_21 ?_
    have jn11 : ∀ (w10 : Int32), Bd (-1) 4 w10 → Fx_M_workLineX_J78 at0 u g w10 = Fx_M_workLineX at0 u g → J x yX11_workLine cX11_workLine 6 (some .boolean) d 0 0 (Wd u g ex).length 78 [(0, .ref 162), (1, .int at0)] [.int w10] (Wd u g ex) 0 0 := by
      intro w10 bw10 E
      refine J_istore (i := 4) (lw := [(4, .int w10), (0, .ref 162), (1, .int at0)]) dX11_workLine_78 (by decide) rfl ?_
      refine J_iload (i := 4) (j := 0) dX11_workLine_80 rfl ?_
      refine J_iconst (v := (-1)) dX11_workLine_82 (by decide) ?_
      refine J_icmp_ne (tgt := 91) dX11_workLine_83 (by decide) (fun c12 => ?_) (fun c12 => ?_)
      · replace E := xq_en c12 E
        refine J_aload_n (i := 0) (j := 1) dX11_workLine_91 rfl rfl ?_
        refine J_get (C := RX11) (T := TX11) (Z := 43) (ci := 11) (f := 19) dX11_workLine_92 inG11 rfl (by decide) k1283 wc_162 rfl ?_
        refine J_iconst (v := 0) dX11_workLine_95 (by decide) ?_
        refine J_iald dX11_workLine_96 wc_170 (vin (bd_c (v := 0) (lo := 0) (hi := 0) (by decide)) (by decide)) ?_
        refine J_ci (v := u 170 0) rfl ?_
        refine J_istore (i := 5) (lw := [(5, .int (u 170 0)), (4, .int w10), (0, .ref 162), (1, .int at0)]) dX11_workLine_97 (by decide) rfl ?_
        refine J_iload (i := 5) (j := 0) dX11_workLine_99 rfl ?_
        refine J_bipush (v := 12) dX11_workLine_101 (by decide) ?_
        have jn23 : ∀ (u20 : Nat → Nat → Int32), (∀ c, c ≠ 162 → u20 c = u c) → (∀ j, j ≠ 15 → j ≠ 16 → u20 162 j = u 162 j) → Fx_M_workLineX_J112 u g w10 u20 = Fx_M_workLineX at0 u g → J x yX11_workLine cX11_workLine 6 (some .boolean) d 0 0 (Wd u g ex).length 112 [(0, .ref 162), (4, .int w10), (5, .int (u 170 0))] [] (Wd u20 g ex) 0 0 := by
          intro u20 fr21 fc22 E
          refine J_aload_n (i := 0) (j := 0) dX11_workLine_112 rfl rfl ?_
          refine J_callV (As := []) (rest := []) dX11_workLine_113 (c_M_tokenX (d := 1) (u := u20) (g := g) (ex := ex)   (by decide) (bd_r (fc22 8 (Nat.ne_of_beq_eq_false rfl) (Nat.ne_of_beq_eq_false rfl)) hp0) (bd_r (fc22 9 (Nat.ne_of_beq_eq_false rfl) (Nat.ne_of_beq_eq_false rfl)) hp1) (bd_r (fc22 12 (Nat.ne_of_beq_eq_false rfl) (Nat.ne_of_beq_eq_false rfl)) hp2)) hq.n k1417 k1419 k38 wc_162 rfl rfl k97 k1420 np_X11_token (Nat.le_trans (by decide) hd) (by decide) (Nat.le_refl _) (Nat.le_refl _) wlen rfl (Nat.le_of_ble_eq_true rfl) (fun r_ h_ p24 => ?_)
          obtain ⟨u25, g26, rfl, rfl, h27, h28, h29, h30, h31, hx32, fr33, fc34⟩ := p24
          replace E := xq_e2 hx32 E
          refine J_aload_n (i := 0) (j := 0) dX11_workLine_116 rfl rfl ?_
          refine J_get (C := RX11) (T := TX11) (Z := 43) (ci := 11) (f := 20) dX11_workLine_117 inG11 rfl (by decide) k1284 wc_162 rfl ?_
          refine J_iconst (v := 1) dX11_workLine_120 (by decide) ?_
          refine J_iconst (v := (-1)) dX11_workLine_121 (by decide) ?_
          obtain ⟨u35, e36⟩ : ∃ z, z = ms u25 171 1 (-1) := ⟨_, rfl⟩
          refine J_iast dX11_workLine_122 wc_171 (vin (bd_c (v := 1) (lo := 1) (hi := 1) (by decide)) (by decide)) (ws e36 wk_171 rfl) ?_
          replace E := xq_le e36 E
          refine J_aload_n (i := 0) (j := 0) dX11_workLine_123 rfl rfl ?_
          refine J_iconst (v := 0) dX11_workLine_124 (by decide) ?_
          refine J_iconst (v := 0) dX11_workLine_125 (by decide) ?_
          refine J_bipush (v := 8) dX11_workLine_126 (by decide) ?_
          refine J_callV (As := [.int 0, .int 0, .int 8]) (rest := []) dX11_workLine_128 (c_M_take0X (d := 3) (u := u35) (g := g26) (ex := ex) (low := 0) (high := 8)  (by decide) (bd_r (congrFun (ms_c e36 (Nat.ne_of_beq_eq_false rfl)) 8) h27) (bd_r ((congrFun (ms_c e36 (Nat.ne_of_beq_eq_false rfl)) 9).trans ((fc34 9 (Nat.ne_of_beq_eq_false rfl) (Nat.ne_of_beq_eq_false rfl) (Nat.ne_of_beq_eq_false rfl) (Nat.ne_of_beq_eq_false rfl)).trans (fc22 9 (Nat.ne_of_beq_eq_false rfl) (Nat.ne_of_beq_eq_false rfl)))) hp1) (bd_r (congrFun (ms_c e36 (Nat.ne_of_beq_eq_false rfl)) 12) h30) (bd_r ((congrFun (ms_c e36 (Nat.ne_of_beq_eq_false rfl)) 17).trans ((fc34 17 (Nat.ne_of_beq_eq_false rfl) (Nat.ne_of_beq_eq_false rfl) (Nat.ne_of_beq_eq_false rfl) (Nat.ne_of_beq_eq_false rfl)).trans (fc22 17 (Nat.ne_of_beq_eq_false rfl) (Nat.ne_of_beq_eq_false rfl)))) hp3)) hq.n k1456 k1458 k44 wc_162 rfl rfl k97 k1459 np_X11_take (Nat.le_trans (by decide) hd) (by decide) (Nat.le_refl _) (Nat.le_refl _) wlen rfl (Nat.le_of_ble_eq_true rfl) (fun r_ h_ p37 => ?_)
          obtain ⟨t38, u39, g40, rfl, rfl, h41, h42, h43, h44, h45, h46, h47, hx48, fr49, fc50, fc51⟩ := p37
          replace E := xq_e3 hx48 E
          refine J_ifB_eq (tgt := 182) dX11_workLine_131 (by decide) (fun c52 => ?_) (fun c52 => ?_)
          · replace E := xq_ef c52 E
            refine J_iconst (v := 0) dX11_workLine_182 (by decide) ?_
            exact J_zret hq dX11_workLine_183 rfl rfl wlen (Nat.le_refl _) (Nat.le_refl _) ⟨false, u39, g40, rfl, rfl, h41, h42, h43, (ab_i fc51 (ab_s e36 (ab_c ((fr33 171 (Nat.ne_of_beq_eq_false rfl)).trans (fr21 171 (Nat.ne_of_beq_eq_false rfl))) hp4) (bd_w (l := (-1)) (h := 999) (bd_c (v := (-1)) (lo := (-1)) (hi := (-1)) (by decide)) (by decide))) (bd_w (l := (-1)) (h := 999) h44 (by decide))), (rp_c ((fr49 170 (Nat.ne_of_beq_eq_false rfl) (Nat.ne_of_beq_eq_false rfl)).trans ((ms_c e36 (Nat.ne_of_beq_eq_false rfl)).trans ((fr33 170 (Nat.ne_of_beq_eq_false rfl)).trans (fr21 170 (Nat.ne_of_beq_eq_false rfl))))) hp5), (fun q => absurd q (by decide)), E, (fun c k_ => ((fr49 c (nin_ne (a := 162) k_ rfl) (nin_ne (a := 171) k_ rfl)).trans ((ms_c e36 (nin_ne (a := 171) k_ rfl)).trans ((fr33 c (nin_ne (a := 162) k_ rfl)).trans (fr21 c (nin_ne (a := 162) k_ rfl)))))), (fun j k8_ k10_ k11_ k12_ k14_ k15_ k16_ k17_ k18_ => ((fc50 j k8_ k10_ k11_ k12_ k14_ k15_ k16_ k17_ k18_).trans ((congrFun (ms_c e36 (Nat.ne_of_beq_eq_false rfl)) j).trans ((fc34 j k8_ k10_ k11_ k12_).trans (fc22 j k15_ k16_)))))⟩
          · replace E := xq_ep c52 E
            refine J_iload (i := 4) (j := 1) dX11_workLine_134 rfl ?_
            refine J_iconst (v := 4) dX11_workLine_136 (by decide) ?_
            refine J_icmp_eq (tgt := 184) dX11_workLine_137 (by decide) (fun c53 => ?_) (fun c53 => ?_)
            · replace E := xq_ep c53 E
              refine J_iload (i := 5) (j := 2) dX11_workLine_184 rfl ?_
              refine J_bipush (v := 12) dX11_workLine_186 (by decide) ?_
              have jn67 : ∀ (u63 : Nat → Nat → Int32), (∀ c, c ≠ 170 → u63 c = u39 c) → AB u63 170 (-1) 999 → RP u63 → Fx_M_workLineX_J248 g40 u63 = Fx_M_workLineX at0 u g → J x yX11_workLine cX11_workLine 6 (some .boolean) d 0 0 (Wd u g ex).length 248 [] [] (Wd u63 g40 ex) 0 0 := by
                intro u63 fr64 ab65 rf66 E
                refine J_iconst (v := 1) dX11_workLine_248 (by decide) ?_
                exact J_zret hq dX11_workLine_249 rfl rfl wlen (Nat.le_refl _) (Nat.le_refl _) ⟨true, u63, g40, rfl, rfl, (bd_r (congrFun (fr64 162 (Nat.ne_of_beq_eq_false rfl)) 8) h41), (bd_r (congrFun (fr64 162 (Nat.ne_of_beq_eq_false rfl)) 12) h42), (bd_r (congrFun (fr64 162 (Nat.ne_of_beq_eq_false rfl)) 17) h43), (ab_c (fr64 171 (Nat.ne_of_beq_eq_false rfl)) (ab_i fc51 (ab_s e36 (ab_c ((fr33 171 (Nat.ne_of_beq_eq_false rfl)).trans (fr21 171 (Nat.ne_of_beq_eq_false rfl))) hp4) (bd_w (l := (-1)) (h := 999) (bd_c (v := (-1)) (lo := (-1)) (hi := (-1)) (by decide)) (by decide))) (bd_w (l := (-1)) (h := 999) h44 (by decide)))), rf66, (fun _ => (gv_r rfl (congrFun (fr64 162 (Nat.ne_of_beq_eq_false rfl)) 8) (congrFun (fr64 162 (Nat.ne_of_beq_eq_false rfl)) 11) (gv_t (gv_r (fc22 8 (Nat.ne_of_beq_eq_false rfl) (Nat.ne_of_beq_eq_false rfl)).symm rfl rfl h31) (gv_r (congrFun (ms_c e36 (Nat.ne_of_beq_eq_false rfl)) 8).symm rfl rfl (h45 c52))))), E, (fun c k_ => ((fr64 c (nin_ne (a := 170) k_ rfl)).trans ((fr49 c (nin_ne (a := 162) k_ rfl) (nin_ne (a := 171) k_ rfl)).trans ((ms_c e36 (nin_ne (a := 171) k_ rfl)).trans ((fr33 c (nin_ne (a := 162) k_ rfl)).trans (fr21 c (nin_ne (a := 162) k_ rfl))))))), (fun j k8_ k10_ k11_ k12_ k14_ k15_ k16_ k17_ k18_ => ((congrFun (fr64 162 (Nat.ne_of_beq_eq_false rfl)) j).trans ((fc50 j k8_ k10_ k11_ k12_ k14_ k15_ k16_ k17_ k18_).trans ((congrFun (ms_c e36 (Nat.ne_of_beq_eq_false rfl)) j).trans ((fc34 j k8_ k10_ k11_ k12_).trans (fc22 j k15_ k16_))))))⟩
              refine J_icmp_ge (tgt := 248) dX11_workLine_188 (by decide) (fun c54 => ?_) (fun c54 => ?_)
              · replace E := xq_ep c54 E
                refine J_lv [] rfl ?_
                exact jn67 u39 (fun c k0_ => rfl) (ab_c ((fr49 170 (Nat.ne_of_beq_eq_false rfl) (Nat.ne_of_beq_eq_false rfl)).trans ((ms_c e36 (Nat.ne_of_beq_eq_false rfl)).trans ((fr33 170 (Nat.ne_of_beq_eq_false rfl)).trans (fr21 170 (Nat.ne_of_beq_eq_false rfl))))) (hp5).1) (rp_c ((fr49 170 (Nat.ne_of_beq_eq_false rfl) (Nat.ne_of_beq_eq_false rfl)).trans ((ms_c e36 (Nat.ne_of_beq_eq_false rfl)).trans ((fr33 170 (Nat.ne_of_beq_eq_false rfl)).trans (fr21 170 (Nat.ne_of_beq_eq_false rfl))))) hp5) E
              · replace E := xq_en c54 E
                refine J_aload_n (i := 0) (j := 0) dX11_workLine_191 rfl rfl ?_
                refine J_get (C := RX11) (T := TX11) (Z := 43) (ci := 11) (f := 19) dX11_workLine_192 inG11 rfl (by decide) k1283 wc_162 rfl ?_
                refine J_iconst (v := 1) dX11_workLine_195 (by decide) ?_
                refine J_iconst (v := 3) dX11_workLine_196 (by decide) ?_
                refine J_iload (i := 5) (j := 2) dX11_workLine_197 rfl ?_
                refine J_imul dX11_workLine_199 ?_
                refine J_iadd dX11_workLine_200 ?_
                refine J_iload (i := 4) (j := 1) dX11_workLine_201 rfl ?_
                obtain ⟨u68, e69⟩ : ∃ z, z = ms u39 170 (((1 : Int32) + ((3 : Int32) * (u 170 0))).toNatClampNeg) w10 := ⟨_, rfl⟩
                refine J_iast dX11_workLine_203 wc_170 (vin (bd_add (l := 1) (h := 34) (bd_c (v := 1) (lo := 1) (hi := 1) (by decide)) (bd_mul (l := 0) (h := 33) (bd_c (v := 3) (lo := 3) (hi := 3) (by decide)) (bd_lt_hi (hp5).2.1 (i_nle c54) (bd_c (v := 12) (lo := 12) (hi := 12) (by decide))) (by decide)) (by decide)) (by decide)) (ws e69 wk_170 rfl) ?_
                replace E := xq_le e69 E
                refine J_aload_n (i := 0) (j := 0) dX11_workLine_204 rfl rfl ?_
                refine J_get (C := RX11) (T := TX11) (Z := 43) (ci := 11) (f := 19) dX11_workLine_205 inG11 rfl (by decide) k1283 wc_162 rfl ?_
                refine J_iconst (v := 2) dX11_workLine_208 (by decide) ?_
                refine J_iconst (v := 3) dX11_workLine_209 (by decide) ?_
                refine J_iload (i := 5) (j := 2) dX11_workLine_210 rfl ?_
                refine J_imul dX11_workLine_212 ?_
                refine J_iadd dX11_workLine_213 ?_
                refine J_aload_n (i := 0) (j := 0) dX11_workLine_214 rfl rfl ?_
                refine J_get (C := RX11) (T := TX11) (Z := 43) (ci := 11) (f := 20) dX11_workLine_215 inG11 rfl (by decide) k1284 wc_162 rfl ?_
                refine J_iconst (v := 0) dX11_workLine_218 (by decide) ?_
                refine J_iald dX11_workLine_219 wc_171 (vin (bd_c (v := 0) (lo := 0) (hi := 0) (by decide)) (by decide)) ?_
                refine J_ci (v := u39 171 0) (congrFun (ms_c e69 (Nat.ne_of_beq_eq_false rfl)) 0) ?_
                obtain ⟨u70, e71⟩ : ∃ z, z = ms u68 170 (((2 : Int32) + ((3 : Int32) * (u 170 0))).toNatClampNeg) (u39 171 0) := ⟨_, rfl⟩
                refine J_iast dX11_workLine_220 wc_170 (vin (bd_add (l := 2) (h := 35) (bd_c (v := 2) (lo := 2) (hi := 2) (by decide)) (bd_mul (l := 0) (h := 33) (bd_c (v := 3) (lo := 3) (hi := 3) (by decide)) (bd_lt_hi (hp5).2.1 (i_nle c54) (bd_c (v := 12) (lo := 12) (hi := 12) (by decide))) (by decide)) (by decide)) (by decide)) (ws e71 wk_170 rfl) ?_
                replace E := xq_le e71 E
                refine J_aload_n (i := 0) (j := 0) dX11_workLine_221 rfl rfl ?_
                refine J_get (C := RX11) (T := TX11) (Z := 43) (ci := 11) (f := 19) dX11_workLine_222 inG11 rfl (by decide) k1283 wc_162 rfl ?_
                refine J_iconst (v := 3) dX11_workLine_225 (by decide) ?_
                refine J_iconst (v := 3) dX11_workLine_226 (by decide) ?_
                refine J_iload (i := 5) (j := 2) dX11_workLine_227 rfl ?_
                refine J_imul dX11_workLine_229 ?_
                refine J_iadd dX11_workLine_230 ?_
                refine J_aload_n (i := 0) (j := 0) dX11_workLine_231 rfl rfl ?_
                refine J_get (C := RX11) (T := TX11) (Z := 43) (ci := 11) (f := 20) dX11_workLine_232 inG11 rfl (by decide) k1284 wc_162 rfl ?_
                refine J_iconst (v := 1) dX11_workLine_235 (by decide) ?_
                refine J_iald dX11_workLine_236 wc_171 (vin (bd_c (v := 1) (lo := 1) (hi := 1) (by decide)) (by decide)) ?_
                refine J_ci (v := (-1)) ((congrFun (ms_c e71 (Nat.ne_of_beq_eq_false rfl)) 1).trans ((congrFun (ms_c e69 (Nat.ne_of_beq_eq_false rfl)) 1).trans ((fc51 1 (Nat.ne_of_beq_eq_false rfl)).trans (ms_e e36)))) ?_
                obtain ⟨u72, e73⟩ : ∃ z, z = ms u70 170 (((3 : Int32) + ((3 : Int32) * (u 170 0))).toNatClampNeg) (-1) := ⟨_, rfl⟩
                refine J_iast dX11_workLine_237 wc_170 (vin (bd_add (l := 3) (h := 36) (bd_c (v := 3) (lo := 3) (hi := 3) (by decide)) (bd_mul (l := 0) (h := 33) (bd_c (v := 3) (lo := 3) (hi := 3) (by decide)) (bd_lt_hi (hp5).2.1 (i_nle c54) (bd_c (v := 12) (lo := 12) (hi := 12) (by decide))) (by decide)) (by decide)) (by decide)) (ws e73 wk_170 rfl) ?_
                replace E := xq_le e73 E
                refine J_aload_n (i := 0) (j := 0) dX11_workLine_238 rfl rfl ?_
                refine J_get (C := RX11) (T := TX11) (Z := 43) (ci := 11) (f := 19) dX11_workLine_239 inG11 rfl (by decide) k1283 wc_162 rfl ?_
                refine J_iconst (v := 0) dX11_workLine_242 (by decide) ?_
                refine J_dup2_11 dX11_workLine_243 rfl rfl ?_
                refine J_iald dX11_workLine_244 wc_170 (vin (bd_c (v := 0) (lo := 0) (hi := 0) (by decide)) (by decide)) ?_
                refine J_ci (v := u 170 0) ((ms_i e73 (ixne (bd_add (l := 3) (h := 36) (bd_c (v := 3) (lo := 3) (hi := 3) (by decide)) (bd_mul (l := 0) (h := 33) (bd_c (v := 3) (lo := 3) (hi := 3) (by decide)) (bd_lt_hi (hp5).2.1 (i_nle c54) (bd_c (v := 12) (lo := 12) (hi := 12) (by decide))) (by decide)) (by decide)) (by decide))).trans ((ms_i e71 (ixne (bd_add (l := 2) (h := 35) (bd_c (v := 2) (lo := 2) (hi := 2) (by decide)) (bd_mul (l := 0) (h := 33) (bd_c (v := 3) (lo := 3) (hi := 3) (by decide)) (bd_lt_hi (hp5).2.1 (i_nle c54) (bd_c (v := 12) (lo := 12) (hi := 12) (by decide))) (by decide)) (by decide)) (by decide))).trans ((ms_i e69 (ixne (bd_add (l := 1) (h := 34) (bd_c (v := 1) (lo := 1) (hi := 1) (by decide)) (bd_mul (l := 0) (h := 33) (bd_c (v := 3) (lo := 3) (hi := 3) (by decide)) (bd_lt_hi (hp5).2.1 (i_nle c54) (bd_c (v := 12) (lo := 12) (hi := 12) (by decide))) (by decide)) (by decide)) (by decide))).trans ((congrFun (fr49 170 (Nat.ne_of_beq_eq_false rfl) (Nat.ne_of_beq_eq_false rfl)) 0).trans ((congrFun (ms_c e36 (Nat.ne_of_beq_eq_false rfl)) 0).trans ((congrFun (fr33 170 (Nat.ne_of_beq_eq_false rfl)) 0).trans (congrFun (fr21 170 (Nat.ne_of_beq_eq_false rfl)) 0))))))) ?_
                refine J_iconst (v := 1) dX11_workLine_245 (by decide) ?_
                refine J_iadd dX11_workLine_246 ?_
                obtain ⟨u74, e75⟩ : ∃ z, z = ms u72 170 0 ((u 170 0) + 1) := ⟨_, rfl⟩
                refine J_iast dX11_workLine_247 wc_170 (vin (bd_c (v := 0) (lo := 0) (hi := 0) (by decide)) (by decide)) (ws e75 wk_170 rfl) ?_
                replace E := xq_le e75 E
                refine J_lv [] rfl ?_
                exact jn67 u74 (fun c k0_ => ((ms_c e75 k0_).trans ((ms_c e73 k0_).trans ((ms_c e71 k0_).trans (ms_c e69 k0_))))) (ab_s e75 (ab_s e73 (ab_s e71 (ab_s e69 (ab_c ((fr49 170 (Nat.ne_of_beq_eq_false rfl) (Nat.ne_of_beq_eq_false rfl)).trans ((ms_c e36 (Nat.ne_of_beq_eq_false rfl)).trans ((fr33 170 (Nat.ne_of_beq_eq_false rfl)).trans (fr21 170 (Nat.ne_of_beq_eq_false rfl))))) (hp5).1) (bd_w (l := (-1)) (h := 999) (bd_r c53 (bd_c (v := 4) (lo := 4) (hi := 4) (by decide))) (by decide))) (bd_w (l := (-1)) (h := 999) h44 (by decide))) (bd_w (l := (-1)) (h := 999) (bd_c (v := (-1)) (lo := (-1)) (hi := (-1)) (by decide)) (by decide))) (bd_w (l := (-1)) (h := 999) (bd_add (l := 1) (h := 12) (bd_lt_hi (hp5).2.1 (i_nle c54) (bd_c (v := 12) (lo := 12) (hi := 12) (by decide))) (bd_c (v := 1) (lo := 1) (hi := 1) (by decide)) (by decide)) (by decide))) (rp_add e69 e71 e73 e75 (bd_lt_hi (hp5).2.1 (i_nle c54) (bd_c (v := 12) (lo := 12) (hi := 12) (by decide))) (bd_w (l := (-1)) (h := 999) (bd_r c53 (bd_c (v := 4) (lo := 4) (hi := 4) (by decide))) (by decide)) h44 (bd_w (l := (-1)) (h := 999) (bd_c (v := (-1)) (lo := (-1)) (hi := (-1)) (by decide)) (by decide)) (Or.inl c53) (bd_w (l := 0) (h := 12) (bd_add (l := 1) (h := 12) (bd_lt_hi (hp5).2.1 (i_nle c54) (bd_c (v := 12) (lo := 12) (hi := 12) (by decide))) (bd_c (v := 1) (lo := 1) (hi := 1) (by decide)) (by decide)) (by decide)) (rp_c ((fr49 170 (Nat.ne_of_beq_eq_false rfl) (Nat.ne_of_beq_eq_false rfl)).trans ((ms_c e36 (Nat.ne_of_beq_eq_false rfl)).trans ((fr33 170 (Nat.ne_of_beq_eq_false rfl)).trans (fr21 170 (Nat.ne_of_beq_eq_false rfl))))) hp5)) E
            · replace E := xq_en c53 E
              refine J_aload_n (i := 0) (j := 0) dX11_workLine_140 rfl rfl ?_
              refine J_iconst (v := 1) dX11_workLine_141 (by decide) ?_
              refine J_iload (i := 4) (j := 1) dX11_workLine_142 rfl ?_
              refine J_iconst (v := 3) dX11_workLine_144 (by decide) ?_
              have jn78 : ∀ (w77 : Int32), Bd 0 1 w77 → Fx_M_workLineX_J153 u w10 u39 g40 w77 = Fx_M_workLineX at0 u g → J x yX11_workLine cX11_workLine 6 (some .boolean) d 0 0 (Wd u g ex).length 153 [(0, .ref 162), (4, .int w10), (5, .int (u 170 0))] [.int w77, .int 1, .ref 162] (Wd u39 g40 ex) 0 0 := by
                intro w77 bw77 E
                refine J_iload (i := 4) (j := 1) dX11_workLine_153 rfl ?_
                have jn82 : ∀ (w81 : Int32), Bd 8 24 w81 → Fx_M_workLineX_J176 u w10 u39 g40 w77 w81 = Fx_M_workLineX at0 u g → J x yX11_workLine cX11_workLine 6 (some .boolean) d 0 0 (Wd u g ex).length 176 [(0, .ref 162), (4, .int w10), (5, .int (u 170 0))] [.int w81, .int w77, .int 1, .ref 162] (Wd u39 g40 ex) 0 0 := by
                  intro w81 bw81 E
                  refine J_callV (As := [.int 1, .int w77, .int w81]) (rest := []) dX11_workLine_176 (c_M_take1X (d := 3) (u := u39) (g := g40) (ex := ex) (low := w77) (high := w81)  (by decide) h41 (bd_r ((fc50 9 (Nat.ne_of_beq_eq_false rfl) (Nat.ne_of_beq_eq_false rfl) (Nat.ne_of_beq_eq_false rfl) (Nat.ne_of_beq_eq_false rfl) (Nat.ne_of_beq_eq_false rfl) (Nat.ne_of_beq_eq_false rfl) (Nat.ne_of_beq_eq_false rfl) (Nat.ne_of_beq_eq_false rfl) (Nat.ne_of_beq_eq_false rfl)).trans ((congrFun (ms_c e36 (Nat.ne_of_beq_eq_false rfl)) 9).trans ((fc34 9 (Nat.ne_of_beq_eq_false rfl) (Nat.ne_of_beq_eq_false rfl) (Nat.ne_of_beq_eq_false rfl) (Nat.ne_of_beq_eq_false rfl)).trans (fc22 9 (Nat.ne_of_beq_eq_false rfl) (Nat.ne_of_beq_eq_false rfl))))) hp1) h42 h43) hq.n k1456 k1458 k44 wc_162 rfl rfl k97 k1459 np_X11_take (Nat.le_trans (by decide) hd) (by decide) (Nat.le_refl _) (Nat.le_refl _) wlen rfl (Nat.le_of_ble_eq_true rfl) (fun r_ h_ p83 => ?_)
                  obtain ⟨t84, u85, g86, rfl, rfl, h87, h88, h89, h90, h91, h92, h93, hx94, fr95, fc96, fc97⟩ := p83
                  replace E := xq_e3 hx94 E
                  refine J_ifB_ne (tgt := 184) dX11_workLine_179 (by decide) (fun c98 => ?_) (fun c98 => ?_)
                  · replace E := xq_ep c98 E
                    refine J_iload (i := 5) (j := 2) dX11_workLine_184 rfl ?_
                    refine J_bipush (v := 12) dX11_workLine_186 (by decide) ?_
                    have jn112 : ∀ (u108 : Nat → Nat → Int32), (∀ c, c ≠ 170 → u108 c = u85 c) → AB u108 170 (-1) 999 → RP u108 → Fx_M_workLineX_J248b g86 u108 = Fx_M_workLineX at0 u g → J x yX11_workLine cX11_workLine 6 (some .boolean) d 0 0 (Wd u g ex).length 248 [] [] (Wd u108 g86 ex) 0 0 := by
                      intro u108 fr109 ab110 rf111 E
                      refine J_iconst (v := 1) dX11_workLine_248 (by decide) ?_
                      exact J_zret hq dX11_workLine_249 rfl rfl wlen (Nat.le_refl _) (Nat.le_refl _) ⟨true, u108, g86, rfl, rfl, (bd_r (congrFun (fr109 162 (Nat.ne_of_beq_eq_false rfl)) 8) h87), (bd_r (congrFun (fr109 162 (Nat.ne_of_beq_eq_false rfl)) 12) h88), (bd_r (congrFun (fr109 162 (Nat.ne_of_beq_eq_false rfl)) 17) h89), (ab_c (fr109 171 (Nat.ne_of_beq_eq_false rfl)) (ab_i fc97 (ab_i fc51 (ab_s e36 (ab_c ((fr33 171 (Nat.ne_of_beq_eq_false rfl)).trans (fr21 171 (Nat.ne_of_beq_eq_false rfl))) hp4) (bd_w (l := (-1)) (h := 999) (bd_c (v := (-1)) (lo := (-1)) (hi := (-1)) (by decide)) (by decide))) (bd_w (l := (-1)) (h := 999) h44 (by decide))) (bd_w (l := (-1)) (h := 999) h90 (by decide)))), rf111, (fun _ => (gv_r rfl (congrFun (fr109 162 (Nat.ne_of_beq_eq_false rfl)) 8) (congrFun (fr109 162 (Nat.ne_of_beq_eq_false rfl)) 11) (gv_t (gv_t (gv_r (fc22 8 (Nat.ne_of_beq_eq_false rfl) (Nat.ne_of_beq_eq_false rfl)).symm rfl rfl h31) (gv_r (congrFun (ms_c e36 (Nat.ne_of_beq_eq_false rfl)) 8).symm rfl rfl (h45 c52))) (h91 c98)))), E, (fun c k_ => ((fr109 c (nin_ne (a := 170) k_ rfl)).trans ((fr95 c (nin_ne (a := 162) k_ rfl) (nin_ne (a := 171) k_ rfl)).trans ((fr49 c (nin_ne (a := 162) k_ rfl) (nin_ne (a := 171) k_ rfl)).trans ((ms_c e36 (nin_ne (a := 171) k_ rfl)).trans ((fr33 c (nin_ne (a := 162) k_ rfl)).trans (fr21 c (nin_ne (a := 162) k_ rfl)))))))), (fun j k8_ k10_ k11_ k12_ k14_ k15_ k16_ k17_ k18_ => ((congrFun (fr109 162 (Nat.ne_of_beq_eq_false rfl)) j).trans ((fc96 j k8_ k10_ k11_ k12_ k14_ k15_ k16_ k17_ k18_).trans ((fc50 j k8_ k10_ k11_ k12_ k14_ k15_ k16_ k17_ k18_).trans ((congrFun (ms_c e36 (Nat.ne_of_beq_eq_false rfl)) j).trans ((fc34 j k8_ k10_ k11_ k12_).trans (fc22 j k15_ k16_)))))))⟩
                    refine J_icmp_ge (tgt := 248) dX11_workLine_188 (by decide) (fun c99 => ?_) (fun c99 => ?_)
                    · replace E := xq_ep c99 E
                      refine J_lv [] rfl ?_
                      exact jn112 u85 (fun c k0_ => rfl) (ab_c ((fr95 170 (Nat.ne_of_beq_eq_false rfl) (Nat.ne_of_beq_eq_false rfl)).trans ((fr49 170 (Nat.ne_of_beq_eq_false rfl) (Nat.ne_of_beq_eq_false rfl)).trans ((ms_c e36 (Nat.ne_of_beq_eq_false rfl)).trans ((fr33 170 (Nat.ne_of_beq_eq_false rfl)).trans (fr21 170 (Nat.ne_of_beq_eq_false rfl)))))) (hp5).1) (rp_c ((fr95 170 (Nat.ne_of_beq_eq_false rfl) (Nat.ne_of_beq_eq_false rfl)).trans ((fr49 170 (Nat.ne_of_beq_eq_false rfl) (Nat.ne_of_beq_eq_false rfl)).trans ((ms_c e36 (Nat.ne_of_beq_eq_false rfl)).trans ((fr33 170 (Nat.ne_of_beq_eq_false rfl)).trans (fr21 170 (Nat.ne_of_beq_eq_false rfl)))))) hp5) E
                    · replace E := xq_en c99 E
                      refine J_aload_n (i := 0) (j := 0) dX11_workLine_191 rfl rfl ?_
                      refine J_get (C := RX11) (T := TX11) (Z := 43) (ci := 11) (f := 19) dX11_workLine_192 inG11 rfl (by decide) k1283 wc_162 rfl ?_
                      refine J_iconst (v := 1) dX11_workLine_195 (by decide) ?_
                      refine J_iconst (v := 3) dX11_workLine_196 (by decide) ?_
                      refine J_iload (i := 5) (j := 2) dX11_workLine_197 rfl ?_
                      refine J_imul dX11_workLine_199 ?_
                      refine J_iadd dX11_workLine_200 ?_
                      refine J_iload (i := 4) (j := 1) dX11_workLine_201 rfl ?_
                      obtain ⟨u113, e114⟩ : ∃ z, z = ms u85 170 (((1 : Int32) + ((3 : Int32) * (u 170 0))).toNatClampNeg) w10 := ⟨_, rfl⟩
                      refine J_iast dX11_workLine_203 wc_170 (vin (bd_add (l := 1) (h := 34) (bd_c (v := 1) (lo := 1) (hi := 1) (by decide)) (bd_mul (l := 0) (h := 33) (bd_c (v := 3) (lo := 3) (hi := 3) (by decide)) (bd_lt_hi (hp5).2.1 (i_nle c99) (bd_c (v := 12) (lo := 12) (hi := 12) (by decide))) (by decide)) (by decide)) (by decide)) (ws e114 wk_170 rfl) ?_
                      replace E := xq_le e114 E
                      refine J_aload_n (i := 0) (j := 0) dX11_workLine_204 rfl rfl ?_
                      refine J_get (C := RX11) (T := TX11) (Z := 43) (ci := 11) (f := 19) dX11_workLine_205 inG11 rfl (by decide) k1283 wc_162 rfl ?_
                      refine J_iconst (v := 2) dX11_workLine_208 (by decide) ?_
                      refine J_iconst (v := 3) dX11_workLine_209 (by decide) ?_
                      refine J_iload (i := 5) (j := 2) dX11_workLine_210 rfl ?_
                      refine J_imul dX11_workLine_212 ?_
                      refine J_iadd dX11_workLine_213 ?_
                      refine J_aload_n (i := 0) (j := 0) dX11_workLine_214 rfl rfl ?_
                      refine J_get (C := RX11) (T := TX11) (Z := 43) (ci := 11) (f := 20) dX11_workLine_215 inG11 rfl (by decide) k1284 wc_162 rfl ?_
                      refine J_iconst (v := 0) dX11_workLine_218 (by decide) ?_
                      refine J_iald dX11_workLine_219 wc_171 (vin (bd_c (v := 0) (lo := 0) (hi := 0) (by decide)) (by decide)) ?_
                      refine J_ci (v := u39 171 0) ((congrFun (ms_c e114 (Nat.ne_of_beq_eq_false rfl)) 0).trans (fc97 0 (Nat.ne_of_beq_eq_false rfl))) ?_
                      obtain ⟨u115, e116⟩ : ∃ z, z = ms u113 170 (((2 : Int32) + ((3 : Int32) * (u 170 0))).toNatClampNeg) (u39 171 0) := ⟨_, rfl⟩
                      refine J_iast dX11_workLine_220 wc_170 (vin (bd_add (l := 2) (h := 35) (bd_c (v := 2) (lo := 2) (hi := 2) (by decide)) (bd_mul (l := 0) (h := 33) (bd_c (v := 3) (lo := 3) (hi := 3) (by decide)) (bd_lt_hi (hp5).2.1 (i_nle c99) (bd_c (v := 12) (lo := 12) (hi := 12) (by decide))) (by decide)) (by decide)) (by decide)) (ws e116 wk_170 rfl) ?_
                      replace E := xq_le e116 E
                      refine J_aload_n (i := 0) (j := 0) dX11_workLine_221 rfl rfl ?_
                      refine J_get (C := RX11) (T := TX11) (Z := 43) (ci := 11) (f := 19) dX11_workLine_222 inG11 rfl (by decide) k1283 wc_162 rfl ?_
                      refine J_iconst (v := 3) dX11_workLine_225 (by decide) ?_
                      refine J_iconst (v := 3) dX11_workLine_226 (by decide) ?_
                      refine J_iload (i := 5) (j := 2) dX11_workLine_227 rfl ?_
                      refine J_imul dX11_workLine_229 ?_
                      refine J_iadd dX11_workLine_230 ?_
                      refine J_aload_n (i := 0) (j := 0) dX11_workLine_231 rfl rfl ?_
                      refine J_get (C := RX11) (T := TX11) (Z := 43) (ci := 11) (f := 20) dX11_workLine_232 inG11 rfl (by decide) k1284 wc_162 rfl ?_
                      refine J_iconst (v := 1) dX11_workLine_235 (by decide) ?_
                      refine J_iald dX11_workLine_236 wc_171 (vin (bd_c (v := 1) (lo := 1) (hi := 1) (by decide)) (by decide)) ?_
                      refine J_ci (v := u85 171 1) ((congrFun (ms_c e116 (Nat.ne_of_beq_eq_false rfl)) 1).trans (congrFun (ms_c e114 (Nat.ne_of_beq_eq_false rfl)) 1)) ?_
                      obtain ⟨u117, e118⟩ : ∃ z, z = ms u115 170 (((3 : Int32) + ((3 : Int32) * (u 170 0))).toNatClampNeg) (u85 171 1) := ⟨_, rfl⟩
                      refine J_iast dX11_workLine_237 wc_170 (vin (bd_add (l := 3) (h := 36) (bd_c (v := 3) (lo := 3) (hi := 3) (by decide)) (bd_mul (l := 0) (h := 33) (bd_c (v := 3) (lo := 3) (hi := 3) (by decide)) (bd_lt_hi (hp5).2.1 (i_nle c99) (bd_c (v := 12) (lo := 12) (hi := 12) (by decide))) (by decide)) (by decide)) (by decide)) (ws e118 wk_170 rfl) ?_
                      replace E := xq_le e118 E
                      refine J_aload_n (i := 0) (j := 0) dX11_workLine_238 rfl rfl ?_
                      refine J_get (C := RX11) (T := TX11) (Z := 43) (ci := 11) (f := 19) dX11_workLine_239 inG11 rfl (by decide) k1283 wc_162 rfl ?_
                      refine J_iconst (v := 0) dX11_workLine_242 (by decide) ?_
                      refine J_dup2_11 dX11_workLine_243 rfl rfl ?_
                      refine J_iald dX11_workLine_244 wc_170 (vin (bd_c (v := 0) (lo := 0) (hi := 0) (by decide)) (by decide)) ?_
                      refine J_ci (v := u 170 0) ((ms_i e118 (ixne (bd_add (l := 3) (h := 36) (bd_c (v := 3) (lo := 3) (hi := 3) (by decide)) (bd_mul (l := 0) (h := 33) (bd_c (v := 3) (lo := 3) (hi := 3) (by decide)) (bd_lt_hi (hp5).2.1 (i_nle c99) (bd_c (v := 12) (lo := 12) (hi := 12) (by decide))) (by decide)) (by decide)) (by decide))).trans ((ms_i e116 (ixne (bd_add (l := 2) (h := 35) (bd_c (v := 2) (lo := 2) (hi := 2) (by decide)) (bd_mul (l := 0) (h := 33) (bd_c (v := 3) (lo := 3) (hi := 3) (by decide)) (bd_lt_hi (hp5).2.1 (i_nle c99) (bd_c (v := 12) (lo := 12) (hi := 12) (by decide))) (by decide)) (by decide)) (by decide))).trans ((ms_i e114 (ixne (bd_add (l := 1) (h := 34) (bd_c (v := 1) (lo := 1) (hi := 1) (by decide)) (bd_mul (l := 0) (h := 33) (bd_c (v := 3) (lo := 3) (hi := 3) (by decide)) (bd_lt_hi (hp5).2.1 (i_nle c99) (bd_c (v := 12) (lo := 12) (hi := 12) (by decide))) (by decide)) (by decide)) (by decide))).trans ((congrFun (fr95 170 (Nat.ne_of_beq_eq_false rfl) (Nat.ne_of_beq_eq_false rfl)) 0).trans ((congrFun (fr49 170 (Nat.ne_of_beq_eq_false rfl) (Nat.ne_of_beq_eq_false rfl)) 0).trans ((congrFun (ms_c e36 (Nat.ne_of_beq_eq_false rfl)) 0).trans ((congrFun (fr33 170 (Nat.ne_of_beq_eq_false rfl)) 0).trans (congrFun (fr21 170 (Nat.ne_of_beq_eq_false rfl)) 0)))))))) ?_
                      refine J_iconst (v := 1) dX11_workLine_245 (by decide) ?_
                      refine J_iadd dX11_workLine_246 ?_
                      obtain ⟨u119, e120⟩ : ∃ z, z = ms u117 170 0 ((u 170 0) + 1) := ⟨_, rfl⟩
                      refine J_iast dX11_workLine_247 wc_170 (vin (bd_c (v := 0) (lo := 0) (hi := 0) (by decide)) (by decide)) (ws e120 wk_170 rfl) ?_
                      replace E := xq_le e120 E
                      refine J_lv [] rfl ?_
                      exact jn112 u119 (fun c k0_ => ((ms_c e120 k0_).trans ((ms_c e118 k0_).trans ((ms_c e116 k0_).trans (ms_c e114 k0_))))) (ab_s e120 (ab_s e118 (ab_s e116 (ab_s e114 (ab_c ((fr95 170 (Nat.ne_of_beq_eq_false rfl) (Nat.ne_of_beq_eq_false rfl)).trans ((fr49 170 (Nat.ne_of_beq_eq_false rfl) (Nat.ne_of_beq_eq_false rfl)).trans ((ms_c e36 (Nat.ne_of_beq_eq_false rfl)).trans ((fr33 170 (Nat.ne_of_beq_eq_false rfl)).trans (fr21 170 (Nat.ne_of_beq_eq_false rfl)))))) (hp5).1) (bd_w (l := (-1)) (h := 999) (bd_ne_hi (bd_ne_lo bw10 c12 (by decide)) c53 (by decide)) (by decide))) (bd_w (l := (-1)) (h := 999) h44 (by decide))) (bd_w (l := (-1)) (h := 999) h90 (by decide))) (bd_w (l := (-1)) (h := 999) (bd_add (l := 1) (h := 12) (bd_lt_hi (hp5).2.1 (i_nle c99) (bd_c (v := 12) (lo := 12) (hi := 12) (by decide))) (bd_c (v := 1) (lo := 1) (hi := 1) (by decide)) (by decide)) (by decide))) (rp_add e114 e116 e118 e120 (bd_lt_hi (hp5).2.1 (i_nle c99) (bd_c (v := 12) (lo := 12) (hi := 12) (by decide))) (bd_w (l := (-1)) (h := 999) (bd_ne_hi (bd_ne_lo bw10 c12 (by decide)) c53 (by decide)) (by decide)) h44 (bd_w (l := (-1)) (h := 999) h90 (by decide)) (Or.inr h90) (bd_w (l := 0) (h := 12) (bd_add (l := 1) (h := 12) (bd_lt_hi (hp5).2.1 (i_nle c99) (bd_c (v := 12) (lo := 12) (hi := 12) (by decide))) (bd_c (v := 1) (lo := 1) (hi := 1) (by decide)) (by decide)) (by decide)) (rp_c ((fr95 170 (Nat.ne_of_beq_eq_false rfl) (Nat.ne_of_beq_eq_false rfl)).trans ((fr49 170 (Nat.ne_of_beq_eq_false rfl) (Nat.ne_of_beq_eq_false rfl)).trans ((ms_c e36 (Nat.ne_of_beq_eq_false rfl)).trans ((fr33 170 (Nat.ne_of_beq_eq_false rfl)).trans (fr21 170 (Nat.ne_of_beq_eq_false rfl)))))) hp5)) E
                  · replace E := xq_ef c98 E
                    refine J_iconst (v := 0) dX11_workLine_182 (by decide) ?_
                    exact J_zret hq dX11_workLine_183 rfl rfl wlen (Nat.le_refl _) (Nat.le_refl _) ⟨false, u85, g86, rfl, rfl, h87, h88, h89, (ab_i fc97 (ab_i fc51 (ab_s e36 (ab_c ((fr33 171 (Nat.ne_of_beq_eq_false rfl)).trans (fr21 171 (Nat.ne_of_beq_eq_false rfl))) hp4) (bd_w (l := (-1)) (h := 999) (bd_c (v := (-1)) (lo := (-1)) (hi := (-1)) (by decide)) (by decide))) (bd_w (l := (-1)) (h := 999) h44 (by decide))) (bd_w (l := (-1)) (h := 999) h90 (by decide))), (rp_c ((fr95 170 (Nat.ne_of_beq_eq_false rfl) (Nat.ne_of_beq_eq_false rfl)).trans ((fr49 170 (Nat.ne_of_beq_eq_false rfl) (Nat.ne_of_beq_eq_false rfl)).trans ((ms_c e36 (Nat.ne_of_beq_eq_false rfl)).trans ((fr33 170 (Nat.ne_of_beq_eq_false rfl)).trans (fr21 170 (Nat.ne_of_beq_eq_false rfl)))))) hp5), (fun q => absurd q (by decide)), E, (fun c k_ => ((fr95 c (nin_ne (a := 162) k_ rfl) (nin_ne (a := 171) k_ rfl)).trans ((fr49 c (nin_ne (a := 162) k_ rfl) (nin_ne (a := 171) k_ rfl)).trans ((ms_c e36 (nin_ne (a := 171) k_ rfl)).trans ((fr33 c (nin_ne (a := 162) k_ rfl)).trans (fr21 c (nin_ne (a := 162) k_ rfl))))))), (fun j k8_ k10_ k11_ k12_ k14_ k15_ k16_ k17_ k18_ => ((fc96 j k8_ k10_ k11_ k12_ k14_ k15_ k16_ k17_ k18_).trans ((fc50 j k8_ k10_ k11_ k12_ k14_ k15_ k16_ k17_ k18_).trans ((congrFun (ms_c e36 (Nat.ne_of_beq_eq_false rfl)) j).trans ((fc34 j k8_ k10_ k11_ k12_).trans (fc22 j k15_ k16_))))))⟩
                refine J_if_ne (tgt := 163) dX11_workLine_155 (by decide) (fun c79 => ?_) (fun c79 => ?_)
                · replace E := xq_en c79 E
                  refine J_iload (i := 4) (j := 1) dX11_workLine_163 rfl ?_
                  refine J_iconst (v := 3) dX11_workLine_165 (by decide) ?_
                  refine J_icmp_ne (tgt := 174) dX11_workLine_166 (by decide) (fun c121 => ?_) (fun c121 => ?_)
                  · replace E := xq_en c121 E
                    refine J_bipush (v := 24) dX11_workLine_174 (by decide) ?_
                    refine J_lv [0, 1, 2] rfl ?_
                    exact jn82 (24 : Int32) (bd_w (l := 8) (h := 24) (bd_c (v := 24) (lo := 24) (hi := 24) (by decide)) (by decide)) E
                  · replace E := xq_ep c121 E
                    refine J_bipush (v := 8) dX11_workLine_169 (by decide) ?_
                    refine J_goto (tgt := 176) dX11_workLine_171 (by decide) ?_
                    refine J_lv [0, 1, 2] rfl ?_
                    exact jn82 (8 : Int32) (bd_w (l := 8) (h := 24) (bd_c (v := 8) (lo := 8) (hi := 8) (by decide)) (by decide)) E
                · replace E := xq_ep c79 E
                  refine J_bipush (v := 10) dX11_workLine_158 (by decide) ?_
                  refine J_goto (tgt := 176) dX11_workLine_160 (by decide) ?_
                  refine J_lv [0, 1, 2] rfl ?_
                  exact jn82 (10 : Int32) (bd_w (l := 8) (h := 24) (bd_c (v := 10) (lo := 10) (hi := 10) (by decide)) (by decide)) E
              refine J_icmp_ne (tgt := 152) dX11_workLine_145 (by decide) (fun c76 => ?_) (fun c76 => ?_)
              · replace E := xq_en c76 E
                refine J_iconst (v := 1) dX11_workLine_152 (by decide) ?_
                refine J_lv [0, 1, 2] rfl ?_
                exact jn78 (1 : Int32) (bd_w (l := 0) (h := 1) (bd_c (v := 1) (lo := 1) (hi := 1) (by decide)) (by decide)) E
              · replace E := xq_ep c76 E
                refine J_iconst (v := 0) dX11_workLine_148 (by decide) ?_
                refine J_goto (tgt := 153) dX11_workLine_149 (by decide) ?_
                refine J_lv [0, 1, 2] rfl ?_
                exact jn78 (0 : Int32) (bd_w (l := 0) (h := 1) (bd_c (v := 0) (lo := 0) (hi := 0) (by decide)) (by decide)) E
        refine J_icmp_ne (tgt := 112) dX11_workLine_103 (by decide) (fun c13 => ?_) (fun c13 => ?_)
        · replace E := xq_en c13 E
          refine J_lv [2, 1, 0] rfl ?_
          exact jn23 u (fun c k0_ => rfl) (fun j k15_ k16_ => rfl) E
        · replace E := xq_ep c13 E
          refine J_aload_n (i := 0) (j := 2) dX11_workLine_106 rfl rfl ?_
          refine J_iconst (v := 3) dX11_workLine_107 (by decide) ?_
          refine J_iload_n (i := 1) (j := 3) dX11_workLine_108 rfl rfl ?_
          refine J_callV (As := [.int 3, .int at0]) (rest := []) dX11_workLine_109 (c_M_laterX (d := 0) (u := u) (g := g) (ex := ex) (f := 3) (place := at0)  (by decide) ) hq.n k1452 k1454 k43 wc_162 rfl rfl k97 k1455 np_X11_later (Nat.le_trans (by decide) hd) (by decide) (Nat.le_refl _) (Nat.le_refl _) wlen rfl (Nat.le_of_ble_eq_true rfl) (fun r_ h_ p122 => ?_)
          obtain ⟨u123, rfl, rfl, h124, hx125, fr126, fc127⟩ := p122
          replace E := xq_le hx125 E
          refine J_lv [2, 1, 0] rfl ?_
          exact jn23 u123 (fun c k0_ => (fr126 c k0_)) (fun j k15_ k16_ => (fc127 j k15_ k16_)) E
      · replace E := xq_ep c12 E
        refine J_aload_n (i := 0) (j := 1) dX11_workLine_86 rfl rfl ?_
        refine J_callV (As := []) (rest := []) dX11_workLine_87 (c_M_stopsX (d := 0) (u := u) (g := g) (ex := ex)   (by decide) ) hq.n k1444 k1446 k41 wc_162 rfl rfl k97 k1447 np_X11_stops (Nat.le_trans (by decide) hd) (by decide) (Nat.le_refl _) (Nat.le_refl _) wlen rfl (Nat.le_of_ble_eq_true rfl) (fun r_ h_ p128 => ?_)
        obtain ⟨u129, rfl, rfl, hx130, fr131, fc132⟩ := p128
        replace E := xq_le hx130 E
        exact J_zret hq dX11_workLine_90 rfl rfl wlen (Nat.le_refl _) (Nat.le_refl _) ⟨false, u129, g, rfl, rfl, (bd_r (fc132 8 (Nat.ne_of_beq_eq_false rfl)) hp0), (bd_r (fc132 12 (Nat.ne_of_beq_eq_false rfl)) hp2), (bd_r (fc132 17 (Nat.ne_of_beq_eq_false rfl)) hp3), (ab_c (fr131 171 (Nat.ne_of_beq_eq_false rfl)) hp4), (rp_c (fr131 170 (Nat.ne_of_beq_eq_false rfl)) hp5), (fun q => absurd q (by decide)), E, (fun c k_ => (fr131 c (nin_ne (a := 162) k_ rfl))), (fun j k8_ k10_ k11_ k12_ k14_ k15_ k16_ k17_ k18_ => (fc132 j k14_))⟩
    refine J_if_ne (tgt := 29) dX11_workLine_22 (by decide) (fun c5 => ?_) (fun c5 => ?_)
    · replace E := xq_en c5 E
      refine J_lload_n (i := 2) (j := 0) dX11_workLine_29 rfl rfl ?_
      refine J_ldc2 (v := 7106423) dX11_workLine_30 k1480 ?_
      refine J_lcmp dX11_workLine_33 ?_
      refine J_if_ne (tgt := 41) dX11_workLine_34 (by decide) (fun c133 => ?_) (fun c133 => ?_)
      · replace E := xq_en c133 E
        refine J_lload_n (i := 2) (j := 0) dX11_workLine_41 rfl rfl ?_
        refine J_ldc2 (v := 512869295470) dX11_workLine_42 k1481 ?_
        refine J_lcmp dX11_workLine_45 ?_
        refine J_if_ne (tgt := 53) dX11_workLine_46 (by decide) (fun c134 => ?_) (fun c134 => ?_)
        · replace E := xq_en c134 E
          refine J_lload_n (i := 2) (j := 0) dX11_workLine_53 rfl rfl ?_
          refine J_ldc2 (v := 491496238692) dX11_workLine_54 k1431 ?_
          refine J_lcmp dX11_workLine_57 ?_
          refine J_if_ne (tgt := 65) dX11_workLine_58 (by decide) (fun c135 => ?_) (fun c135 => ?_)
          · replace E := xq_en c135 E
            refine J_lload_n (i := 2) (j := 0) dX11_workLine_65 rfl rfl ?_
            refine J_ldc2 (v := 7304564) dX11_workLine_66 k1482 ?_
            refine J_lcmp dX11_workLine_69 ?_
            refine J_if_ne (tgt := 77) dX11_workLine_70 (by decide) (fun c136 => ?_) (fun c136 => ?_)
            · replace E := xq_en c136 E
              refine J_iconst (v := (-1)) dX11_workLine_77 (by decide) ?_
              refine J_lv [1, 2] rfl ?_
              exact jn11 ((-1) : Int32) (bd_w (l := (-1)) (h := 4) (bd_c (v := (-1)) (lo := (-1)) (hi := (-1)) (by decide)) (by decide)) E
            · replace E := xq_ep c136 E
              refine J_iconst (v := 4) dX11_workLine_73 (by decide) ?_
              refine J_goto (tgt := 78) dX11_workLine_74 (by decide) ?_
              refine J_lv [1, 2] rfl ?_
              exact jn11 (4 : Int32) (bd_w (l := (-1)) (h := 4) (bd_c (v := 4) (lo := 4) (hi := 4) (by decide)) (by decide)) E
          · replace E := xq_ep c135 E
            refine J_iconst (v := 3) dX11_workLine_61 (by decide) ?_
            refine J_goto (tgt := 78) dX11_workLine_62 (by decide) ?_
            refine J_lv [1, 2] rfl ?_
            exact jn11 (3 : Int32) (bd_w (l := (-1)) (h := 4) (bd_c (v := 3) (lo := 3) (hi := 3) (by decide)) (by decide)) E
        · replace E := xq_ep c134 E
          refine J_iconst (v := 2) dX11_workLine_49 (by decide) ?_
          refine J_goto (tgt := 78) dX11_workLine_50 (by decide) ?_
          refine J_lv [1, 2] rfl ?_
          exact jn11 (2 : Int32) (bd_w (l := (-1)) (h := 4) (bd_c (v := 2) (lo := 2) (hi := 2) (by decide)) (by decide)) E
      · replace E := xq_ep c133 E
        refine J_iconst (v := 1) dX11_workLine_37 (by decide) ?_
        refine J_goto (tgt := 78) dX11_workLine_38 (by decide) ?_
        refine J_lv [1, 2] rfl ?_
        exact jn11 (1 : Int32) (bd_w (l := (-1)) (h := 4) (bd_c (v := 1) (lo := 1) (hi := 1) (by decide)) (by decide)) E
    · replace E := xq_ep c5 E
      refine J_iconst (v := 0) dX11_workLine_25 (by decide) ?_
      refine J_goto (tgt := 78) dX11_workLine_26 (by decide) ?_
      refine J_lv [1, 2] rfl ?_
      exact jn11 (0 : Int32) (bd_w (l := (-1)) (h := 4) (bd_c (v := 0) (lo := 0) (hi := 0) (by decide)) (by decide)) E
  refine J_icmp_ne (tgt := 15) dX11_workLine_5 (by decide) (fun c1 => ?_) (fun c1 => ?_)
  · replace E := xq_en c1 E
    refine J_lconst (v := 0) dX11_workLine_15 (by decide) ?_
    refine J_lv [0, 1] rfl ?_
    exact jn4 (0 : Int64)  E
  · replace E := xq_ep c1 E
    refine J_aload_n (i := 0) (j := 0) dX11_workLine_8 rfl rfl ?_
    refine J_get (C := RX11) (T := TX11) (Z := 43) (ci := 11) (f := 13) dX11_workLine_9 inG11 rfl (by decide) k1277 wc_162 rfl ?_
    refine J_topl (fun l137 ql137 => ?_)
    replace E := xq_le ql137 E
    refine J_goto (tgt := 16) dX11_workLine_12 (by decide) ?_
    refine J_lv [0, 1] rfl ?_
    exact jn4 l137  E
set_option maxRecDepth 100000 in
noncomputable def Fx_M_endsHillX (u : Nat → Nat → Int32) (g : Nat → Nat → Int64) : (Nat → Nat → Int32) := if (u 170 1) ≤ (0 : Int32) then (if (u 170 1) ≤ (0 : Int32) then (if (u 170 1) = (0 : Int32) then (xq_lt (ms u 170 1 1) fun u4 => xq_lt (ms u4 170 5 0) fun u6 => xq_lt (ms u6 170 6 100) fun u8 => u8) else (default)) else (default)) else (if (u 170 1) ≤ (1 : Int32) then (if (u 170 1) ≤ (0 : Int32) then (default) else (if ((0 : Int32) + (u 170 6)) = (100 : Int32) then (if (u 170 1) = (0 : Int32) then (default) else (u)) else (if (u 162 15) = (0 : Int32) then (xq_lt (Fx_M_laterX (4 : Int32) (u 162 10) u g) fun u17 => if (u 170 1) = (0 : Int32) then (default) else (u17)) else (if (u 170 1) = (0 : Int32) then (default) else (u))))) else (if (u 170 1) ≤ (2 : Int32) then (if (u 170 1) ≤ (0 : Int32) then (default) else (if (((0 : Int32) + (u 170 6)) + (u 170 8)) = (100 : Int32) then (if (u 170 1) = (0 : Int32) then (default) else (u)) else (if (u 162 15) = (0 : Int32) then (xq_lt (Fx_M_laterX (4 : Int32) (u 162 10) u g) fun u30 => if (u 170 1) = (0 : Int32) then (default) else (u30)) else (if (u 170 1) = (0 : Int32) then (default) else (u))))) else (if (u 170 1) ≤ (3 : Int32) then (if (u 170 1) ≤ (0 : Int32) then (default) else (if ((((0 : Int32) + (u 170 6)) + (u 170 8)) + (u 170 10)) = (100 : Int32) then (if (u 170 1) = (0 : Int32) then (default) else (u)) else (if (u 162 15) = (0 : Int32) then (xq_lt (Fx_M_laterX (4 : Int32) (u 162 10) u g) fun u43 => if (u 170 1) = (0 : Int32) then (default) else (u43)) else (if (u 170 1) = (0 : Int32) then (default) else (u))))) else (if (u 170 1) ≤ (4 : Int32) then (if (u 170 1) ≤ (0 : Int32) then (default) else (if (((((0 : Int32) + (u 170 6)) + (u 170 8)) + (u 170 10)) + (u 170 12)) = (100 : Int32) then (if (u 170 1) = (0 : Int32) then (default) else (u)) else (if (u 162 15) = (0 : Int32) then (xq_lt (Fx_M_laterX (4 : Int32) (u 162 10) u g) fun u56 => if (u 170 1) = (0 : Int32) then (default) else (u56)) else (if (u 170 1) = (0 : Int32) then (default) else (u))))) else (default)))))
set_option maxHeartbeats 4000000 in
set_option maxRecDepth 100000 in
theorem c_M_endsHillX {d : Nat} {u : Nat → Nat → Int32} {g : Nat → Nat → Int64} {ex : List MC}  (hd : 1 ≤ d) (hp0 : (RH u)) : CT con0 d 0 0 yX11_endsHill cX11_endsHill 3 none [.ref 162] (Wd u g ex) (fun r h2 => ∃ (u2 : Nat → Nat → Int32), r = none ∧ h2 = Wd u2 g ex ∧ (RH u2) ∧ (u2 162 15 = 0 → RCf (u2 170)) ∧ u2 = Fx_M_endsHillX u g ∧ (∀ c, c ≠ 162 → c ≠ 170 → u2 c = u c) ∧ (∀ j, j ≠ 15 → j ≠ 16 → u2 162 j = u 162 j)) := by
  refine CT_of (by decide) (Nat.le_of_ble_eq_true rfl) (fun x hq => ?_)
  show J x yX11_endsHill cX11_endsHill 3 none d 0 0 (Wd u g ex).length 0 [(0, .ref 162)] [] (Wd u g ex) 0 0
  have E : Fx_M_endsHillX u g = Fx_M_endsHillX u g := rfl
  refine J_iconst (v := 0) dX11_endsHill_0 (by decide) ?_
  refine J_istore_n (i := 1) (lw := [(1, .int 0), (0, .ref 162)]) dX11_endsHill_1 rfl (by decide) rfl ?_
  refine J_iconst (v := 0) dX11_endsHill_2 (by decide) ?_
  refine J_istore_n (i := 2) (lw := [(2, .int 0), (1, .int 0), (0, .ref 162)]) dX11_endsHill_3 rfl (by decide) rfl ?_
  refine J_iload_n (i := 2) (j := 0) dX11_endsHill_4 rfl rfl ?_
  refine J_aload_n (i := 0) (j := 2) dX11_endsHill_5 rfl rfl ?_
  refine J_get (C := RX11) (T := TX11) (Z := 43) (ci := 11) (f := 19) dX11_endsHill_6 inG11 rfl (by decide) k1283 wc_162 rfl ?_
  refine J_iconst (v := 1) dX11_endsHill_9 (by decide) ?_
  refine J_iald dX11_endsHill_10 wc_170 (vin (bd_c (v := 1) (lo := 1) (hi := 1) (by decide)) (by decide)) ?_
  refine J_ci (v := u 170 1) rfl ?_
  refine J_icmp_ge (tgt := 35) dX11_endsHill_11 (by decide) (fun c1 => ?_) (fun c1 => ?_)
  · replace E := xq_ep c1 E
    refine J_aload_n (i := 0) (j := 2) dX11_endsHill_35 rfl rfl ?_
    refine J_get (C := RX11) (T := TX11) (Z := 43) (ci := 11) (f := 19) dX11_endsHill_36 inG11 rfl (by decide) k1283 wc_162 rfl ?_
    refine J_iconst (v := 1) dX11_endsHill_39 (by decide) ?_
    refine J_iald dX11_endsHill_40 wc_170 (vin (bd_c (v := 1) (lo := 1) (hi := 1) (by decide)) (by decide)) ?_
    refine J_ci (v := u 170 1) rfl ?_
    refine J_if_le (tgt := 66) dX11_endsHill_41 (by decide) (fun c2 => ?_) (fun c2 => ?_)
    · replace E := xq_ep c2 E
      refine J_aload_n (i := 0) (j := 2) dX11_endsHill_66 rfl rfl ?_
      refine J_get (C := RX11) (T := TX11) (Z := 43) (ci := 11) (f := 19) dX11_endsHill_67 inG11 rfl (by decide) k1283 wc_162 rfl ?_
      refine J_iconst (v := 1) dX11_endsHill_70 (by decide) ?_
      refine J_iald dX11_endsHill_71 wc_170 (vin (bd_c (v := 1) (lo := 1) (hi := 1) (by decide)) (by decide)) ?_
      refine J_ci (v := u 170 1) rfl ?_
      refine J_if_ne (tgt := 98) dX11_endsHill_72 (by decide) (fun c3 => ?_) (fun c3 => ?_)
      · exact (bd_no (bd_ne_lo (bd_le_hi (hp0).2.2.1 c1 (bd_c (v := 0) (lo := 0) (hi := 0) (by decide))) c3 (by decide)) (by decide)).elim
      · replace E := xq_ep c3 E
        refine J_aload_n (i := 0) (j := 2) dX11_endsHill_75 rfl rfl ?_
        refine J_get (C := RX11) (T := TX11) (Z := 43) (ci := 11) (f := 19) dX11_endsHill_76 inG11 rfl (by decide) k1283 wc_162 rfl ?_
        refine J_iconst (v := 1) dX11_endsHill_79 (by decide) ?_
        refine J_iconst (v := 1) dX11_endsHill_80 (by decide) ?_
        obtain ⟨u4, e5⟩ : ∃ z, z = ms u 170 1 1 := ⟨_, rfl⟩
        refine J_iast dX11_endsHill_81 wc_170 (vin (bd_c (v := 1) (lo := 1) (hi := 1) (by decide)) (by decide)) (ws e5 wk_170 rfl) ?_
        replace E := xq_le e5 E
        refine J_aload_n (i := 0) (j := 2) dX11_endsHill_82 rfl rfl ?_
        refine J_get (C := RX11) (T := TX11) (Z := 43) (ci := 11) (f := 19) dX11_endsHill_83 inG11 rfl (by decide) k1283 wc_162 rfl ?_
        refine J_iconst (v := 5) dX11_endsHill_86 (by decide) ?_
        refine J_iconst (v := 0) dX11_endsHill_87 (by decide) ?_
        obtain ⟨u6, e7⟩ : ∃ z, z = ms u4 170 5 0 := ⟨_, rfl⟩
        refine J_iast dX11_endsHill_88 wc_170 (vin (bd_c (v := 5) (lo := 5) (hi := 5) (by decide)) (by decide)) (ws e7 wk_170 rfl) ?_
        replace E := xq_le e7 E
        refine J_aload_n (i := 0) (j := 2) dX11_endsHill_89 rfl rfl ?_
        refine J_get (C := RX11) (T := TX11) (Z := 43) (ci := 11) (f := 19) dX11_endsHill_90 inG11 rfl (by decide) k1283 wc_162 rfl ?_
        refine J_bipush (v := 6) dX11_endsHill_93 (by decide) ?_
        refine J_bipush (v := 100) dX11_endsHill_95 (by decide) ?_
        obtain ⟨u8, e9⟩ : ∃ z, z = ms u6 170 6 100 := ⟨_, rfl⟩
        refine J_iast dX11_endsHill_97 wc_170 (vin (bd_c (v := 6) (lo := 6) (hi := 6) (by decide)) (by decide)) (ws e9 wk_170 rfl) ?_
        replace E := xq_le e9 E
        exact J_vret hq dX11_endsHill_98 rfl wlen (Nat.le_refl _) (Nat.le_refl _) ⟨u8, rfl, rfl, (rh_rc e9 (by decide) (bd_w (l := 0) (h := 999) (bd_c (v := 100) (lo := 100) (hi := 100) (by decide)) (by decide)) (rh_rc e7 (by decide) (bd_w (l := 0) (h := 999) (bd_c (v := 0) (lo := 0) (hi := 0) (by decide)) (by decide)) (rh_1 e5 (bd_w (l := 0) (h := 4) (bd_c (v := 1) (lo := 1) (hi := 1) (by decide)) (by decide)) hp0))), (fun _ => rcf_0 ((ms_i e9 (Nat.ne_of_beq_eq_false rfl)).trans ((ms_i e7 (Nat.ne_of_beq_eq_false rfl)).trans (ms_e e5))) (ms_e e9) (bd_r ((ms_i e9 (Nat.ne_of_beq_eq_false rfl)).trans ((ms_i e7 (Nat.ne_of_beq_eq_false rfl)).trans (ms_i e5 (Nat.ne_of_beq_eq_false rfl)))) (hp0).2.2.2.2.2.1) (bd_r ((ms_i e9 (Nat.ne_of_beq_eq_false rfl)).trans ((ms_i e7 (Nat.ne_of_beq_eq_false rfl)).trans (ms_i e5 (Nat.ne_of_beq_eq_false rfl)))) (hp0).2.2.2.2.2.2.1) (bd_r ((ms_i e9 (Nat.ne_of_beq_eq_false rfl)).trans ((ms_i e7 (Nat.ne_of_beq_eq_false rfl)).trans (ms_i e5 (Nat.ne_of_beq_eq_false rfl)))) (hp0).2.2.2.2.2.2.2)), E, (fun c k0_ k1_ => ((ms_c e9 k1_).trans ((ms_c e7 k1_).trans (ms_c e5 k1_)))), (fun j k15_ k16_ => ((congrFun (ms_c e9 (Nat.ne_of_beq_eq_false rfl)) j).trans ((congrFun (ms_c e7 (Nat.ne_of_beq_eq_false rfl)) j).trans (congrFun (ms_c e5 (Nat.ne_of_beq_eq_false rfl)) j))))⟩
    · exact (bd_no (bd_lt_lo (bd_le_hi (hp0).2.2.1 c1 (bd_c (v := 0) (lo := 0) (hi := 0) (by decide))) (i_nle c2) (bd_c (v := 0) (lo := 0) (hi := 0) (by decide))) (by decide)).elim
  · replace E := xq_en c1 E
    refine J_iload_n (i := 1) (j := 1) dX11_endsHill_14 rfl rfl ?_
    refine J_aload_n (i := 0) (j := 2) dX11_endsHill_15 rfl rfl ?_
    refine J_get (C := RX11) (T := TX11) (Z := 43) (ci := 11) (f := 19) dX11_endsHill_16 inG11 rfl (by decide) k1283 wc_162 rfl ?_
    refine J_iconst (v := 5) dX11_endsHill_19 (by decide) ?_
    refine J_iconst (v := 2) dX11_endsHill_20 (by decide) ?_
    refine J_iload_n (i := 2) (j := 0) dX11_endsHill_21 rfl rfl ?_
    refine J_imul dX11_endsHill_22 ?_
    refine J_ci (v := 0) (by decide) ?_
    refine J_iadd dX11_endsHill_23 ?_
    refine J_ci (v := 5) (by decide) ?_
    refine J_iconst (v := 1) dX11_endsHill_24 (by decide) ?_
    refine J_iadd dX11_endsHill_25 ?_
    refine J_ci (v := 6) (by decide) ?_
    refine J_iald dX11_endsHill_26 wc_170 (vin (bd_c (v := 6) (lo := 6) (hi := 6) (by decide)) (by decide)) ?_
    refine J_ci (v := u 170 6) rfl ?_
    refine J_iadd dX11_endsHill_27 ?_
    refine J_istore_n (i := 1) (lw := [(1, .int ((0 : Int32) + (u 170 6))), (2, .int 0), (0, .ref 162)]) dX11_endsHill_28 rfl (by decide) rfl ?_
    refine J_iinc (i := 2) (j := 1) (v := 1) (lw := [(2, .int 1), (1, .int ((0 : Int32) + (u 170 6))), (0, .ref 162)]) dX11_endsHill_29 rfl (by decide) (by decide) rfl ?_
    refine J_goto (tgt := 4) dX11_endsHill_32 (by decide) ?_
    refine J_iload_n (i := 2) (j := 0) dX11_endsHill_4 rfl rfl ?_
    refine J_aload_n (i := 0) (j := 2) dX11_endsHill_5 rfl rfl ?_
    refine J_get (C := RX11) (T := TX11) (Z := 43) (ci := 11) (f := 19) dX11_endsHill_6 inG11 rfl (by decide) k1283 wc_162 rfl ?_
    refine J_iconst (v := 1) dX11_endsHill_9 (by decide) ?_
    refine J_iald dX11_endsHill_10 wc_170 (vin (bd_c (v := 1) (lo := 1) (hi := 1) (by decide)) (by decide)) ?_
    refine J_ci (v := u 170 1) rfl ?_
    refine J_icmp_ge (tgt := 35) dX11_endsHill_11 (by decide) (fun c10 => ?_) (fun c10 => ?_)
    · replace E := xq_ep c10 E
      refine J_aload_n (i := 0) (j := 2) dX11_endsHill_35 rfl rfl ?_
      refine J_get (C := RX11) (T := TX11) (Z := 43) (ci := 11) (f := 19) dX11_endsHill_36 inG11 rfl (by decide) k1283 wc_162 rfl ?_
      refine J_iconst (v := 1) dX11_endsHill_39 (by decide) ?_
      refine J_iald dX11_endsHill_40 wc_170 (vin (bd_c (v := 1) (lo := 1) (hi := 1) (by decide)) (by decide)) ?_
      refine J_ci (v := u 170 1) rfl ?_
      refine J_if_le (tgt := 66) dX11_endsHill_41 (by decide) (fun c11 => ?_) (fun c11 => ?_)
      · exact (bd_no (bd_le_hi (bd_le_hi (bd_lt_lo (hp0).2.2.1 (i_nle c1) (bd_c (v := 0) (lo := 0) (hi := 0) (by decide))) c10 (bd_c (v := 1) (lo := 1) (hi := 1) (by decide))) c11 (bd_c (v := 0) (lo := 0) (hi := 0) (by decide))) (by decide)).elim
      · replace E := xq_en c11 E
        refine J_iload_n (i := 1) (j := 1) dX11_endsHill_44 rfl rfl ?_
        refine J_bipush (v := 100) dX11_endsHill_45 (by decide) ?_
        refine J_icmp_eq (tgt := 66) dX11_endsHill_47 (by decide) (fun c12 => ?_) (fun c12 => ?_)
        · replace E := xq_ep c12 E
          refine J_aload_n (i := 0) (j := 2) dX11_endsHill_66 rfl rfl ?_
          refine J_get (C := RX11) (T := TX11) (Z := 43) (ci := 11) (f := 19) dX11_endsHill_67 inG11 rfl (by decide) k1283 wc_162 rfl ?_
          refine J_iconst (v := 1) dX11_endsHill_70 (by decide) ?_
          refine J_iald dX11_endsHill_71 wc_170 (vin (bd_c (v := 1) (lo := 1) (hi := 1) (by decide)) (by decide)) ?_
          refine J_ci (v := u 170 1) rfl ?_
          refine J_if_ne (tgt := 98) dX11_endsHill_72 (by decide) (fun c13 => ?_) (fun c13 => ?_)
          · replace E := xq_en c13 E
            exact J_vret hq dX11_endsHill_98 rfl wlen (Nat.le_refl _) (Nat.le_refl _) ⟨u, rfl, rfl, hp0, (fun _ => ((rcf_1 (f := u 170) (bd_le_hi (bd_lt_lo (hp0).2.2.1 (i_nle c1) (bd_c (v := 0) (lo := 0) (hi := 0) (by decide))) c10 (bd_c (v := 1) (lo := 1) (hi := 1) (by decide))) (hp0).2.2.2.2.1 (hp0).2.2.2.2.2.1 (hp0).2.2.2.2.2.2.1 (hp0).2.2.2.2.2.2.2 c12))), E, (fun c k0_ k1_ => rfl), (fun j k15_ k16_ => rfl)⟩
          · exact (bd_neq c13 (bd_le_hi (bd_lt_lo (hp0).2.2.1 (i_nle c1) (bd_c (v := 0) (lo := 0) (hi := 0) (by decide))) c10 (bd_c (v := 1) (lo := 1) (hi := 1) (by decide))) (bd_c (v := 0) (lo := 0) (hi := 0) (by decide)) (by decide)).elim
        · replace E := xq_en c12 E
          refine J_aload_n (i := 0) (j := 2) dX11_endsHill_50 rfl rfl ?_
          refine J_get (C := RX11) (T := TX11) (Z := 43) (ci := 11) (f := 15) dX11_endsHill_51 inG11 rfl (by decide) k1279 wc_162 rfl ?_
          refine J_if_ne (tgt := 66) dX11_endsHill_54 (by decide) (fun c14 => ?_) (fun c14 => ?_)
          · replace E := xq_en c14 E
            refine J_aload_n (i := 0) (j := 2) dX11_endsHill_66 rfl rfl ?_
            refine J_get (C := RX11) (T := TX11) (Z := 43) (ci := 11) (f := 19) dX11_endsHill_67 inG11 rfl (by decide) k1283 wc_162 rfl ?_
            refine J_iconst (v := 1) dX11_endsHill_70 (by decide) ?_
            refine J_iald dX11_endsHill_71 wc_170 (vin (bd_c (v := 1) (lo := 1) (hi := 1) (by decide)) (by decide)) ?_
            refine J_ci (v := u 170 1) rfl ?_
            refine J_if_ne (tgt := 98) dX11_endsHill_72 (by decide) (fun c15 => ?_) (fun c15 => ?_)
            · replace E := xq_en c15 E
              exact J_vret hq dX11_endsHill_98 rfl wlen (Nat.le_refl _) (Nat.le_refl _) ⟨u, rfl, rfl, hp0, (fun q => absurd q c14), E, (fun c k0_ k1_ => rfl), (fun j k15_ k16_ => rfl)⟩
            · exact (bd_neq c15 (bd_le_hi (bd_lt_lo (hp0).2.2.1 (i_nle c1) (bd_c (v := 0) (lo := 0) (hi := 0) (by decide))) c10 (bd_c (v := 1) (lo := 1) (hi := 1) (by decide))) (bd_c (v := 0) (lo := 0) (hi := 0) (by decide)) (by decide)).elim
          · replace E := xq_ep c14 E
            refine J_aload_n (i := 0) (j := 2) dX11_endsHill_57 rfl rfl ?_
            refine J_iconst (v := 4) dX11_endsHill_58 (by decide) ?_
            refine J_aload_n (i := 0) (j := 2) dX11_endsHill_59 rfl rfl ?_
            refine J_get (C := RX11) (T := TX11) (Z := 43) (ci := 11) (f := 10) dX11_endsHill_60 inG11 rfl (by decide) k1274 wc_162 rfl ?_
            refine J_callV (As := [.int 4, .int (u 162 10)]) (rest := []) dX11_endsHill_63 (c_M_laterX (d := 0) (u := u) (g := g) (ex := ex) (f := 4) (place := u 162 10)  (by decide) ) hq.n k1452 k1454 k43 wc_162 rfl rfl k97 k1455 np_X11_later (Nat.le_trans (by decide) hd) (by decide) (Nat.le_refl _) (Nat.le_refl _) wlen rfl (Nat.le_of_ble_eq_true rfl) (fun r_ h_ p16 => ?_)
            obtain ⟨u17, rfl, rfl, h18, hx19, fr20, fc21⟩ := p16
            replace E := xq_le hx19 E
            refine J_aload_n (i := 0) (j := 2) dX11_endsHill_66 rfl rfl ?_
            refine J_get (C := RX11) (T := TX11) (Z := 43) (ci := 11) (f := 19) dX11_endsHill_67 inG11 rfl (by decide) k1283 wc_162 rfl ?_
            refine J_iconst (v := 1) dX11_endsHill_70 (by decide) ?_
            refine J_iald dX11_endsHill_71 wc_170 (vin (bd_c (v := 1) (lo := 1) (hi := 1) (by decide)) (by decide)) ?_
            refine J_ci (v := u 170 1) (congrFun (fr20 170 (Nat.ne_of_beq_eq_false rfl)) 1) ?_
            refine J_if_ne (tgt := 98) dX11_endsHill_72 (by decide) (fun c22 => ?_) (fun c22 => ?_)
            · replace E := xq_en c22 E
              exact J_vret hq dX11_endsHill_98 rfl wlen (Nat.le_refl _) (Nat.le_refl _) ⟨u17, rfl, rfl, (rh_c (fr20 170 (Nat.ne_of_beq_eq_false rfl)) hp0), (fun q => absurd (h18 q) (by decide)), E, (fun c k0_ k1_ => (fr20 c k0_)), (fun j k15_ k16_ => (fc21 j k15_ k16_))⟩
            · exact (bd_neq c22 (bd_le_hi (bd_lt_lo (hp0).2.2.1 (i_nle c1) (bd_c (v := 0) (lo := 0) (hi := 0) (by decide))) c10 (bd_c (v := 1) (lo := 1) (hi := 1) (by decide))) (bd_c (v := 0) (lo := 0) (hi := 0) (by decide)) (by decide)).elim
    · replace E := xq_en c10 E
      refine J_iload_n (i := 1) (j := 1) dX11_endsHill_14 rfl rfl ?_
      refine J_aload_n (i := 0) (j := 2) dX11_endsHill_15 rfl rfl ?_
      refine J_get (C := RX11) (T := TX11) (Z := 43) (ci := 11) (f := 19) dX11_endsHill_16 inG11 rfl (by decide) k1283 wc_162 rfl ?_
      refine J_iconst (v := 5) dX11_endsHill_19 (by decide) ?_
      refine J_iconst (v := 2) dX11_endsHill_20 (by decide) ?_
      refine J_iload_n (i := 2) (j := 0) dX11_endsHill_21 rfl rfl ?_
      refine J_imul dX11_endsHill_22 ?_
      refine J_ci (v := 2) (by decide) ?_
      refine J_iadd dX11_endsHill_23 ?_
      refine J_ci (v := 7) (by decide) ?_
      refine J_iconst (v := 1) dX11_endsHill_24 (by decide) ?_
      refine J_iadd dX11_endsHill_25 ?_
      refine J_ci (v := 8) (by decide) ?_
      refine J_iald dX11_endsHill_26 wc_170 (vin (bd_c (v := 8) (lo := 8) (hi := 8) (by decide)) (by decide)) ?_
      refine J_ci (v := u 170 8) rfl ?_
      refine J_iadd dX11_endsHill_27 ?_
      refine J_istore_n (i := 1) (lw := [(1, .int (((0 : Int32) + (u 170 6)) + (u 170 8))), (2, .int 1), (0, .ref 162)]) dX11_endsHill_28 rfl (by decide) rfl ?_
      refine J_iinc (i := 2) (j := 1) (v := 2) (lw := [(2, .int 2), (1, .int (((0 : Int32) + (u 170 6)) + (u 170 8))), (0, .ref 162)]) dX11_endsHill_29 rfl (by decide) (by decide) rfl ?_
      refine J_goto (tgt := 4) dX11_endsHill_32 (by decide) ?_
      refine J_iload_n (i := 2) (j := 0) dX11_endsHill_4 rfl rfl ?_
      refine J_aload_n (i := 0) (j := 2) dX11_endsHill_5 rfl rfl ?_
      refine J_get (C := RX11) (T := TX11) (Z := 43) (ci := 11) (f := 19) dX11_endsHill_6 inG11 rfl (by decide) k1283 wc_162 rfl ?_
      refine J_iconst (v := 1) dX11_endsHill_9 (by decide) ?_
      refine J_iald dX11_endsHill_10 wc_170 (vin (bd_c (v := 1) (lo := 1) (hi := 1) (by decide)) (by decide)) ?_
      refine J_ci (v := u 170 1) rfl ?_
      refine J_icmp_ge (tgt := 35) dX11_endsHill_11 (by decide) (fun c23 => ?_) (fun c23 => ?_)
      · replace E := xq_ep c23 E
        refine J_aload_n (i := 0) (j := 2) dX11_endsHill_35 rfl rfl ?_
        refine J_get (C := RX11) (T := TX11) (Z := 43) (ci := 11) (f := 19) dX11_endsHill_36 inG11 rfl (by decide) k1283 wc_162 rfl ?_
        refine J_iconst (v := 1) dX11_endsHill_39 (by decide) ?_
        refine J_iald dX11_endsHill_40 wc_170 (vin (bd_c (v := 1) (lo := 1) (hi := 1) (by decide)) (by decide)) ?_
        refine J_ci (v := u 170 1) rfl ?_
        refine J_if_le (tgt := 66) dX11_endsHill_41 (by decide) (fun c24 => ?_) (fun c24 => ?_)
        · exact (bd_no (bd_le_hi (bd_le_hi (bd_lt_lo (bd_lt_lo (hp0).2.2.1 (i_nle c1) (bd_c (v := 0) (lo := 0) (hi := 0) (by decide))) (i_nle c10) (bd_c (v := 1) (lo := 1) (hi := 1) (by decide))) c23 (bd_c (v := 2) (lo := 2) (hi := 2) (by decide))) c24 (bd_c (v := 0) (lo := 0) (hi := 0) (by decide))) (by decide)).elim
        · replace E := xq_en c24 E
          refine J_iload_n (i := 1) (j := 1) dX11_endsHill_44 rfl rfl ?_
          refine J_bipush (v := 100) dX11_endsHill_45 (by decide) ?_
          refine J_icmp_eq (tgt := 66) dX11_endsHill_47 (by decide) (fun c25 => ?_) (fun c25 => ?_)
          · replace E := xq_ep c25 E
            refine J_aload_n (i := 0) (j := 2) dX11_endsHill_66 rfl rfl ?_
            refine J_get (C := RX11) (T := TX11) (Z := 43) (ci := 11) (f := 19) dX11_endsHill_67 inG11 rfl (by decide) k1283 wc_162 rfl ?_
            refine J_iconst (v := 1) dX11_endsHill_70 (by decide) ?_
            refine J_iald dX11_endsHill_71 wc_170 (vin (bd_c (v := 1) (lo := 1) (hi := 1) (by decide)) (by decide)) ?_
            refine J_ci (v := u 170 1) rfl ?_
            refine J_if_ne (tgt := 98) dX11_endsHill_72 (by decide) (fun c26 => ?_) (fun c26 => ?_)
            · replace E := xq_en c26 E
              exact J_vret hq dX11_endsHill_98 rfl wlen (Nat.le_refl _) (Nat.le_refl _) ⟨u, rfl, rfl, hp0, (fun _ => ((rcf_2 (f := u 170) (bd_le_hi (bd_lt_lo (bd_lt_lo (hp0).2.2.1 (i_nle c1) (bd_c (v := 0) (lo := 0) (hi := 0) (by decide))) (i_nle c10) (bd_c (v := 1) (lo := 1) (hi := 1) (by decide))) c23 (bd_c (v := 2) (lo := 2) (hi := 2) (by decide))) (hp0).2.2.2.2.1 (hp0).2.2.2.2.2.1 (hp0).2.2.2.2.2.2.1 (hp0).2.2.2.2.2.2.2 c25))), E, (fun c k0_ k1_ => rfl), (fun j k15_ k16_ => rfl)⟩
            · exact (bd_neq c26 (bd_le_hi (bd_lt_lo (bd_lt_lo (hp0).2.2.1 (i_nle c1) (bd_c (v := 0) (lo := 0) (hi := 0) (by decide))) (i_nle c10) (bd_c (v := 1) (lo := 1) (hi := 1) (by decide))) c23 (bd_c (v := 2) (lo := 2) (hi := 2) (by decide))) (bd_c (v := 0) (lo := 0) (hi := 0) (by decide)) (by decide)).elim
          · replace E := xq_en c25 E
            refine J_aload_n (i := 0) (j := 2) dX11_endsHill_50 rfl rfl ?_
            refine J_get (C := RX11) (T := TX11) (Z := 43) (ci := 11) (f := 15) dX11_endsHill_51 inG11 rfl (by decide) k1279 wc_162 rfl ?_
            refine J_if_ne (tgt := 66) dX11_endsHill_54 (by decide) (fun c27 => ?_) (fun c27 => ?_)
            · replace E := xq_en c27 E
              refine J_aload_n (i := 0) (j := 2) dX11_endsHill_66 rfl rfl ?_
              refine J_get (C := RX11) (T := TX11) (Z := 43) (ci := 11) (f := 19) dX11_endsHill_67 inG11 rfl (by decide) k1283 wc_162 rfl ?_
              refine J_iconst (v := 1) dX11_endsHill_70 (by decide) ?_
              refine J_iald dX11_endsHill_71 wc_170 (vin (bd_c (v := 1) (lo := 1) (hi := 1) (by decide)) (by decide)) ?_
              refine J_ci (v := u 170 1) rfl ?_
              refine J_if_ne (tgt := 98) dX11_endsHill_72 (by decide) (fun c28 => ?_) (fun c28 => ?_)
              · replace E := xq_en c28 E
                exact J_vret hq dX11_endsHill_98 rfl wlen (Nat.le_refl _) (Nat.le_refl _) ⟨u, rfl, rfl, hp0, (fun q => absurd q c27), E, (fun c k0_ k1_ => rfl), (fun j k15_ k16_ => rfl)⟩
              · exact (bd_neq c28 (bd_le_hi (bd_lt_lo (bd_lt_lo (hp0).2.2.1 (i_nle c1) (bd_c (v := 0) (lo := 0) (hi := 0) (by decide))) (i_nle c10) (bd_c (v := 1) (lo := 1) (hi := 1) (by decide))) c23 (bd_c (v := 2) (lo := 2) (hi := 2) (by decide))) (bd_c (v := 0) (lo := 0) (hi := 0) (by decide)) (by decide)).elim
            · replace E := xq_ep c27 E
              refine J_aload_n (i := 0) (j := 2) dX11_endsHill_57 rfl rfl ?_
              refine J_iconst (v := 4) dX11_endsHill_58 (by decide) ?_
              refine J_aload_n (i := 0) (j := 2) dX11_endsHill_59 rfl rfl ?_
              refine J_get (C := RX11) (T := TX11) (Z := 43) (ci := 11) (f := 10) dX11_endsHill_60 inG11 rfl (by decide) k1274 wc_162 rfl ?_
              refine J_callV (As := [.int 4, .int (u 162 10)]) (rest := []) dX11_endsHill_63 (c_M_laterX (d := 0) (u := u) (g := g) (ex := ex) (f := 4) (place := u 162 10)  (by decide) ) hq.n k1452 k1454 k43 wc_162 rfl rfl k97 k1455 np_X11_later (Nat.le_trans (by decide) hd) (by decide) (Nat.le_refl _) (Nat.le_refl _) wlen rfl (Nat.le_of_ble_eq_true rfl) (fun r_ h_ p29 => ?_)
              obtain ⟨u30, rfl, rfl, h31, hx32, fr33, fc34⟩ := p29
              replace E := xq_le hx32 E
              refine J_aload_n (i := 0) (j := 2) dX11_endsHill_66 rfl rfl ?_
              refine J_get (C := RX11) (T := TX11) (Z := 43) (ci := 11) (f := 19) dX11_endsHill_67 inG11 rfl (by decide) k1283 wc_162 rfl ?_
              refine J_iconst (v := 1) dX11_endsHill_70 (by decide) ?_
              refine J_iald dX11_endsHill_71 wc_170 (vin (bd_c (v := 1) (lo := 1) (hi := 1) (by decide)) (by decide)) ?_
              refine J_ci (v := u 170 1) (congrFun (fr33 170 (Nat.ne_of_beq_eq_false rfl)) 1) ?_
              refine J_if_ne (tgt := 98) dX11_endsHill_72 (by decide) (fun c35 => ?_) (fun c35 => ?_)
              · replace E := xq_en c35 E
                exact J_vret hq dX11_endsHill_98 rfl wlen (Nat.le_refl _) (Nat.le_refl _) ⟨u30, rfl, rfl, (rh_c (fr33 170 (Nat.ne_of_beq_eq_false rfl)) hp0), (fun q => absurd (h31 q) (by decide)), E, (fun c k0_ k1_ => (fr33 c k0_)), (fun j k15_ k16_ => (fc34 j k15_ k16_))⟩
              · exact (bd_neq c35 (bd_le_hi (bd_lt_lo (bd_lt_lo (hp0).2.2.1 (i_nle c1) (bd_c (v := 0) (lo := 0) (hi := 0) (by decide))) (i_nle c10) (bd_c (v := 1) (lo := 1) (hi := 1) (by decide))) c23 (bd_c (v := 2) (lo := 2) (hi := 2) (by decide))) (bd_c (v := 0) (lo := 0) (hi := 0) (by decide)) (by decide)).elim
      · replace E := xq_en c23 E
        refine J_iload_n (i := 1) (j := 1) dX11_endsHill_14 rfl rfl ?_
        refine J_aload_n (i := 0) (j := 2) dX11_endsHill_15 rfl rfl ?_
        refine J_get (C := RX11) (T := TX11) (Z := 43) (ci := 11) (f := 19) dX11_endsHill_16 inG11 rfl (by decide) k1283 wc_162 rfl ?_
        refine J_iconst (v := 5) dX11_endsHill_19 (by decide) ?_
        refine J_iconst (v := 2) dX11_endsHill_20 (by decide) ?_
        refine J_iload_n (i := 2) (j := 0) dX11_endsHill_21 rfl rfl ?_
        refine J_imul dX11_endsHill_22 ?_
        refine J_ci (v := 4) (by decide) ?_
        refine J_iadd dX11_endsHill_23 ?_
        refine J_ci (v := 9) (by decide) ?_
        refine J_iconst (v := 1) dX11_endsHill_24 (by decide) ?_
        refine J_iadd dX11_endsHill_25 ?_
        refine J_ci (v := 10) (by decide) ?_
        refine J_iald dX11_endsHill_26 wc_170 (vin (bd_c (v := 10) (lo := 10) (hi := 10) (by decide)) (by decide)) ?_
        refine J_ci (v := u 170 10) rfl ?_
        refine J_iadd dX11_endsHill_27 ?_
        refine J_istore_n (i := 1) (lw := [(1, .int ((((0 : Int32) + (u 170 6)) + (u 170 8)) + (u 170 10))), (2, .int 2), (0, .ref 162)]) dX11_endsHill_28 rfl (by decide) rfl ?_
        refine J_iinc (i := 2) (j := 1) (v := 3) (lw := [(2, .int 3), (1, .int ((((0 : Int32) + (u 170 6)) + (u 170 8)) + (u 170 10))), (0, .ref 162)]) dX11_endsHill_29 rfl (by decide) (by decide) rfl ?_
        refine J_goto (tgt := 4) dX11_endsHill_32 (by decide) ?_
        refine J_iload_n (i := 2) (j := 0) dX11_endsHill_4 rfl rfl ?_
        refine J_aload_n (i := 0) (j := 2) dX11_endsHill_5 rfl rfl ?_
        refine J_get (C := RX11) (T := TX11) (Z := 43) (ci := 11) (f := 19) dX11_endsHill_6 inG11 rfl (by decide) k1283 wc_162 rfl ?_
        refine J_iconst (v := 1) dX11_endsHill_9 (by decide) ?_
        refine J_iald dX11_endsHill_10 wc_170 (vin (bd_c (v := 1) (lo := 1) (hi := 1) (by decide)) (by decide)) ?_
        refine J_ci (v := u 170 1) rfl ?_
        refine J_icmp_ge (tgt := 35) dX11_endsHill_11 (by decide) (fun c36 => ?_) (fun c36 => ?_)
        · replace E := xq_ep c36 E
          refine J_aload_n (i := 0) (j := 2) dX11_endsHill_35 rfl rfl ?_
          refine J_get (C := RX11) (T := TX11) (Z := 43) (ci := 11) (f := 19) dX11_endsHill_36 inG11 rfl (by decide) k1283 wc_162 rfl ?_
          refine J_iconst (v := 1) dX11_endsHill_39 (by decide) ?_
          refine J_iald dX11_endsHill_40 wc_170 (vin (bd_c (v := 1) (lo := 1) (hi := 1) (by decide)) (by decide)) ?_
          refine J_ci (v := u 170 1) rfl ?_
          refine J_if_le (tgt := 66) dX11_endsHill_41 (by decide) (fun c37 => ?_) (fun c37 => ?_)
          · exact (bd_no (bd_le_hi (bd_le_hi (bd_lt_lo (bd_lt_lo (bd_lt_lo (hp0).2.2.1 (i_nle c1) (bd_c (v := 0) (lo := 0) (hi := 0) (by decide))) (i_nle c10) (bd_c (v := 1) (lo := 1) (hi := 1) (by decide))) (i_nle c23) (bd_c (v := 2) (lo := 2) (hi := 2) (by decide))) c36 (bd_c (v := 3) (lo := 3) (hi := 3) (by decide))) c37 (bd_c (v := 0) (lo := 0) (hi := 0) (by decide))) (by decide)).elim
          · replace E := xq_en c37 E
            refine J_iload_n (i := 1) (j := 1) dX11_endsHill_44 rfl rfl ?_
            refine J_bipush (v := 100) dX11_endsHill_45 (by decide) ?_
            refine J_icmp_eq (tgt := 66) dX11_endsHill_47 (by decide) (fun c38 => ?_) (fun c38 => ?_)
            · replace E := xq_ep c38 E
              refine J_aload_n (i := 0) (j := 2) dX11_endsHill_66 rfl rfl ?_
              refine J_get (C := RX11) (T := TX11) (Z := 43) (ci := 11) (f := 19) dX11_endsHill_67 inG11 rfl (by decide) k1283 wc_162 rfl ?_
              refine J_iconst (v := 1) dX11_endsHill_70 (by decide) ?_
              refine J_iald dX11_endsHill_71 wc_170 (vin (bd_c (v := 1) (lo := 1) (hi := 1) (by decide)) (by decide)) ?_
              refine J_ci (v := u 170 1) rfl ?_
              refine J_if_ne (tgt := 98) dX11_endsHill_72 (by decide) (fun c39 => ?_) (fun c39 => ?_)
              · replace E := xq_en c39 E
                exact J_vret hq dX11_endsHill_98 rfl wlen (Nat.le_refl _) (Nat.le_refl _) ⟨u, rfl, rfl, hp0, (fun _ => ((rcf_3 (f := u 170) (bd_le_hi (bd_lt_lo (bd_lt_lo (bd_lt_lo (hp0).2.2.1 (i_nle c1) (bd_c (v := 0) (lo := 0) (hi := 0) (by decide))) (i_nle c10) (bd_c (v := 1) (lo := 1) (hi := 1) (by decide))) (i_nle c23) (bd_c (v := 2) (lo := 2) (hi := 2) (by decide))) c36 (bd_c (v := 3) (lo := 3) (hi := 3) (by decide))) (hp0).2.2.2.2.1 (hp0).2.2.2.2.2.1 (hp0).2.2.2.2.2.2.1 (hp0).2.2.2.2.2.2.2 c38))), E, (fun c k0_ k1_ => rfl), (fun j k15_ k16_ => rfl)⟩
              · exact (bd_neq c39 (bd_le_hi (bd_lt_lo (bd_lt_lo (bd_lt_lo (hp0).2.2.1 (i_nle c1) (bd_c (v := 0) (lo := 0) (hi := 0) (by decide))) (i_nle c10) (bd_c (v := 1) (lo := 1) (hi := 1) (by decide))) (i_nle c23) (bd_c (v := 2) (lo := 2) (hi := 2) (by decide))) c36 (bd_c (v := 3) (lo := 3) (hi := 3) (by decide))) (bd_c (v := 0) (lo := 0) (hi := 0) (by decide)) (by decide)).elim
            · replace E := xq_en c38 E
              refine J_aload_n (i := 0) (j := 2) dX11_endsHill_50 rfl rfl ?_
              refine J_get (C := RX11) (T := TX11) (Z := 43) (ci := 11) (f := 15) dX11_endsHill_51 inG11 rfl (by decide) k1279 wc_162 rfl ?_
              refine J_if_ne (tgt := 66) dX11_endsHill_54 (by decide) (fun c40 => ?_) (fun c40 => ?_)
              · replace E := xq_en c40 E
                refine J_aload_n (i := 0) (j := 2) dX11_endsHill_66 rfl rfl ?_
                refine J_get (C := RX11) (T := TX11) (Z := 43) (ci := 11) (f := 19) dX11_endsHill_67 inG11 rfl (by decide) k1283 wc_162 rfl ?_
                refine J_iconst (v := 1) dX11_endsHill_70 (by decide) ?_
                refine J_iald dX11_endsHill_71 wc_170 (vin (bd_c (v := 1) (lo := 1) (hi := 1) (by decide)) (by decide)) ?_
                refine J_ci (v := u 170 1) rfl ?_
                refine J_if_ne (tgt := 98) dX11_endsHill_72 (by decide) (fun c41 => ?_) (fun c41 => ?_)
                · replace E := xq_en c41 E
                  exact J_vret hq dX11_endsHill_98 rfl wlen (Nat.le_refl _) (Nat.le_refl _) ⟨u, rfl, rfl, hp0, (fun q => absurd q c40), E, (fun c k0_ k1_ => rfl), (fun j k15_ k16_ => rfl)⟩
                · exact (bd_neq c41 (bd_le_hi (bd_lt_lo (bd_lt_lo (bd_lt_lo (hp0).2.2.1 (i_nle c1) (bd_c (v := 0) (lo := 0) (hi := 0) (by decide))) (i_nle c10) (bd_c (v := 1) (lo := 1) (hi := 1) (by decide))) (i_nle c23) (bd_c (v := 2) (lo := 2) (hi := 2) (by decide))) c36 (bd_c (v := 3) (lo := 3) (hi := 3) (by decide))) (bd_c (v := 0) (lo := 0) (hi := 0) (by decide)) (by decide)).elim
              · replace E := xq_ep c40 E
                refine J_aload_n (i := 0) (j := 2) dX11_endsHill_57 rfl rfl ?_
                refine J_iconst (v := 4) dX11_endsHill_58 (by decide) ?_
                refine J_aload_n (i := 0) (j := 2) dX11_endsHill_59 rfl rfl ?_
                refine J_get (C := RX11) (T := TX11) (Z := 43) (ci := 11) (f := 10) dX11_endsHill_60 inG11 rfl (by decide) k1274 wc_162 rfl ?_
                refine J_callV (As := [.int 4, .int (u 162 10)]) (rest := []) dX11_endsHill_63 (c_M_laterX (d := 0) (u := u) (g := g) (ex := ex) (f := 4) (place := u 162 10)  (by decide) ) hq.n k1452 k1454 k43 wc_162 rfl rfl k97 k1455 np_X11_later (Nat.le_trans (by decide) hd) (by decide) (Nat.le_refl _) (Nat.le_refl _) wlen rfl (Nat.le_of_ble_eq_true rfl) (fun r_ h_ p42 => ?_)
                obtain ⟨u43, rfl, rfl, h44, hx45, fr46, fc47⟩ := p42
                replace E := xq_le hx45 E
                refine J_aload_n (i := 0) (j := 2) dX11_endsHill_66 rfl rfl ?_
                refine J_get (C := RX11) (T := TX11) (Z := 43) (ci := 11) (f := 19) dX11_endsHill_67 inG11 rfl (by decide) k1283 wc_162 rfl ?_
                refine J_iconst (v := 1) dX11_endsHill_70 (by decide) ?_
                refine J_iald dX11_endsHill_71 wc_170 (vin (bd_c (v := 1) (lo := 1) (hi := 1) (by decide)) (by decide)) ?_
                refine J_ci (v := u 170 1) (congrFun (fr46 170 (Nat.ne_of_beq_eq_false rfl)) 1) ?_
                refine J_if_ne (tgt := 98) dX11_endsHill_72 (by decide) (fun c48 => ?_) (fun c48 => ?_)
                · replace E := xq_en c48 E
                  exact J_vret hq dX11_endsHill_98 rfl wlen (Nat.le_refl _) (Nat.le_refl _) ⟨u43, rfl, rfl, (rh_c (fr46 170 (Nat.ne_of_beq_eq_false rfl)) hp0), (fun q => absurd (h44 q) (by decide)), E, (fun c k0_ k1_ => (fr46 c k0_)), (fun j k15_ k16_ => (fc47 j k15_ k16_))⟩
                · exact (bd_neq c48 (bd_le_hi (bd_lt_lo (bd_lt_lo (bd_lt_lo (hp0).2.2.1 (i_nle c1) (bd_c (v := 0) (lo := 0) (hi := 0) (by decide))) (i_nle c10) (bd_c (v := 1) (lo := 1) (hi := 1) (by decide))) (i_nle c23) (bd_c (v := 2) (lo := 2) (hi := 2) (by decide))) c36 (bd_c (v := 3) (lo := 3) (hi := 3) (by decide))) (bd_c (v := 0) (lo := 0) (hi := 0) (by decide)) (by decide)).elim
        · replace E := xq_en c36 E
          refine J_iload_n (i := 1) (j := 1) dX11_endsHill_14 rfl rfl ?_
          refine J_aload_n (i := 0) (j := 2) dX11_endsHill_15 rfl rfl ?_
          refine J_get (C := RX11) (T := TX11) (Z := 43) (ci := 11) (f := 19) dX11_endsHill_16 inG11 rfl (by decide) k1283 wc_162 rfl ?_
          refine J_iconst (v := 5) dX11_endsHill_19 (by decide) ?_
          refine J_iconst (v := 2) dX11_endsHill_20 (by decide) ?_
          refine J_iload_n (i := 2) (j := 0) dX11_endsHill_21 rfl rfl ?_
          refine J_imul dX11_endsHill_22 ?_
          refine J_ci (v := 6) (by decide) ?_
          refine J_iadd dX11_endsHill_23 ?_
          refine J_ci (v := 11) (by decide) ?_
          refine J_iconst (v := 1) dX11_endsHill_24 (by decide) ?_
          refine J_iadd dX11_endsHill_25 ?_
          refine J_ci (v := 12) (by decide) ?_
          refine J_iald dX11_endsHill_26 wc_170 (vin (bd_c (v := 12) (lo := 12) (hi := 12) (by decide)) (by decide)) ?_
          refine J_ci (v := u 170 12) rfl ?_
          refine J_iadd dX11_endsHill_27 ?_
          refine J_istore_n (i := 1) (lw := [(1, .int (((((0 : Int32) + (u 170 6)) + (u 170 8)) + (u 170 10)) + (u 170 12))), (2, .int 3), (0, .ref 162)]) dX11_endsHill_28 rfl (by decide) rfl ?_
          refine J_iinc (i := 2) (j := 1) (v := 4) (lw := [(2, .int 4), (1, .int (((((0 : Int32) + (u 170 6)) + (u 170 8)) + (u 170 10)) + (u 170 12))), (0, .ref 162)]) dX11_endsHill_29 rfl (by decide) (by decide) rfl ?_
          refine J_goto (tgt := 4) dX11_endsHill_32 (by decide) ?_
          refine J_iload_n (i := 2) (j := 0) dX11_endsHill_4 rfl rfl ?_
          refine J_aload_n (i := 0) (j := 2) dX11_endsHill_5 rfl rfl ?_
          refine J_get (C := RX11) (T := TX11) (Z := 43) (ci := 11) (f := 19) dX11_endsHill_6 inG11 rfl (by decide) k1283 wc_162 rfl ?_
          refine J_iconst (v := 1) dX11_endsHill_9 (by decide) ?_
          refine J_iald dX11_endsHill_10 wc_170 (vin (bd_c (v := 1) (lo := 1) (hi := 1) (by decide)) (by decide)) ?_
          refine J_ci (v := u 170 1) rfl ?_
          refine J_icmp_ge (tgt := 35) dX11_endsHill_11 (by decide) (fun c49 => ?_) (fun c49 => ?_)
          · replace E := xq_ep c49 E
            refine J_aload_n (i := 0) (j := 2) dX11_endsHill_35 rfl rfl ?_
            refine J_get (C := RX11) (T := TX11) (Z := 43) (ci := 11) (f := 19) dX11_endsHill_36 inG11 rfl (by decide) k1283 wc_162 rfl ?_
            refine J_iconst (v := 1) dX11_endsHill_39 (by decide) ?_
            refine J_iald dX11_endsHill_40 wc_170 (vin (bd_c (v := 1) (lo := 1) (hi := 1) (by decide)) (by decide)) ?_
            refine J_ci (v := u 170 1) rfl ?_
            refine J_if_le (tgt := 66) dX11_endsHill_41 (by decide) (fun c50 => ?_) (fun c50 => ?_)
            · exact (bd_no (bd_le_hi (bd_lt_lo (bd_lt_lo (bd_lt_lo (bd_lt_lo (hp0).2.2.1 (i_nle c1) (bd_c (v := 0) (lo := 0) (hi := 0) (by decide))) (i_nle c10) (bd_c (v := 1) (lo := 1) (hi := 1) (by decide))) (i_nle c23) (bd_c (v := 2) (lo := 2) (hi := 2) (by decide))) (i_nle c36) (bd_c (v := 3) (lo := 3) (hi := 3) (by decide))) c50 (bd_c (v := 0) (lo := 0) (hi := 0) (by decide))) (by decide)).elim
            · replace E := xq_en c50 E
              refine J_iload_n (i := 1) (j := 1) dX11_endsHill_44 rfl rfl ?_
              refine J_bipush (v := 100) dX11_endsHill_45 (by decide) ?_
              refine J_icmp_eq (tgt := 66) dX11_endsHill_47 (by decide) (fun c51 => ?_) (fun c51 => ?_)
              · replace E := xq_ep c51 E
                refine J_aload_n (i := 0) (j := 2) dX11_endsHill_66 rfl rfl ?_
                refine J_get (C := RX11) (T := TX11) (Z := 43) (ci := 11) (f := 19) dX11_endsHill_67 inG11 rfl (by decide) k1283 wc_162 rfl ?_
                refine J_iconst (v := 1) dX11_endsHill_70 (by decide) ?_
                refine J_iald dX11_endsHill_71 wc_170 (vin (bd_c (v := 1) (lo := 1) (hi := 1) (by decide)) (by decide)) ?_
                refine J_ci (v := u 170 1) rfl ?_
                refine J_if_ne (tgt := 98) dX11_endsHill_72 (by decide) (fun c52 => ?_) (fun c52 => ?_)
                · replace E := xq_en c52 E
                  exact J_vret hq dX11_endsHill_98 rfl wlen (Nat.le_refl _) (Nat.le_refl _) ⟨u, rfl, rfl, hp0, (fun _ => ((rcf_4 (f := u 170) (bd_lt_lo (bd_lt_lo (bd_lt_lo (bd_lt_lo (hp0).2.2.1 (i_nle c1) (bd_c (v := 0) (lo := 0) (hi := 0) (by decide))) (i_nle c10) (bd_c (v := 1) (lo := 1) (hi := 1) (by decide))) (i_nle c23) (bd_c (v := 2) (lo := 2) (hi := 2) (by decide))) (i_nle c36) (bd_c (v := 3) (lo := 3) (hi := 3) (by decide))) (hp0).2.2.2.2.1 (hp0).2.2.2.2.2.1 (hp0).2.2.2.2.2.2.1 (hp0).2.2.2.2.2.2.2 c51))), E, (fun c k0_ k1_ => rfl), (fun j k15_ k16_ => rfl)⟩
                · exact (bd_neq c52 (bd_lt_lo (bd_lt_lo (bd_lt_lo (bd_lt_lo (hp0).2.2.1 (i_nle c1) (bd_c (v := 0) (lo := 0) (hi := 0) (by decide))) (i_nle c10) (bd_c (v := 1) (lo := 1) (hi := 1) (by decide))) (i_nle c23) (bd_c (v := 2) (lo := 2) (hi := 2) (by decide))) (i_nle c36) (bd_c (v := 3) (lo := 3) (hi := 3) (by decide))) (bd_c (v := 0) (lo := 0) (hi := 0) (by decide)) (by decide)).elim
              · replace E := xq_en c51 E
                refine J_aload_n (i := 0) (j := 2) dX11_endsHill_50 rfl rfl ?_
                refine J_get (C := RX11) (T := TX11) (Z := 43) (ci := 11) (f := 15) dX11_endsHill_51 inG11 rfl (by decide) k1279 wc_162 rfl ?_
                refine J_if_ne (tgt := 66) dX11_endsHill_54 (by decide) (fun c53 => ?_) (fun c53 => ?_)
                · replace E := xq_en c53 E
                  refine J_aload_n (i := 0) (j := 2) dX11_endsHill_66 rfl rfl ?_
                  refine J_get (C := RX11) (T := TX11) (Z := 43) (ci := 11) (f := 19) dX11_endsHill_67 inG11 rfl (by decide) k1283 wc_162 rfl ?_
                  refine J_iconst (v := 1) dX11_endsHill_70 (by decide) ?_
                  refine J_iald dX11_endsHill_71 wc_170 (vin (bd_c (v := 1) (lo := 1) (hi := 1) (by decide)) (by decide)) ?_
                  refine J_ci (v := u 170 1) rfl ?_
                  refine J_if_ne (tgt := 98) dX11_endsHill_72 (by decide) (fun c54 => ?_) (fun c54 => ?_)
                  · replace E := xq_en c54 E
                    exact J_vret hq dX11_endsHill_98 rfl wlen (Nat.le_refl _) (Nat.le_refl _) ⟨u, rfl, rfl, hp0, (fun q => absurd q c53), E, (fun c k0_ k1_ => rfl), (fun j k15_ k16_ => rfl)⟩
                  · exact (bd_neq c54 (bd_lt_lo (bd_lt_lo (bd_lt_lo (bd_lt_lo (hp0).2.2.1 (i_nle c1) (bd_c (v := 0) (lo := 0) (hi := 0) (by decide))) (i_nle c10) (bd_c (v := 1) (lo := 1) (hi := 1) (by decide))) (i_nle c23) (bd_c (v := 2) (lo := 2) (hi := 2) (by decide))) (i_nle c36) (bd_c (v := 3) (lo := 3) (hi := 3) (by decide))) (bd_c (v := 0) (lo := 0) (hi := 0) (by decide)) (by decide)).elim
                · replace E := xq_ep c53 E
                  refine J_aload_n (i := 0) (j := 2) dX11_endsHill_57 rfl rfl ?_
                  refine J_iconst (v := 4) dX11_endsHill_58 (by decide) ?_
                  refine J_aload_n (i := 0) (j := 2) dX11_endsHill_59 rfl rfl ?_
                  refine J_get (C := RX11) (T := TX11) (Z := 43) (ci := 11) (f := 10) dX11_endsHill_60 inG11 rfl (by decide) k1274 wc_162 rfl ?_
                  refine J_callV (As := [.int 4, .int (u 162 10)]) (rest := []) dX11_endsHill_63 (c_M_laterX (d := 0) (u := u) (g := g) (ex := ex) (f := 4) (place := u 162 10)  (by decide) ) hq.n k1452 k1454 k43 wc_162 rfl rfl k97 k1455 np_X11_later (Nat.le_trans (by decide) hd) (by decide) (Nat.le_refl _) (Nat.le_refl _) wlen rfl (Nat.le_of_ble_eq_true rfl) (fun r_ h_ p55 => ?_)
                  obtain ⟨u56, rfl, rfl, h57, hx58, fr59, fc60⟩ := p55
                  replace E := xq_le hx58 E
                  refine J_aload_n (i := 0) (j := 2) dX11_endsHill_66 rfl rfl ?_
                  refine J_get (C := RX11) (T := TX11) (Z := 43) (ci := 11) (f := 19) dX11_endsHill_67 inG11 rfl (by decide) k1283 wc_162 rfl ?_
                  refine J_iconst (v := 1) dX11_endsHill_70 (by decide) ?_
                  refine J_iald dX11_endsHill_71 wc_170 (vin (bd_c (v := 1) (lo := 1) (hi := 1) (by decide)) (by decide)) ?_
                  refine J_ci (v := u 170 1) (congrFun (fr59 170 (Nat.ne_of_beq_eq_false rfl)) 1) ?_
                  refine J_if_ne (tgt := 98) dX11_endsHill_72 (by decide) (fun c61 => ?_) (fun c61 => ?_)
                  · replace E := xq_en c61 E
                    exact J_vret hq dX11_endsHill_98 rfl wlen (Nat.le_refl _) (Nat.le_refl _) ⟨u56, rfl, rfl, (rh_c (fr59 170 (Nat.ne_of_beq_eq_false rfl)) hp0), (fun q => absurd (h57 q) (by decide)), E, (fun c k0_ k1_ => (fr59 c k0_)), (fun j k15_ k16_ => (fc60 j k15_ k16_))⟩
                  · exact (bd_neq c61 (bd_lt_lo (bd_lt_lo (bd_lt_lo (bd_lt_lo (hp0).2.2.1 (i_nle c1) (bd_c (v := 0) (lo := 0) (hi := 0) (by decide))) (i_nle c10) (bd_c (v := 1) (lo := 1) (hi := 1) (by decide))) (i_nle c23) (bd_c (v := 2) (lo := 2) (hi := 2) (by decide))) (i_nle c36) (bd_c (v := 3) (lo := 3) (hi := 3) (by decide))) (bd_c (v := 0) (lo := 0) (hi := 0) (by decide)) (by decide)).elim
          · exact (bd_no (bd_lt_lo (bd_lt_lo (bd_lt_lo (bd_lt_lo (bd_lt_lo (hp0).2.2.1 (i_nle c1) (bd_c (v := 0) (lo := 0) (hi := 0) (by decide))) (i_nle c10) (bd_c (v := 1) (lo := 1) (hi := 1) (by decide))) (i_nle c23) (bd_c (v := 2) (lo := 2) (hi := 2) (by decide))) (i_nle c36) (bd_c (v := 3) (lo := 3) (hi := 3) (by decide))) (i_nle c49) (bd_c (v := 4) (lo := 4) (hi := 4) (by decide))) (by decide)).elim
set_option maxRecDepth 100000 in
noncomputable def Fx_M_readText0X_J122 (w789 : Int32) (u790 : Nat → Nat → Int32) (g799 : Nat → Nat → Int64) : Bool × (Nat → Nat → Int32) × (Nat → Nat → Int64) := if w789 = (0 : Int32) then (if w789 = (0 : Int32) then (xq_lt (ms u790 165 0 1) fun u803 => if w789 = (0 : Int32) then (xq_lt (ms u803 166 0 (u790 162 14)) fun u806 => (false, u806, g799)) else (default)) else (default)) else (xq_lt (Fx_M_endsHillX u790 g799) fun u809 => if w789 = (0 : Int32) then (default) else (xq_lt (ms u809 165 0 (u809 162 15)) fun u816 => if w789 = (0 : Int32) then (default) else (if (u809 162 15) ≤ (0 : Int32) then (xq_lt (ms u816 166 0 (-1)) fun u820 => if (u809 162 15) = (0 : Int32) then ((true, u820, g799)) else ((false, u820, g799))) else (xq_lt (ms u816 166 0 (u809 162 16)) fun u823 => if (u809 162 15) = (0 : Int32) then (default) else ((false, u823, g799))))))
set_option maxRecDepth 100000 in
noncomputable def Fx_M_readText0X_L55  (n_ : Nat) : (Int32) → (Nat → Nat → Int32) → (Nat → Nat → Int64) → Bool × (Nat → Nat → Int32) × (Nat → Nat → Int64) := Nat.rec (motive := fun _ => (Int32) → (Nat → Nat → Int32) → (Nat → Nat → Int64) → Bool × (Nat → Nat → Int32) × (Nat → Nat → Int64)) (fun _ _ _ => default) (fun n_ ih_ w630 u631 g642 => if w630 = (0 : Int32) then (Fx_M_readText0X_J122 w630 u631 g642) else (if (u631 162 11) = (0 : Int32) then (Fx_M_readText0X_J122 w630 u631 g642) else (xq_lt (ms u631 162 18 1) fun u827 => xq_c3 (Fx_M_hillLineX (u631 162 10) u827 g642) fun t830 u831 g832 => if t830 = true then (if (u831 162 11) = (4 : Int32) then (xq_c2 (Fx_M_tokenX u831 g832) fun u845 g846 => ih_ (bI t830) u845 g846) else (xq_lt (Fx_M_stopsX u831 g832) fun u856 => Fx_M_readText0X_J122 (0 : Int32) u856 g832)) else (Fx_M_readText0X_J122 (bI t830) u831 g832)))) n_
set_option maxRecDepth 100000 in
theorem Fx_M_readText0X_L55_s {w630 : Int32} {u631 : Nat → Nat → Int32} {g642 : Nat → Nat → Int64} {n_ : Nat} : Fx_M_readText0X_L55 (n_ + 1) w630 u631 g642 = if w630 = (0 : Int32) then (Fx_M_readText0X_J122 w630 u631 g642) else (if (u631 162 11) = (0 : Int32) then (Fx_M_readText0X_J122 w630 u631 g642) else (xq_lt (ms u631 162 18 1) fun u827 => xq_c3 (Fx_M_hillLineX (u631 162 10) u827 g642) fun t830 u831 g832 => if t830 = true then (if (u831 162 11) = (4 : Int32) then (xq_c2 (Fx_M_tokenX u831 g832) fun u845 g846 => (Fx_M_readText0X_L55 n_) (bI t830) u845 g846) else (xq_lt (Fx_M_stopsX u831 g832) fun u856 => Fx_M_readText0X_J122 (0 : Int32) u856 g832)) else (Fx_M_readText0X_J122 (bI t830) u831 g832))) := rfl
set_option maxRecDepth 100000 in
noncomputable def Fx_M_readText0X_J32 (ih_lp493 : (Int32) → (Nat → Nat → Int32) → Bool × (Nat → Nat → Int32) × (Nat → Nat → Int64)) (w116 : Int32) (u117 : Nat → Nat → Int32) (w867 : Int32) : Bool × (Nat → Nat → Int32) × (Nat → Nat → Int64) := xq_lt (ms u117 170 w116.toNatClampNeg w867) fun u869 => ih_lp493 (w116 + 1) u869
set_option maxRecDepth 100000 in
noncomputable def Fx_M_readText0X_L2 (g : Nat → Nat → Int64) (n_ : Nat) : (Int32) → (Nat → Nat → Int32) → Bool × (Nat → Nat → Int32) × (Nat → Nat → Int64) := Nat.rec (motive := fun _ => (Int32) → (Nat → Nat → Int32) → Bool × (Nat → Nat → Int32) × (Nat → Nat → Int64)) (fun _ _ => default) (fun n_ ih_ w116 u117 => if (157 : Int32) ≤ w116 then (xq_lt (ms u117 162 8 0) fun u511 => xq_lt (ms u511 162 15 0) fun u513 => xq_c2 (Fx_M_tokenX u513 g) fun u516 g517 => Fx_M_readText0X_L55 ((600 - (u516 162 8).toInt).toNat + 1) (1 : Int32) u516 g517) else (xq_lt (Fx_M_inEX w116 (2 : Int32) (4 : Int32) u117 g) fun t861 => if t861 = true then (Fx_M_readText0X_J32 ih_ w116 u117 (1 : Int32)) else (Fx_M_readText0X_J32 ih_ w116 u117 (0 : Int32)))) n_
set_option maxRecDepth 100000 in
theorem Fx_M_readText0X_L2_s {g : Nat → Nat → Int64} {w116 : Int32} {u117 : Nat → Nat → Int32} {n_ : Nat} : Fx_M_readText0X_L2 g (n_ + 1) w116 u117 = if (157 : Int32) ≤ w116 then (xq_lt (ms u117 162 8 0) fun u511 => xq_lt (ms u511 162 15 0) fun u513 => xq_c2 (Fx_M_tokenX u513 g) fun u516 g517 => Fx_M_readText0X_L55 ((600 - (u516 162 8).toInt).toNat + 1) (1 : Int32) u516 g517) else (xq_lt (Fx_M_inEX w116 (2 : Int32) (4 : Int32) u117 g) fun t861 => if t861 = true then (Fx_M_readText0X_J32 (Fx_M_readText0X_L2 g n_) w116 u117 (1 : Int32)) else (Fx_M_readText0X_J32 (Fx_M_readText0X_L2 g n_) w116 u117 (0 : Int32))) := rfl
set_option maxRecDepth 100000 in
noncomputable def Fx_M_readText0X (u : Nat → Nat → Int32) (g : Nat → Nat → Int64) : Bool × (Nat → Nat → Int32) × (Nat → Nat → Int64) := Fx_M_readText0X_L2 g ((157 - (0 : Int32).toInt).toNat + 1) (0 : Int32) u
set_option maxHeartbeats 4000000 in
set_option maxRecDepth 100000 in
theorem c_M_readText0X {d : Nat} {u : Nat → Nat → Int32} {g : Nat → Nat → Int64} {ex : List MC}  (hd : 6 ≤ d) (hp0 : Bd 0 600 (u 162 9)) (hp1 : Bd 0 999 (u 162 12)) (hp2 : Bd 0 999 (u 162 17)) (hp3 : AB u 171 (-1) 999) (hp4 : AB u 170 (-1) 999) : CT con0 d 0 0 yX11_readText cX11_readText 4 (some .boolean) [.ref 162, .int 0] (Wd u g ex) (fun r h2 => ∃ (z : Bool) (u2 : Nat → Nat → Int32) (g2 : Nat → Nat → Int64), r = some (.int (bI z)) ∧ h2 = Wd u2 g2 ex ∧ Bd 0 600 (u2 162 8) ∧ Bd 0 999 (u2 162 12) ∧ Bd 0 999 (u2 162 17) ∧ AB u2 171 (-1) 999 ∧ (RH u2) ∧ (z = true → RCf (u2 170)) ∧ (z, u2, g2) = Fx_M_readText0X u g ∧ (∀ c, nin c [(162, 162), (165, 166), (170, 171)] = true → u2 c = u c) ∧ (∀ j, j ≠ 8 → j ≠ 10 → j ≠ 11 → j ≠ 12 → j ≠ 14 → j ≠ 15 → j ≠ 16 → j ≠ 17 → j ≠ 18 → u2 162 j = u 162 j) ∧ (∀ j, j ≠ 0 → u2 165 j = u 165 j) ∧ (∀ j, j ≠ 0 → u2 166 j = u 166 j)) := by
  refine CT_of (by decide) (Nat.le_of_ble_eq_true rfl) (fun x hq => ?_)
  show J x yX11_readText cX11_readText 4 (some .boolean) d 0 0 (Wd u g ex).length 0 [(0, .ref 162), (1, .int 0)] [] (Wd u g ex) 0 0
  have E : Fx_M_readText0X u g = Fx_M_readText0X u g := rfl
  refine J_iconst (v := 0) dX11_readText_0 (by decide) ?_
  refine J_istore_n (i := 2) (lw := [(2, .int 0), (0, .ref 162), (1, .int 0)]) dX11_readText_1 rfl (by decide) rfl ?_
  have lp493 : ∀ (n494 : Nat) (w116 : Int32) (u117 : Nat → Nat → Int32), Bd 0 157 w116 → (∀ c, c ≠ 170 → u117 c = u c) → AB u117 170 (-1) 999 → ZI u117 w116 → (157 - w116.toInt).toNat < n494 → Fx_M_readText0X_L2 g n494 w116 u117 = Fx_M_readText0X u g → J x yX11_readText cX11_readText 4 (some .boolean) d 0 0 (Wd u g ex).length 2 [(0, .ref 162), (1, .int 0), (2, .int w116)] [] (Wd u117 g ex) 0 0 := by
    intro n494
    induction n494 with
    | zero => intro w116 u117 bw116 fr118 ab119 hI497 hm496 _; exact absurd hm496 (Nat.not_lt_zero _)
    | succ n494 ih495 =>
      intro w116 u117 bw116 fr118 ab119 hI497 hm496 E
      replace E := Fx_M_readText0X_L2_s.symm.trans E
      refine J_iload_n (i := 2) (j := 2) dX11_readText_2 rfl rfl ?_
      refine J_sipush (v := 157) dX11_readText_3 (by decide) ?_
      refine J_icmp_ge (tgt := 39) dX11_readText_6 (by decide) (fun c498 => ?_) (fun c498 => ?_)
      · replace E := xq_ep c498 E
        have hz510 := zi_e hI497 (bd_le_lo bw116 c498 (bd_c (v := 157) (lo := 157) (hi := 157) (by decide))) ab119
        refine J_aload_n (i := 0) (j := 0) dX11_readText_39 rfl rfl ?_
        refine J_iconst (v := 0) dX11_readText_40 (by decide) ?_
        obtain ⟨u511, e512⟩ : ∃ z, z = ms u117 162 8 0 := ⟨_, rfl⟩
        refine J_put (C := RX11) (T := TX11) (Z := 43) (ci := 11) (f := 8) (ty0 := tyX11) dX11_readText_41 inG11 rfl tyX11_ok nmX11 (by decide) k1272 rfl rfl wc_162 (Nat.le_of_ble_eq_true rfl) (fun _ _ => ⟨rfl, rfl⟩) (ws e512 wk_162 rfl) ?_
        replace E := xq_le e512 E
        refine J_aload_n (i := 0) (j := 0) dX11_readText_44 rfl rfl ?_
        refine J_iconst (v := 0) dX11_readText_45 (by decide) ?_
        obtain ⟨u513, e514⟩ : ∃ z, z = ms u511 162 15 0 := ⟨_, rfl⟩
        refine J_put (C := RX11) (T := TX11) (Z := 43) (ci := 11) (f := 15) (ty0 := tyX11) dX11_readText_46 inG11 rfl tyX11_ok nmX11 (by decide) k1279 rfl rfl wc_162 (Nat.le_of_ble_eq_true rfl) (fun _ _ => ⟨rfl, rfl⟩) (ws e514 wk_162 rfl) ?_
        replace E := xq_le e514 E
        refine J_iconst (v := 1) dX11_readText_49 (by decide) ?_
        refine J_istore_n (i := 2) (lw := [(2, .int 1), (0, .ref 162), (1, .int 0)]) dX11_readText_50 rfl (by decide) rfl ?_
        refine J_aload_n (i := 0) (j := 1) dX11_readText_51 rfl rfl ?_
        refine J_callV (As := []) (rest := []) dX11_readText_52 (c_M_tokenX (d := 1) (u := u513) (g := g) (ex := ex)   (by decide) (bd_r ((ms_i e514 (Nat.ne_of_beq_eq_false rfl)).trans (ms_e e512)) (bd_w (l := 0) (h := 600) (bd_c (v := 0) (lo := 0) (hi := 0) (by decide)) (by decide))) (bd_r ((ms_i e514 (Nat.ne_of_beq_eq_false rfl)).trans ((ms_i e512 (Nat.ne_of_beq_eq_false rfl)).trans (congrFun (fr118 162 (Nat.ne_of_beq_eq_false rfl)) 9))) hp0) (bd_r ((ms_i e514 (Nat.ne_of_beq_eq_false rfl)).trans ((ms_i e512 (Nat.ne_of_beq_eq_false rfl)).trans (congrFun (fr118 162 (Nat.ne_of_beq_eq_false rfl)) 12))) hp1)) hq.n k1417 k1419 k38 wc_162 rfl rfl k97 k1420 np_X11_token (Nat.le_trans (by decide) hd) (by decide) (Nat.le_refl _) (Nat.le_refl _) wlen rfl (Nat.le_of_ble_eq_true rfl) (fun r_ h_ p515 => ?_)
        obtain ⟨u516, g517, rfl, rfl, h518, h519, h520, h521, h522, hx523, fr524, fc525⟩ := p515
        replace E := xq_e2 hx523 E
        have lp749 : ∀ (n750 : Nat) (w630 : Int32) (u631 : Nat → Nat → Int32) (g642 : Nat → Nat → Int64), Bd 0 1 w630 → (∀ c, nin c [(162, 162), (170, 171)] = true → u631 c = u516 c) → (∀ j, j ≠ 8 → j ≠ 10 → j ≠ 11 → j ≠ 12 → j ≠ 14 → j ≠ 15 → j ≠ 16 → j ≠ 17 → j ≠ 18 → u631 162 j = u516 162 j) → Bd 0 600 (u631 162 8) → Bd 0 600 (u631 162 10) → Bd 0 4 (u631 162 11) → Bd 0 999 (u631 162 12) → Bd 0 999 (u631 162 17) → AB u631 170 (-1) 999 → AB u631 171 (-1) 999 → RH u631 → True → (600 - (u631 162 8).toInt).toNat < n750 → Fx_M_readText0X_L55 n750 w630 u631 g642 = Fx_M_readText0X u g → J x yX11_readText cX11_readText 4 (some .boolean) d 0 0 (Wd u g ex).length 55 [(0, .ref 162), (1, .int 0), (2, .int w630)] [] (Wd u631 g642 ex) 0 0 := by
          intro n750
          induction n750 with
          | zero => intro w630 u631 g642 bw630 fr632 fc633 bm634 bm635 bm636 bm637 bm638 ab639 ab640 rf641 hI753 hm752 _; exact absurd hm752 (Nat.not_lt_zero _)
          | succ n750 ih751 =>
            intro w630 u631 g642 bw630 fr632 fc633 bm634 bm635 bm636 bm637 bm638 ab639 ab640 rf641 hI753 hm752 E
            replace E := Fx_M_readText0X_L55_s.symm.trans E
            refine J_iload_n (i := 2) (j := 2) dX11_readText_55 rfl rfl ?_
            have jn800 : ∀ (w789 : Int32) (u790 : Nat → Nat → Int32) (g799 : Nat → Nat → Int64), Bd 0 1 w789 → (∀ c, nin c [(162, 162), (170, 171)] = true → u790 c = u631 c) → (∀ j, j ≠ 8 → j ≠ 10 → j ≠ 11 → j ≠ 12 → j ≠ 14 → j ≠ 15 → j ≠ 16 → j ≠ 17 → j ≠ 18 → u790 162 j = u631 162 j) → Bd 0 600 (u790 162 8) → Bd 0 999 (u790 162 12) → Bd 0 999 (u790 162 17) → AB u790 170 (-1) 999 → AB u790 171 (-1) 999 → RH u790 → Fx_M_readText0X_J122 w789 u790 g799 = Fx_M_readText0X u g → J x yX11_readText cX11_readText 4 (some .boolean) d 0 0 (Wd u g ex).length 122 [(0, .ref 162), (1, .int 0), (2, .int w789)] [] (Wd u790 g799 ex) 0 0 := by
              intro w789 u790 g799 bw789 fr791 fc792 bm793 bm794 bm795 ab796 ab797 rf798 E
              refine J_iload_n (i := 2) (j := 2) dX11_readText_122 rfl rfl ?_
              refine J_if_eq (tgt := 134) dX11_readText_123 (by decide) (fun c801 => ?_) (fun c801 => ?_)
              · replace E := xq_ep c801 E
                refine J_aload_n (i := 0) (j := 0) dX11_readText_134 rfl rfl ?_
                refine J_get (C := RX11) (T := TX11) (Z := 43) (ci := 11) (f := 3) dX11_readText_135 inG11 rfl (by decide) k1267 wc_162 rfl ?_
                refine J_iconst (v := 0) dX11_readText_138 (by decide) ?_
                refine J_iload_n (i := 2) (j := 2) dX11_readText_139 rfl rfl ?_
                refine J_if_eq (tgt := 150) dX11_readText_140 (by decide) (fun c802 => ?_) (fun c802 => ?_)
                · replace E := xq_ep c802 E
                  refine J_iconst (v := 1) dX11_readText_150 (by decide) ?_
                  obtain ⟨u803, e804⟩ : ∃ z, z = ms u790 165 0 1 := ⟨_, rfl⟩
                  refine J_iast dX11_readText_151 wc_165 (vin (bd_c (v := 0) (lo := 0) (hi := 0) (by decide)) (by decide)) (ws e804 wk_165 rfl) ?_
                  replace E := xq_le e804 E
                  refine J_aload_n (i := 0) (j := 0) dX11_readText_152 rfl rfl ?_
                  refine J_get (C := RX11) (T := TX11) (Z := 43) (ci := 11) (f := 4) dX11_readText_153 inG11 rfl (by decide) k1268 wc_162 rfl ?_
                  refine J_iconst (v := 0) dX11_readText_156 (by decide) ?_
                  refine J_iload_n (i := 2) (j := 2) dX11_readText_157 rfl rfl ?_
                  refine J_if_ne (tgt := 168) dX11_readText_158 (by decide) (fun c805 => ?_) (fun c805 => ?_)
                  · exact (bd_no (bd_ne_lo (bd_r c801 (bd_c (v := 0) (lo := 0) (hi := 0) (by decide))) c805 (by decide)) (by decide)).elim
                  · replace E := xq_ep c805 E
                    refine J_aload_n (i := 0) (j := 0) dX11_readText_161 rfl rfl ?_
                    refine J_get (C := RX11) (T := TX11) (Z := 43) (ci := 11) (f := 14) dX11_readText_162 inG11 rfl (by decide) k1278 wc_162 rfl ?_
                    refine J_ci (v := u790 162 14) (congrFun (ms_c e804 (Nat.ne_of_beq_eq_false rfl)) 14) ?_
                    refine J_goto (tgt := 183) dX11_readText_165 (by decide) ?_
                    obtain ⟨u806, e807⟩ : ∃ z, z = ms u803 166 0 (u790 162 14) := ⟨_, rfl⟩
                    refine J_iast dX11_readText_183 wc_166 (vin (bd_c (v := 0) (lo := 0) (hi := 0) (by decide)) (by decide)) (ws e807 wk_166 rfl) ?_
                    replace E := xq_le e807 E
                    refine J_aload_n (i := 0) (j := 0) dX11_readText_184 rfl rfl ?_
                    refine J_get (C := RX11) (T := TX11) (Z := 43) (ci := 11) (f := 3) dX11_readText_185 inG11 rfl (by decide) k1267 wc_162 rfl ?_
                    refine J_iconst (v := 0) dX11_readText_188 (by decide) ?_
                    refine J_iald dX11_readText_189 wc_165 (vin (bd_c (v := 0) (lo := 0) (hi := 0) (by decide)) (by decide)) ?_
                    refine J_ci (v := 1) ((congrFun (ms_c e807 (Nat.ne_of_beq_eq_false rfl)) 0).trans (ms_e e804)) ?_
                    refine J_if_ne (tgt := 197) dX11_readText_190 (by decide) (fun _ => ?_) (fun q => absurd q (by decide))
                    refine J_iconst (v := 0) dX11_readText_197 (by decide) ?_
                    exact J_zret hq dX11_readText_198 rfl rfl wlen (Nat.le_refl _) (Nat.le_refl _) ⟨false, u806, g799, rfl, rfl, (bd_r ((congrFun (ms_c e807 (Nat.ne_of_beq_eq_false rfl)) 8).trans (congrFun (ms_c e804 (Nat.ne_of_beq_eq_false rfl)) 8)) bm793), (bd_r ((congrFun (ms_c e807 (Nat.ne_of_beq_eq_false rfl)) 12).trans (congrFun (ms_c e804 (Nat.ne_of_beq_eq_false rfl)) 12)) bm794), (bd_r ((congrFun (ms_c e807 (Nat.ne_of_beq_eq_false rfl)) 17).trans (congrFun (ms_c e804 (Nat.ne_of_beq_eq_false rfl)) 17)) bm795), (ab_c ((ms_c e807 (Nat.ne_of_beq_eq_false rfl)).trans (ms_c e804 (Nat.ne_of_beq_eq_false rfl))) ab797), (rh_c ((ms_c e807 (Nat.ne_of_beq_eq_false rfl)).trans (ms_c e804 (Nat.ne_of_beq_eq_false rfl))) rf798), (fun q => absurd q (by decide)), E, (fun c k_ => ((ms_c e807 (nin_ne (a := 166) k_ rfl)).trans ((ms_c e804 (nin_ne (a := 165) k_ rfl)).trans ((fr791 c (nin_sub (M := [(162, 162), (170, 171)]) k_ rfl)).trans ((fr632 c (nin_sub (M := [(162, 162), (170, 171)]) k_ rfl)).trans ((fr524 c (nin_ne (a := 162) k_ rfl)).trans ((ms_c e514 (nin_ne (a := 162) k_ rfl)).trans ((ms_c e512 (nin_ne (a := 162) k_ rfl)).trans (fr118 c (nin_ne (a := 170) k_ rfl)))))))))), (fun j k8_ k10_ k11_ k12_ k14_ k15_ k16_ k17_ k18_ => ((congrFun (ms_c e807 (Nat.ne_of_beq_eq_false rfl)) j).trans ((congrFun (ms_c e804 (Nat.ne_of_beq_eq_false rfl)) j).trans ((fc792 j k8_ k10_ k11_ k12_ k14_ k15_ k16_ k17_ k18_).trans ((fc633 j k8_ k10_ k11_ k12_ k14_ k15_ k16_ k17_ k18_).trans ((fc525 j k8_ k10_ k11_ k12_).trans ((ms_i e514 k15_).trans ((ms_i e512 k8_).trans (congrFun (fr118 162 (Nat.ne_of_beq_eq_false rfl)) j))))))))), (fun j k0_ => ((congrFun (ms_c e807 (Nat.ne_of_beq_eq_false rfl)) j).trans ((ms_i e804 k0_).trans ((congrFun (fr791 165 rfl) j).trans ((congrFun (fr632 165 rfl) j).trans ((congrFun (fr524 165 (Nat.ne_of_beq_eq_false rfl)) j).trans ((congrFun (ms_c e514 (Nat.ne_of_beq_eq_false rfl)) j).trans ((congrFun (ms_c e512 (Nat.ne_of_beq_eq_false rfl)) j).trans (congrFun (fr118 165 (Nat.ne_of_beq_eq_false rfl)) j))))))))), (fun j k0_ => ((ms_i e807 k0_).trans ((congrFun (ms_c e804 (Nat.ne_of_beq_eq_false rfl)) j).trans ((congrFun (fr791 166 rfl) j).trans ((congrFun (fr632 166 rfl) j).trans ((congrFun (fr524 166 (Nat.ne_of_beq_eq_false rfl)) j).trans ((congrFun (ms_c e514 (Nat.ne_of_beq_eq_false rfl)) j).trans ((congrFun (ms_c e512 (Nat.ne_of_beq_eq_false rfl)) j).trans (congrFun (fr118 166 (Nat.ne_of_beq_eq_false rfl)) j)))))))))⟩
                · exact (bd_no (bd_ne_lo (bd_r c801 (bd_c (v := 0) (lo := 0) (hi := 0) (by decide))) c802 (by decide)) (by decide)).elim
              · replace E := xq_en c801 E
                refine J_iload_n (i := 1) (j := 1) dX11_readText_126 rfl rfl ?_
                refine J_if_ne (tgt := 134) dX11_readText_127 (by decide) (fun q => absurd (by decide) q) (fun _ => ?_)
                refine J_aload_n (i := 0) (j := 0) dX11_readText_130 rfl rfl ?_
                refine J_callV (As := []) (rest := []) dX11_readText_131 (c_M_endsHillX (d := 1) (u := u790) (g := g799) (ex := ex)   (by decide) rf798) hq.n k1483 k1485 k50 wc_162 rfl rfl k97 k1486 np_X11_endsHill (Nat.le_trans (by decide) hd) (by decide) (Nat.le_refl _) (Nat.le_refl _) wlen rfl (Nat.le_of_ble_eq_true rfl) (fun r_ h_ p808 => ?_)
                obtain ⟨u809, rfl, rfl, h810, h811, hx812, fr813, fc814⟩ := p808
                replace E := xq_le hx812 E
                refine J_aload_n (i := 0) (j := 0) dX11_readText_134 rfl rfl ?_
                refine J_get (C := RX11) (T := TX11) (Z := 43) (ci := 11) (f := 3) dX11_readText_135 inG11 rfl (by decide) k1267 wc_162 rfl ?_
                refine J_iconst (v := 0) dX11_readText_138 (by decide) ?_
                refine J_iload_n (i := 2) (j := 2) dX11_readText_139 rfl rfl ?_
                refine J_if_eq (tgt := 150) dX11_readText_140 (by decide) (fun c815 => ?_) (fun c815 => ?_)
                · exact (bd_neq c815 (bd_ne_lo bw789 c801 (by decide)) (bd_c (v := 0) (lo := 0) (hi := 0) (by decide)) (by decide)).elim
                · replace E := xq_en c815 E
                  refine J_aload_n (i := 0) (j := 0) dX11_readText_143 rfl rfl ?_
                  refine J_get (C := RX11) (T := TX11) (Z := 43) (ci := 11) (f := 15) dX11_readText_144 inG11 rfl (by decide) k1279 wc_162 rfl ?_
                  refine J_goto (tgt := 151) dX11_readText_147 (by decide) ?_
                  obtain ⟨u816, e817⟩ : ∃ z, z = ms u809 165 0 (u809 162 15) := ⟨_, rfl⟩
                  refine J_iast dX11_readText_151 wc_165 (vin (bd_c (v := 0) (lo := 0) (hi := 0) (by decide)) (by decide)) (ws e817 wk_165 rfl) ?_
                  replace E := xq_le e817 E
                  refine J_aload_n (i := 0) (j := 0) dX11_readText_152 rfl rfl ?_
                  refine J_get (C := RX11) (T := TX11) (Z := 43) (ci := 11) (f := 4) dX11_readText_153 inG11 rfl (by decide) k1268 wc_162 rfl ?_
                  refine J_iconst (v := 0) dX11_readText_156 (by decide) ?_
                  refine J_iload_n (i := 2) (j := 2) dX11_readText_157 rfl rfl ?_
                  refine J_if_ne (tgt := 168) dX11_readText_158 (by decide) (fun c818 => ?_) (fun c818 => ?_)
                  · replace E := xq_en c818 E
                    refine J_aload_n (i := 0) (j := 0) dX11_readText_168 rfl rfl ?_
                    refine J_get (C := RX11) (T := TX11) (Z := 43) (ci := 11) (f := 15) dX11_readText_169 inG11 rfl (by decide) k1279 wc_162 rfl ?_
                    refine J_ci (v := u809 162 15) (congrFun (ms_c e817 (Nat.ne_of_beq_eq_false rfl)) 15) ?_
                    refine J_if_le (tgt := 182) dX11_readText_172 (by decide) (fun c819 => ?_) (fun c819 => ?_)
                    · replace E := xq_ep c819 E
                      refine J_iconst (v := (-1)) dX11_readText_182 (by decide) ?_
                      obtain ⟨u820, e821⟩ : ∃ z, z = ms u816 166 0 (-1) := ⟨_, rfl⟩
                      refine J_iast dX11_readText_183 wc_166 (vin (bd_c (v := 0) (lo := 0) (hi := 0) (by decide)) (by decide)) (ws e821 wk_166 rfl) ?_
                      replace E := xq_le e821 E
                      refine J_aload_n (i := 0) (j := 0) dX11_readText_184 rfl rfl ?_
                      refine J_get (C := RX11) (T := TX11) (Z := 43) (ci := 11) (f := 3) dX11_readText_185 inG11 rfl (by decide) k1267 wc_162 rfl ?_
                      refine J_iconst (v := 0) dX11_readText_188 (by decide) ?_
                      refine J_iald dX11_readText_189 wc_165 (vin (bd_c (v := 0) (lo := 0) (hi := 0) (by decide)) (by decide)) ?_
                      refine J_ci (v := u809 162 15) ((congrFun (ms_c e821 (Nat.ne_of_beq_eq_false rfl)) 0).trans (ms_e e817)) ?_
                      refine J_if_ne (tgt := 197) dX11_readText_190 (by decide) (fun c822 => ?_) (fun c822 => ?_)
                      · replace E := xq_en c822 E
                        refine J_iconst (v := 0) dX11_readText_197 (by decide) ?_
                        exact J_zret hq dX11_readText_198 rfl rfl wlen (Nat.le_refl _) (Nat.le_refl _) ⟨false, u820, g799, rfl, rfl, (bd_r ((congrFun (ms_c e821 (Nat.ne_of_beq_eq_false rfl)) 8).trans ((congrFun (ms_c e817 (Nat.ne_of_beq_eq_false rfl)) 8).trans (fc814 8 (Nat.ne_of_beq_eq_false rfl) (Nat.ne_of_beq_eq_false rfl)))) bm793), (bd_r ((congrFun (ms_c e821 (Nat.ne_of_beq_eq_false rfl)) 12).trans ((congrFun (ms_c e817 (Nat.ne_of_beq_eq_false rfl)) 12).trans (fc814 12 (Nat.ne_of_beq_eq_false rfl) (Nat.ne_of_beq_eq_false rfl)))) bm794), (bd_r ((congrFun (ms_c e821 (Nat.ne_of_beq_eq_false rfl)) 17).trans ((congrFun (ms_c e817 (Nat.ne_of_beq_eq_false rfl)) 17).trans (fc814 17 (Nat.ne_of_beq_eq_false rfl) (Nat.ne_of_beq_eq_false rfl)))) bm795), (ab_c ((ms_c e821 (Nat.ne_of_beq_eq_false rfl)).trans ((ms_c e817 (Nat.ne_of_beq_eq_false rfl)).trans (fr813 171 (Nat.ne_of_beq_eq_false rfl) (Nat.ne_of_beq_eq_false rfl)))) ab797), (rh_c ((ms_c e821 (Nat.ne_of_beq_eq_false rfl)).trans (ms_c e817 (Nat.ne_of_beq_eq_false rfl))) h810), (fun q => absurd q (by decide)), E, (fun c k_ => ((ms_c e821 (nin_ne (a := 166) k_ rfl)).trans ((ms_c e817 (nin_ne (a := 165) k_ rfl)).trans ((fr813 c (nin_ne (a := 162) k_ rfl) (nin_ne (a := 170) k_ rfl)).trans ((fr791 c (nin_sub (M := [(162, 162), (170, 171)]) k_ rfl)).trans ((fr632 c (nin_sub (M := [(162, 162), (170, 171)]) k_ rfl)).trans ((fr524 c (nin_ne (a := 162) k_ rfl)).trans ((ms_c e514 (nin_ne (a := 162) k_ rfl)).trans ((ms_c e512 (nin_ne (a := 162) k_ rfl)).trans (fr118 c (nin_ne (a := 170) k_ rfl))))))))))), (fun j k8_ k10_ k11_ k12_ k14_ k15_ k16_ k17_ k18_ => ((congrFun (ms_c e821 (Nat.ne_of_beq_eq_false rfl)) j).trans ((congrFun (ms_c e817 (Nat.ne_of_beq_eq_false rfl)) j).trans ((fc814 j k15_ k16_).trans ((fc792 j k8_ k10_ k11_ k12_ k14_ k15_ k16_ k17_ k18_).trans ((fc633 j k8_ k10_ k11_ k12_ k14_ k15_ k16_ k17_ k18_).trans ((fc525 j k8_ k10_ k11_ k12_).trans ((ms_i e514 k15_).trans ((ms_i e512 k8_).trans (congrFun (fr118 162 (Nat.ne_of_beq_eq_false rfl)) j)))))))))), (fun j k0_ => ((congrFun (ms_c e821 (Nat.ne_of_beq_eq_false rfl)) j).trans ((ms_i e817 k0_).trans ((congrFun (fr813 165 (Nat.ne_of_beq_eq_false rfl) (Nat.ne_of_beq_eq_false rfl)) j).trans ((congrFun (fr791 165 rfl) j).trans ((congrFun (fr632 165 rfl) j).trans ((congrFun (fr524 165 (Nat.ne_of_beq_eq_false rfl)) j).trans ((congrFun (ms_c e514 (Nat.ne_of_beq_eq_false rfl)) j).trans ((congrFun (ms_c e512 (Nat.ne_of_beq_eq_false rfl)) j).trans (congrFun (fr118 165 (Nat.ne_of_beq_eq_false rfl)) j)))))))))), (fun j k0_ => ((ms_i e821 k0_).trans ((congrFun (ms_c e817 (Nat.ne_of_beq_eq_false rfl)) j).trans ((congrFun (fr813 166 (Nat.ne_of_beq_eq_false rfl) (Nat.ne_of_beq_eq_false rfl)) j).trans ((congrFun (fr791 166 rfl) j).trans ((congrFun (fr632 166 rfl) j).trans ((congrFun (fr524 166 (Nat.ne_of_beq_eq_false rfl)) j).trans ((congrFun (ms_c e514 (Nat.ne_of_beq_eq_false rfl)) j).trans ((congrFun (ms_c e512 (Nat.ne_of_beq_eq_false rfl)) j).trans (congrFun (fr118 166 (Nat.ne_of_beq_eq_false rfl)) j))))))))))⟩
                      · replace E := xq_ep c822 E
                        refine J_iconst (v := 1) dX11_readText_193 (by decide) ?_
                        refine J_goto (tgt := 198) dX11_readText_194 (by decide) ?_
                        exact J_zret hq dX11_readText_198 rfl rfl wlen (Nat.le_refl _) (Nat.le_refl _) ⟨true, u820, g799, rfl, rfl, (bd_r ((congrFun (ms_c e821 (Nat.ne_of_beq_eq_false rfl)) 8).trans ((congrFun (ms_c e817 (Nat.ne_of_beq_eq_false rfl)) 8).trans (fc814 8 (Nat.ne_of_beq_eq_false rfl) (Nat.ne_of_beq_eq_false rfl)))) bm793), (bd_r ((congrFun (ms_c e821 (Nat.ne_of_beq_eq_false rfl)) 12).trans ((congrFun (ms_c e817 (Nat.ne_of_beq_eq_false rfl)) 12).trans (fc814 12 (Nat.ne_of_beq_eq_false rfl) (Nat.ne_of_beq_eq_false rfl)))) bm794), (bd_r ((congrFun (ms_c e821 (Nat.ne_of_beq_eq_false rfl)) 17).trans ((congrFun (ms_c e817 (Nat.ne_of_beq_eq_false rfl)) 17).trans (fc814 17 (Nat.ne_of_beq_eq_false rfl) (Nat.ne_of_beq_eq_false rfl)))) bm795), (ab_c ((ms_c e821 (Nat.ne_of_beq_eq_false rfl)).trans ((ms_c e817 (Nat.ne_of_beq_eq_false rfl)).trans (fr813 171 (Nat.ne_of_beq_eq_false rfl) (Nat.ne_of_beq_eq_false rfl)))) ab797), (rh_c ((ms_c e821 (Nat.ne_of_beq_eq_false rfl)).trans (ms_c e817 (Nat.ne_of_beq_eq_false rfl))) h810), (fun _ => rcf_t ((ms_c e821 (Nat.ne_of_beq_eq_false rfl)).trans (ms_c e817 (Nat.ne_of_beq_eq_false rfl))) (h811 c822)), E, (fun c k_ => ((ms_c e821 (nin_ne (a := 166) k_ rfl)).trans ((ms_c e817 (nin_ne (a := 165) k_ rfl)).trans ((fr813 c (nin_ne (a := 162) k_ rfl) (nin_ne (a := 170) k_ rfl)).trans ((fr791 c (nin_sub (M := [(162, 162), (170, 171)]) k_ rfl)).trans ((fr632 c (nin_sub (M := [(162, 162), (170, 171)]) k_ rfl)).trans ((fr524 c (nin_ne (a := 162) k_ rfl)).trans ((ms_c e514 (nin_ne (a := 162) k_ rfl)).trans ((ms_c e512 (nin_ne (a := 162) k_ rfl)).trans (fr118 c (nin_ne (a := 170) k_ rfl))))))))))), (fun j k8_ k10_ k11_ k12_ k14_ k15_ k16_ k17_ k18_ => ((congrFun (ms_c e821 (Nat.ne_of_beq_eq_false rfl)) j).trans ((congrFun (ms_c e817 (Nat.ne_of_beq_eq_false rfl)) j).trans ((fc814 j k15_ k16_).trans ((fc792 j k8_ k10_ k11_ k12_ k14_ k15_ k16_ k17_ k18_).trans ((fc633 j k8_ k10_ k11_ k12_ k14_ k15_ k16_ k17_ k18_).trans ((fc525 j k8_ k10_ k11_ k12_).trans ((ms_i e514 k15_).trans ((ms_i e512 k8_).trans (congrFun (fr118 162 (Nat.ne_of_beq_eq_false rfl)) j)))))))))), (fun j k0_ => ((congrFun (ms_c e821 (Nat.ne_of_beq_eq_false rfl)) j).trans ((ms_i e817 k0_).trans ((congrFun (fr813 165 (Nat.ne_of_beq_eq_false rfl) (Nat.ne_of_beq_eq_false rfl)) j).trans ((congrFun (fr791 165 rfl) j).trans ((congrFun (fr632 165 rfl) j).trans ((congrFun (fr524 165 (Nat.ne_of_beq_eq_false rfl)) j).trans ((congrFun (ms_c e514 (Nat.ne_of_beq_eq_false rfl)) j).trans ((congrFun (ms_c e512 (Nat.ne_of_beq_eq_false rfl)) j).trans (congrFun (fr118 165 (Nat.ne_of_beq_eq_false rfl)) j)))))))))), (fun j k0_ => ((ms_i e821 k0_).trans ((congrFun (ms_c e817 (Nat.ne_of_beq_eq_false rfl)) j).trans ((congrFun (fr813 166 (Nat.ne_of_beq_eq_false rfl) (Nat.ne_of_beq_eq_false rfl)) j).trans ((congrFun (fr791 166 rfl) j).trans ((congrFun (fr632 166 rfl) j).trans ((congrFun (fr524 166 (Nat.ne_of_beq_eq_false rfl)) j).trans ((congrFun (ms_c e514 (Nat.ne_of_beq_eq_false rfl)) j).trans ((congrFun (ms_c e512 (Nat.ne_of_beq_eq_false rfl)) j).trans (congrFun (fr118 166 (Nat.ne_of_beq_eq_false rfl)) j))))))))))⟩
                    · replace E := xq_en c819 E
                      refine J_aload_n (i := 0) (j := 0) dX11_readText_175 rfl rfl ?_
                      refine J_get (C := RX11) (T := TX11) (Z := 43) (ci := 11) (f := 16) dX11_readText_176 inG11 rfl (by decide) k1280 wc_162 rfl ?_
                      refine J_ci (v := u809 162 16) (congrFun (ms_c e817 (Nat.ne_of_beq_eq_false rfl)) 16) ?_
                      refine J_goto (tgt := 183) dX11_readText_179 (by decide) ?_
                      obtain ⟨u823, e824⟩ : ∃ z, z = ms u816 166 0 (u809 162 16) := ⟨_, rfl⟩
                      refine J_iast dX11_readText_183 wc_166 (vin (bd_c (v := 0) (lo := 0) (hi := 0) (by decide)) (by decide)) (ws e824 wk_166 rfl) ?_
                      replace E := xq_le e824 E
                      refine J_aload_n (i := 0) (j := 0) dX11_readText_184 rfl rfl ?_
                      refine J_get (C := RX11) (T := TX11) (Z := 43) (ci := 11) (f := 3) dX11_readText_185 inG11 rfl (by decide) k1267 wc_162 rfl ?_
                      refine J_iconst (v := 0) dX11_readText_188 (by decide) ?_
                      refine J_iald dX11_readText_189 wc_165 (vin (bd_c (v := 0) (lo := 0) (hi := 0) (by decide)) (by decide)) ?_
                      refine J_ci (v := u809 162 15) ((congrFun (ms_c e824 (Nat.ne_of_beq_eq_false rfl)) 0).trans (ms_e e817)) ?_
                      refine J_if_ne (tgt := 197) dX11_readText_190 (by decide) (fun c825 => ?_) (fun c825 => ?_)
                      · replace E := xq_en c825 E
                        refine J_iconst (v := 0) dX11_readText_197 (by decide) ?_
                        exact J_zret hq dX11_readText_198 rfl rfl wlen (Nat.le_refl _) (Nat.le_refl _) ⟨false, u823, g799, rfl, rfl, (bd_r ((congrFun (ms_c e824 (Nat.ne_of_beq_eq_false rfl)) 8).trans ((congrFun (ms_c e817 (Nat.ne_of_beq_eq_false rfl)) 8).trans (fc814 8 (Nat.ne_of_beq_eq_false rfl) (Nat.ne_of_beq_eq_false rfl)))) bm793), (bd_r ((congrFun (ms_c e824 (Nat.ne_of_beq_eq_false rfl)) 12).trans ((congrFun (ms_c e817 (Nat.ne_of_beq_eq_false rfl)) 12).trans (fc814 12 (Nat.ne_of_beq_eq_false rfl) (Nat.ne_of_beq_eq_false rfl)))) bm794), (bd_r ((congrFun (ms_c e824 (Nat.ne_of_beq_eq_false rfl)) 17).trans ((congrFun (ms_c e817 (Nat.ne_of_beq_eq_false rfl)) 17).trans (fc814 17 (Nat.ne_of_beq_eq_false rfl) (Nat.ne_of_beq_eq_false rfl)))) bm795), (ab_c ((ms_c e824 (Nat.ne_of_beq_eq_false rfl)).trans ((ms_c e817 (Nat.ne_of_beq_eq_false rfl)).trans (fr813 171 (Nat.ne_of_beq_eq_false rfl) (Nat.ne_of_beq_eq_false rfl)))) ab797), (rh_c ((ms_c e824 (Nat.ne_of_beq_eq_false rfl)).trans (ms_c e817 (Nat.ne_of_beq_eq_false rfl))) h810), (fun q => absurd q (by decide)), E, (fun c k_ => ((ms_c e824 (nin_ne (a := 166) k_ rfl)).trans ((ms_c e817 (nin_ne (a := 165) k_ rfl)).trans ((fr813 c (nin_ne (a := 162) k_ rfl) (nin_ne (a := 170) k_ rfl)).trans ((fr791 c (nin_sub (M := [(162, 162), (170, 171)]) k_ rfl)).trans ((fr632 c (nin_sub (M := [(162, 162), (170, 171)]) k_ rfl)).trans ((fr524 c (nin_ne (a := 162) k_ rfl)).trans ((ms_c e514 (nin_ne (a := 162) k_ rfl)).trans ((ms_c e512 (nin_ne (a := 162) k_ rfl)).trans (fr118 c (nin_ne (a := 170) k_ rfl))))))))))), (fun j k8_ k10_ k11_ k12_ k14_ k15_ k16_ k17_ k18_ => ((congrFun (ms_c e824 (Nat.ne_of_beq_eq_false rfl)) j).trans ((congrFun (ms_c e817 (Nat.ne_of_beq_eq_false rfl)) j).trans ((fc814 j k15_ k16_).trans ((fc792 j k8_ k10_ k11_ k12_ k14_ k15_ k16_ k17_ k18_).trans ((fc633 j k8_ k10_ k11_ k12_ k14_ k15_ k16_ k17_ k18_).trans ((fc525 j k8_ k10_ k11_ k12_).trans ((ms_i e514 k15_).trans ((ms_i e512 k8_).trans (congrFun (fr118 162 (Nat.ne_of_beq_eq_false rfl)) j)))))))))), (fun j k0_ => ((congrFun (ms_c e824 (Nat.ne_of_beq_eq_false rfl)) j).trans ((ms_i e817 k0_).trans ((congrFun (fr813 165 (Nat.ne_of_beq_eq_false rfl) (Nat.ne_of_beq_eq_false rfl)) j).trans ((congrFun (fr791 165 rfl) j).trans ((congrFun (fr632 165 rfl) j).trans ((congrFun (fr524 165 (Nat.ne_of_beq_eq_false rfl)) j).trans ((congrFun (ms_c e514 (Nat.ne_of_beq_eq_false rfl)) j).trans ((congrFun (ms_c e512 (Nat.ne_of_beq_eq_false rfl)) j).trans (congrFun (fr118 165 (Nat.ne_of_beq_eq_false rfl)) j)))))))))), (fun j k0_ => ((ms_i e824 k0_).trans ((congrFun (ms_c e817 (Nat.ne_of_beq_eq_false rfl)) j).trans ((congrFun (fr813 166 (Nat.ne_of_beq_eq_false rfl) (Nat.ne_of_beq_eq_false rfl)) j).trans ((congrFun (fr791 166 rfl) j).trans ((congrFun (fr632 166 rfl) j).trans ((congrFun (fr524 166 (Nat.ne_of_beq_eq_false rfl)) j).trans ((congrFun (ms_c e514 (Nat.ne_of_beq_eq_false rfl)) j).trans ((congrFun (ms_c e512 (Nat.ne_of_beq_eq_false rfl)) j).trans (congrFun (fr118 166 (Nat.ne_of_beq_eq_false rfl)) j))))))))))⟩
                      · exact (bd_neq c825 (bd_lt_lo (bd_any (u809 162 15)) (i_nle c819) (bd_c (v := 0) (lo := 0) (hi := 0) (by decide))) (bd_c (v := 0) (lo := 0) (hi := 0) (by decide)) (by decide)).elim
                  · exact (bd_neq c818 (bd_ne_lo bw789 c801 (by decide)) (bd_c (v := 0) (lo := 0) (hi := 0) (by decide)) (by decide)).elim
            refine J_if_eq (tgt := 122) dX11_readText_56 (by decide) (fun c754 => ?_) (fun c754 => ?_)
            · replace E := xq_ep c754 E
              refine J_lv [0, 1, 2] rfl ?_
              exact jn800 w630 u631 g642 (bd_w (l := 0) (h := 1) (bd_r c754 (bd_c (v := 0) (lo := 0) (hi := 0) (by decide))) (by decide)) (fun c k_ => rfl) (fun j k8_ k10_ k11_ k12_ k14_ k15_ k16_ k17_ k18_ => rfl) bm634 bm637 bm638 ab639 ab640 rf641 E
            · replace E := xq_en c754 E
              refine J_aload_n (i := 0) (j := 0) dX11_readText_59 rfl rfl ?_
              refine J_get (C := RX11) (T := TX11) (Z := 43) (ci := 11) (f := 11) dX11_readText_60 inG11 rfl (by decide) k1275 wc_162 rfl ?_
              refine J_if_eq (tgt := 122) dX11_readText_63 (by decide) (fun c826 => ?_) (fun c826 => ?_)
              · replace E := xq_ep c826 E
                refine J_lv [0, 1, 2] rfl ?_
                exact jn800 w630 u631 g642 (bd_w (l := 0) (h := 1) (bd_ne_lo bw630 c754 (by decide)) (by decide)) (fun c k_ => rfl) (fun j k8_ k10_ k11_ k12_ k14_ k15_ k16_ k17_ k18_ => rfl) bm634 bm637 bm638 ab639 ab640 rf641 E
              · replace E := xq_en c826 E
                refine J_aload_n (i := 0) (j := 0) dX11_readText_66 rfl rfl ?_
                refine J_get (C := RX11) (T := TX11) (Z := 43) (ci := 11) (f := 10) dX11_readText_67 inG11 rfl (by decide) k1274 wc_162 rfl ?_
                refine J_istore_n (i := 3) (lw := [(3, .int (u631 162 10)), (0, .ref 162), (1, .int 0), (2, .int w630)]) dX11_readText_70 rfl (by decide) rfl ?_
                refine J_aload_n (i := 0) (j := 1) dX11_readText_71 rfl rfl ?_
                refine J_iconst (v := 1) dX11_readText_72 (by decide) ?_
                obtain ⟨u827, e828⟩ : ∃ z, z = ms u631 162 18 1 := ⟨_, rfl⟩
                refine J_put (C := RX11) (T := TX11) (Z := 43) (ci := 11) (f := 18) (ty0 := tyX11) dX11_readText_73 inG11 rfl tyX11_ok nmX11 (by decide) k1282 rfl rfl wc_162 (Nat.le_of_ble_eq_true rfl) (fun _ _ => ⟨rfl, rfl⟩) (ws e828 wk_162 rfl) ?_
                replace E := xq_le e828 E
                refine J_iload_n (i := 1) (j := 2) dX11_readText_76 rfl rfl ?_
                refine J_if_ne (tgt := 88) dX11_readText_77 (by decide) (fun q => absurd (by decide) q) (fun _ => ?_)
                refine J_aload_n (i := 0) (j := 1) dX11_readText_80 rfl rfl ?_
                refine J_iload_n (i := 3) (j := 0) dX11_readText_81 rfl rfl ?_
                refine J_callV (As := [.int (u631 162 10)]) (rest := []) dX11_readText_82 (c_M_hillLineX (d := 5) (u := u827) (g := g642) (ex := ex) (at0 := u631 162 10)  (by decide) (bd_r (ms_i e828 (Nat.ne_of_beq_eq_false rfl)) bm634) (bd_r ((ms_i e828 (Nat.ne_of_beq_eq_false rfl)).trans ((fc633 9 (Nat.ne_of_beq_eq_false rfl) (Nat.ne_of_beq_eq_false rfl) (Nat.ne_of_beq_eq_false rfl) (Nat.ne_of_beq_eq_false rfl) (Nat.ne_of_beq_eq_false rfl) (Nat.ne_of_beq_eq_false rfl) (Nat.ne_of_beq_eq_false rfl) (Nat.ne_of_beq_eq_false rfl) (Nat.ne_of_beq_eq_false rfl)).trans ((fc525 9 (Nat.ne_of_beq_eq_false rfl) (Nat.ne_of_beq_eq_false rfl) (Nat.ne_of_beq_eq_false rfl) (Nat.ne_of_beq_eq_false rfl)).trans ((ms_i e514 (Nat.ne_of_beq_eq_false rfl)).trans ((ms_i e512 (Nat.ne_of_beq_eq_false rfl)).trans (congrFun (fr118 162 (Nat.ne_of_beq_eq_false rfl)) 9)))))) hp0) (bd_r (ms_i e828 (Nat.ne_of_beq_eq_false rfl)) bm637) (bd_r (ms_i e828 (Nat.ne_of_beq_eq_false rfl)) bm638) (ab_c (ms_c e828 (Nat.ne_of_beq_eq_false rfl)) ab640) (rh_c (ms_c e828 (Nat.ne_of_beq_eq_false rfl)) rf641)) hq.n k1425 k1427 k40 wc_162 rfl rfl k97 k1428 np_X11_hillLine (Nat.le_trans (by decide) hd) (by decide) (Nat.le_refl _) (Nat.le_refl _) wlen rfl (Nat.le_of_ble_eq_true rfl) (fun r_ h_ p829 => ?_)
                obtain ⟨t830, u831, g832, rfl, rfl, h833, h834, h835, h836, h837, h838, hx839, fr840, fc841⟩ := p829
                replace E := xq_e3 hx839 E
                refine J_goto (tgt := 93) dX11_readText_85 (by decide) ?_
                refine J_istore_n (i := 2) (lw := [(2, .int (bI t830)), (3, .int (u631 162 10)), (0, .ref 162), (1, .int 0)]) dX11_readText_93 rfl (by decide) rfl ?_
                refine J_iload_n (i := 2) (j := 0) dX11_readText_94 rfl rfl ?_
                refine J_ifB_eq (tgt := 111) dX11_readText_95 (by decide) (fun c842 => ?_) (fun c842 => ?_)
                · replace E := xq_ef c842 E
                  refine J_iload_n (i := 2) (j := 0) dX11_readText_111 rfl rfl ?_
                  refine J_ifB_eq (tgt := 119) dX11_readText_112 (by decide) (fun _ => ?_) (fun q => absurd (c842.symm.trans q) (by decide))
                  refine J_goto (tgt := 55) dX11_readText_119 (by decide) ?_
                  refine J_iload_n (i := 2) (j := 0) dX11_readText_55 rfl rfl ?_
                  refine J_ifB_eq (tgt := 122) dX11_readText_56 (by decide) (fun _ => ?_) (fun q => absurd (c842.symm.trans q) (by decide))
                  refine J_lv [2, 3, 0] rfl ?_
                  exact jn800 (bI t830) u831 g832 (bd_bI t830) (fun c k_ => ((fr840 c (nin_sub (M := [(162, 162), (170, 171)]) k_ rfl)).trans (ms_c e828 (nin_ne (a := 162) k_ rfl)))) (fun j k8_ k10_ k11_ k12_ k14_ k15_ k16_ k17_ k18_ => ((fc841 j k8_ k10_ k11_ k12_ k14_ k15_ k16_ k17_ k18_).trans (ms_i e828 k18_))) h833 h834 h835 (h837).1 h836 h837 E
                · replace E := xq_ep c842 E
                  refine J_aload_n (i := 0) (j := 2) dX11_readText_98 rfl rfl ?_
                  refine J_get (C := RX11) (T := TX11) (Z := 43) (ci := 11) (f := 11) dX11_readText_99 inG11 rfl (by decide) k1275 wc_162 rfl ?_
                  refine J_iconst (v := 4) dX11_readText_102 (by decide) ?_
                  refine J_icmp_eq (tgt := 111) dX11_readText_103 (by decide) (fun c843 => ?_) (fun c843 => ?_)
                  · replace E := xq_ep c843 E
                    refine J_iload_n (i := 2) (j := 0) dX11_readText_111 rfl rfl ?_
                    refine J_ifB_eq (tgt := 119) dX11_readText_112 (by decide) (fun q => absurd (c842.symm.trans q) (by decide)) (fun _ => ?_)
                    refine J_aload_n (i := 0) (j := 2) dX11_readText_115 rfl rfl ?_
                    refine J_callV (As := []) (rest := []) dX11_readText_116 (c_M_tokenX (d := 1) (u := u831) (g := g832) (ex := ex)   (by decide) h833 (bd_r ((fc841 9 (Nat.ne_of_beq_eq_false rfl) (Nat.ne_of_beq_eq_false rfl) (Nat.ne_of_beq_eq_false rfl) (Nat.ne_of_beq_eq_false rfl) (Nat.ne_of_beq_eq_false rfl) (Nat.ne_of_beq_eq_false rfl) (Nat.ne_of_beq_eq_false rfl) (Nat.ne_of_beq_eq_false rfl) (Nat.ne_of_beq_eq_false rfl)).trans ((ms_i e828 (Nat.ne_of_beq_eq_false rfl)).trans ((fc633 9 (Nat.ne_of_beq_eq_false rfl) (Nat.ne_of_beq_eq_false rfl) (Nat.ne_of_beq_eq_false rfl) (Nat.ne_of_beq_eq_false rfl) (Nat.ne_of_beq_eq_false rfl) (Nat.ne_of_beq_eq_false rfl) (Nat.ne_of_beq_eq_false rfl) (Nat.ne_of_beq_eq_false rfl) (Nat.ne_of_beq_eq_false rfl)).trans ((fc525 9 (Nat.ne_of_beq_eq_false rfl) (Nat.ne_of_beq_eq_false rfl) (Nat.ne_of_beq_eq_false rfl) (Nat.ne_of_beq_eq_false rfl)).trans ((ms_i e514 (Nat.ne_of_beq_eq_false rfl)).trans ((ms_i e512 (Nat.ne_of_beq_eq_false rfl)).trans (congrFun (fr118 162 (Nat.ne_of_beq_eq_false rfl)) 9))))))) hp0) h834) hq.n k1417 k1419 k38 wc_162 rfl rfl k97 k1420 np_X11_token (Nat.le_trans (by decide) hd) (by decide) (Nat.le_refl _) (Nat.le_refl _) wlen rfl (Nat.le_of_ble_eq_true rfl) (fun r_ h_ p844 => ?_)
                    obtain ⟨u845, g846, rfl, rfl, h847, h848, h849, h850, h851, hx852, fr853, fc854⟩ := p844
                    replace E := xq_e2 hx852 E
                    refine J_goto (tgt := 55) dX11_readText_119 (by decide) ?_
                    refine J_lv [2, 3, 0] rfl ?_
                    exact ih751 (bI t830) u845 g846 (bd_bI t830) (fun c k_ => ((fr853 c (nin_ne (a := 162) k_ rfl)).trans ((fr840 c (nin_sub (M := [(162, 162), (170, 171)]) k_ rfl)).trans ((ms_c e828 (nin_ne (a := 162) k_ rfl)).trans (fr632 c (nin_sub (M := [(162, 162), (170, 171)]) k_ rfl)))))) (fun j k8_ k10_ k11_ k12_ k14_ k15_ k16_ k17_ k18_ => ((fc854 j k8_ k10_ k11_ k12_).trans ((fc841 j k8_ k10_ k11_ k12_ k14_ k15_ k16_ k17_ k18_).trans ((ms_i e828 k18_).trans (fc633 j k8_ k10_ k11_ k12_ k14_ k15_ k16_ k17_ k18_))))) h847 h848 h849 h850 (bd_r (fc854 17 (Nat.ne_of_beq_eq_false rfl) (Nat.ne_of_beq_eq_false rfl) (Nat.ne_of_beq_eq_false rfl) (Nat.ne_of_beq_eq_false rfl)) h835) (ab_c (fr853 170 (Nat.ne_of_beq_eq_false rfl)) (h837).1) (ab_c (fr853 171 (Nat.ne_of_beq_eq_false rfl)) h836) (rh_c (fr853 170 (Nat.ne_of_beq_eq_false rfl)) h837) trivial (mu_gv (gv_r (ms_i e828 (Nat.ne_of_beq_eq_false rfl)).symm rfl rfl (h838 c842)) c843 h851 h847 hm752) E
                  · replace E := xq_en c843 E
                    refine J_aload_n (i := 0) (j := 2) dX11_readText_106 rfl rfl ?_
                    refine J_callV (As := []) (rest := []) dX11_readText_107 (c_M_stopsX (d := 0) (u := u831) (g := g832) (ex := ex)   (by decide) ) hq.n k1444 k1446 k41 wc_162 rfl rfl k97 k1447 np_X11_stops (Nat.le_trans (by decide) hd) (by decide) (Nat.le_refl _) (Nat.le_refl _) wlen rfl (Nat.le_of_ble_eq_true rfl) (fun r_ h_ p855 => ?_)
                    obtain ⟨u856, rfl, rfl, hx857, fr858, fc859⟩ := p855
                    replace E := xq_le hx857 E
                    refine J_istore_n (i := 2) (lw := [(2, .int 0), (3, .int (u631 162 10)), (0, .ref 162), (1, .int 0)]) dX11_readText_110 rfl (by decide) rfl ?_
                    refine J_iload_n (i := 2) (j := 0) dX11_readText_111 rfl rfl ?_
                    refine J_if_eq (tgt := 119) dX11_readText_112 (by decide) (fun _ => ?_) (fun q => absurd (by decide) q)
                    refine J_goto (tgt := 55) dX11_readText_119 (by decide) ?_
                    refine J_iload_n (i := 2) (j := 0) dX11_readText_55 rfl rfl ?_
                    refine J_if_eq (tgt := 122) dX11_readText_56 (by decide) (fun _ => ?_) (fun q => absurd (by decide) q)
                    refine J_lv [2, 3, 0] rfl ?_
                    exact jn800 (0 : Int32) u856 g832 (bd_w (l := 0) (h := 1) (bd_c (v := 0) (lo := 0) (hi := 0) (by decide)) (by decide)) (fun c k_ => ((fr858 c (nin_ne (a := 162) k_ rfl)).trans ((fr840 c (nin_sub (M := [(162, 162), (170, 171)]) k_ rfl)).trans (ms_c e828 (nin_ne (a := 162) k_ rfl))))) (fun j k8_ k10_ k11_ k12_ k14_ k15_ k16_ k17_ k18_ => ((fc859 j k14_).trans ((fc841 j k8_ k10_ k11_ k12_ k14_ k15_ k16_ k17_ k18_).trans (ms_i e828 k18_)))) (bd_r (fc859 8 (Nat.ne_of_beq_eq_false rfl)) h833) (bd_r (fc859 12 (Nat.ne_of_beq_eq_false rfl)) h834) (bd_r (fc859 17 (Nat.ne_of_beq_eq_false rfl)) h835) (ab_c (fr858 170 (Nat.ne_of_beq_eq_false rfl)) (h837).1) (ab_c (fr858 171 (Nat.ne_of_beq_eq_false rfl)) h836) (rh_c (fr858 170 (Nat.ne_of_beq_eq_false rfl)) h837) E
        refine J_lv [1, 2, 0] rfl ?_
        exact lp749 ((600 - (u516 162 8).toInt).toNat + 1) (1 : Int32) u516 g517 (bd_w (l := 0) (h := 1) (bd_c (v := 1) (lo := 1) (hi := 1) (by decide)) (by decide)) (fun c k_ => rfl) (fun j k8_ k10_ k11_ k12_ k14_ k15_ k16_ k17_ k18_ => rfl) h518 h519 h520 h521 (bd_r ((fc525 17 (Nat.ne_of_beq_eq_false rfl) (Nat.ne_of_beq_eq_false rfl) (Nat.ne_of_beq_eq_false rfl) (Nat.ne_of_beq_eq_false rfl)).trans ((ms_i e514 (Nat.ne_of_beq_eq_false rfl)).trans ((ms_i e512 (Nat.ne_of_beq_eq_false rfl)).trans (congrFun (fr118 162 (Nat.ne_of_beq_eq_false rfl)) 17)))) hp2) (ab_c ((fr524 170 (Nat.ne_of_beq_eq_false rfl)).trans ((ms_c e514 (Nat.ne_of_beq_eq_false rfl)).trans (ms_c e512 (Nat.ne_of_beq_eq_false rfl)))) ab119) (ab_c ((fr524 171 (Nat.ne_of_beq_eq_false rfl)).trans ((ms_c e514 (Nat.ne_of_beq_eq_false rfl)).trans ((ms_c e512 (Nat.ne_of_beq_eq_false rfl)).trans (fr118 171 (Nat.ne_of_beq_eq_false rfl))))) hp3) (rh_c ((fr524 170 (Nat.ne_of_beq_eq_false rfl)).trans ((ms_c e514 (Nat.ne_of_beq_eq_false rfl)).trans (ms_c e512 (Nat.ne_of_beq_eq_false rfl)))) (rz_h hz510)) trivial (Nat.lt_succ_self _) E
      · replace E := xq_en c498 E
        refine J_aload_n (i := 0) (j := 0) dX11_readText_9 rfl rfl ?_
        refine J_get (C := RX11) (T := TX11) (Z := 43) (ci := 11) (f := 19) dX11_readText_10 inG11 rfl (by decide) k1283 wc_162 rfl ?_
        refine J_iload_n (i := 2) (j := 2) dX11_readText_13 rfl rfl ?_
        refine J_iload_n (i := 1) (j := 1) dX11_readText_14 rfl rfl ?_
        refine J_if_ne (tgt := 31) dX11_readText_15 (by decide) (fun q => absurd (by decide) q) (fun _ => ?_)
        refine J_iload_n (i := 2) (j := 2) dX11_readText_18 rfl rfl ?_
        refine J_iconst (v := 2) dX11_readText_19 (by decide) ?_
        refine J_iconst (v := 4) dX11_readText_20 (by decide) ?_
        refine J_callS (As := [.int w116, .int 2, .int 4]) (rest := [.int w116, .ref 170]) dX11_readText_21 (c_M_inEX (d := 0) (u := u117) (g := g) (ex := ex) (v := w116) (low := 2) (high := 4)  (by decide) ) hq.n k1406 k1407 k97 k1408 np_X11_in (Nat.le_trans (by decide) hd) (by decide) (Nat.le_refl _) (Nat.le_refl _) wlen rfl (Nat.le_of_ble_eq_true rfl) (fun r_ h_ p860 => ?_)
        obtain ⟨t861, rfl, rfl, h862, h863, h864, hx865⟩ := p860
        replace E := xq_le hx865 E
        have jn868 : ∀ (w867 : Int32), Bd 0 1 w867 → Fx_M_readText0X_J32 (Fx_M_readText0X_L2 g n494) w116 u117 w867 = Fx_M_readText0X u g → J x yX11_readText cX11_readText 4 (some .boolean) d 0 0 (Wd u g ex).length 32 [(0, .ref 162), (1, .int 0), (2, .int w116)] [.int w867, .int w116, .ref 170] (Wd u117 g ex) 0 0 := by
          intro w867 bw867 E
          obtain ⟨u869, e870⟩ : ∃ z, z = ms u117 170 w116.toNatClampNeg w867 := ⟨_, rfl⟩
          refine J_iast dX11_readText_32 wc_170 (vin (bd_lt_hi bw116 (i_nle c498) (bd_c (v := 157) (lo := 157) (hi := 157) (by decide))) (by decide)) (ws e870 wk_170 rfl) ?_
          replace E := xq_le e870 E
          refine J_iinc (i := 2) (j := 2) (v := (w116 + 1)) (lw := [(2, .int (w116 + 1)), (0, .ref 162), (1, .int 0)]) dX11_readText_33 rfl rfl (by decide) rfl ?_
          refine J_goto (tgt := 2) dX11_readText_36 (by decide) ?_
          refine J_lv [1, 2, 0] rfl ?_
          exact ih495 (w116 + 1) u869 (bd_w (l := 0) (h := 157) (bd_add (l := 1) (h := 157) (bd_lt_hi bw116 (i_nle c498) (bd_c (v := 157) (lo := 157) (hi := 157) (by decide))) (bd_c (v := 1) (lo := 1) (hi := 1) (by decide)) (by decide)) (by decide)) (fun c k0_ => ((ms_c e870 k0_).trans (fr118 c k0_))) (ab_s e870 ab119 (bd_w (l := (-1)) (h := 999) bw867 (by decide))) (zi_s e870 (bd_lt_hi bw116 (i_nle c498) (bd_c (v := 157) (lo := 157) (hi := 157) (by decide))) bw867 hI497) (mu_up 1 bw116 rfl (by decide) (bd_w (l := 1) (h := 157) (bd_add (l := 1) (h := 157) (bd_lt_hi bw116 (i_nle c498) (bd_c (v := 157) (lo := 157) (hi := 157) (by decide))) (bd_c (v := 1) (lo := 1) (hi := 1) (by decide)) (by decide)) (by decide)) hm496) E
        refine J_ifB_eq (tgt := 31) dX11_readText_24 (by decide) (fun c866 => ?_) (fun c866 => ?_)
        · replace E := xq_ef c866 E
          refine J_iconst (v := 0) dX11_readText_31 (by decide) ?_
          refine J_lv [0, 1, 2] rfl ?_
          exact jn868 (0 : Int32) (bd_w (l := 0) (h := 1) (bd_c (v := 0) (lo := 0) (hi := 0) (by decide)) (by decide)) E
        · replace E := xq_ep c866 E
          refine J_iconst (v := 1) dX11_readText_27 (by decide) ?_
          refine J_goto (tgt := 32) dX11_readText_28 (by decide) ?_
          refine J_lv [0, 1, 2] rfl ?_
          exact jn868 (1 : Int32) (bd_w (l := 0) (h := 1) (bd_c (v := 1) (lo := 1) (hi := 1) (by decide)) (by decide)) E
  refine J_lv [1, 2, 0] rfl ?_
  exact lp493 ((157 - (0 : Int32).toInt).toNat + 1) (0 : Int32) u (bd_w (l := 0) (h := 157) (bd_c (v := 0) (lo := 0) (hi := 0) (by decide)) (by decide)) (fun c k0_ => rfl) hp4 zi_0 (Nat.lt_succ_self _) E
set_option maxRecDepth 100000 in
noncomputable def Fx_M_readText1X_J122 (w650 : Int32) (u651 : Nat → Nat → Int32) (g660 : Nat → Nat → Int64) : Bool × (Nat → Nat → Int32) × (Nat → Nat → Int64) := if w650 = (0 : Int32) then (if w650 = (0 : Int32) then (xq_lt (ms u651 165 0 1) fun u664 => if w650 = (0 : Int32) then (xq_lt (ms u664 166 0 (u651 162 14)) fun u667 => (false, u667, g660)) else (default)) else (default)) else (if w650 = (0 : Int32) then (default) else (xq_lt (ms u651 165 0 (u651 162 15)) fun u670 => if w650 = (0 : Int32) then (default) else (if (u651 162 15) ≤ (0 : Int32) then (xq_lt (ms u670 166 0 (-1)) fun u674 => if (u651 162 15) = (0 : Int32) then ((true, u674, g660)) else ((false, u674, g660))) else (xq_lt (ms u670 166 0 (u651 162 16)) fun u677 => if (u651 162 15) = (0 : Int32) then (default) else ((false, u677, g660))))))
set_option maxRecDepth 100000 in
noncomputable def Fx_M_readText1X_L55  (n_ : Nat) : (Int32) → (Nat → Nat → Int32) → (Nat → Nat → Int64) → Bool × (Nat → Nat → Int32) × (Nat → Nat → Int64) := Nat.rec (motive := fun _ => (Int32) → (Nat → Nat → Int32) → (Nat → Nat → Int64) → Bool × (Nat → Nat → Int32) × (Nat → Nat → Int64)) (fun _ _ _ => default) (fun n_ ih_ w498 u499 g510 => if w498 = (0 : Int32) then (Fx_M_readText1X_J122 w498 u499 g510) else (if (u499 162 11) = (0 : Int32) then (Fx_M_readText1X_J122 w498 u499 g510) else (xq_lt (ms u499 162 18 1) fun u681 => xq_c3 (Fx_M_workLineX (u499 162 10) u681 g510) fun t684 u685 g686 => if t684 = true then (if (u685 162 11) = (4 : Int32) then (xq_c2 (Fx_M_tokenX u685 g686) fun u699 g700 => ih_ (bI t684) u699 g700) else (xq_lt (Fx_M_stopsX u685 g686) fun u710 => Fx_M_readText1X_J122 (0 : Int32) u710 g686)) else (Fx_M_readText1X_J122 (bI t684) u685 g686)))) n_
set_option maxRecDepth 100000 in
theorem Fx_M_readText1X_L55_s {w498 : Int32} {u499 : Nat → Nat → Int32} {g510 : Nat → Nat → Int64} {n_ : Nat} : Fx_M_readText1X_L55 (n_ + 1) w498 u499 g510 = if w498 = (0 : Int32) then (Fx_M_readText1X_J122 w498 u499 g510) else (if (u499 162 11) = (0 : Int32) then (Fx_M_readText1X_J122 w498 u499 g510) else (xq_lt (ms u499 162 18 1) fun u681 => xq_c3 (Fx_M_workLineX (u499 162 10) u681 g510) fun t684 u685 g686 => if t684 = true then (if (u685 162 11) = (4 : Int32) then (xq_c2 (Fx_M_tokenX u685 g686) fun u699 g700 => (Fx_M_readText1X_L55 n_) (bI t684) u699 g700) else (xq_lt (Fx_M_stopsX u685 g686) fun u710 => Fx_M_readText1X_J122 (0 : Int32) u710 g686)) else (Fx_M_readText1X_J122 (bI t684) u685 g686))) := rfl
set_option maxRecDepth 100000 in
noncomputable def Fx_M_readText1X_L2 (g : Nat → Nat → Int64) (n_ : Nat) : (Int32) → (Nat → Nat → Int32) → Bool × (Nat → Nat → Int32) × (Nat → Nat → Int64) := Nat.rec (motive := fun _ => (Int32) → (Nat → Nat → Int32) → Bool × (Nat → Nat → Int32) × (Nat → Nat → Int64)) (fun _ _ => default) (fun n_ ih_ w39 u40 => if (157 : Int32) ≤ w39 then (xq_lt (ms u40 162 8 0) fun u386 => xq_lt (ms u386 162 15 0) fun u388 => xq_c2 (Fx_M_tokenX u388 g) fun u391 g392 => Fx_M_readText1X_L55 ((600 - (u391 162 8).toInt).toNat + 1) (1 : Int32) u391 g392) else (xq_lt (ms u40 170 w39.toNatClampNeg 0) fun u714 => ih_ (w39 + 1) u714)) n_
set_option maxRecDepth 100000 in
theorem Fx_M_readText1X_L2_s {g : Nat → Nat → Int64} {w39 : Int32} {u40 : Nat → Nat → Int32} {n_ : Nat} : Fx_M_readText1X_L2 g (n_ + 1) w39 u40 = if (157 : Int32) ≤ w39 then (xq_lt (ms u40 162 8 0) fun u386 => xq_lt (ms u386 162 15 0) fun u388 => xq_c2 (Fx_M_tokenX u388 g) fun u391 g392 => Fx_M_readText1X_L55 ((600 - (u391 162 8).toInt).toNat + 1) (1 : Int32) u391 g392) else (xq_lt (ms u40 170 w39.toNatClampNeg 0) fun u714 => (Fx_M_readText1X_L2 g n_) (w39 + 1) u714) := rfl
set_option maxRecDepth 100000 in
noncomputable def Fx_M_readText1X (u : Nat → Nat → Int32) (g : Nat → Nat → Int64) : Bool × (Nat → Nat → Int32) × (Nat → Nat → Int64) := Fx_M_readText1X_L2 g ((157 - (0 : Int32).toInt).toNat + 1) (0 : Int32) u
set_option maxHeartbeats 4000000 in
set_option maxRecDepth 100000 in
theorem c_M_readText1X {d : Nat} {u : Nat → Nat → Int32} {g : Nat → Nat → Int64} {ex : List MC}  (hd : 5 ≤ d) (hp0 : Bd 0 600 (u 162 9)) (hp1 : Bd 0 999 (u 162 12)) (hp2 : Bd 0 999 (u 162 17)) (hp3 : AB u 171 (-1) 999) (hp4 : AB u 170 (-1) 999) : CT con0 d 0 0 yX11_readText cX11_readText 4 (some .boolean) [.ref 162, .int 1] (Wd u g ex) (fun r h2 => ∃ (z : Bool) (u2 : Nat → Nat → Int32) (g2 : Nat → Nat → Int64), r = some (.int (bI z)) ∧ h2 = Wd u2 g2 ex ∧ Bd 0 600 (u2 162 8) ∧ Bd 0 999 (u2 162 12) ∧ Bd 0 999 (u2 162 17) ∧ AB u2 171 (-1) 999 ∧ (RP u2) ∧ (z, u2, g2) = Fx_M_readText1X u g ∧ (∀ c, nin c [(162, 162), (165, 166), (170, 171)] = true → u2 c = u c) ∧ (∀ j, j ≠ 8 → j ≠ 10 → j ≠ 11 → j ≠ 12 → j ≠ 14 → j ≠ 15 → j ≠ 16 → j ≠ 17 → j ≠ 18 → u2 162 j = u 162 j) ∧ (∀ j, j ≠ 0 → u2 165 j = u 165 j) ∧ (∀ j, j ≠ 0 → u2 166 j = u 166 j)) := by
  refine CT_of (by decide) (Nat.le_of_ble_eq_true rfl) (fun x hq => ?_)
  show J x yX11_readText cX11_readText 4 (some .boolean) d 0 0 (Wd u g ex).length 0 [(0, .ref 162), (1, .int 1)] [] (Wd u g ex) 0 0
  have E : Fx_M_readText1X u g = Fx_M_readText1X u g := rfl
  refine J_iconst (v := 0) dX11_readText_0 (by decide) ?_
  refine J_istore_n (i := 2) (lw := [(2, .int 0), (0, .ref 162), (1, .int 1)]) dX11_readText_1 rfl (by decide) rfl ?_
  have lp377 : ∀ (n378 : Nat) (w39 : Int32) (u40 : Nat → Nat → Int32), Bd 0 157 w39 → (∀ c, c ≠ 170 → u40 c = u c) → AB u40 170 (-1) 999 → ZI u40 w39 → (157 - w39.toInt).toNat < n378 → Fx_M_readText1X_L2 g n378 w39 u40 = Fx_M_readText1X u g → J x yX11_readText cX11_readText 4 (some .boolean) d 0 0 (Wd u g ex).length 2 [(0, .ref 162), (1, .int 1), (2, .int w39)] [] (Wd u40 g ex) 0 0 := by
    intro n378
    induction n378 with
    | zero => intro w39 u40 bw39 fr41 ab42 hI381 hm380 _; exact absurd hm380 (Nat.not_lt_zero _)
    | succ n378 ih379 =>
      intro w39 u40 bw39 fr41 ab42 hI381 hm380 E
      replace E := Fx_M_readText1X_L2_s.symm.trans E
      refine J_iload_n (i := 2) (j := 2) dX11_readText_2 rfl rfl ?_
      refine J_sipush (v := 157) dX11_readText_3 (by decide) ?_
      refine J_icmp_ge (tgt := 39) dX11_readText_6 (by decide) (fun c382 => ?_) (fun c382 => ?_)
      · replace E := xq_ep c382 E
        have hz385 := zi_e hI381 (bd_le_lo bw39 c382 (bd_c (v := 157) (lo := 157) (hi := 157) (by decide))) ab42
        refine J_aload_n (i := 0) (j := 0) dX11_readText_39 rfl rfl ?_
        refine J_iconst (v := 0) dX11_readText_40 (by decide) ?_
        obtain ⟨u386, e387⟩ : ∃ z, z = ms u40 162 8 0 := ⟨_, rfl⟩
        refine J_put (C := RX11) (T := TX11) (Z := 43) (ci := 11) (f := 8) (ty0 := tyX11) dX11_readText_41 inG11 rfl tyX11_ok nmX11 (by decide) k1272 rfl rfl wc_162 (Nat.le_of_ble_eq_true rfl) (fun _ _ => ⟨rfl, rfl⟩) (ws e387 wk_162 rfl) ?_
        replace E := xq_le e387 E
        refine J_aload_n (i := 0) (j := 0) dX11_readText_44 rfl rfl ?_
        refine J_iconst (v := 0) dX11_readText_45 (by decide) ?_
        obtain ⟨u388, e389⟩ : ∃ z, z = ms u386 162 15 0 := ⟨_, rfl⟩
        refine J_put (C := RX11) (T := TX11) (Z := 43) (ci := 11) (f := 15) (ty0 := tyX11) dX11_readText_46 inG11 rfl tyX11_ok nmX11 (by decide) k1279 rfl rfl wc_162 (Nat.le_of_ble_eq_true rfl) (fun _ _ => ⟨rfl, rfl⟩) (ws e389 wk_162 rfl) ?_
        replace E := xq_le e389 E
        refine J_iconst (v := 1) dX11_readText_49 (by decide) ?_
        refine J_istore_n (i := 2) (lw := [(2, .int 1), (0, .ref 162), (1, .int 1)]) dX11_readText_50 rfl (by decide) rfl ?_
        refine J_aload_n (i := 0) (j := 1) dX11_readText_51 rfl rfl ?_
        refine J_callV (As := []) (rest := []) dX11_readText_52 (c_M_tokenX (d := 1) (u := u388) (g := g) (ex := ex)   (by decide) (bd_r ((ms_i e389 (Nat.ne_of_beq_eq_false rfl)).trans (ms_e e387)) (bd_w (l := 0) (h := 600) (bd_c (v := 0) (lo := 0) (hi := 0) (by decide)) (by decide))) (bd_r ((ms_i e389 (Nat.ne_of_beq_eq_false rfl)).trans ((ms_i e387 (Nat.ne_of_beq_eq_false rfl)).trans (congrFun (fr41 162 (Nat.ne_of_beq_eq_false rfl)) 9))) hp0) (bd_r ((ms_i e389 (Nat.ne_of_beq_eq_false rfl)).trans ((ms_i e387 (Nat.ne_of_beq_eq_false rfl)).trans (congrFun (fr41 162 (Nat.ne_of_beq_eq_false rfl)) 12))) hp1)) hq.n k1417 k1419 k38 wc_162 rfl rfl k97 k1420 np_X11_token (Nat.le_trans (by decide) hd) (by decide) (Nat.le_refl _) (Nat.le_refl _) wlen rfl (Nat.le_of_ble_eq_true rfl) (fun r_ h_ p390 => ?_)
        obtain ⟨u391, g392, rfl, rfl, h393, h394, h395, h396, h397, hx398, fr399, fc400⟩ := p390
        replace E := xq_e2 hx398 E
        have lp610 : ∀ (n611 : Nat) (w498 : Int32) (u499 : Nat → Nat → Int32) (g510 : Nat → Nat → Int64), Bd 0 1 w498 → (∀ c, nin c [(162, 162), (170, 171)] = true → u499 c = u391 c) → (∀ j, j ≠ 8 → j ≠ 10 → j ≠ 11 → j ≠ 12 → j ≠ 14 → j ≠ 15 → j ≠ 16 → j ≠ 17 → j ≠ 18 → u499 162 j = u391 162 j) → Bd 0 600 (u499 162 8) → Bd 0 600 (u499 162 10) → Bd 0 4 (u499 162 11) → Bd 0 999 (u499 162 12) → Bd 0 999 (u499 162 17) → AB u499 170 (-1) 999 → AB u499 171 (-1) 999 → RP u499 → True → (600 - (u499 162 8).toInt).toNat < n611 → Fx_M_readText1X_L55 n611 w498 u499 g510 = Fx_M_readText1X u g → J x yX11_readText cX11_readText 4 (some .boolean) d 0 0 (Wd u g ex).length 55 [(0, .ref 162), (1, .int 1), (2, .int w498)] [] (Wd u499 g510 ex) 0 0 := by
          intro n611
          induction n611 with
          | zero => intro w498 u499 g510 bw498 fr500 fc501 bm502 bm503 bm504 bm505 bm506 ab507 ab508 rf509 hI614 hm613 _; exact absurd hm613 (Nat.not_lt_zero _)
          | succ n611 ih612 =>
            intro w498 u499 g510 bw498 fr500 fc501 bm502 bm503 bm504 bm505 bm506 ab507 ab508 rf509 hI614 hm613 E
            replace E := Fx_M_readText1X_L55_s.symm.trans E
            refine J_iload_n (i := 2) (j := 2) dX11_readText_55 rfl rfl ?_
            have jn661 : ∀ (w650 : Int32) (u651 : Nat → Nat → Int32) (g660 : Nat → Nat → Int64), Bd 0 1 w650 → (∀ c, nin c [(162, 162), (170, 171)] = true → u651 c = u499 c) → (∀ j, j ≠ 8 → j ≠ 10 → j ≠ 11 → j ≠ 12 → j ≠ 14 → j ≠ 15 → j ≠ 16 → j ≠ 17 → j ≠ 18 → u651 162 j = u499 162 j) → Bd 0 600 (u651 162 8) → Bd 0 999 (u651 162 12) → Bd 0 999 (u651 162 17) → AB u651 170 (-1) 999 → AB u651 171 (-1) 999 → RP u651 → Fx_M_readText1X_J122 w650 u651 g660 = Fx_M_readText1X u g → J x yX11_readText cX11_readText 4 (some .boolean) d 0 0 (Wd u g ex).length 122 [(0, .ref 162), (1, .int 1), (2, .int w650)] [] (Wd u651 g660 ex) 0 0 := by
              intro w650 u651 g660 bw650 fr652 fc653 bm654 bm655 bm656 ab657 ab658 rf659 E
              refine J_iload_n (i := 2) (j := 2) dX11_readText_122 rfl rfl ?_
              refine J_if_eq (tgt := 134) dX11_readText_123 (by decide) (fun c662 => ?_) (fun c662 => ?_)
              · replace E := xq_ep c662 E
                refine J_aload_n (i := 0) (j := 0) dX11_readText_134 rfl rfl ?_
                refine J_get (C := RX11) (T := TX11) (Z := 43) (ci := 11) (f := 3) dX11_readText_135 inG11 rfl (by decide) k1267 wc_162 rfl ?_
                refine J_iconst (v := 0) dX11_readText_138 (by decide) ?_
                refine J_iload_n (i := 2) (j := 2) dX11_readText_139 rfl rfl ?_
                refine J_if_eq (tgt := 150) dX11_readText_140 (by decide) (fun c663 => ?_) (fun c663 => ?_)
                · replace E := xq_ep c663 E
                  refine J_iconst (v := 1) dX11_readText_150 (by decide) ?_
                  obtain ⟨u664, e665⟩ : ∃ z, z = ms u651 165 0 1 := ⟨_, rfl⟩
                  refine J_iast dX11_readText_151 wc_165 (vin (bd_c (v := 0) (lo := 0) (hi := 0) (by decide)) (by decide)) (ws e665 wk_165 rfl) ?_
                  replace E := xq_le e665 E
                  refine J_aload_n (i := 0) (j := 0) dX11_readText_152 rfl rfl ?_
                  refine J_get (C := RX11) (T := TX11) (Z := 43) (ci := 11) (f := 4) dX11_readText_153 inG11 rfl (by decide) k1268 wc_162 rfl ?_
                  refine J_iconst (v := 0) dX11_readText_156 (by decide) ?_
                  refine J_iload_n (i := 2) (j := 2) dX11_readText_157 rfl rfl ?_
                  refine J_if_ne (tgt := 168) dX11_readText_158 (by decide) (fun c666 => ?_) (fun c666 => ?_)
                  · exact (bd_no (bd_ne_lo (bd_r c662 (bd_c (v := 0) (lo := 0) (hi := 0) (by decide))) c666 (by decide)) (by decide)).elim
                  · replace E := xq_ep c666 E
                    refine J_aload_n (i := 0) (j := 0) dX11_readText_161 rfl rfl ?_
                    refine J_get (C := RX11) (T := TX11) (Z := 43) (ci := 11) (f := 14) dX11_readText_162 inG11 rfl (by decide) k1278 wc_162 rfl ?_
                    refine J_ci (v := u651 162 14) (congrFun (ms_c e665 (Nat.ne_of_beq_eq_false rfl)) 14) ?_
                    refine J_goto (tgt := 183) dX11_readText_165 (by decide) ?_
                    obtain ⟨u667, e668⟩ : ∃ z, z = ms u664 166 0 (u651 162 14) := ⟨_, rfl⟩
                    refine J_iast dX11_readText_183 wc_166 (vin (bd_c (v := 0) (lo := 0) (hi := 0) (by decide)) (by decide)) (ws e668 wk_166 rfl) ?_
                    replace E := xq_le e668 E
                    refine J_aload_n (i := 0) (j := 0) dX11_readText_184 rfl rfl ?_
                    refine J_get (C := RX11) (T := TX11) (Z := 43) (ci := 11) (f := 3) dX11_readText_185 inG11 rfl (by decide) k1267 wc_162 rfl ?_
                    refine J_iconst (v := 0) dX11_readText_188 (by decide) ?_
                    refine J_iald dX11_readText_189 wc_165 (vin (bd_c (v := 0) (lo := 0) (hi := 0) (by decide)) (by decide)) ?_
                    refine J_ci (v := 1) ((congrFun (ms_c e668 (Nat.ne_of_beq_eq_false rfl)) 0).trans (ms_e e665)) ?_
                    refine J_if_ne (tgt := 197) dX11_readText_190 (by decide) (fun _ => ?_) (fun q => absurd q (by decide))
                    refine J_iconst (v := 0) dX11_readText_197 (by decide) ?_
                    exact J_zret hq dX11_readText_198 rfl rfl wlen (Nat.le_refl _) (Nat.le_refl _) ⟨false, u667, g660, rfl, rfl, (bd_r ((congrFun (ms_c e668 (Nat.ne_of_beq_eq_false rfl)) 8).trans (congrFun (ms_c e665 (Nat.ne_of_beq_eq_false rfl)) 8)) bm654), (bd_r ((congrFun (ms_c e668 (Nat.ne_of_beq_eq_false rfl)) 12).trans (congrFun (ms_c e665 (Nat.ne_of_beq_eq_false rfl)) 12)) bm655), (bd_r ((congrFun (ms_c e668 (Nat.ne_of_beq_eq_false rfl)) 17).trans (congrFun (ms_c e665 (Nat.ne_of_beq_eq_false rfl)) 17)) bm656), (ab_c ((ms_c e668 (Nat.ne_of_beq_eq_false rfl)).trans (ms_c e665 (Nat.ne_of_beq_eq_false rfl))) ab658), (rp_c ((ms_c e668 (Nat.ne_of_beq_eq_false rfl)).trans (ms_c e665 (Nat.ne_of_beq_eq_false rfl))) rf659), E, (fun c k_ => ((ms_c e668 (nin_ne (a := 166) k_ rfl)).trans ((ms_c e665 (nin_ne (a := 165) k_ rfl)).trans ((fr652 c (nin_sub (M := [(162, 162), (170, 171)]) k_ rfl)).trans ((fr500 c (nin_sub (M := [(162, 162), (170, 171)]) k_ rfl)).trans ((fr399 c (nin_ne (a := 162) k_ rfl)).trans ((ms_c e389 (nin_ne (a := 162) k_ rfl)).trans ((ms_c e387 (nin_ne (a := 162) k_ rfl)).trans (fr41 c (nin_ne (a := 170) k_ rfl)))))))))), (fun j k8_ k10_ k11_ k12_ k14_ k15_ k16_ k17_ k18_ => ((congrFun (ms_c e668 (Nat.ne_of_beq_eq_false rfl)) j).trans ((congrFun (ms_c e665 (Nat.ne_of_beq_eq_false rfl)) j).trans ((fc653 j k8_ k10_ k11_ k12_ k14_ k15_ k16_ k17_ k18_).trans ((fc501 j k8_ k10_ k11_ k12_ k14_ k15_ k16_ k17_ k18_).trans ((fc400 j k8_ k10_ k11_ k12_).trans ((ms_i e389 k15_).trans ((ms_i e387 k8_).trans (congrFun (fr41 162 (Nat.ne_of_beq_eq_false rfl)) j))))))))), (fun j k0_ => ((congrFun (ms_c e668 (Nat.ne_of_beq_eq_false rfl)) j).trans ((ms_i e665 k0_).trans ((congrFun (fr652 165 rfl) j).trans ((congrFun (fr500 165 rfl) j).trans ((congrFun (fr399 165 (Nat.ne_of_beq_eq_false rfl)) j).trans ((congrFun (ms_c e389 (Nat.ne_of_beq_eq_false rfl)) j).trans ((congrFun (ms_c e387 (Nat.ne_of_beq_eq_false rfl)) j).trans (congrFun (fr41 165 (Nat.ne_of_beq_eq_false rfl)) j))))))))), (fun j k0_ => ((ms_i e668 k0_).trans ((congrFun (ms_c e665 (Nat.ne_of_beq_eq_false rfl)) j).trans ((congrFun (fr652 166 rfl) j).trans ((congrFun (fr500 166 rfl) j).trans ((congrFun (fr399 166 (Nat.ne_of_beq_eq_false rfl)) j).trans ((congrFun (ms_c e389 (Nat.ne_of_beq_eq_false rfl)) j).trans ((congrFun (ms_c e387 (Nat.ne_of_beq_eq_false rfl)) j).trans (congrFun (fr41 166 (Nat.ne_of_beq_eq_false rfl)) j)))))))))⟩
                · exact (bd_no (bd_ne_lo (bd_r c662 (bd_c (v := 0) (lo := 0) (hi := 0) (by decide))) c663 (by decide)) (by decide)).elim
              · replace E := xq_en c662 E
                refine J_iload_n (i := 1) (j := 1) dX11_readText_126 rfl rfl ?_
                refine J_if_ne (tgt := 134) dX11_readText_127 (by decide) (fun _ => ?_) (fun q => absurd q (by decide))
                refine J_aload_n (i := 0) (j := 0) dX11_readText_134 rfl rfl ?_
                refine J_get (C := RX11) (T := TX11) (Z := 43) (ci := 11) (f := 3) dX11_readText_135 inG11 rfl (by decide) k1267 wc_162 rfl ?_
                refine J_iconst (v := 0) dX11_readText_138 (by decide) ?_
                refine J_iload_n (i := 2) (j := 2) dX11_readText_139 rfl rfl ?_
                refine J_if_eq (tgt := 150) dX11_readText_140 (by decide) (fun c669 => ?_) (fun c669 => ?_)
                · exact (bd_neq c669 (bd_ne_lo bw650 c662 (by decide)) (bd_c (v := 0) (lo := 0) (hi := 0) (by decide)) (by decide)).elim
                · replace E := xq_en c669 E
                  refine J_aload_n (i := 0) (j := 0) dX11_readText_143 rfl rfl ?_
                  refine J_get (C := RX11) (T := TX11) (Z := 43) (ci := 11) (f := 15) dX11_readText_144 inG11 rfl (by decide) k1279 wc_162 rfl ?_
                  refine J_goto (tgt := 151) dX11_readText_147 (by decide) ?_
                  obtain ⟨u670, e671⟩ : ∃ z, z = ms u651 165 0 (u651 162 15) := ⟨_, rfl⟩
                  refine J_iast dX11_readText_151 wc_165 (vin (bd_c (v := 0) (lo := 0) (hi := 0) (by decide)) (by decide)) (ws e671 wk_165 rfl) ?_
                  replace E := xq_le e671 E
                  refine J_aload_n (i := 0) (j := 0) dX11_readText_152 rfl rfl ?_
                  refine J_get (C := RX11) (T := TX11) (Z := 43) (ci := 11) (f := 4) dX11_readText_153 inG11 rfl (by decide) k1268 wc_162 rfl ?_
                  refine J_iconst (v := 0) dX11_readText_156 (by decide) ?_
                  refine J_iload_n (i := 2) (j := 2) dX11_readText_157 rfl rfl ?_
                  refine J_if_ne (tgt := 168) dX11_readText_158 (by decide) (fun c672 => ?_) (fun c672 => ?_)
                  · replace E := xq_en c672 E
                    refine J_aload_n (i := 0) (j := 0) dX11_readText_168 rfl rfl ?_
                    refine J_get (C := RX11) (T := TX11) (Z := 43) (ci := 11) (f := 15) dX11_readText_169 inG11 rfl (by decide) k1279 wc_162 rfl ?_
                    refine J_ci (v := u651 162 15) (congrFun (ms_c e671 (Nat.ne_of_beq_eq_false rfl)) 15) ?_
                    refine J_if_le (tgt := 182) dX11_readText_172 (by decide) (fun c673 => ?_) (fun c673 => ?_)
                    · replace E := xq_ep c673 E
                      refine J_iconst (v := (-1)) dX11_readText_182 (by decide) ?_
                      obtain ⟨u674, e675⟩ : ∃ z, z = ms u670 166 0 (-1) := ⟨_, rfl⟩
                      refine J_iast dX11_readText_183 wc_166 (vin (bd_c (v := 0) (lo := 0) (hi := 0) (by decide)) (by decide)) (ws e675 wk_166 rfl) ?_
                      replace E := xq_le e675 E
                      refine J_aload_n (i := 0) (j := 0) dX11_readText_184 rfl rfl ?_
                      refine J_get (C := RX11) (T := TX11) (Z := 43) (ci := 11) (f := 3) dX11_readText_185 inG11 rfl (by decide) k1267 wc_162 rfl ?_
                      refine J_iconst (v := 0) dX11_readText_188 (by decide) ?_
                      refine J_iald dX11_readText_189 wc_165 (vin (bd_c (v := 0) (lo := 0) (hi := 0) (by decide)) (by decide)) ?_
                      refine J_ci (v := u651 162 15) ((congrFun (ms_c e675 (Nat.ne_of_beq_eq_false rfl)) 0).trans (ms_e e671)) ?_
                      refine J_if_ne (tgt := 197) dX11_readText_190 (by decide) (fun c676 => ?_) (fun c676 => ?_)
                      · replace E := xq_en c676 E
                        refine J_iconst (v := 0) dX11_readText_197 (by decide) ?_
                        exact J_zret hq dX11_readText_198 rfl rfl wlen (Nat.le_refl _) (Nat.le_refl _) ⟨false, u674, g660, rfl, rfl, (bd_r ((congrFun (ms_c e675 (Nat.ne_of_beq_eq_false rfl)) 8).trans (congrFun (ms_c e671 (Nat.ne_of_beq_eq_false rfl)) 8)) bm654), (bd_r ((congrFun (ms_c e675 (Nat.ne_of_beq_eq_false rfl)) 12).trans (congrFun (ms_c e671 (Nat.ne_of_beq_eq_false rfl)) 12)) bm655), (bd_r ((congrFun (ms_c e675 (Nat.ne_of_beq_eq_false rfl)) 17).trans (congrFun (ms_c e671 (Nat.ne_of_beq_eq_false rfl)) 17)) bm656), (ab_c ((ms_c e675 (Nat.ne_of_beq_eq_false rfl)).trans (ms_c e671 (Nat.ne_of_beq_eq_false rfl))) ab658), (rp_c ((ms_c e675 (Nat.ne_of_beq_eq_false rfl)).trans (ms_c e671 (Nat.ne_of_beq_eq_false rfl))) rf659), E, (fun c k_ => ((ms_c e675 (nin_ne (a := 166) k_ rfl)).trans ((ms_c e671 (nin_ne (a := 165) k_ rfl)).trans ((fr652 c (nin_sub (M := [(162, 162), (170, 171)]) k_ rfl)).trans ((fr500 c (nin_sub (M := [(162, 162), (170, 171)]) k_ rfl)).trans ((fr399 c (nin_ne (a := 162) k_ rfl)).trans ((ms_c e389 (nin_ne (a := 162) k_ rfl)).trans ((ms_c e387 (nin_ne (a := 162) k_ rfl)).trans (fr41 c (nin_ne (a := 170) k_ rfl)))))))))), (fun j k8_ k10_ k11_ k12_ k14_ k15_ k16_ k17_ k18_ => ((congrFun (ms_c e675 (Nat.ne_of_beq_eq_false rfl)) j).trans ((congrFun (ms_c e671 (Nat.ne_of_beq_eq_false rfl)) j).trans ((fc653 j k8_ k10_ k11_ k12_ k14_ k15_ k16_ k17_ k18_).trans ((fc501 j k8_ k10_ k11_ k12_ k14_ k15_ k16_ k17_ k18_).trans ((fc400 j k8_ k10_ k11_ k12_).trans ((ms_i e389 k15_).trans ((ms_i e387 k8_).trans (congrFun (fr41 162 (Nat.ne_of_beq_eq_false rfl)) j))))))))), (fun j k0_ => ((congrFun (ms_c e675 (Nat.ne_of_beq_eq_false rfl)) j).trans ((ms_i e671 k0_).trans ((congrFun (fr652 165 rfl) j).trans ((congrFun (fr500 165 rfl) j).trans ((congrFun (fr399 165 (Nat.ne_of_beq_eq_false rfl)) j).trans ((congrFun (ms_c e389 (Nat.ne_of_beq_eq_false rfl)) j).trans ((congrFun (ms_c e387 (Nat.ne_of_beq_eq_false rfl)) j).trans (congrFun (fr41 165 (Nat.ne_of_beq_eq_false rfl)) j))))))))), (fun j k0_ => ((ms_i e675 k0_).trans ((congrFun (ms_c e671 (Nat.ne_of_beq_eq_false rfl)) j).trans ((congrFun (fr652 166 rfl) j).trans ((congrFun (fr500 166 rfl) j).trans ((congrFun (fr399 166 (Nat.ne_of_beq_eq_false rfl)) j).trans ((congrFun (ms_c e389 (Nat.ne_of_beq_eq_false rfl)) j).trans ((congrFun (ms_c e387 (Nat.ne_of_beq_eq_false rfl)) j).trans (congrFun (fr41 166 (Nat.ne_of_beq_eq_false rfl)) j)))))))))⟩
                      · replace E := xq_ep c676 E
                        refine J_iconst (v := 1) dX11_readText_193 (by decide) ?_
                        refine J_goto (tgt := 198) dX11_readText_194 (by decide) ?_
                        exact J_zret hq dX11_readText_198 rfl rfl wlen (Nat.le_refl _) (Nat.le_refl _) ⟨true, u674, g660, rfl, rfl, (bd_r ((congrFun (ms_c e675 (Nat.ne_of_beq_eq_false rfl)) 8).trans (congrFun (ms_c e671 (Nat.ne_of_beq_eq_false rfl)) 8)) bm654), (bd_r ((congrFun (ms_c e675 (Nat.ne_of_beq_eq_false rfl)) 12).trans (congrFun (ms_c e671 (Nat.ne_of_beq_eq_false rfl)) 12)) bm655), (bd_r ((congrFun (ms_c e675 (Nat.ne_of_beq_eq_false rfl)) 17).trans (congrFun (ms_c e671 (Nat.ne_of_beq_eq_false rfl)) 17)) bm656), (ab_c ((ms_c e675 (Nat.ne_of_beq_eq_false rfl)).trans (ms_c e671 (Nat.ne_of_beq_eq_false rfl))) ab658), (rp_c ((ms_c e675 (Nat.ne_of_beq_eq_false rfl)).trans (ms_c e671 (Nat.ne_of_beq_eq_false rfl))) rf659), E, (fun c k_ => ((ms_c e675 (nin_ne (a := 166) k_ rfl)).trans ((ms_c e671 (nin_ne (a := 165) k_ rfl)).trans ((fr652 c (nin_sub (M := [(162, 162), (170, 171)]) k_ rfl)).trans ((fr500 c (nin_sub (M := [(162, 162), (170, 171)]) k_ rfl)).trans ((fr399 c (nin_ne (a := 162) k_ rfl)).trans ((ms_c e389 (nin_ne (a := 162) k_ rfl)).trans ((ms_c e387 (nin_ne (a := 162) k_ rfl)).trans (fr41 c (nin_ne (a := 170) k_ rfl)))))))))), (fun j k8_ k10_ k11_ k12_ k14_ k15_ k16_ k17_ k18_ => ((congrFun (ms_c e675 (Nat.ne_of_beq_eq_false rfl)) j).trans ((congrFun (ms_c e671 (Nat.ne_of_beq_eq_false rfl)) j).trans ((fc653 j k8_ k10_ k11_ k12_ k14_ k15_ k16_ k17_ k18_).trans ((fc501 j k8_ k10_ k11_ k12_ k14_ k15_ k16_ k17_ k18_).trans ((fc400 j k8_ k10_ k11_ k12_).trans ((ms_i e389 k15_).trans ((ms_i e387 k8_).trans (congrFun (fr41 162 (Nat.ne_of_beq_eq_false rfl)) j))))))))), (fun j k0_ => ((congrFun (ms_c e675 (Nat.ne_of_beq_eq_false rfl)) j).trans ((ms_i e671 k0_).trans ((congrFun (fr652 165 rfl) j).trans ((congrFun (fr500 165 rfl) j).trans ((congrFun (fr399 165 (Nat.ne_of_beq_eq_false rfl)) j).trans ((congrFun (ms_c e389 (Nat.ne_of_beq_eq_false rfl)) j).trans ((congrFun (ms_c e387 (Nat.ne_of_beq_eq_false rfl)) j).trans (congrFun (fr41 165 (Nat.ne_of_beq_eq_false rfl)) j))))))))), (fun j k0_ => ((ms_i e675 k0_).trans ((congrFun (ms_c e671 (Nat.ne_of_beq_eq_false rfl)) j).trans ((congrFun (fr652 166 rfl) j).trans ((congrFun (fr500 166 rfl) j).trans ((congrFun (fr399 166 (Nat.ne_of_beq_eq_false rfl)) j).trans ((congrFun (ms_c e389 (Nat.ne_of_beq_eq_false rfl)) j).trans ((congrFun (ms_c e387 (Nat.ne_of_beq_eq_false rfl)) j).trans (congrFun (fr41 166 (Nat.ne_of_beq_eq_false rfl)) j)))))))))⟩
                    · replace E := xq_en c673 E
                      refine J_aload_n (i := 0) (j := 0) dX11_readText_175 rfl rfl ?_
                      refine J_get (C := RX11) (T := TX11) (Z := 43) (ci := 11) (f := 16) dX11_readText_176 inG11 rfl (by decide) k1280 wc_162 rfl ?_
                      refine J_ci (v := u651 162 16) (congrFun (ms_c e671 (Nat.ne_of_beq_eq_false rfl)) 16) ?_
                      refine J_goto (tgt := 183) dX11_readText_179 (by decide) ?_
                      obtain ⟨u677, e678⟩ : ∃ z, z = ms u670 166 0 (u651 162 16) := ⟨_, rfl⟩
                      refine J_iast dX11_readText_183 wc_166 (vin (bd_c (v := 0) (lo := 0) (hi := 0) (by decide)) (by decide)) (ws e678 wk_166 rfl) ?_
                      replace E := xq_le e678 E
                      refine J_aload_n (i := 0) (j := 0) dX11_readText_184 rfl rfl ?_
                      refine J_get (C := RX11) (T := TX11) (Z := 43) (ci := 11) (f := 3) dX11_readText_185 inG11 rfl (by decide) k1267 wc_162 rfl ?_
                      refine J_iconst (v := 0) dX11_readText_188 (by decide) ?_
                      refine J_iald dX11_readText_189 wc_165 (vin (bd_c (v := 0) (lo := 0) (hi := 0) (by decide)) (by decide)) ?_
                      refine J_ci (v := u651 162 15) ((congrFun (ms_c e678 (Nat.ne_of_beq_eq_false rfl)) 0).trans (ms_e e671)) ?_
                      refine J_if_ne (tgt := 197) dX11_readText_190 (by decide) (fun c679 => ?_) (fun c679 => ?_)
                      · replace E := xq_en c679 E
                        refine J_iconst (v := 0) dX11_readText_197 (by decide) ?_
                        exact J_zret hq dX11_readText_198 rfl rfl wlen (Nat.le_refl _) (Nat.le_refl _) ⟨false, u677, g660, rfl, rfl, (bd_r ((congrFun (ms_c e678 (Nat.ne_of_beq_eq_false rfl)) 8).trans (congrFun (ms_c e671 (Nat.ne_of_beq_eq_false rfl)) 8)) bm654), (bd_r ((congrFun (ms_c e678 (Nat.ne_of_beq_eq_false rfl)) 12).trans (congrFun (ms_c e671 (Nat.ne_of_beq_eq_false rfl)) 12)) bm655), (bd_r ((congrFun (ms_c e678 (Nat.ne_of_beq_eq_false rfl)) 17).trans (congrFun (ms_c e671 (Nat.ne_of_beq_eq_false rfl)) 17)) bm656), (ab_c ((ms_c e678 (Nat.ne_of_beq_eq_false rfl)).trans (ms_c e671 (Nat.ne_of_beq_eq_false rfl))) ab658), (rp_c ((ms_c e678 (Nat.ne_of_beq_eq_false rfl)).trans (ms_c e671 (Nat.ne_of_beq_eq_false rfl))) rf659), E, (fun c k_ => ((ms_c e678 (nin_ne (a := 166) k_ rfl)).trans ((ms_c e671 (nin_ne (a := 165) k_ rfl)).trans ((fr652 c (nin_sub (M := [(162, 162), (170, 171)]) k_ rfl)).trans ((fr500 c (nin_sub (M := [(162, 162), (170, 171)]) k_ rfl)).trans ((fr399 c (nin_ne (a := 162) k_ rfl)).trans ((ms_c e389 (nin_ne (a := 162) k_ rfl)).trans ((ms_c e387 (nin_ne (a := 162) k_ rfl)).trans (fr41 c (nin_ne (a := 170) k_ rfl)))))))))), (fun j k8_ k10_ k11_ k12_ k14_ k15_ k16_ k17_ k18_ => ((congrFun (ms_c e678 (Nat.ne_of_beq_eq_false rfl)) j).trans ((congrFun (ms_c e671 (Nat.ne_of_beq_eq_false rfl)) j).trans ((fc653 j k8_ k10_ k11_ k12_ k14_ k15_ k16_ k17_ k18_).trans ((fc501 j k8_ k10_ k11_ k12_ k14_ k15_ k16_ k17_ k18_).trans ((fc400 j k8_ k10_ k11_ k12_).trans ((ms_i e389 k15_).trans ((ms_i e387 k8_).trans (congrFun (fr41 162 (Nat.ne_of_beq_eq_false rfl)) j))))))))), (fun j k0_ => ((congrFun (ms_c e678 (Nat.ne_of_beq_eq_false rfl)) j).trans ((ms_i e671 k0_).trans ((congrFun (fr652 165 rfl) j).trans ((congrFun (fr500 165 rfl) j).trans ((congrFun (fr399 165 (Nat.ne_of_beq_eq_false rfl)) j).trans ((congrFun (ms_c e389 (Nat.ne_of_beq_eq_false rfl)) j).trans ((congrFun (ms_c e387 (Nat.ne_of_beq_eq_false rfl)) j).trans (congrFun (fr41 165 (Nat.ne_of_beq_eq_false rfl)) j))))))))), (fun j k0_ => ((ms_i e678 k0_).trans ((congrFun (ms_c e671 (Nat.ne_of_beq_eq_false rfl)) j).trans ((congrFun (fr652 166 rfl) j).trans ((congrFun (fr500 166 rfl) j).trans ((congrFun (fr399 166 (Nat.ne_of_beq_eq_false rfl)) j).trans ((congrFun (ms_c e389 (Nat.ne_of_beq_eq_false rfl)) j).trans ((congrFun (ms_c e387 (Nat.ne_of_beq_eq_false rfl)) j).trans (congrFun (fr41 166 (Nat.ne_of_beq_eq_false rfl)) j)))))))))⟩
                      · exact (bd_neq c679 (bd_lt_lo (bd_any (u651 162 15)) (i_nle c673) (bd_c (v := 0) (lo := 0) (hi := 0) (by decide))) (bd_c (v := 0) (lo := 0) (hi := 0) (by decide)) (by decide)).elim
                  · exact (bd_neq c672 (bd_ne_lo bw650 c662 (by decide)) (bd_c (v := 0) (lo := 0) (hi := 0) (by decide)) (by decide)).elim
            refine J_if_eq (tgt := 122) dX11_readText_56 (by decide) (fun c615 => ?_) (fun c615 => ?_)
            · replace E := xq_ep c615 E
              refine J_lv [0, 1, 2] rfl ?_
              exact jn661 w498 u499 g510 (bd_w (l := 0) (h := 1) (bd_r c615 (bd_c (v := 0) (lo := 0) (hi := 0) (by decide))) (by decide)) (fun c k_ => rfl) (fun j k8_ k10_ k11_ k12_ k14_ k15_ k16_ k17_ k18_ => rfl) bm502 bm505 bm506 ab507 ab508 rf509 E
            · replace E := xq_en c615 E
              refine J_aload_n (i := 0) (j := 0) dX11_readText_59 rfl rfl ?_
              refine J_get (C := RX11) (T := TX11) (Z := 43) (ci := 11) (f := 11) dX11_readText_60 inG11 rfl (by decide) k1275 wc_162 rfl ?_
              refine J_if_eq (tgt := 122) dX11_readText_63 (by decide) (fun c680 => ?_) (fun c680 => ?_)
              · replace E := xq_ep c680 E
                refine J_lv [0, 1, 2] rfl ?_
                exact jn661 w498 u499 g510 (bd_w (l := 0) (h := 1) (bd_ne_lo bw498 c615 (by decide)) (by decide)) (fun c k_ => rfl) (fun j k8_ k10_ k11_ k12_ k14_ k15_ k16_ k17_ k18_ => rfl) bm502 bm505 bm506 ab507 ab508 rf509 E
              · replace E := xq_en c680 E
                refine J_aload_n (i := 0) (j := 0) dX11_readText_66 rfl rfl ?_
                refine J_get (C := RX11) (T := TX11) (Z := 43) (ci := 11) (f := 10) dX11_readText_67 inG11 rfl (by decide) k1274 wc_162 rfl ?_
                refine J_istore_n (i := 3) (lw := [(3, .int (u499 162 10)), (0, .ref 162), (1, .int 1), (2, .int w498)]) dX11_readText_70 rfl (by decide) rfl ?_
                refine J_aload_n (i := 0) (j := 1) dX11_readText_71 rfl rfl ?_
                refine J_iconst (v := 1) dX11_readText_72 (by decide) ?_
                obtain ⟨u681, e682⟩ : ∃ z, z = ms u499 162 18 1 := ⟨_, rfl⟩
                refine J_put (C := RX11) (T := TX11) (Z := 43) (ci := 11) (f := 18) (ty0 := tyX11) dX11_readText_73 inG11 rfl tyX11_ok nmX11 (by decide) k1282 rfl rfl wc_162 (Nat.le_of_ble_eq_true rfl) (fun _ _ => ⟨rfl, rfl⟩) (ws e682 wk_162 rfl) ?_
                replace E := xq_le e682 E
                refine J_iload_n (i := 1) (j := 2) dX11_readText_76 rfl rfl ?_
                refine J_if_ne (tgt := 88) dX11_readText_77 (by decide) (fun _ => ?_) (fun q => absurd q (by decide))
                refine J_aload_n (i := 0) (j := 1) dX11_readText_88 rfl rfl ?_
                refine J_iload_n (i := 3) (j := 0) dX11_readText_89 rfl rfl ?_
                refine J_callV (As := [.int (u499 162 10)]) (rest := []) dX11_readText_90 (c_M_workLineX (d := 4) (u := u681) (g := g510) (ex := ex) (at0 := u499 162 10)  (by decide) (bd_r (ms_i e682 (Nat.ne_of_beq_eq_false rfl)) bm502) (bd_r ((ms_i e682 (Nat.ne_of_beq_eq_false rfl)).trans ((fc501 9 (Nat.ne_of_beq_eq_false rfl) (Nat.ne_of_beq_eq_false rfl) (Nat.ne_of_beq_eq_false rfl) (Nat.ne_of_beq_eq_false rfl) (Nat.ne_of_beq_eq_false rfl) (Nat.ne_of_beq_eq_false rfl) (Nat.ne_of_beq_eq_false rfl) (Nat.ne_of_beq_eq_false rfl) (Nat.ne_of_beq_eq_false rfl)).trans ((fc400 9 (Nat.ne_of_beq_eq_false rfl) (Nat.ne_of_beq_eq_false rfl) (Nat.ne_of_beq_eq_false rfl) (Nat.ne_of_beq_eq_false rfl)).trans ((ms_i e389 (Nat.ne_of_beq_eq_false rfl)).trans ((ms_i e387 (Nat.ne_of_beq_eq_false rfl)).trans (congrFun (fr41 162 (Nat.ne_of_beq_eq_false rfl)) 9)))))) hp0) (bd_r (ms_i e682 (Nat.ne_of_beq_eq_false rfl)) bm505) (bd_r (ms_i e682 (Nat.ne_of_beq_eq_false rfl)) bm506) (ab_c (ms_c e682 (Nat.ne_of_beq_eq_false rfl)) ab508) (rp_c (ms_c e682 (Nat.ne_of_beq_eq_false rfl)) rf509)) hq.n k1476 k1478 k49 wc_162 rfl rfl k97 k1479 np_X11_workLine (Nat.le_trans (by decide) hd) (by decide) (Nat.le_refl _) (Nat.le_refl _) wlen rfl (Nat.le_of_ble_eq_true rfl) (fun r_ h_ p683 => ?_)
                obtain ⟨t684, u685, g686, rfl, rfl, h687, h688, h689, h690, h691, h692, hx693, fr694, fc695⟩ := p683
                replace E := xq_e3 hx693 E
                refine J_istore_n (i := 2) (lw := [(2, .int (bI t684)), (3, .int (u499 162 10)), (0, .ref 162), (1, .int 1)]) dX11_readText_93 rfl (by decide) rfl ?_
                refine J_iload_n (i := 2) (j := 0) dX11_readText_94 rfl rfl ?_
                refine J_ifB_eq (tgt := 111) dX11_readText_95 (by decide) (fun c696 => ?_) (fun c696 => ?_)
                · replace E := xq_ef c696 E
                  refine J_iload_n (i := 2) (j := 0) dX11_readText_111 rfl rfl ?_
                  refine J_ifB_eq (tgt := 119) dX11_readText_112 (by decide) (fun _ => ?_) (fun q => absurd (c696.symm.trans q) (by decide))
                  refine J_goto (tgt := 55) dX11_readText_119 (by decide) ?_
                  refine J_iload_n (i := 2) (j := 0) dX11_readText_55 rfl rfl ?_
                  refine J_ifB_eq (tgt := 122) dX11_readText_56 (by decide) (fun _ => ?_) (fun q => absurd (c696.symm.trans q) (by decide))
                  refine J_lv [2, 3, 0] rfl ?_
                  exact jn661 (bI t684) u685 g686 (bd_bI t684) (fun c k_ => ((fr694 c (nin_sub (M := [(162, 162), (170, 171)]) k_ rfl)).trans (ms_c e682 (nin_ne (a := 162) k_ rfl)))) (fun j k8_ k10_ k11_ k12_ k14_ k15_ k16_ k17_ k18_ => ((fc695 j k8_ k10_ k11_ k12_ k14_ k15_ k16_ k17_ k18_).trans (ms_i e682 k18_))) h687 h688 h689 (h691).1 h690 h691 E
                · replace E := xq_ep c696 E
                  refine J_aload_n (i := 0) (j := 2) dX11_readText_98 rfl rfl ?_
                  refine J_get (C := RX11) (T := TX11) (Z := 43) (ci := 11) (f := 11) dX11_readText_99 inG11 rfl (by decide) k1275 wc_162 rfl ?_
                  refine J_iconst (v := 4) dX11_readText_102 (by decide) ?_
                  refine J_icmp_eq (tgt := 111) dX11_readText_103 (by decide) (fun c697 => ?_) (fun c697 => ?_)
                  · replace E := xq_ep c697 E
                    refine J_iload_n (i := 2) (j := 0) dX11_readText_111 rfl rfl ?_
                    refine J_ifB_eq (tgt := 119) dX11_readText_112 (by decide) (fun q => absurd (c696.symm.trans q) (by decide)) (fun _ => ?_)
                    refine J_aload_n (i := 0) (j := 2) dX11_readText_115 rfl rfl ?_
                    refine J_callV (As := []) (rest := []) dX11_readText_116 (c_M_tokenX (d := 1) (u := u685) (g := g686) (ex := ex)   (by decide) h687 (bd_r ((fc695 9 (Nat.ne_of_beq_eq_false rfl) (Nat.ne_of_beq_eq_false rfl) (Nat.ne_of_beq_eq_false rfl) (Nat.ne_of_beq_eq_false rfl) (Nat.ne_of_beq_eq_false rfl) (Nat.ne_of_beq_eq_false rfl) (Nat.ne_of_beq_eq_false rfl) (Nat.ne_of_beq_eq_false rfl) (Nat.ne_of_beq_eq_false rfl)).trans ((ms_i e682 (Nat.ne_of_beq_eq_false rfl)).trans ((fc501 9 (Nat.ne_of_beq_eq_false rfl) (Nat.ne_of_beq_eq_false rfl) (Nat.ne_of_beq_eq_false rfl) (Nat.ne_of_beq_eq_false rfl) (Nat.ne_of_beq_eq_false rfl) (Nat.ne_of_beq_eq_false rfl) (Nat.ne_of_beq_eq_false rfl) (Nat.ne_of_beq_eq_false rfl) (Nat.ne_of_beq_eq_false rfl)).trans ((fc400 9 (Nat.ne_of_beq_eq_false rfl) (Nat.ne_of_beq_eq_false rfl) (Nat.ne_of_beq_eq_false rfl) (Nat.ne_of_beq_eq_false rfl)).trans ((ms_i e389 (Nat.ne_of_beq_eq_false rfl)).trans ((ms_i e387 (Nat.ne_of_beq_eq_false rfl)).trans (congrFun (fr41 162 (Nat.ne_of_beq_eq_false rfl)) 9))))))) hp0) h688) hq.n k1417 k1419 k38 wc_162 rfl rfl k97 k1420 np_X11_token (Nat.le_trans (by decide) hd) (by decide) (Nat.le_refl _) (Nat.le_refl _) wlen rfl (Nat.le_of_ble_eq_true rfl) (fun r_ h_ p698 => ?_)
                    obtain ⟨u699, g700, rfl, rfl, h701, h702, h703, h704, h705, hx706, fr707, fc708⟩ := p698
                    replace E := xq_e2 hx706 E
                    refine J_goto (tgt := 55) dX11_readText_119 (by decide) ?_
                    refine J_lv [2, 3, 0] rfl ?_
                    exact ih612 (bI t684) u699 g700 (bd_bI t684) (fun c k_ => ((fr707 c (nin_ne (a := 162) k_ rfl)).trans ((fr694 c (nin_sub (M := [(162, 162), (170, 171)]) k_ rfl)).trans ((ms_c e682 (nin_ne (a := 162) k_ rfl)).trans (fr500 c (nin_sub (M := [(162, 162), (170, 171)]) k_ rfl)))))) (fun j k8_ k10_ k11_ k12_ k14_ k15_ k16_ k17_ k18_ => ((fc708 j k8_ k10_ k11_ k12_).trans ((fc695 j k8_ k10_ k11_ k12_ k14_ k15_ k16_ k17_ k18_).trans ((ms_i e682 k18_).trans (fc501 j k8_ k10_ k11_ k12_ k14_ k15_ k16_ k17_ k18_))))) h701 h702 h703 h704 (bd_r (fc708 17 (Nat.ne_of_beq_eq_false rfl) (Nat.ne_of_beq_eq_false rfl) (Nat.ne_of_beq_eq_false rfl) (Nat.ne_of_beq_eq_false rfl)) h689) (ab_c (fr707 170 (Nat.ne_of_beq_eq_false rfl)) (h691).1) (ab_c (fr707 171 (Nat.ne_of_beq_eq_false rfl)) h690) (rp_c (fr707 170 (Nat.ne_of_beq_eq_false rfl)) h691) trivial (mu_gv (gv_r (ms_i e682 (Nat.ne_of_beq_eq_false rfl)).symm rfl rfl (h692 c696)) c697 h705 h701 hm613) E
                  · replace E := xq_en c697 E
                    refine J_aload_n (i := 0) (j := 2) dX11_readText_106 rfl rfl ?_
                    refine J_callV (As := []) (rest := []) dX11_readText_107 (c_M_stopsX (d := 0) (u := u685) (g := g686) (ex := ex)   (by decide) ) hq.n k1444 k1446 k41 wc_162 rfl rfl k97 k1447 np_X11_stops (Nat.le_trans (by decide) hd) (by decide) (Nat.le_refl _) (Nat.le_refl _) wlen rfl (Nat.le_of_ble_eq_true rfl) (fun r_ h_ p709 => ?_)
                    obtain ⟨u710, rfl, rfl, hx711, fr712, fc713⟩ := p709
                    replace E := xq_le hx711 E
                    refine J_istore_n (i := 2) (lw := [(2, .int 0), (3, .int (u499 162 10)), (0, .ref 162), (1, .int 1)]) dX11_readText_110 rfl (by decide) rfl ?_
                    refine J_iload_n (i := 2) (j := 0) dX11_readText_111 rfl rfl ?_
                    refine J_if_eq (tgt := 119) dX11_readText_112 (by decide) (fun _ => ?_) (fun q => absurd (by decide) q)
                    refine J_goto (tgt := 55) dX11_readText_119 (by decide) ?_
                    refine J_iload_n (i := 2) (j := 0) dX11_readText_55 rfl rfl ?_
                    refine J_if_eq (tgt := 122) dX11_readText_56 (by decide) (fun _ => ?_) (fun q => absurd (by decide) q)
                    refine J_lv [2, 3, 0] rfl ?_
                    exact jn661 (0 : Int32) u710 g686 (bd_w (l := 0) (h := 1) (bd_c (v := 0) (lo := 0) (hi := 0) (by decide)) (by decide)) (fun c k_ => ((fr712 c (nin_ne (a := 162) k_ rfl)).trans ((fr694 c (nin_sub (M := [(162, 162), (170, 171)]) k_ rfl)).trans (ms_c e682 (nin_ne (a := 162) k_ rfl))))) (fun j k8_ k10_ k11_ k12_ k14_ k15_ k16_ k17_ k18_ => ((fc713 j k14_).trans ((fc695 j k8_ k10_ k11_ k12_ k14_ k15_ k16_ k17_ k18_).trans (ms_i e682 k18_)))) (bd_r (fc713 8 (Nat.ne_of_beq_eq_false rfl)) h687) (bd_r (fc713 12 (Nat.ne_of_beq_eq_false rfl)) h688) (bd_r (fc713 17 (Nat.ne_of_beq_eq_false rfl)) h689) (ab_c (fr712 170 (Nat.ne_of_beq_eq_false rfl)) (h691).1) (ab_c (fr712 171 (Nat.ne_of_beq_eq_false rfl)) h690) (rp_c (fr712 170 (Nat.ne_of_beq_eq_false rfl)) h691) E
        refine J_lv [1, 2, 0] rfl ?_
        exact lp610 ((600 - (u391 162 8).toInt).toNat + 1) (1 : Int32) u391 g392 (bd_w (l := 0) (h := 1) (bd_c (v := 1) (lo := 1) (hi := 1) (by decide)) (by decide)) (fun c k_ => rfl) (fun j k8_ k10_ k11_ k12_ k14_ k15_ k16_ k17_ k18_ => rfl) h393 h394 h395 h396 (bd_r ((fc400 17 (Nat.ne_of_beq_eq_false rfl) (Nat.ne_of_beq_eq_false rfl) (Nat.ne_of_beq_eq_false rfl) (Nat.ne_of_beq_eq_false rfl)).trans ((ms_i e389 (Nat.ne_of_beq_eq_false rfl)).trans ((ms_i e387 (Nat.ne_of_beq_eq_false rfl)).trans (congrFun (fr41 162 (Nat.ne_of_beq_eq_false rfl)) 17)))) hp2) (ab_c ((fr399 170 (Nat.ne_of_beq_eq_false rfl)).trans ((ms_c e389 (Nat.ne_of_beq_eq_false rfl)).trans (ms_c e387 (Nat.ne_of_beq_eq_false rfl)))) ab42) (ab_c ((fr399 171 (Nat.ne_of_beq_eq_false rfl)).trans ((ms_c e389 (Nat.ne_of_beq_eq_false rfl)).trans ((ms_c e387 (Nat.ne_of_beq_eq_false rfl)).trans (fr41 171 (Nat.ne_of_beq_eq_false rfl))))) hp3) (rp_c ((fr399 170 (Nat.ne_of_beq_eq_false rfl)).trans ((ms_c e389 (Nat.ne_of_beq_eq_false rfl)).trans (ms_c e387 (Nat.ne_of_beq_eq_false rfl)))) (rz_p hz385)) trivial (Nat.lt_succ_self _) E
      · replace E := xq_en c382 E
        refine J_aload_n (i := 0) (j := 0) dX11_readText_9 rfl rfl ?_
        refine J_get (C := RX11) (T := TX11) (Z := 43) (ci := 11) (f := 19) dX11_readText_10 inG11 rfl (by decide) k1283 wc_162 rfl ?_
        refine J_iload_n (i := 2) (j := 2) dX11_readText_13 rfl rfl ?_
        refine J_iload_n (i := 1) (j := 1) dX11_readText_14 rfl rfl ?_
        refine J_if_ne (tgt := 31) dX11_readText_15 (by decide) (fun _ => ?_) (fun q => absurd q (by decide))
        refine J_iconst (v := 0) dX11_readText_31 (by decide) ?_
        obtain ⟨u714, e715⟩ : ∃ z, z = ms u40 170 w39.toNatClampNeg 0 := ⟨_, rfl⟩
        refine J_iast dX11_readText_32 wc_170 (vin (bd_lt_hi bw39 (i_nle c382) (bd_c (v := 157) (lo := 157) (hi := 157) (by decide))) (by decide)) (ws e715 wk_170 rfl) ?_
        replace E := xq_le e715 E
        refine J_iinc (i := 2) (j := 2) (v := (w39 + 1)) (lw := [(2, .int (w39 + 1)), (0, .ref 162), (1, .int 1)]) dX11_readText_33 rfl rfl (by decide) rfl ?_
        refine J_goto (tgt := 2) dX11_readText_36 (by decide) ?_
        refine J_lv [1, 2, 0] rfl ?_
        exact ih379 (w39 + 1) u714 (bd_w (l := 0) (h := 157) (bd_add (l := 1) (h := 157) (bd_lt_hi bw39 (i_nle c382) (bd_c (v := 157) (lo := 157) (hi := 157) (by decide))) (bd_c (v := 1) (lo := 1) (hi := 1) (by decide)) (by decide)) (by decide)) (fun c k0_ => ((ms_c e715 k0_).trans (fr41 c k0_))) (ab_s e715 ab42 (bd_w (l := (-1)) (h := 999) (bd_c (v := 0) (lo := 0) (hi := 0) (by decide)) (by decide))) (zi_s e715 (bd_lt_hi bw39 (i_nle c382) (bd_c (v := 157) (lo := 157) (hi := 157) (by decide))) (bd_w (l := 0) (h := 1) (bd_c (v := 0) (lo := 0) (hi := 0) (by decide)) (by decide)) hI381) (mu_up 1 bw39 rfl (by decide) (bd_w (l := 1) (h := 157) (bd_add (l := 1) (h := 157) (bd_lt_hi bw39 (i_nle c382) (bd_c (v := 157) (lo := 157) (hi := 157) (by decide))) (bd_c (v := 1) (lo := 1) (hi := 1) (by decide)) (by decide)) (by decide)) hm380) E
  refine J_lv [1, 2, 0] rfl ?_
  exact lp377 ((157 - (0 : Int32).toInt).toNat + 1) (0 : Int32) u (bd_w (l := 0) (h := 157) (bd_c (v := 0) (lo := 0) (hi := 0) (by decide)) (by decide)) (fun c k0_ => rfl) hp4 zi_0 (Nat.lt_succ_self _) E
