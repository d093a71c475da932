theorem k1272 : Cond.fieldLink RX11 86 "PondStairModel" "ahead" "I" ∈ gt := gt_in 1272 (by decide +kernel) (by decide +kernel)
theorem k1273 : Cond.fieldLink RX11 89 "PondStairModel" "length" "I" ∈ gt := gt_in 1273 (by decide +kernel) (by decide +kernel)
theorem dX11_see_0 : decode cX11_see 0 = .ok (.aload_n 0, 1) := by decide +kernel
theorem dX11_see_1 : decode cX11_see 1 = .ok (.getfield 86, 3) := by decide +kernel
theorem dX11_see_4 : decode cX11_see 4 = .ok (.aload_n 0, 1) := by decide +kernel
theorem dX11_see_5 : decode cX11_see 5 = .ok (.getfield 89, 3) := by decide +kernel
theorem dX11_see_8 : decode cX11_see 8 = .ok (.if_icmp .ge 19, 3) := by decide +kernel
theorem dX11_see_11 : decode cX11_see 11 = .ok (.aload_n 0, 1) := by decide +kernel
theorem dX11_see_12 : decode cX11_see 12 = .ok (.getfield 7, 3) := by decide +kernel
theorem dX11_see_15 : decode cX11_see 15 = .ok (.aload_n 0, 1) := by decide +kernel
theorem dX11_see_16 : decode cX11_see 16 = .ok (.getfield 86, 3) := by decide +kernel
theorem dX11_see_19 : decode cX11_see 19 = .ok (.baload, 1) := by decide +kernel
theorem dX11_see_20 : decode cX11_see 20 = .ok (.sipush 255, 3) := by decide +kernel
theorem dX11_see_23 : decode cX11_see 23 = .ok (.iand, 1) := by decide +kernel
theorem dX11_see_24 : decode cX11_see 24 = .ok (.goto 4, 3) := by decide +kernel
theorem dX11_see_27 : decode cX11_see 27 = .ok (.iconst (-1), 1) := by decide +kernel
theorem dX11_see_28 : decode cX11_see 28 = .ok (.ireturn, 1) := by decide +kernel
set_option maxHeartbeats 4000000 in
set_option maxRecDepth 100000 in
theorem c_M_see {d : Nat} {u : Nat → Nat → Int32} {g : Nat → Nat → Int64} {ex : List MC}  (hd : 0 ≤ d) (hp0 : Bd 0 600 (u 162 8)) (hp1 : Bd 0 600 (u 162 9)) : CT con0 d 0 0 yX11_see cX11_see 1 (some .int) [.ref 162] (Wd u g ex) (fun r h2 => r = some (.int (mse u (u 162 8) (u 162 9))) ∧ h2 = Wd u g ex) := by
  refine CT_of (by decide) (Nat.le_of_ble_eq_true rfl) (fun x hq => ?_)
  show J x yX11_see cX11_see 1 (some .int) d 0 0 (Wd u g ex).length 0 [(0, .ref 162)] [] (Wd u g ex) 0 0
  refine J_aload_n (i := 0) (j := 0) dX11_see_0 rfl rfl ?_
  refine J_get (C := RX11) (T := TX11) (Z := 43) (ci := 11) (f := 8) dX11_see_1 inG11 rfl (by decide) k1272 wc_162 rfl ?_
  refine J_aload_n (i := 0) (j := 0) dX11_see_4 rfl rfl ?_
  refine J_get (C := RX11) (T := TX11) (Z := 43) (ci := 11) (f := 9) dX11_see_5 inG11 rfl (by decide) k1273 wc_162 rfl ?_
  refine J_icmp_ge (tgt := 27) dX11_see_8 (by decide) (fun c1 => ?_) (fun c1 => ?_)
  · refine J_iconst (v := (-1)) dX11_see_27 (by decide) ?_
    exact J_iret hq dX11_see_28 rfl wlen (Nat.le_refl _) (Nat.le_refl _) ⟨(congrArg (fun z => some (Value.int z)) (mse_2 c1)), rfl⟩
  · refine J_aload_n (i := 0) (j := 0) dX11_see_11 rfl rfl ?_
    refine J_get (C := RX11) (T := TX11) (Z := 43) (ci := 11) (f := 1) dX11_see_12 inG11 rfl (by decide) k1265 wc_162 rfl ?_
    refine J_aload_n (i := 0) (j := 0) dX11_see_15 rfl rfl ?_
    refine J_get (C := RX11) (T := TX11) (Z := 43) (ci := 11) (f := 8) dX11_see_16 inG11 rfl (by decide) k1272 wc_162 rfl ?_
    refine J_bald dX11_see_19 wc_163 (vin (bd_lt_hi hp0 (i_nle c1) hp1) (by decide)) ?_
    refine J_topi (fun v2 qv2 => ?_)
    refine J_sipush (v := 255) dX11_see_20 (by decide) ?_
    refine J_iand dX11_see_23 ?_
    refine J_goto (tgt := 28) dX11_see_24 (by decide) ?_
    exact J_iret hq dX11_see_28 rfl wlen (Nat.le_refl _) (Nat.le_refl _) ⟨(congrArg (fun z => some (Value.int z)) (mse_1 (i_nle c1) qv2)), rfl⟩
