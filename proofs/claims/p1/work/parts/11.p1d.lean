theorem k458 : Cond.methodLink RX10 75 yX7_append ∈ gt := gt_in 458 (by decide +kernel) (by decide +kernel)
theorem k459 : Cond.instanceMethod yX7_append ∈ gt := gt_in 459 (by decide +kernel) (by decide +kernel)
theorem k460 : Cond.selects RX7 yX7_append yX7_append ∈ gt := gt_in 460 (by decide +kernel) (by decide +kernel)
theorem k461 : Cond.code yX7_append cX7_append 3 none ∈ gt := gt_in 461 (by decide +kernel) (by decide +kernel)
theorem np_X7_append : yX7_append.cls ≠ "java/lang/invoke/MethodHandle" ∧ yX7_append.cls ≠ "java/lang/invoke/VarHandle" ∧ (parseMethodDescriptor yX7_append.desc).map (fun d => d.parameters.length) = some 1 := by decide +kernel
theorem k1398 : Cond.methodLink RX11 82 yX11_four ∈ gt := gt_in 1398 (by decide +kernel) (by decide +kernel)
theorem k1400 : Cond.instanceMethod yX11_four ∈ gt := gt_in 1400 (by decide +kernel) (by decide +kernel)
theorem k36 : Cond.selects RX11 yX11_four yX11_four ∈ gt := gt_in 36 (by decide +kernel) (by decide +kernel)
theorem k1401 : Cond.code yX11_four cX11_four 3 none ∈ gt := gt_in 1401 (by decide +kernel) (by decide +kernel)
theorem np_X11_four : yX11_four.cls ≠ "java/lang/invoke/MethodHandle" ∧ yX11_four.cls ≠ "java/lang/invoke/VarHandle" ∧ (parseMethodDescriptor yX11_four.desc).map (fun d => d.parameters.length) = some 1 := by decide +kernel
theorem dX10_feed_0 : decode cX10_feed 0 = .ok (.aload_n 0, 1) := by decide +kernel
theorem dX10_feed_1 : decode cX10_feed 1 = .ok (.getfield 10, 3) := by decide +kernel
theorem dX10_feed_4 : decode cX10_feed 4 = .ok (.getfield 71, 3) := by decide +kernel
theorem dX10_feed_7 : decode cX10_feed 7 = .ok (.sipush 580, 3) := by decide +kernel
theorem dX10_feed_10 : decode cX10_feed 10 = .ok (.if_icmp .le 5, 3) := by decide +kernel
theorem dX10_feed_15 : decode cX10_feed 15 = .ok (.aload_n 0, 1) := by decide +kernel
theorem dX10_feed_16 : decode cX10_feed 16 = .ok (.getfield 10, 3) := by decide +kernel
theorem dX10_feed_19 : decode cX10_feed 19 = .ok (.iload_n 1, 1) := by decide +kernel
theorem dX10_feed_20 : decode cX10_feed 20 = .ok (.invokevirtual 75, 3) := by decide +kernel
theorem dX10_feed_23 : decode cX10_feed 23 = .ok (.aload_n 0, 1) := by decide +kernel
theorem dX10_feed_24 : decode cX10_feed 24 = .ok (.getfield 10, 3) := by decide +kernel
theorem dX10_feed_27 : decode cX10_feed 27 = .ok (.iload_n 2, 1) := by decide +kernel
theorem dX10_feed_28 : decode cX10_feed 28 = .ok (.invokevirtual 75, 3) := by decide +kernel
theorem dX10_feed_31 : decode cX10_feed 31 = .ok (.aload_n 0, 1) := by decide +kernel
theorem dX10_feed_32 : decode cX10_feed 32 = .ok (.getfield 10, 3) := by decide +kernel
theorem dX10_feed_35 : decode cX10_feed 35 = .ok (.iload_n 3, 1) := by decide +kernel
theorem dX10_feed_36 : decode cX10_feed 36 = .ok (.invokevirtual 75, 3) := by decide +kernel
theorem dX10_feed_39 : decode cX10_feed 39 = .ok (.aload_n 0, 1) := by decide +kernel
theorem dX10_feed_40 : decode cX10_feed 40 = .ok (.getfield 10, 3) := by decide +kernel
theorem dX10_feed_43 : decode cX10_feed 43 = .ok (.iload 4, 2) := by decide +kernel
theorem dX10_feed_45 : decode cX10_feed 45 = .ok (.invokevirtual 75, 3) := by decide +kernel
theorem dX10_feed_48 : decode cX10_feed 48 = .ok (.aload_n 0, 1) := by decide +kernel
theorem dX10_feed_49 : decode cX10_feed 49 = .ok (.getfield 10, 3) := by decide +kernel
theorem dX10_feed_52 : decode cX10_feed 52 = .ok (.iload 5, 2) := by decide +kernel
theorem dX10_feed_54 : decode cX10_feed 54 = .ok (.invokevirtual 75, 3) := by decide +kernel
theorem dX10_feed_57 : decode cX10_feed 57 = .ok (.aload_n 0, 1) := by decide +kernel
theorem dX10_feed_58 : decode cX10_feed 58 = .ok (.getfield 10, 3) := by decide +kernel
theorem dX10_feed_61 : decode cX10_feed 61 = .ok (.getfield 71, 3) := by decide +kernel
theorem dX10_feed_64 : decode cX10_feed 64 = .ok (.ireturn, 1) := by decide +kernel
theorem dX11_feed_0 : decode cX11_feed 0 = .ok (.aload_n 0, 1) := by decide +kernel
theorem dX11_feed_1 : decode cX11_feed 1 = .ok (.iconst 0, 1) := by decide +kernel
theorem dX11_feed_2 : decode cX11_feed 2 = .ok (.putfield 70, 3) := by decide +kernel
theorem dX11_feed_5 : decode cX11_feed 5 = .ok (.aload_n 0, 1) := by decide +kernel
theorem dX11_feed_6 : decode cX11_feed 6 = .ok (.getfield 13, 3) := by decide +kernel
theorem dX11_feed_9 : decode cX11_feed 9 = .ok (.iconst 0, 1) := by decide +kernel
theorem dX11_feed_10 : decode cX11_feed 10 = .ok (.iaload, 1) := by decide +kernel
theorem dX11_feed_11 : decode cX11_feed 11 = .ok (.bipush 20, 2) := by decide +kernel
theorem dX11_feed_13 : decode cX11_feed 13 = .ok (.iadd, 1) := by decide +kernel
theorem dX11_feed_14 : decode cX11_feed 14 = .ok (.sipush 600, 3) := by decide +kernel
theorem dX11_feed_17 : decode cX11_feed 17 = .ok (.if_icmp .le 5, 3) := by decide +kernel
theorem dX11_feed_22 : decode cX11_feed 22 = .ok (.aload_n 0, 1) := by decide +kernel
theorem dX11_feed_23 : decode cX11_feed 23 = .ok (.iload_n 1, 1) := by decide +kernel
theorem dX11_feed_24 : decode cX11_feed 24 = .ok (.invokevirtual 82, 3) := by decide +kernel
theorem dX11_feed_27 : decode cX11_feed 27 = .ok (.aload_n 0, 1) := by decide +kernel
theorem dX11_feed_28 : decode cX11_feed 28 = .ok (.iload_n 2, 1) := by decide +kernel
theorem dX11_feed_29 : decode cX11_feed 29 = .ok (.invokevirtual 82, 3) := by decide +kernel
theorem dX11_feed_32 : decode cX11_feed 32 = .ok (.aload_n 0, 1) := by decide +kernel
theorem dX11_feed_33 : decode cX11_feed 33 = .ok (.iload_n 3, 1) := by decide +kernel
theorem dX11_feed_34 : decode cX11_feed 34 = .ok (.invokevirtual 82, 3) := by decide +kernel
theorem dX11_feed_37 : decode cX11_feed 37 = .ok (.aload_n 0, 1) := by decide +kernel
theorem dX11_feed_38 : decode cX11_feed 38 = .ok (.iload 4, 2) := by decide +kernel
theorem dX11_feed_40 : decode cX11_feed 40 = .ok (.invokevirtual 82, 3) := by decide +kernel
theorem dX11_feed_43 : decode cX11_feed 43 = .ok (.aload_n 0, 1) := by decide +kernel
theorem dX11_feed_44 : decode cX11_feed 44 = .ok (.iload 5, 2) := by decide +kernel
theorem dX11_feed_46 : decode cX11_feed 46 = .ok (.invokevirtual 82, 3) := by decide +kernel
theorem dX11_feed_49 : decode cX11_feed 49 = .ok (.aload_n 0, 1) := by decide +kernel
theorem dX11_feed_50 : decode cX11_feed 50 = .ok (.getfield 13, 3) := by decide +kernel
theorem dX11_feed_53 : decode cX11_feed 53 = .ok (.iconst 0, 1) := by decide +kernel
theorem dX11_feed_54 : decode cX11_feed 54 = .ok (.iaload, 1) := by decide +kernel
theorem dX11_feed_55 : decode cX11_feed 55 = .ok (.ireturn, 1) := by decide +kernel
theorem dX11_four_0 : decode cX11_four 0 = .ok (.bipush 24, 2) := by decide +kernel
theorem dX11_four_2 : decode cX11_four 2 = .ok (.istore_n 2, 1) := by decide +kernel
theorem dX11_four_3 : decode cX11_four 3 = .ok (.iload_n 2, 1) := by decide +kernel
theorem dX11_four_4 : decode cX11_four 4 = .ok (.ifCond .lt 34, 3) := by decide +kernel
theorem dX11_four_7 : decode cX11_four 7 = .ok (.aload_n 0, 1) := by decide +kernel
theorem dX11_four_8 : decode cX11_four 8 = .ok (.getfield 7, 3) := by decide +kernel
theorem dX11_four_11 : decode cX11_four 11 = .ok (.aload_n 0, 1) := by decide +kernel
theorem dX11_four_12 : decode cX11_four 12 = .ok (.getfield 13, 3) := by decide +kernel
theorem dX11_four_15 : decode cX11_four 15 = .ok (.iconst 0, 1) := by decide +kernel
theorem dX11_four_16 : decode cX11_four 16 = .ok (.iaload, 1) := by decide +kernel
theorem dX11_four_17 : decode cX11_four 17 = .ok (.iload_n 1, 1) := by decide +kernel
theorem dX11_four_18 : decode cX11_four 18 = .ok (.iload_n 2, 1) := by decide +kernel
theorem dX11_four_19 : decode cX11_four 19 = .ok (.ishr, 1) := by decide +kernel
theorem dX11_four_20 : decode cX11_four 20 = .ok (.i2b, 1) := by decide +kernel
theorem dX11_four_21 : decode cX11_four 21 = .ok (.bastore, 1) := by decide +kernel
theorem dX11_four_22 : decode cX11_four 22 = .ok (.aload_n 0, 1) := by decide +kernel
theorem dX11_four_23 : decode cX11_four 23 = .ok (.getfield 13, 3) := by decide +kernel
theorem dX11_four_26 : decode cX11_four 26 = .ok (.iconst 0, 1) := by decide +kernel
theorem dX11_four_27 : decode cX11_four 27 = .ok (.dup2, 1) := by decide +kernel
theorem dX11_four_28 : decode cX11_four 28 = .ok (.iaload, 1) := by decide +kernel
theorem dX11_four_29 : decode cX11_four 29 = .ok (.iconst 1, 1) := by decide +kernel
theorem dX11_four_30 : decode cX11_four 30 = .ok (.iadd, 1) := by decide +kernel
theorem dX11_four_31 : decode cX11_four 31 = .ok (.iastore, 1) := by decide +kernel
theorem dX11_four_32 : decode cX11_four 32 = .ok (.iinc 2 (-8), 3) := by decide +kernel
theorem dX11_four_35 : decode cX11_four 35 = .ok (.goto (-32), 3) := by decide +kernel
theorem dX11_four_38 : decode cX11_four 38 = .ok (.return_, 1) := by decide +kernel
theorem dX7_append_0 : decode cX7_append 0 = .ok (.bipush 24, 2) := by decide +kernel
theorem dX7_append_2 : decode cX7_append 2 = .ok (.istore_n 2, 1) := by decide +kernel
theorem dX7_append_3 : decode cX7_append 3 = .ok (.iload_n 2, 1) := by decide +kernel
theorem dX7_append_4 : decode cX7_append 4 = .ok (.ifCond .lt 42, 3) := by decide +kernel
theorem dX7_append_7 : decode cX7_append 7 = .ok (.aload_n 0, 1) := by decide +kernel
theorem dX7_append_8 : decode cX7_append 8 = .ok (.getfield 15, 3) := by decide +kernel
theorem dX7_append_11 : decode cX7_append 11 = .ok (.sipush 600, 3) := by decide +kernel
theorem dX7_append_14 : decode cX7_append 14 = .ok (.if_icmp .ge 32, 3) := by decide +kernel
theorem dX7_append_17 : decode cX7_append 17 = .ok (.aload_n 0, 1) := by decide +kernel
theorem dX7_append_18 : decode cX7_append 18 = .ok (.getfield 9, 3) := by decide +kernel
theorem dX7_append_21 : decode cX7_append 21 = .ok (.aload_n 0, 1) := by decide +kernel
theorem dX7_append_22 : decode cX7_append 22 = .ok (.getfield 15, 3) := by decide +kernel
theorem dX7_append_25 : decode cX7_append 25 = .ok (.iload_n 1, 1) := by decide +kernel
theorem dX7_append_26 : decode cX7_append 26 = .ok (.iload_n 2, 1) := by decide +kernel
theorem dX7_append_27 : decode cX7_append 27 = .ok (.ishr, 1) := by decide +kernel
theorem dX7_append_28 : decode cX7_append 28 = .ok (.i2b, 1) := by decide +kernel
theorem dX7_append_29 : decode cX7_append 29 = .ok (.bastore, 1) := by decide +kernel
theorem dX7_append_30 : decode cX7_append 30 = .ok (.aload_n 0, 1) := by decide +kernel
theorem dX7_append_31 : decode cX7_append 31 = .ok (.dup, 1) := by decide +kernel
theorem dX7_append_32 : decode cX7_append 32 = .ok (.getfield 15, 3) := by decide +kernel
theorem dX7_append_35 : decode cX7_append 35 = .ok (.iconst 1, 1) := by decide +kernel
theorem dX7_append_36 : decode cX7_append 36 = .ok (.iadd, 1) := by decide +kernel
theorem dX7_append_37 : decode cX7_append 37 = .ok (.putfield 15, 3) := by decide +kernel
theorem dX7_append_40 : decode cX7_append 40 = .ok (.iinc 2 (-8), 3) := by decide +kernel
theorem dX7_append_43 : decode cX7_append 43 = .ok (.goto (-40), 3) := by decide +kernel
theorem dX7_append_46 : decode cX7_append 46 = .ok (.return_, 1) := by decide +kernel
set_option maxHeartbeats 4000000 in
set_option maxRecDepth 100000 in
theorem c_X7_append {d : Nat} {h : List MC} {n : Nat} {fl pl hc pc v : Int32} {f : Nat → Int32} (hd : 0 ≤ d) (h1 : h[1]? = some (.inr (7, [.ref 2, .int (nI (n)), .int fl, .int pl, .ref 3, .int hc, .ref 4, .int pc]))) (h2 : h[2]? = some (.inl (0, 600, .inl f))) (hn : n ≤ 596) : CT con0 d 0 0 yX7_append cX7_append 3 none [.ref 1, .int v] h (fun r h2 => r = none ∧ h2.length = h.length ∧ h2[1]? = some (.inr (7, [.ref 2, .int (nI (n + 4)), .int fl, .int pl, .ref 3, .int hc, .ref 4, .int pc])) ∧ (∃ g, h2[2]? = some (.inl (0, 600, .inl g))) ∧ ∀ j, j ≠ 1 → j ≠ 2 → h2[j]? = h[j]?) := by
  refine CT_of (by decide) (Nat.le_of_ble_eq_true rfl) (fun x hq => ?_)
  show J x yX7_append cX7_append 3 none d 0 0 h.length 0 [(0, .ref 1), (1, .int v)] [] h 0 0
  refine J_bipush (v := 24) dX7_append_0 (by decide) ?_
  refine J_istore_n (i := 2) (lw := [(2, .int 24), (0, .ref 1), (1, .int v)]) dX7_append_2 rfl (by decide) rfl ?_
  refine J_iload_n (i := 2) (j := 0) dX7_append_3 rfl rfl ?_
  refine J_if_lt (tgt := 46) dX7_append_4 (by decide) (fun q => absurd q (by decide)) (fun _ => ?_)
  refine J_aload_n (i := 0) (j := 1) dX7_append_7 rfl rfl ?_
  refine J_get (C := RX7) (T := TX7) (Z := 8) (ci := 7) (f := 1) dX7_append_8 inG7 rfl (by decide) k188 h1 rfl ?_
  refine J_sipush (v := 600) dX7_append_11 (by decide) ?_
  refine J_icmp_ge (tgt := 46) dX7_append_14 (by decide) (fun c1 => ?_) (fun c1 => ?_)
  · exact absurd ((nI_leI (a := 600) (by omega) (by omega)).mp c1) (by omega)
  · refine J_aload_n (i := 0) (j := 1) dX7_append_17 rfl rfl ?_
    refine J_get (C := RX7) (T := TX7) (Z := 8) (ci := 7) (f := 0) dX7_append_18 inG7 rfl (by decide) k186 h1 rfl ?_
    refine J_aload_n (i := 0) (j := 1) dX7_append_21 rfl rfl ?_
    refine J_get (C := RX7) (T := TX7) (Z := 8) (ci := 7) (f := 1) dX7_append_22 inG7 rfl (by decide) k188 h1 rfl ?_
    refine J_iload_n (i := 1) (j := 2) dX7_append_25 rfl rfl ?_
    refine J_iload_n (i := 2) (j := 0) dX7_append_26 rfl rfl ?_
    refine J_ishr dX7_append_27 ?_
    obtain ⟨v2, qv2⟩ : ∃ z : Int32, z = (v >>> (24 &&& 31)).toInt8.toInt32 := ⟨_, rfl⟩
    refine J_i2b dX7_append_28 qv2.symm ?_
    obtain ⟨h3, e4⟩ : ∃ z, z = h.set 2 (.inl (0, 600, .inl (upd f ((nI (n)).toNatClampNeg) (vp_nar .byte v2)))) := ⟨_, rfl⟩
    refine J_bast dX7_append_29 h2 (vp_in_nI (n := n) (by omega) (by omega)) e4.symm ?_
    have f5 := a_set e4 h2
    have l6 := l_set e4 rfl
    refine J_aload_n (i := 0) (j := 1) dX7_append_30 rfl rfl ?_
    refine J_dup dX7_append_31 rfl ?_
    have f7 : h3[1]? = some (.inr (7, [.ref 2, .int (nI (n)), .int fl, .int pl, .ref 3, .int hc, .ref 4, .int pc])) := (s_ne e4 (by decide)).trans h1
    refine J_get (C := RX7) (T := TX7) (Z := 8) (ci := 7) (f := 1) dX7_append_32 inG7 rfl (by decide) k188 f7 rfl ?_
    refine J_iconst (v := 1) dX7_append_35 (by decide) ?_
    refine J_iadd dX7_append_36 ?_
    refine J_ci (v := nI (n + 1)) (nI_add _ _) ?_
    obtain ⟨h8, e9⟩ : ∃ z, z = h3.set 1 (.inr (7, [.ref 2, .int (nI (n + 1)), .int fl, .int pl, .ref 3, .int hc, .ref 4, .int pc])) := ⟨_, rfl⟩
    refine J_put (C := RX7) (T := TX7) (Z := 8) (ci := 7) (f := 1) (ty0 := tyX7) dX7_append_37 inG7 rfl tyX7_ok nmX7 (by decide) k188 rfl rfl f7 (Nat.le_of_ble_eq_true rfl) (fun _ _ => ⟨rfl, rfl⟩) e9.symm ?_
    have f10 := a_set e9 f7
    have l11 := l_set e9 l6
    refine J_iinc (i := 2) (j := 0) (v := 16) (lw := [(2, .int 16), (0, .ref 1), (1, .int v)]) dX7_append_40 rfl (by decide) (by decide) rfl ?_
    refine J_goto (tgt := 3) dX7_append_43 (by decide) ?_
    refine J_iload_n (i := 2) (j := 0) dX7_append_3 rfl rfl ?_
    refine J_if_lt (tgt := 46) dX7_append_4 (by decide) (fun q => absurd q (by decide)) (fun _ => ?_)
    refine J_aload_n (i := 0) (j := 1) dX7_append_7 rfl rfl ?_
    refine J_get (C := RX7) (T := TX7) (Z := 8) (ci := 7) (f := 1) dX7_append_8 inG7 rfl (by decide) k188 f10 rfl ?_
    refine J_sipush (v := 600) dX7_append_11 (by decide) ?_
    refine J_icmp_ge (tgt := 46) dX7_append_14 (by decide) (fun c12 => ?_) (fun c12 => ?_)
    · exact absurd ((nI_leI (a := 600) (by omega) (by omega)).mp c12) (by omega)
    · refine J_aload_n (i := 0) (j := 1) dX7_append_17 rfl rfl ?_
      refine J_get (C := RX7) (T := TX7) (Z := 8) (ci := 7) (f := 0) dX7_append_18 inG7 rfl (by decide) k186 f10 rfl ?_
      refine J_aload_n (i := 0) (j := 1) dX7_append_21 rfl rfl ?_
      refine J_get (C := RX7) (T := TX7) (Z := 8) (ci := 7) (f := 1) dX7_append_22 inG7 rfl (by decide) k188 f10 rfl ?_
      refine J_iload_n (i := 1) (j := 2) dX7_append_25 rfl rfl ?_
      refine J_iload_n (i := 2) (j := 0) dX7_append_26 rfl rfl ?_
      refine J_ishr dX7_append_27 ?_
      obtain ⟨v13, qv13⟩ : ∃ z : Int32, z = (v >>> (16 &&& 31)).toInt8.toInt32 := ⟨_, rfl⟩
      refine J_i2b dX7_append_28 qv13.symm ?_
      have f14 : h8[2]? = some (.inl (0, 600, .inl (upd f ((nI (n)).toNatClampNeg) (vp_nar .byte v2)))) := (s_ne e9 (by decide)).trans f5
      obtain ⟨h15, e16⟩ : ∃ z, z = h8.set 2 (.inl (0, 600, .inl (upd (upd f ((nI (n)).toNatClampNeg) (vp_nar .byte v2)) ((nI (n + 1)).toNatClampNeg) (vp_nar .byte v13)))) := ⟨_, rfl⟩
      refine J_bast dX7_append_29 f14 (vp_in_nI (n := n + 1) (by omega) (by omega)) e16.symm ?_
      have f17 := a_set e16 f14
      have l18 := l_set e16 l11
      refine J_aload_n (i := 0) (j := 1) dX7_append_30 rfl rfl ?_
      refine J_dup dX7_append_31 rfl ?_
      have f19 : h15[1]? = some (.inr (7, [.ref 2, .int (nI (n + 1)), .int fl, .int pl, .ref 3, .int hc, .ref 4, .int pc])) := (s_ne e16 (by decide)).trans f10
      refine J_get (C := RX7) (T := TX7) (Z := 8) (ci := 7) (f := 1) dX7_append_32 inG7 rfl (by decide) k188 f19 rfl ?_
      refine J_iconst (v := 1) dX7_append_35 (by decide) ?_
      refine J_iadd dX7_append_36 ?_
      refine J_ci (v := nI (n + 1 + 1)) (nI_add _ _) ?_
      obtain ⟨h20, e21⟩ : ∃ z, z = h15.set 1 (.inr (7, [.ref 2, .int (nI (n + 1 + 1)), .int fl, .int pl, .ref 3, .int hc, .ref 4, .int pc])) := ⟨_, rfl⟩
      refine J_put (C := RX7) (T := TX7) (Z := 8) (ci := 7) (f := 1) (ty0 := tyX7) dX7_append_37 inG7 rfl tyX7_ok nmX7 (by decide) k188 rfl rfl f19 (Nat.le_of_ble_eq_true rfl) (fun _ _ => ⟨rfl, rfl⟩) e21.symm ?_
      have f22 := a_set e21 f19
      have l23 := l_set e21 l18
      refine J_iinc (i := 2) (j := 0) (v := 8) (lw := [(2, .int 8), (0, .ref 1), (1, .int v)]) dX7_append_40 rfl (by decide) (by decide) rfl ?_
      refine J_goto (tgt := 3) dX7_append_43 (by decide) ?_
      refine J_iload_n (i := 2) (j := 0) dX7_append_3 rfl rfl ?_
      refine J_if_lt (tgt := 46) dX7_append_4 (by decide) (fun q => absurd q (by decide)) (fun _ => ?_)
      refine J_aload_n (i := 0) (j := 1) dX7_append_7 rfl rfl ?_
      refine J_get (C := RX7) (T := TX7) (Z := 8) (ci := 7) (f := 1) dX7_append_8 inG7 rfl (by decide) k188 f22 rfl ?_
      refine J_sipush (v := 600) dX7_append_11 (by decide) ?_
      refine J_icmp_ge (tgt := 46) dX7_append_14 (by decide) (fun c24 => ?_) (fun c24 => ?_)
      · exact absurd ((nI_leI (a := 600) (by omega) (by omega)).mp c24) (by omega)
      · refine J_aload_n (i := 0) (j := 1) dX7_append_17 rfl rfl ?_
        refine J_get (C := RX7) (T := TX7) (Z := 8) (ci := 7) (f := 0) dX7_append_18 inG7 rfl (by decide) k186 f22 rfl ?_
        refine J_aload_n (i := 0) (j := 1) dX7_append_21 rfl rfl ?_
        refine J_get (C := RX7) (T := TX7) (Z := 8) (ci := 7) (f := 1) dX7_append_22 inG7 rfl (by decide) k188 f22 rfl ?_
        refine J_iload_n (i := 1) (j := 2) dX7_append_25 rfl rfl ?_
        refine J_iload_n (i := 2) (j := 0) dX7_append_26 rfl rfl ?_
        refine J_ishr dX7_append_27 ?_
        obtain ⟨v25, qv25⟩ : ∃ z : Int32, z = (v >>> (8 &&& 31)).toInt8.toInt32 := ⟨_, rfl⟩
        refine J_i2b dX7_append_28 qv25.symm ?_
        have f26 : h20[2]? = some (.inl (0, 600, .inl (upd (upd f ((nI (n)).toNatClampNeg) (vp_nar .byte v2)) ((nI (n + 1)).toNatClampNeg) (vp_nar .byte v13)))) := (s_ne e21 (by decide)).trans f17
        obtain ⟨h27, e28⟩ : ∃ z, z = h20.set 2 (.inl (0, 600, .inl (upd (upd (upd f ((nI (n)).toNatClampNeg) (vp_nar .byte v2)) ((nI (n + 1)).toNatClampNeg) (vp_nar .byte v13)) ((nI (n + 1 + 1)).toNatClampNeg) (vp_nar .byte v25)))) := ⟨_, rfl⟩
        refine J_bast dX7_append_29 f26 (vp_in_nI (n := n + 1 + 1) (by omega) (by omega)) e28.symm ?_
        have f29 := a_set e28 f26
        have l30 := l_set e28 l23
        refine J_aload_n (i := 0) (j := 1) dX7_append_30 rfl rfl ?_
        refine J_dup dX7_append_31 rfl ?_
        have f31 : h27[1]? = some (.inr (7, [.ref 2, .int (nI (n + 1 + 1)), .int fl, .int pl, .ref 3, .int hc, .ref 4, .int pc])) := (s_ne e28 (by decide)).trans f22
        refine J_get (C := RX7) (T := TX7) (Z := 8) (ci := 7) (f := 1) dX7_append_32 inG7 rfl (by decide) k188 f31 rfl ?_
        refine J_iconst (v := 1) dX7_append_35 (by decide) ?_
        refine J_iadd dX7_append_36 ?_
        refine J_ci (v := nI (n + 1 + 1 + 1)) (nI_add _ _) ?_
        obtain ⟨h32, e33⟩ : ∃ z, z = h27.set 1 (.inr (7, [.ref 2, .int (nI (n + 1 + 1 + 1)), .int fl, .int pl, .ref 3, .int hc, .ref 4, .int pc])) := ⟨_, rfl⟩
        refine J_put (C := RX7) (T := TX7) (Z := 8) (ci := 7) (f := 1) (ty0 := tyX7) dX7_append_37 inG7 rfl tyX7_ok nmX7 (by decide) k188 rfl rfl f31 (Nat.le_of_ble_eq_true rfl) (fun _ _ => ⟨rfl, rfl⟩) e33.symm ?_
        have f34 := a_set e33 f31
        have l35 := l_set e33 l30
        refine J_iinc (i := 2) (j := 0) (v := 0) (lw := [(2, .int 0), (0, .ref 1), (1, .int v)]) dX7_append_40 rfl (by decide) (by decide) rfl ?_
        refine J_goto (tgt := 3) dX7_append_43 (by decide) ?_
        refine J_iload_n (i := 2) (j := 0) dX7_append_3 rfl rfl ?_
        refine J_if_lt (tgt := 46) dX7_append_4 (by decide) (fun q => absurd q (by decide)) (fun _ => ?_)
        refine J_aload_n (i := 0) (j := 1) dX7_append_7 rfl rfl ?_
        refine J_get (C := RX7) (T := TX7) (Z := 8) (ci := 7) (f := 1) dX7_append_8 inG7 rfl (by decide) k188 f34 rfl ?_
        refine J_sipush (v := 600) dX7_append_11 (by decide) ?_
        refine J_icmp_ge (tgt := 46) dX7_append_14 (by decide) (fun c36 => ?_) (fun c36 => ?_)
        · exact absurd ((nI_leI (a := 600) (by omega) (by omega)).mp c36) (by omega)
        · refine J_aload_n (i := 0) (j := 1) dX7_append_17 rfl rfl ?_
          refine J_get (C := RX7) (T := TX7) (Z := 8) (ci := 7) (f := 0) dX7_append_18 inG7 rfl (by decide) k186 f34 rfl ?_
          refine J_aload_n (i := 0) (j := 1) dX7_append_21 rfl rfl ?_
          refine J_get (C := RX7) (T := TX7) (Z := 8) (ci := 7) (f := 1) dX7_append_22 inG7 rfl (by decide) k188 f34 rfl ?_
          refine J_iload_n (i := 1) (j := 2) dX7_append_25 rfl rfl ?_
          refine J_iload_n (i := 2) (j := 0) dX7_append_26 rfl rfl ?_
          refine J_ishr dX7_append_27 ?_
          obtain ⟨v37, qv37⟩ : ∃ z : Int32, z = (v >>> (0 &&& 31)).toInt8.toInt32 := ⟨_, rfl⟩
          refine J_i2b dX7_append_28 qv37.symm ?_
          have f38 : h32[2]? = some (.inl (0, 600, .inl (upd (upd (upd f ((nI (n)).toNatClampNeg) (vp_nar .byte v2)) ((nI (n + 1)).toNatClampNeg) (vp_nar .byte v13)) ((nI (n + 1 + 1)).toNatClampNeg) (vp_nar .byte v25)))) := (s_ne e33 (by decide)).trans f29
          obtain ⟨h39, e40⟩ : ∃ z, z = h32.set 2 (.inl (0, 600, .inl (upd (upd (upd (upd f ((nI (n)).toNatClampNeg) (vp_nar .byte v2)) ((nI (n + 1)).toNatClampNeg) (vp_nar .byte v13)) ((nI (n + 1 + 1)).toNatClampNeg) (vp_nar .byte v25)) ((nI (n + 1 + 1 + 1)).toNatClampNeg) (vp_nar .byte v37)))) := ⟨_, rfl⟩
          refine J_bast dX7_append_29 f38 (vp_in_nI (n := n + 1 + 1 + 1) (by omega) (by omega)) e40.symm ?_
          have f41 := a_set e40 f38
          have l42 := l_set e40 l35
          refine J_aload_n (i := 0) (j := 1) dX7_append_30 rfl rfl ?_
          refine J_dup dX7_append_31 rfl ?_
          have f43 : h39[1]? = some (.inr (7, [.ref 2, .int (nI (n + 1 + 1 + 1)), .int fl, .int pl, .ref 3, .int hc, .ref 4, .int pc])) := (s_ne e40 (by decide)).trans f34
          refine J_get (C := RX7) (T := TX7) (Z := 8) (ci := 7) (f := 1) dX7_append_32 inG7 rfl (by decide) k188 f43 rfl ?_
          refine J_iconst (v := 1) dX7_append_35 (by decide) ?_
          refine J_iadd dX7_append_36 ?_
          refine J_ci (v := nI (n + 1 + 1 + 1 + 1)) (nI_add _ _) ?_
          obtain ⟨h44, e45⟩ : ∃ z, z = h39.set 1 (.inr (7, [.ref 2, .int (nI (n + 1 + 1 + 1 + 1)), .int fl, .int pl, .ref 3, .int hc, .ref 4, .int pc])) := ⟨_, rfl⟩
          refine J_put (C := RX7) (T := TX7) (Z := 8) (ci := 7) (f := 1) (ty0 := tyX7) dX7_append_37 inG7 rfl tyX7_ok nmX7 (by decide) k188 rfl rfl f43 (Nat.le_of_ble_eq_true rfl) (fun _ _ => ⟨rfl, rfl⟩) e45.symm ?_
          have f46 := a_set e45 f43
          have l47 := l_set e45 l42
          refine J_iinc (i := 2) (j := 0) (v := (-8)) (lw := [(2, .int (-8)), (0, .ref 1), (1, .int v)]) dX7_append_40 rfl (by decide) (by decide) rfl ?_
          refine J_goto (tgt := 3) dX7_append_43 (by decide) ?_
          refine J_iload_n (i := 2) (j := 0) dX7_append_3 rfl rfl ?_
          refine J_if_lt (tgt := 46) dX7_append_4 (by decide) (fun _ => ?_) (fun q => absurd (by decide) q)
          have f48 : h44[2]? = some (.inl (0, 600, .inl (upd (upd (upd (upd f ((nI (n)).toNatClampNeg) (vp_nar .byte v2)) ((nI (n + 1)).toNatClampNeg) (vp_nar .byte v13)) ((nI (n + 1 + 1)).toNatClampNeg) (vp_nar .byte v25)) ((nI (n + 1 + 1 + 1)).toNatClampNeg) (vp_nar .byte v37)))) := (s_ne e45 (by decide)).trans f41
          exact J_vret hq dX7_append_46 rfl (hkz l47) (Nat.le_refl _) (Nat.le_refl _) ⟨rfl, l47, f46, ⟨_, f48⟩, fun j hj1 hj2 => ((((((((s_ne e45 hj1)).trans (s_ne e40 hj2)).trans (s_ne e33 hj1)).trans (s_ne e28 hj2)).trans (s_ne e21 hj1)).trans (s_ne e16 hj2)).trans (s_ne e9 hj1)).trans (s_ne e4 hj2)⟩
set_option maxHeartbeats 4000000 in
set_option maxRecDepth 100000 in
theorem c_X10_feed0 {d : Nat} {h : List MC} {a0 a1 a2 a3 a4 : Int32} (hd : 1 ≤ d) (h0 : h[0]? = some (.inr (10, [.ref 1, .ref 27, .ref 28, .ref 29, .ref 43, .ref 49, .ref 53, .ref 56, .ref 57, .ref 79]))) (h1 : h[1]? = some (.inr (7, [.ref 2, .int 0, .int 0, .int (-1), .ref 3, .int 0, .ref 4, .int 0]))) (h2 : h[2]? = some (.inl (0, 600, .inl (fun _ => 0))))  : CT con0 d 0 0 yX10_feed cX10_feed 6 (some .int) [.ref 0, .int a0, .int a1, .int a2, .int a3, .int a4] h (fun r h2 => r = some (.int 20) ∧ FX h h2) := by
  refine CT_of (by decide) (Nat.le_of_ble_eq_true rfl) (fun x hq => ?_)
  show J x yX10_feed cX10_feed 6 (some .int) d 0 0 h.length 0 [(0, .ref 0), (1, .int a0), (2, .int a1), (3, .int a2), (4, .int a3), (5, .int a4)] [] h 0 0
  refine J_aload_n (i := 0) (j := 0) dX10_feed_0 rfl rfl ?_
  refine J_get (C := RX10) (T := TX10) (Z := 10) (ci := 10) (f := 0) dX10_feed_1 inG10 rfl (by decide) k423 h0 rfl ?_
  refine J_getN (C := RX7) (T := TX7) (Z := 8) (ci := 7) (f := 1) dX10_feed_4 inG7 rfl (by decide) k189 h1 rfl ?_
  refine J_sipush (v := 580) dX10_feed_7 (by decide) ?_
  refine J_icmp_le (tgt := 15) dX10_feed_10 (by decide) (fun _ => ?_) (fun q => absurd (by decide) q)
  refine J_aload_n (i := 0) (j := 0) dX10_feed_15 rfl rfl ?_
  refine J_get (C := RX10) (T := TX10) (Z := 10) (ci := 10) (f := 0) dX10_feed_16 inG10 rfl (by decide) k423 h0 rfl ?_
  refine J_iload_n (i := 1) (j := 1) dX10_feed_19 rfl rfl ?_
  refine J_callV (As := [.int a0]) (rest := []) dX10_feed_20 (c_X7_append (d := 0) (h := h) (n := 0) (by decide) h1 h2 (by omega)) hq.n k458 k459 k460 h1 rfl rfl k88 k461 np_X7_append (Nat.le_trans (by decide) hd) (by decide) (Nat.le_refl _) (Nat.le_refl _) (hkz rfl) rfl (Nat.le_of_ble_eq_true rfl) (fun r1 h2 p3 => ?_)
  obtain ⟨rfl, l4, f5, ⟨g6, f7⟩, r8⟩ := p3
  have l9 := l4.trans rfl
  refine J_aload_n (i := 0) (j := 0) dX10_feed_23 rfl rfl ?_
  have f10 : h2[0]? = some (.inr (10, [.ref 1, .ref 27, .ref 28, .ref 29, .ref 43, .ref 49, .ref 53, .ref 56, .ref 57, .ref 79])) := (r8 0 (by decide) (by decide)).trans h0
  refine J_get (C := RX10) (T := TX10) (Z := 10) (ci := 10) (f := 0) dX10_feed_24 inG10 rfl (by decide) k423 f10 rfl ?_
  refine J_iload_n (i := 2) (j := 2) dX10_feed_27 rfl rfl ?_
  refine J_callV (As := [.int a1]) (rest := []) dX10_feed_28 (c_X7_append (d := 0) (h := h2) (n := 0 + 4) (by decide) f5 f7 (by omega)) hq.n k458 k459 k460 f5 rfl rfl k88 k461 np_X7_append (Nat.le_trans (by decide) hd) (by decide) (Nat.le_refl _) (Nat.le_refl _) (hkz l9) rfl (Nat.le_of_ble_eq_true rfl) (fun r11 h12 p13 => ?_)
  obtain ⟨rfl, l14, f15, ⟨g16, f17⟩, r18⟩ := p13
  have l19 := l14.trans l9
  refine J_aload_n (i := 0) (j := 0) dX10_feed_31 rfl rfl ?_
  have f20 : h12[0]? = some (.inr (10, [.ref 1, .ref 27, .ref 28, .ref 29, .ref 43, .ref 49, .ref 53, .ref 56, .ref 57, .ref 79])) := (r18 0 (by decide) (by decide)).trans f10
  refine J_get (C := RX10) (T := TX10) (Z := 10) (ci := 10) (f := 0) dX10_feed_32 inG10 rfl (by decide) k423 f20 rfl ?_
  refine J_iload_n (i := 3) (j := 3) dX10_feed_35 rfl rfl ?_
  refine J_callV (As := [.int a2]) (rest := []) dX10_feed_36 (c_X7_append (d := 0) (h := h12) (n := 0 + 4 + 4) (by decide) f15 f17 (by omega)) hq.n k458 k459 k460 f15 rfl rfl k88 k461 np_X7_append (Nat.le_trans (by decide) hd) (by decide) (Nat.le_refl _) (Nat.le_refl _) (hkz l19) rfl (Nat.le_of_ble_eq_true rfl) (fun r21 h22 p23 => ?_)
  obtain ⟨rfl, l24, f25, ⟨g26, f27⟩, r28⟩ := p23
  have l29 := l24.trans l19
  refine J_aload_n (i := 0) (j := 0) dX10_feed_39 rfl rfl ?_
  have f30 : h22[0]? = some (.inr (10, [.ref 1, .ref 27, .ref 28, .ref 29, .ref 43, .ref 49, .ref 53, .ref 56, .ref 57, .ref 79])) := (r28 0 (by decide) (by decide)).trans f20
  refine J_get (C := RX10) (T := TX10) (Z := 10) (ci := 10) (f := 0) dX10_feed_40 inG10 rfl (by decide) k423 f30 rfl ?_
  refine J_iload (i := 4) (j := 4) dX10_feed_43 rfl ?_
  refine J_callV (As := [.int a3]) (rest := []) dX10_feed_45 (c_X7_append (d := 0) (h := h22) (n := 0 + 4 + 4 + 4) (by decide) f25 f27 (by omega)) hq.n k458 k459 k460 f25 rfl rfl k88 k461 np_X7_append (Nat.le_trans (by decide) hd) (by decide) (Nat.le_refl _) (Nat.le_refl _) (hkz l29) rfl (Nat.le_of_ble_eq_true rfl) (fun r31 h32 p33 => ?_)
  obtain ⟨rfl, l34, f35, ⟨g36, f37⟩, r38⟩ := p33
  have l39 := l34.trans l29
  refine J_aload_n (i := 0) (j := 0) dX10_feed_48 rfl rfl ?_
  have f40 : h32[0]? = some (.inr (10, [.ref 1, .ref 27, .ref 28, .ref 29, .ref 43, .ref 49, .ref 53, .ref 56, .ref 57, .ref 79])) := (r38 0 (by decide) (by decide)).trans f30
  refine J_get (C := RX10) (T := TX10) (Z := 10) (ci := 10) (f := 0) dX10_feed_49 inG10 rfl (by decide) k423 f40 rfl ?_
  refine J_iload (i := 5) (j := 5) dX10_feed_52 rfl ?_
  refine J_callV (As := [.int a4]) (rest := []) dX10_feed_54 (c_X7_append (d := 0) (h := h32) (n := 0 + 4 + 4 + 4 + 4) (by decide) f35 f37 (by omega)) hq.n k458 k459 k460 f35 rfl rfl k88 k461 np_X7_append (Nat.le_trans (by decide) hd) (by decide) (Nat.le_refl _) (Nat.le_refl _) (hkz l39) rfl (Nat.le_of_ble_eq_true rfl) (fun r41 h42 p43 => ?_)
  obtain ⟨rfl, l44, f45, ⟨g46, f47⟩, r48⟩ := p43
  have l49 := l44.trans l39
  refine J_aload_n (i := 0) (j := 0) dX10_feed_57 rfl rfl ?_
  have f50 : h42[0]? = some (.inr (10, [.ref 1, .ref 27, .ref 28, .ref 29, .ref 43, .ref 49, .ref 53, .ref 56, .ref 57, .ref 79])) := (r48 0 (by decide) (by decide)).trans f40
  refine J_get (C := RX10) (T := TX10) (Z := 10) (ci := 10) (f := 0) dX10_feed_58 inG10 rfl (by decide) k423 f50 rfl ?_
  refine J_getN (C := RX7) (T := TX7) (Z := 8) (ci := 7) (f := 1) dX10_feed_61 inG7 rfl (by decide) k189 f45 rfl ?_
  refine J_ci (v := 20) (by decide) ?_
  exact J_iret hq dX10_feed_64 rfl (hkz l49) (Nat.le_refl _) (Nat.le_refl _) ⟨rfl, ⟨l49, fun j hj => (((((r48 j (by omega) (by omega))).trans (r38 j (by omega) (by omega))).trans (r28 j (by omega) (by omega))).trans (r18 j (by omega) (by omega))).trans (r8 j (by omega) (by omega))⟩⟩
set_option maxHeartbeats 4000000 in
set_option maxRecDepth 100000 in
theorem c_X11_four {d : Nat} {h : List MC} {n : Nat} {v : Int32} {f g : Nat → Int32} (hd : 0 ≤ d) (hm : h[162]? = some (.inr (11, [.int 0, .ref 163, .ref 164, .ref 165, .ref 166, .ref 167, .ref 168, .ref 169, .int 0, .int 0, .int 0, .int 0, .int 0, .long 0, .int 0, .int 0, .int 0, .int 0, .int 0, .ref 170, .ref 171, .ref 172, .int 0, .int 0, .int 0, .int 0, .int 0, .int 0, .ref 173, .ref 174, .ref 175, .int 0, .int 0, .int 0, .ref 176, .ref 177, .ref 178, .ref 179, .ref 180, .int 0, .long 0, .int 0, .ref 181]))) (h3 : h[163]? = some (.inl (0, 2400, .inl f))) (h4 : h[164]? = some (.inl (1, 4, .inl g))) (hg : g 0 = nI n) (hn : n ≤ 596) : CT con0 d 0 0 yX11_four cX11_four 3 none [.ref 162, .int v] h (fun r h2 => r = none ∧ h2.length = h.length ∧ (∃ f2, h2[163]? = some (.inl (0, 2400, .inl f2))) ∧ (∃ g2, h2[164]? = some (.inl (1, 4, .inl g2)) ∧ g2 0 = nI (n + 4)) ∧ ∀ j, j ≠ 163 → j ≠ 164 → h2[j]? = h[j]?) := by
  refine CT_of (by decide) (Nat.le_of_ble_eq_true rfl) (fun x hq => ?_)
  show J x yX11_four cX11_four 3 none d 0 0 h.length 0 [(0, .ref 162), (1, .int v)] [] h 0 0
  refine J_bipush (v := 24) dX11_four_0 (by decide) ?_
  refine J_istore_n (i := 2) (lw := [(2, .int 24), (0, .ref 162), (1, .int v)]) dX11_four_2 rfl (by decide) rfl ?_
  refine J_iload_n (i := 2) (j := 0) dX11_four_3 rfl rfl ?_
  refine J_if_lt (tgt := 38) dX11_four_4 (by decide) (fun q => absurd q (by decide)) (fun _ => ?_)
  refine J_aload_n (i := 0) (j := 1) dX11_four_7 rfl rfl ?_
  refine J_get (C := RX11) (T := TX11) (Z := 43) (ci := 11) (f := 1) dX11_four_8 inG11 rfl (by decide) k1265 hm rfl ?_
  refine J_aload_n (i := 0) (j := 1) dX11_four_11 rfl rfl ?_
  refine J_get (C := RX11) (T := TX11) (Z := 43) (ci := 11) (f := 2) dX11_four_12 inG11 rfl (by decide) k1266 hm rfl ?_
  refine J_iconst (v := 0) dX11_four_15 (by decide) ?_
  refine J_iald dX11_four_16 h4 (vp_c (by decide)) ?_
  refine J_ci (v := nI (n)) hg ?_
  refine J_iload_n (i := 1) (j := 2) dX11_four_17 rfl rfl ?_
  refine J_iload_n (i := 2) (j := 0) dX11_four_18 rfl rfl ?_
  refine J_ishr dX11_four_19 ?_
  obtain ⟨v1, qv1⟩ : ∃ z : Int32, z = (v >>> (24 &&& 31)).toInt8.toInt32 := ⟨_, rfl⟩
  refine J_i2b dX11_four_20 qv1.symm ?_
  obtain ⟨h2, e3⟩ : ∃ z, z = h.set 163 (.inl (0, 2400, .inl (upd f ((nI (n)).toNatClampNeg) (vp_nar .byte v1)))) := ⟨_, rfl⟩
  refine J_bast dX11_four_21 h3 (vp_in_nI (n := n) (by omega) (by omega)) e3.symm ?_
  have f4 := a_set e3 h3
  have l5 := l_set e3 rfl
  refine J_aload_n (i := 0) (j := 1) dX11_four_22 rfl rfl ?_
  have f6 : h2[162]? = some (.inr (11, [.int 0, .ref 163, .ref 164, .ref 165, .ref 166, .ref 167, .ref 168, .ref 169, .int 0, .int 0, .int 0, .int 0, .int 0, .long 0, .int 0, .int 0, .int 0, .int 0, .int 0, .ref 170, .ref 171, .ref 172, .int 0, .int 0, .int 0, .int 0, .int 0, .int 0, .ref 173, .ref 174, .ref 175, .int 0, .int 0, .int 0, .ref 176, .ref 177, .ref 178, .ref 179, .ref 180, .int 0, .long 0, .int 0, .ref 181])) := (s_ne e3 (by decide)).trans hm
  refine J_get (C := RX11) (T := TX11) (Z := 43) (ci := 11) (f := 2) dX11_four_23 inG11 rfl (by decide) k1266 f6 rfl ?_
  refine J_iconst (v := 0) dX11_four_26 (by decide) ?_
  refine J_dup2_11 dX11_four_27 rfl rfl ?_
  have f7 : h2[164]? = some (.inl (1, 4, .inl g)) := (s_ne e3 (by decide)).trans h4
  refine J_iald dX11_four_28 f7 (vp_c (by decide)) ?_
  refine J_ci (v := nI (n)) hg ?_
  refine J_iconst (v := 1) dX11_four_29 (by decide) ?_
  refine J_iadd dX11_four_30 ?_
  refine J_ci (v := nI (n + 1)) (nI_add _ _) ?_
  obtain ⟨h8, e9⟩ : ∃ z, z = h2.set 164 (.inl (1, 4, .inl (upd g ((0 : Int32).toNatClampNeg) (nI (n + 1))))) := ⟨_, rfl⟩
  refine J_iast dX11_four_31 f7 (vp_c (by decide)) e9.symm ?_
  have f10 := a_set e9 f7
  have l11 := l_set e9 l5
  have z12 : (upd g ((0 : Int32).toNatClampNeg) (nI (n + 1))) 0 = nI (n + 1) := rfl
  refine J_iinc (i := 2) (j := 0) (v := 16) (lw := [(2, .int 16), (0, .ref 162), (1, .int v)]) dX11_four_32 rfl (by decide) (by decide) rfl ?_
  refine J_goto (tgt := 3) dX11_four_35 (by decide) ?_
  refine J_iload_n (i := 2) (j := 0) dX11_four_3 rfl rfl ?_
  refine J_if_lt (tgt := 38) dX11_four_4 (by decide) (fun q => absurd q (by decide)) (fun _ => ?_)
  refine J_aload_n (i := 0) (j := 1) dX11_four_7 rfl rfl ?_
  have f13 : h8[162]? = some (.inr (11, [.int 0, .ref 163, .ref 164, .ref 165, .ref 166, .ref 167, .ref 168, .ref 169, .int 0, .int 0, .int 0, .int 0, .int 0, .long 0, .int 0, .int 0, .int 0, .int 0, .int 0, .ref 170, .ref 171, .ref 172, .int 0, .int 0, .int 0, .int 0, .int 0, .int 0, .ref 173, .ref 174, .ref 175, .int 0, .int 0, .int 0, .ref 176, .ref 177, .ref 178, .ref 179, .ref 180, .int 0, .long 0, .int 0, .ref 181])) := (s_ne e9 (by decide)).trans f6
  refine J_get (C := RX11) (T := TX11) (Z := 43) (ci := 11) (f := 1) dX11_four_8 inG11 rfl (by decide) k1265 f13 rfl ?_
  refine J_aload_n (i := 0) (j := 1) dX11_four_11 rfl rfl ?_
  refine J_get (C := RX11) (T := TX11) (Z := 43) (ci := 11) (f := 2) dX11_four_12 inG11 rfl (by decide) k1266 f13 rfl ?_
  refine J_iconst (v := 0) dX11_four_15 (by decide) ?_
  refine J_iald dX11_four_16 f10 (vp_c (by decide)) ?_
  refine J_ci (v := nI (n + 1)) z12 ?_
  refine J_iload_n (i := 1) (j := 2) dX11_four_17 rfl rfl ?_
  refine J_iload_n (i := 2) (j := 0) dX11_four_18 rfl rfl ?_
  refine J_ishr dX11_four_19 ?_
  obtain ⟨v14, qv14⟩ : ∃ z : Int32, z = (v >>> (16 &&& 31)).toInt8.toInt32 := ⟨_, rfl⟩
  refine J_i2b dX11_four_20 qv14.symm ?_
  have f15 : h8[163]? = some (.inl (0, 2400, .inl (upd f ((nI (n)).toNatClampNeg) (vp_nar .byte v1)))) := (s_ne e9 (by decide)).trans f4
  obtain ⟨h16, e17⟩ : ∃ z, z = h8.set 163 (.inl (0, 2400, .inl (upd (upd f ((nI (n)).toNatClampNeg) (vp_nar .byte v1)) ((nI (n + 1)).toNatClampNeg) (vp_nar .byte v14)))) := ⟨_, rfl⟩
  refine J_bast dX11_four_21 f15 (vp_in_nI (n := n + 1) (by omega) (by omega)) e17.symm ?_
  have f18 := a_set e17 f15
  have l19 := l_set e17 l11
  refine J_aload_n (i := 0) (j := 1) dX11_four_22 rfl rfl ?_
  have f20 : h16[162]? = some (.inr (11, [.int 0, .ref 163, .ref 164, .ref 165, .ref 166, .ref 167, .ref 168, .ref 169, .int 0, .int 0, .int 0, .int 0, .int 0, .long 0, .int 0, .int 0, .int 0, .int 0, .int 0, .ref 170, .ref 171, .ref 172, .int 0, .int 0, .int 0, .int 0, .int 0, .int 0, .ref 173, .ref 174, .ref 175, .int 0, .int 0, .int 0, .ref 176, .ref 177, .ref 178, .ref 179, .ref 180, .int 0, .long 0, .int 0, .ref 181])) := (s_ne e17 (by decide)).trans f13
  refine J_get (C := RX11) (T := TX11) (Z := 43) (ci := 11) (f := 2) dX11_four_23 inG11 rfl (by decide) k1266 f20 rfl ?_
  refine J_iconst (v := 0) dX11_four_26 (by decide) ?_
  refine J_dup2_11 dX11_four_27 rfl rfl ?_
  have f21 : h16[164]? = some (.inl (1, 4, .inl (upd g ((0 : Int32).toNatClampNeg) (nI (n + 1))))) := (s_ne e17 (by decide)).trans f10
  refine J_iald dX11_four_28 f21 (vp_c (by decide)) ?_
  refine J_ci (v := nI (n + 1)) z12 ?_
  refine J_iconst (v := 1) dX11_four_29 (by decide) ?_
  refine J_iadd dX11_four_30 ?_
  refine J_ci (v := nI (n + 1 + 1)) (nI_add _ _) ?_
  obtain ⟨h22, e23⟩ : ∃ z, z = h16.set 164 (.inl (1, 4, .inl (upd (upd g ((0 : Int32).toNatClampNeg) (nI (n + 1))) ((0 : Int32).toNatClampNeg) (nI (n + 1 + 1))))) := ⟨_, rfl⟩
  refine J_iast dX11_four_31 f21 (vp_c (by decide)) e23.symm ?_
  have f24 := a_set e23 f21
  have l25 := l_set e23 l19
  have z26 : (upd (upd g ((0 : Int32).toNatClampNeg) (nI (n + 1))) ((0 : Int32).toNatClampNeg) (nI (n + 1 + 1))) 0 = nI (n + 1 + 1) := rfl
  refine J_iinc (i := 2) (j := 0) (v := 8) (lw := [(2, .int 8), (0, .ref 162), (1, .int v)]) dX11_four_32 rfl (by decide) (by decide) rfl ?_
  refine J_goto (tgt := 3) dX11_four_35 (by decide) ?_
  refine J_iload_n (i := 2) (j := 0) dX11_four_3 rfl rfl ?_
  refine J_if_lt (tgt := 38) dX11_four_4 (by decide) (fun q => absurd q (by decide)) (fun _ => ?_)
  refine J_aload_n (i := 0) (j := 1) dX11_four_7 rfl rfl ?_
  have f27 : h22[162]? = some (.inr (11, [.int 0, .ref 163, .ref 164, .ref 165, .ref 166, .ref 167, .ref 168, .ref 169, .int 0, .int 0, .int 0, .int 0, .int 0, .long 0, .int 0, .int 0, .int 0, .int 0, .int 0, .ref 170, .ref 171, .ref 172, .int 0, .int 0, .int 0, .int 0, .int 0, .int 0, .ref 173, .ref 174, .ref 175, .int 0, .int 0, .int 0, .ref 176, .ref 177, .ref 178, .ref 179, .ref 180, .int 0, .long 0, .int 0, .ref 181])) := (s_ne e23 (by decide)).trans f20
  refine J_get (C := RX11) (T := TX11) (Z := 43) (ci := 11) (f := 1) dX11_four_8 inG11 rfl (by decide) k1265 f27 rfl ?_
  refine J_aload_n (i := 0) (j := 1) dX11_four_11 rfl rfl ?_
  refine J_get (C := RX11) (T := TX11) (Z := 43) (ci := 11) (f := 2) dX11_four_12 inG11 rfl (by decide) k1266 f27 rfl ?_
  refine J_iconst (v := 0) dX11_four_15 (by decide) ?_
  refine J_iald dX11_four_16 f24 (vp_c (by decide)) ?_
  refine J_ci (v := nI (n + 1 + 1)) z26 ?_
  refine J_iload_n (i := 1) (j := 2) dX11_four_17 rfl rfl ?_
  refine J_iload_n (i := 2) (j := 0) dX11_four_18 rfl rfl ?_
  refine J_ishr dX11_four_19 ?_
  obtain ⟨v28, qv28⟩ : ∃ z : Int32, z = (v >>> (8 &&& 31)).toInt8.toInt32 := ⟨_, rfl⟩
  refine J_i2b dX11_four_20 qv28.symm ?_
  have f29 : h22[163]? = some (.inl (0, 2400, .inl (upd (upd f ((nI (n)).toNatClampNeg) (vp_nar .byte v1)) ((nI (n + 1)).toNatClampNeg) (vp_nar .byte v14)))) := (s_ne e23 (by decide)).trans f18
  obtain ⟨h30, e31⟩ : ∃ z, z = h22.set 163 (.inl (0, 2400, .inl (upd (upd (upd f ((nI (n)).toNatClampNeg) (vp_nar .byte v1)) ((nI (n + 1)).toNatClampNeg) (vp_nar .byte v14)) ((nI (n + 1 + 1)).toNatClampNeg) (vp_nar .byte v28)))) := ⟨_, rfl⟩
  refine J_bast dX11_four_21 f29 (vp_in_nI (n := n + 1 + 1) (by omega) (by omega)) e31.symm ?_
  have f32 := a_set e31 f29
  have l33 := l_set e31 l25
  refine J_aload_n (i := 0) (j := 1) dX11_four_22 rfl rfl ?_
  have f34 : h30[162]? = some (.inr (11, [.int 0, .ref 163, .ref 164, .ref 165, .ref 166, .ref 167, .ref 168, .ref 169, .int 0, .int 0, .int 0, .int 0, .int 0, .long 0, .int 0, .int 0, .int 0, .int 0, .int 0, .ref 170, .ref 171, .ref 172, .int 0, .int 0, .int 0, .int 0, .int 0, .int 0, .ref 173, .ref 174, .ref 175, .int 0, .int 0, .int 0, .ref 176, .ref 177, .ref 178, .ref 179, .ref 180, .int 0, .long 0, .int 0, .ref 181])) := (s_ne e31 (by decide)).trans f27
  refine J_get (C := RX11) (T := TX11) (Z := 43) (ci := 11) (f := 2) dX11_four_23 inG11 rfl (by decide) k1266 f34 rfl ?_
  refine J_iconst (v := 0) dX11_four_26 (by decide) ?_
  refine J_dup2_11 dX11_four_27 rfl rfl ?_
  have f35 : h30[164]? = some (.inl (1, 4, .inl (upd (upd g ((0 : Int32).toNatClampNeg) (nI (n + 1))) ((0 : Int32).toNatClampNeg) (nI (n + 1 + 1))))) := (s_ne e31 (by decide)).trans f24
  refine J_iald dX11_four_28 f35 (vp_c (by decide)) ?_
  refine J_ci (v := nI (n + 1 + 1)) z26 ?_
  refine J_iconst (v := 1) dX11_four_29 (by decide) ?_
  refine J_iadd dX11_four_30 ?_
  refine J_ci (v := nI (n + 1 + 1 + 1)) (nI_add _ _) ?_
  obtain ⟨h36, e37⟩ : ∃ z, z = h30.set 164 (.inl (1, 4, .inl (upd (upd (upd g ((0 : Int32).toNatClampNeg) (nI (n + 1))) ((0 : Int32).toNatClampNeg) (nI (n + 1 + 1))) ((0 : Int32).toNatClampNeg) (nI (n + 1 + 1 + 1))))) := ⟨_, rfl⟩
  refine J_iast dX11_four_31 f35 (vp_c (by decide)) e37.symm ?_
  have f38 := a_set e37 f35
  have l39 := l_set e37 l33
  have z40 : (upd (upd (upd g ((0 : Int32).toNatClampNeg) (nI (n + 1))) ((0 : Int32).toNatClampNeg) (nI (n + 1 + 1))) ((0 : Int32).toNatClampNeg) (nI (n + 1 + 1 + 1))) 0 = nI (n + 1 + 1 + 1) := rfl
  refine J_iinc (i := 2) (j := 0) (v := 0) (lw := [(2, .int 0), (0, .ref 162), (1, .int v)]) dX11_four_32 rfl (by decide) (by decide) rfl ?_
  refine J_goto (tgt := 3) dX11_four_35 (by decide) ?_
  refine J_iload_n (i := 2) (j := 0) dX11_four_3 rfl rfl ?_
  refine J_if_lt (tgt := 38) dX11_four_4 (by decide) (fun q => absurd q (by decide)) (fun _ => ?_)
  refine J_aload_n (i := 0) (j := 1) dX11_four_7 rfl rfl ?_
  have f41 : h36[162]? = some (.inr (11, [.int 0, .ref 163, .ref 164, .ref 165, .ref 166, .ref 167, .ref 168, .ref 169, .int 0, .int 0, .int 0, .int 0, .int 0, .long 0, .int 0, .int 0, .int 0, .int 0, .int 0, .ref 170, .ref 171, .ref 172, .int 0, .int 0, .int 0, .int 0, .int 0, .int 0, .ref 173, .ref 174, .ref 175, .int 0, .int 0, .int 0, .ref 176, .ref 177, .ref 178, .ref 179, .ref 180, .int 0, .long 0, .int 0, .ref 181])) := (s_ne e37 (by decide)).trans f34
  refine J_get (C := RX11) (T := TX11) (Z := 43) (ci := 11) (f := 1) dX11_four_8 inG11 rfl (by decide) k1265 f41 rfl ?_
  refine J_aload_n (i := 0) (j := 1) dX11_four_11 rfl rfl ?_
  refine J_get (C := RX11) (T := TX11) (Z := 43) (ci := 11) (f := 2) dX11_four_12 inG11 rfl (by decide) k1266 f41 rfl ?_
  refine J_iconst (v := 0) dX11_four_15 (by decide) ?_
  refine J_iald dX11_four_16 f38 (vp_c (by decide)) ?_
  refine J_ci (v := nI (n + 1 + 1 + 1)) z40 ?_
  refine J_iload_n (i := 1) (j := 2) dX11_four_17 rfl rfl ?_
  refine J_iload_n (i := 2) (j := 0) dX11_four_18 rfl rfl ?_
  refine J_ishr dX11_four_19 ?_
  obtain ⟨v42, qv42⟩ : ∃ z : Int32, z = (v >>> (0 &&& 31)).toInt8.toInt32 := ⟨_, rfl⟩
  refine J_i2b dX11_four_20 qv42.symm ?_
  have f43 : h36[163]? = some (.inl (0, 2400, .inl (upd (upd (upd f ((nI (n)).toNatClampNeg) (vp_nar .byte v1)) ((nI (n + 1)).toNatClampNeg) (vp_nar .byte v14)) ((nI (n + 1 + 1)).toNatClampNeg) (vp_nar .byte v28)))) := (s_ne e37 (by decide)).trans f32
  obtain ⟨h44, e45⟩ : ∃ z, z = h36.set 163 (.inl (0, 2400, .inl (upd (upd (upd (upd f ((nI (n)).toNatClampNeg) (vp_nar .byte v1)) ((nI (n + 1)).toNatClampNeg) (vp_nar .byte v14)) ((nI (n + 1 + 1)).toNatClampNeg) (vp_nar .byte v28)) ((nI (n + 1 + 1 + 1)).toNatClampNeg) (vp_nar .byte v42)))) := ⟨_, rfl⟩
  refine J_bast dX11_four_21 f43 (vp_in_nI (n := n + 1 + 1 + 1) (by omega) (by omega)) e45.symm ?_
  have f46 := a_set e45 f43
  have l47 := l_set e45 l39
  refine J_aload_n (i := 0) (j := 1) dX11_four_22 rfl rfl ?_
  have f48 : h44[162]? = some (.inr (11, [.int 0, .ref 163, .ref 164, .ref 165, .ref 166, .ref 167, .ref 168, .ref 169, .int 0, .int 0, .int 0, .int 0, .int 0, .long 0, .int 0, .int 0, .int 0, .int 0, .int 0, .ref 170, .ref 171, .ref 172, .int 0, .int 0, .int 0, .int 0, .int 0, .int 0, .ref 173, .ref 174, .ref 175, .int 0, .int 0, .int 0, .ref 176, .ref 177, .ref 178, .ref 179, .ref 180, .int 0, .long 0, .int 0, .ref 181])) := (s_ne e45 (by decide)).trans f41
  refine J_get (C := RX11) (T := TX11) (Z := 43) (ci := 11) (f := 2) dX11_four_23 inG11 rfl (by decide) k1266 f48 rfl ?_
  refine J_iconst (v := 0) dX11_four_26 (by decide) ?_
  refine J_dup2_11 dX11_four_27 rfl rfl ?_
  have f49 : h44[164]? = some (.inl (1, 4, .inl (upd (upd (upd g ((0 : Int32).toNatClampNeg) (nI (n + 1))) ((0 : Int32).toNatClampNeg) (nI (n + 1 + 1))) ((0 : Int32).toNatClampNeg) (nI (n + 1 + 1 + 1))))) := (s_ne e45 (by decide)).trans f38
  refine J_iald dX11_four_28 f49 (vp_c (by decide)) ?_
  refine J_ci (v := nI (n + 1 + 1 + 1)) z40 ?_
  refine J_iconst (v := 1) dX11_four_29 (by decide) ?_
  refine J_iadd dX11_four_30 ?_
  refine J_ci (v := nI (n + 1 + 1 + 1 + 1)) (nI_add _ _) ?_
  obtain ⟨h50, e51⟩ : ∃ z, z = h44.set 164 (.inl (1, 4, .inl (upd (upd (upd (upd g ((0 : Int32).toNatClampNeg) (nI (n + 1))) ((0 : Int32).toNatClampNeg) (nI (n + 1 + 1))) ((0 : Int32).toNatClampNeg) (nI (n + 1 + 1 + 1))) ((0 : Int32).toNatClampNeg) (nI (n + 1 + 1 + 1 + 1))))) := ⟨_, rfl⟩
  refine J_iast dX11_four_31 f49 (vp_c (by decide)) e51.symm ?_
  have f52 := a_set e51 f49
  have l53 := l_set e51 l47
  have z54 : (upd (upd (upd (upd g ((0 : Int32).toNatClampNeg) (nI (n + 1))) ((0 : Int32).toNatClampNeg) (nI (n + 1 + 1))) ((0 : Int32).toNatClampNeg) (nI (n + 1 + 1 + 1))) ((0 : Int32).toNatClampNeg) (nI (n + 1 + 1 + 1 + 1))) 0 = nI (n + 1 + 1 + 1 + 1) := rfl
  refine J_iinc (i := 2) (j := 0) (v := (-8)) (lw := [(2, .int (-8)), (0, .ref 162), (1, .int v)]) dX11_four_32 rfl (by decide) (by decide) rfl ?_
  refine J_goto (tgt := 3) dX11_four_35 (by decide) ?_
  refine J_iload_n (i := 2) (j := 0) dX11_four_3 rfl rfl ?_
  refine J_if_lt (tgt := 38) dX11_four_4 (by decide) (fun _ => ?_) (fun q => absurd (by decide) q)
  have f55 : h50[163]? = some (.inl (0, 2400, .inl (upd (upd (upd (upd f ((nI (n)).toNatClampNeg) (vp_nar .byte v1)) ((nI (n + 1)).toNatClampNeg) (vp_nar .byte v14)) ((nI (n + 1 + 1)).toNatClampNeg) (vp_nar .byte v28)) ((nI (n + 1 + 1 + 1)).toNatClampNeg) (vp_nar .byte v42)))) := (s_ne e51 (by decide)).trans f46
  exact J_vret hq dX11_four_38 rfl (hkz l53) (Nat.le_refl _) (Nat.le_refl _) ⟨rfl, l53, ⟨_, f55⟩, ⟨_, f52, z54⟩, fun j hj1 hj2 => ((((((((s_ne e51 hj2)).trans (s_ne e45 hj1)).trans (s_ne e37 hj2)).trans (s_ne e31 hj1)).trans (s_ne e23 hj2)).trans (s_ne e17 hj1)).trans (s_ne e9 hj2)).trans (s_ne e3 hj1)⟩
set_option maxHeartbeats 4000000 in
set_option maxRecDepth 100000 in
theorem c_X11_feed0 {d : Nat} {h : List MC} {a0 a1 a2 a3 a4 : Int32} (hd : 1 ≤ d) (hm : h[162]? = some (.inr (11, [.int 0, .ref 163, .ref 164, .ref 165, .ref 166, .ref 167, .ref 168, .ref 169, .int 0, .int 0, .int 0, .int 0, .int 0, .long 0, .int 0, .int 0, .int 0, .int 0, .int 0, .ref 170, .ref 171, .ref 172, .int 0, .int 0, .int 0, .int 0, .int 0, .int 0, .ref 173, .ref 174, .ref 175, .int 0, .int 0, .int 0, .ref 176, .ref 177, .ref 178, .ref 179, .ref 180, .int 0, .long 0, .int 0, .ref 181]))) (hy : h[167]? = some (.inl (1, 8, .inl (fun _ => 0)))) (h3 : h[163]? = some (.inl (0, 2400, .inl (fun _ => 0)))) (h4 : h[164]? = some (.inl (1, 4, .inl (fun _ => 0))))  : CT con0 d 0 0 yX11_feed cX11_feed 6 (some .int) [.ref 162, .int a0, .int a1, .int a2, .int a3, .int a4] h (fun r h2 => r = some (.int 20)) := by
  refine CT_of (by decide) (Nat.le_of_ble_eq_true rfl) (fun x hq => ?_)
  show J x yX11_feed cX11_feed 6 (some .int) d 0 0 h.length 0 [(0, .ref 162), (1, .int a0), (2, .int a1), (3, .int a2), (4, .int a3), (5, .int a4)] [] h 0 0
  refine J_aload_n (i := 0) (j := 0) dX11_feed_0 rfl rfl ?_
  refine J_iconst (v := 0) dX11_feed_1 (by decide) ?_
  obtain ⟨h1, e2⟩ : ∃ z, z = h.set 162 (.inr (11, [.int 0, .ref 163, .ref 164, .ref 165, .ref 166, .ref 167, .ref 168, .ref 169, .int 0, .int 0, .int 0, .int 0, .int 0, .long 0, .int 0, .int 0, .int 0, .int 0, .int 0, .ref 170, .ref 171, .ref 172, .int 0, .int 0, .int 0, .int 0, .int 0, .int 0, .ref 173, .ref 174, .ref 175, .int 0, .int 0, .int 0, .ref 176, .ref 177, .ref 178, .ref 179, .ref 180, .int 0, .long 0, .int 0, .ref 181])) := ⟨_, rfl⟩
  refine J_put (C := RX11) (T := TX11) (Z := 43) (ci := 11) (f := 0) (ty0 := tyX11) dX11_feed_2 inG11 rfl tyX11_ok nmX11 (by decide) k1264 rfl rfl hm (Nat.le_of_ble_eq_true rfl) (fun _ _ => ⟨rfl, rfl⟩) e2.symm ?_
  have f3 := a_set e2 hm
  have l4 := l_set e2 rfl
  refine J_aload_n (i := 0) (j := 0) dX11_feed_5 rfl rfl ?_
  refine J_get (C := RX11) (T := TX11) (Z := 43) (ci := 11) (f := 2) dX11_feed_6 inG11 rfl (by decide) k1266 f3 rfl ?_
  refine J_iconst (v := 0) dX11_feed_9 (by decide) ?_
  have f5 : h1[164]? = some (.inl (1, 4, .inl (fun _ => 0))) := (s_ne e2 (by decide)).trans h4
  refine J_iald dX11_feed_10 f5 (vp_c (by decide)) ?_
  refine J_ci (v := 0) rfl ?_
  refine J_bipush (v := 20) dX11_feed_11 (by decide) ?_
  refine J_iadd dX11_feed_13 ?_
  refine J_ci (v := 20) (by decide) ?_
  refine J_sipush (v := 600) dX11_feed_14 (by decide) ?_
  refine J_icmp_le (tgt := 22) dX11_feed_17 (by decide) (fun _ => ?_) (fun q => absurd (by decide) q)
  refine J_aload_n (i := 0) (j := 0) dX11_feed_22 rfl rfl ?_
  refine J_iload_n (i := 1) (j := 1) dX11_feed_23 rfl rfl ?_
  have f6 : h1[163]? = some (.inl (0, 2400, .inl (fun _ => 0))) := (s_ne e2 (by decide)).trans h3
  refine J_callV (As := [.int a0]) (rest := []) dX11_feed_24 (c_X11_four (d := 0) (h := h1) (n := 0) (by decide) f3 f6 f5 rfl (by omega)) hq.n k1398 k1400 k36 f3 rfl rfl k97 k1401 np_X11_four (Nat.le_trans (by decide) hd) (by decide) (Nat.le_refl _) (Nat.le_refl _) (hkz l4) rfl (Nat.le_of_ble_eq_true rfl) (fun r7 h8 p9 => ?_)
  obtain ⟨rfl, l10, ⟨g11, f13⟩, ⟨g12, f14, z15⟩, r16⟩ := p9
  have l17 := l10.trans l4
  refine J_aload_n (i := 0) (j := 0) dX11_feed_27 rfl rfl ?_
  refine J_iload_n (i := 2) (j := 2) dX11_feed_28 rfl rfl ?_
  have f18 : h8[162]? = some (.inr (11, [.int 0, .ref 163, .ref 164, .ref 165, .ref 166, .ref 167, .ref 168, .ref 169, .int 0, .int 0, .int 0, .int 0, .int 0, .long 0, .int 0, .int 0, .int 0, .int 0, .int 0, .ref 170, .ref 171, .ref 172, .int 0, .int 0, .int 0, .int 0, .int 0, .int 0, .ref 173, .ref 174, .ref 175, .int 0, .int 0, .int 0, .ref 176, .ref 177, .ref 178, .ref 179, .ref 180, .int 0, .long 0, .int 0, .ref 181])) := (r16 162 (by decide) (by decide)).trans f3
  refine J_callV (As := [.int a1]) (rest := []) dX11_feed_29 (c_X11_four (d := 0) (h := h8) (n := 0 + 4) (by decide) f18 f13 f14 z15 (by omega)) hq.n k1398 k1400 k36 f18 rfl rfl k97 k1401 np_X11_four (Nat.le_trans (by decide) hd) (by decide) (Nat.le_refl _) (Nat.le_refl _) (hkz l17) rfl (Nat.le_of_ble_eq_true rfl) (fun r19 h20 p21 => ?_)
  obtain ⟨rfl, l22, ⟨g23, f25⟩, ⟨g24, f26, z27⟩, r28⟩ := p21
  have l29 := l22.trans l17
  refine J_aload_n (i := 0) (j := 0) dX11_feed_32 rfl rfl ?_
  refine J_iload_n (i := 3) (j := 3) dX11_feed_33 rfl rfl ?_
  have f30 : h20[162]? = some (.inr (11, [.int 0, .ref 163, .ref 164, .ref 165, .ref 166, .ref 167, .ref 168, .ref 169, .int 0, .int 0, .int 0, .int 0, .int 0, .long 0, .int 0, .int 0, .int 0, .int 0, .int 0, .ref 170, .ref 171, .ref 172, .int 0, .int 0, .int 0, .int 0, .int 0, .int 0, .ref 173, .ref 174, .ref 175, .int 0, .int 0, .int 0, .ref 176, .ref 177, .ref 178, .ref 179, .ref 180, .int 0, .long 0, .int 0, .ref 181])) := (r28 162 (by decide) (by decide)).trans f18
  refine J_callV (As := [.int a2]) (rest := []) dX11_feed_34 (c_X11_four (d := 0) (h := h20) (n := 0 + 4 + 4) (by decide) f30 f25 f26 z27 (by omega)) hq.n k1398 k1400 k36 f30 rfl rfl k97 k1401 np_X11_four (Nat.le_trans (by decide) hd) (by decide) (Nat.le_refl _) (Nat.le_refl _) (hkz l29) rfl (Nat.le_of_ble_eq_true rfl) (fun r31 h32 p33 => ?_)
  obtain ⟨rfl, l34, ⟨g35, f37⟩, ⟨g36, f38, z39⟩, r40⟩ := p33
  have l41 := l34.trans l29
  refine J_aload_n (i := 0) (j := 0) dX11_feed_37 rfl rfl ?_
  refine J_iload (i := 4) (j := 4) dX11_feed_38 rfl ?_
  have f42 : h32[162]? = some (.inr (11, [.int 0, .ref 163, .ref 164, .ref 165, .ref 166, .ref 167, .ref 168, .ref 169, .int 0, .int 0, .int 0, .int 0, .int 0, .long 0, .int 0, .int 0, .int 0, .int 0, .int 0, .ref 170, .ref 171, .ref 172, .int 0, .int 0, .int 0, .int 0, .int 0, .int 0, .ref 173, .ref 174, .ref 175, .int 0, .int 0, .int 0, .ref 176, .ref 177, .ref 178, .ref 179, .ref 180, .int 0, .long 0, .int 0, .ref 181])) := (r40 162 (by decide) (by decide)).trans f30
  refine J_callV (As := [.int a3]) (rest := []) dX11_feed_40 (c_X11_four (d := 0) (h := h32) (n := 0 + 4 + 4 + 4) (by decide) f42 f37 f38 z39 (by omega)) hq.n k1398 k1400 k36 f42 rfl rfl k97 k1401 np_X11_four (Nat.le_trans (by decide) hd) (by decide) (Nat.le_refl _) (Nat.le_refl _) (hkz l41) rfl (Nat.le_of_ble_eq_true rfl) (fun r43 h44 p45 => ?_)
  obtain ⟨rfl, l46, ⟨g47, f49⟩, ⟨g48, f50, z51⟩, r52⟩ := p45
  have l53 := l46.trans l41
  refine J_aload_n (i := 0) (j := 0) dX11_feed_43 rfl rfl ?_
  refine J_iload (i := 5) (j := 5) dX11_feed_44 rfl ?_
  have f54 : h44[162]? = some (.inr (11, [.int 0, .ref 163, .ref 164, .ref 165, .ref 166, .ref 167, .ref 168, .ref 169, .int 0, .int 0, .int 0, .int 0, .int 0, .long 0, .int 0, .int 0, .int 0, .int 0, .int 0, .ref 170, .ref 171, .ref 172, .int 0, .int 0, .int 0, .int 0, .int 0, .int 0, .ref 173, .ref 174, .ref 175, .int 0, .int 0, .int 0, .ref 176, .ref 177, .ref 178, .ref 179, .ref 180, .int 0, .long 0, .int 0, .ref 181])) := (r52 162 (by decide) (by decide)).trans f42
  refine J_callV (As := [.int a4]) (rest := []) dX11_feed_46 (c_X11_four (d := 0) (h := h44) (n := 0 + 4 + 4 + 4 + 4) (by decide) f54 f49 f50 z51 (by omega)) hq.n k1398 k1400 k36 f54 rfl rfl k97 k1401 np_X11_four (Nat.le_trans (by decide) hd) (by decide) (Nat.le_refl _) (Nat.le_refl _) (hkz l53) rfl (Nat.le_of_ble_eq_true rfl) (fun r55 h56 p57 => ?_)
  obtain ⟨rfl, l58, ⟨g59, f61⟩, ⟨g60, f62, z63⟩, r64⟩ := p57
  have l65 := l58.trans l53
  refine J_aload_n (i := 0) (j := 0) dX11_feed_49 rfl rfl ?_
  have f66 : h56[162]? = some (.inr (11, [.int 0, .ref 163, .ref 164, .ref 165, .ref 166, .ref 167, .ref 168, .ref 169, .int 0, .int 0, .int 0, .int 0, .int 0, .long 0, .int 0, .int 0, .int 0, .int 0, .int 0, .ref 170, .ref 171, .ref 172, .int 0, .int 0, .int 0, .int 0, .int 0, .int 0, .ref 173, .ref 174, .ref 175, .int 0, .int 0, .int 0, .ref 176, .ref 177, .ref 178, .ref 179, .ref 180, .int 0, .long 0, .int 0, .ref 181])) := (r64 162 (by decide) (by decide)).trans f54
  refine J_get (C := RX11) (T := TX11) (Z := 43) (ci := 11) (f := 2) dX11_feed_50 inG11 rfl (by decide) k1266 f66 rfl ?_
  refine J_iconst (v := 0) dX11_feed_53 (by decide) ?_
  refine J_iald dX11_feed_54 f62 (vp_c (by decide)) ?_
  refine J_ci (v := nI (0 + 4 + 4 + 4 + 4 + 4)) z63 ?_
  refine J_ci (v := 20) (by decide) ?_
  exact J_iret hq dX11_feed_55 rfl (hkz l65) (Nat.le_refl _) (Nat.le_refl _) rfl
