theorem k458 : Cond.methodLink RX10 75 yX7_append ∈ gt := gt_in 458 (by decide +kernel) (by decide +kernel)
theorem k459 : Cond.instanceMethod yX7_append ∈ gt := gt_in 459 (by decide +kernel) (by decide +kernel)
theorem k460 : Cond.selects RX7 yX7_append yX7_append ∈ gt := gt_in 460 (by decide +kernel) (by decide +kernel)
theorem k461 : Cond.code yX7_append cX7_append 3 none ∈ gt := gt_in 461 (by decide +kernel) (by decide +kernel)
theorem np_X7_append : yX7_append.cls ≠ "java/lang/invoke/MethodHandle" ∧ yX7_append.cls ≠ "java/lang/invoke/VarHandle" ∧ (parseMethodDescriptor yX7_append.desc).map (fun d => d.parameters.length) = some 1 := by decide +kernel
theorem k1398 : Cond.methodLink RX11 82 yX11_four ∈ gt := gt_in 1398 (by decide +kernel) (by decide +kernel)
theorem k1400 : Cond.instanceMethod yX11_four ∈ gt := gt_in 1400 (by decide +kernel) (by decide +kernel)
theorem k36 : Cond.selects RX11 yX11_four yX11_four ∈ gt := gt_in 36 (by decide +kernel) (by decide +kernel)
theorem k1401 : Cond.code yX11_four cX11_four 3 none ∈ gt := gt_in 1401 (by decide +kernel) (by decide +kernel)
theorem np_X11_four : yX11_four.cls ≠ "java/lang/invoke/MethodHandle" ∧ yX11_four.cls ≠ "java/lang/invoke/VarHandle" ∧ (parseMethodDescriptor yX11_four.desc).map (fun d => d.parameters.length) = some 1 := by decide +kernel
theorem dX10_feed_0 : decode cX10_feed 0 = .ok (.aload_n 0, 1) := by decide +kernel
theorem dX10_feed_1 : decode cX10_feed 1 = .ok (.getfield 10, 3) := by decide +kernel
theorem dX10_feed_4 : decode cX10_feed 4 = .ok (.getfield 71, 3) := by decide +kernel
theorem dX10_feed_7 : decode cX10_feed 7 = .ok (.sipush 580, 3) := by decide +kernel
theorem dX10_feed_10 : decode cX10_feed 10 = .ok (.if_icmp .le 5, 3) := by decide +kernel
theorem dX10_feed_15 : decode cX10_feed 15 = .ok (.aload_n 0, 1) := by decide +kernel
theorem dX10_feed_16 : decode cX10_feed 16 = .ok (.getfield 10, 3) := by decide +kernel
theorem dX10_feed_19 : decode cX10_feed 19 = .ok (.iload_n 1, 1) := by decide +kernel
theorem dX10_feed_20 : decode cX10_feed 20 = .ok (.invokevirtual 75, 3) := by decide +kernel
theorem dX10_feed_23 : decode cX10_feed 23 = .ok (.aload_n 0, 1) := by decide +kernel
theorem dX10_feed_24 : decode cX10_feed 24 = .ok (.getfield 10, 3) := by decide +kernel
theorem dX10_feed_27 : decode cX10_feed 27 = .ok (.iload_n 2, 1) := by decide +kernel
theorem dX10_feed_28 : decode cX10_feed 28 = .ok (.invokevirtual 75, 3) := by decide +kernel
theorem dX10_feed_31 : decode cX10_feed 31 = .ok (.aload_n 0, 1) := by decide +kernel
theorem dX10_feed_32 : decode cX10_feed 32 = .ok (.getfield 10, 3) := by decide +kernel
theorem dX10_feed_35 : decode cX10_feed 35 = .ok (.iload_n 3, 1) := by decide +kernel
theorem dX10_feed_36 : decode cX10_feed 36 = .ok (.invokevirtual 75, 3) := by decide +kernel
theorem dX10_feed_39 : decode cX10_feed 39 = .ok (.aload_n 0, 1) := by decide +kernel
theorem dX10_feed_40 : decode cX10_feed 40 = .ok (.getfield 10, 3) := by decide +kernel
theorem dX10_feed_43 : decode cX10_feed 43 = .ok (.iload 4, 2) := by decide +kernel
theorem dX10_feed_45 : decode cX10_feed 45 = .ok (.invokevirtual 75, 3) := by decide +kernel
theorem dX10_feed_48 : decode cX10_feed 48 = .ok (.aload_n 0, 1) := by decide +kernel
theorem dX10_feed_49 : decode cX10_feed 49 = .ok (.getfield 10, 3) := by decide +kernel
theorem dX10_feed_52 : decode cX10_feed 52 = .ok (.iload 5, 2) := by decide +kernel
theorem dX10_feed_54 : decode cX10_feed 54 = .ok (.invokevirtual 75, 3) := by decide +kernel
theorem dX10_feed_57 : decode cX10_feed 57 = .ok (.aload_n 0, 1) := by decide +kernel
theorem dX10_feed_58 : decode cX10_feed 58 = .ok (.getfield 10, 3) := by decide +kernel
theorem dX10_feed_61 : decode cX10_feed 61 = .ok (.getfield 71, 3) := by decide +kernel
theorem dX10_feed_64 : decode cX10_feed 64 = .ok (.ireturn, 1) := by decide +kernel
theorem dX11_feed_0 : decode cX11_feed 0 = .ok (.aload_n 0, 1) := by decide +kernel
theorem dX11_feed_1 : decode cX11_feed 1 = .ok (.iconst 0, 1) := by decide +kernel
theorem dX11_feed_2 : decode cX11_feed 2 = .ok (.putfield 70, 3) := by decide +kernel
theorem dX11_feed_5 : decode cX11_feed 5 = .ok (.aload_n 0, 1) := by decide +kernel
theorem dX11_feed_6 : decode cX11_feed 6 = .ok (.getfield 13, 3) := by decide +kernel
theorem dX11_feed_9 : decode cX11_feed 9 = .ok (.iconst 0, 1) := by decide +kernel
theorem dX11_feed_10 : decode cX11_feed 10 = .ok (.iaload, 1) := by decide +kernel
theorem dX11_feed_11 : decode cX11_feed 11 = .ok (.bipush 20, 2) := by decide +kernel
theorem dX11_feed_13 : decode cX11_feed 13 = .ok (.iadd, 1) := by decide +kernel
theorem dX11_feed_14 : decode cX11_feed 14 = .ok (.sipush 600, 3) := by decide +kernel
theorem dX11_feed_17 : decode cX11_feed 17 = .ok (.if_icmp .le 5, 3) := by decide +kernel
theorem dX11_feed_22 : decode cX11_feed 22 = .ok (.aload_n 0, 1) := by decide +kernel
theorem dX11_feed_23 : decode cX11_feed 23 = .ok (.iload_n 1, 1) := by decide +kernel
theorem dX11_feed_24 : decode cX11_feed 24 = .ok (.invokevirtual 82, 3) := by decide +kernel
theorem dX11_feed_27 : decode cX11_feed 27 = .ok (.aload_n 0, 1) := by decide +kernel
theorem dX11_feed_28 : decode cX11_feed 28 = .ok (.iload_n 2, 1) := by decide +kernel
theorem dX11_feed_29 : decode cX11_feed 29 = .ok (.invokevirtual 82, 3) := by decide +kernel
theorem dX11_feed_32 : decode cX11_feed 32 = .ok (.aload_n 0, 1) := by decide +kernel
theorem dX11_feed_33 : decode cX11_feed 33 = .ok (.iload_n 3, 1) := by decide +kernel
theorem dX11_feed_34 : decode cX11_feed 34 = .ok (.invokevirtual 82, 3) := by decide +kernel
theorem dX11_feed_37 : decode cX11_feed 37 = .ok (.aload_n 0, 1) := by decide +kernel
theorem dX11_feed_38 : decode cX11_feed 38 = .ok (.iload 4, 2) := by decide +kernel
theorem dX11_feed_40 : decode cX11_feed 40 = .ok (.invokevirtual 82, 3) := by decide +kernel
theorem dX11_feed_43 : decode cX11_feed 43 = .ok (.aload_n 0, 1) := by decide +kernel
theorem dX11_feed_44 : decode cX11_feed 44 = .ok (.iload 5, 2) := by decide +kernel
theorem dX11_feed_46 : decode cX11_feed 46 = .ok (.invokevirtual 82, 3) := by decide +kernel
theorem dX11_feed_49 : decode cX11_feed 49 = .ok (.aload_n 0, 1) := by decide +kernel
theorem dX11_feed_50 : decode cX11_feed 50 = .ok (.getfield 13, 3) := by decide +kernel
theorem dX11_feed_53 : decode cX11_feed 53 = .ok (.iconst 0, 1) := by decide +kernel
theorem dX11_feed_54 : decode cX11_feed 54 = .ok (.iaload, 1) := by decide +kernel
theorem dX11_feed_55 : decode cX11_feed 55 = .ok (.ireturn, 1) := by decide +kernel
theorem dX11_four_0 : decode cX11_four 0 = .ok (.bipush 24, 2) := by decide +kernel
theorem dX11_four_2 : decode cX11_four 2 = .ok (.istore_n 2, 1) := by decide +kernel
theorem dX11_four_3 : decode cX11_four 3 = .ok (.iload_n 2, 1) := by decide +kernel
theorem dX11_four_4 : decode cX11_four 4 = .ok (.ifCond .lt 34, 3) := by decide +kernel
theorem dX11_four_7 : decode cX11_four 7 = .ok (.aload_n 0, 1) := by decide +kernel
theorem dX11_four_8 : decode cX11_four 8 = .ok (.getfield 7, 3) := by decide +kernel
theorem dX11_four_11 : decode cX11_four 11 = .ok (.aload_n 0, 1) := by decide +kernel
theorem dX11_four_12 : decode cX11_four 12 = .ok (.getfield 13, 3) := by decide +kernel
theorem dX11_four_15 : decode cX11_four 15 = .ok (.iconst 0, 1) := by decide +kernel
theorem dX11_four_16 : decode cX11_four 16 = .ok (.iaload, 1) := by decide +kernel
theorem dX11_four_17 : decode cX11_four 17 = .ok (.iload_n 1, 1) := by decide +kernel
theorem dX11_four_18 : decode cX11_four 18 = .ok (.iload_n 2, 1) := by decide +kernel
theorem dX11_four_19 : decode cX11_four 19 = .ok (.ishr, 1) := by decide +kernel
theorem dX11_four_20 : decode cX11_four 20 = .ok (.i2b, 1) := by decide +kernel
theorem dX11_four_21 : decode cX11_four 21 = .ok (.bastore, 1) := by decide +kernel
theorem dX11_four_22 : decode cX11_four 22 = .ok (.aload_n 0, 1) := by decide +kernel
theorem dX11_four_23 : decode cX11_four 23 = .ok (.getfield 13, 3) := by decide +kernel
theorem dX11_four_26 : decode cX11_four 26 = .ok (.iconst 0, 1) := by decide +kernel
theorem dX11_four_27 : decode cX11_four 27 = .ok (.dup2, 1) := by decide +kernel
theorem dX11_four_28 : decode cX11_four 28 = .ok (.iaload, 1) := by decide +kernel
theorem dX11_four_29 : decode cX11_four 29 = .ok (.iconst 1, 1) := by decide +kernel
theorem dX11_four_30 : decode cX11_four 30 = .ok (.iadd, 1) := by decide +kernel
theorem dX11_four_31 : decode cX11_four 31 = .ok (.iastore, 1) := by decide +kernel
theorem dX11_four_32 : decode cX11_four 32 = .ok (.iinc 2 (-8), 3) := by decide +kernel
theorem dX11_four_35 : decode cX11_four 35 = .ok (.goto (-32), 3) := by decide +kernel
theorem dX11_four_38 : decode cX11_four 38 = .ok (.return_, 1) := by decide +kernel
theorem dX7_append_0 : decode cX7_append 0 = .ok (.bipush 24, 2) := by decide +kernel
theorem dX7_append_2 : decode cX7_append 2 = .ok (.istore_n 2, 1) := by decide +kernel
theorem dX7_append_3 : decode cX7_append 3 = .ok (.iload_n 2, 1) := by decide +kernel
theorem dX7_append_4 : decode cX7_append 4 = .ok (.ifCond .lt 42, 3) := by decide +kernel
theorem dX7_append_7 : decode cX7_append 7 = .ok (.aload_n 0, 1) := by decide +kernel
theorem dX7_append_8 : decode cX7_append 8 = .ok (.getfield 15, 3) := by decide +kernel
theorem dX7_append_11 : decode cX7_append 11 = .ok (.sipush 600, 3) := by decide +kernel
theorem dX7_append_14 : decode cX7_append 14 = .ok (.if_icmp .ge 32, 3) := by decide +kernel
theorem dX7_append_17 : decode cX7_append 17 = .ok (.aload_n 0, 1) := by decide +kernel
theorem dX7_append_18 : decode cX7_append 18 = .ok (.getfield 9, 3) := by decide +kernel
theorem dX7_append_21 : decode cX7_append 21 = .ok (.aload_n 0, 1) := by decide +kernel
theorem dX7_append_22 : decode cX7_append 22 = .ok (.getfield 15, 3) := by decide +kernel
theorem dX7_append_25 : decode cX7_append 25 = .ok (.iload_n 1, 1) := by decide +kernel
theorem dX7_append_26 : decode cX7_append 26 = .ok (.iload_n 2, 1) := by decide +kernel
theorem dX7_append_27 : decode cX7_append 27 = .ok (.ishr, 1) := by decide +kernel
theorem dX7_append_28 : decode cX7_append 28 = .ok (.i2b, 1) := by decide +kernel
theorem dX7_append_29 : decode cX7_append 29 = .ok (.bastore, 1) := by decide +kernel
theorem dX7_append_30 : decode cX7_append 30 = .ok (.aload_n 0, 1) := by decide +kernel
theorem dX7_append_31 : decode cX7_append 31 = .ok (.dup, 1) := by decide +kernel
theorem dX7_append_32 : decode cX7_append 32 = .ok (.getfield 15, 3) := by decide +kernel
theorem dX7_append_35 : decode cX7_append 35 = .ok (.iconst 1, 1) := by decide +kernel
theorem dX7_append_36 : decode cX7_append 36 = .ok (.iadd, 1) := by decide +kernel
theorem dX7_append_37 : decode cX7_append 37 = .ok (.putfield 15, 3) := by decide +kernel
theorem dX7_append_40 : decode cX7_append 40 = .ok (.iinc 2 (-8), 3) := by decide +kernel
theorem dX7_append_43 : decode cX7_append 43 = .ok (.goto (-40), 3) := by decide +kernel
theorem dX7_append_46 : decode cX7_append 46 = .ok (.return_, 1) := by decide +kernel
set_option maxHeartbeats 4000000 in
set_option maxRecDepth 100000 in
theorem c_X7_append {d : Nat} {h : List MC} {n : Nat} {fl pl hc pc v : Int32} {f : Nat → Int32} (hd : 0 ≤ d) (h1 : h[1]? = some (.inr (7, [.ref 2, .int (nI (n)), .int fl, .int pl, .ref 3, .int hc, .ref 4, .int pc]))) (h2 : h[2]? = some (.inl (0, 600, .inl f))) (hn : n ≤ 596) : CT con0 d 0 0 yX7_append cX7_append 3 none [.ref 1, .int v] h (fun r h2 => r = none ∧ h2.length = h.length ∧ h2[1]? = some (.inr (7, [.ref 2, .int (nI (n + 4)), .int fl, .int pl, .ref 3, .int hc, .ref 4, .int pc])) ∧ (∃ g, h2[2]? = some (.inl (0, 600, .inl g))) ∧ ∀ j, j ≠ 1 → j ≠ 2 → h2[j]? = h[j]?) := by
  refine CT_of (by decide) (Nat.le_of_ble_eq_true rfl) (fun x hq => ?_)
  show J x yX7_append cX7_append 3 none d 0 0 h.length 0 [(0, .ref 1), (1, .int v)] [] h 0 0
  refine J_bipush (v := 24) dX7_append_0 (by decide) ?_
  refine J_istore_n (i := 2) (lw := [(2, .int 24), (0, .ref 1), (1, .int v)]) dX7_append_2 rfl (by decide) rfl ?_
  refine J_iload_n (i := 2) (j := 0) dX7_append_3 rfl rfl ?_
  refine J_if_lt (tgt := 46) dX7_append_4 (by decide) (fun q => absurd q (by decide)) (fun _ => ?_)
  refine J_aload_n (i := 0) (j := 1) dX7_append_7 rfl rfl ?_
  refine J_get (C := RX7) (T := TX7) (Z := 8) (ci := 7) (f := 1) dX7_append_8 inG7 rfl (by decide) k188 h1 rfl ?_
  refine J_sipush (v := 600) dX7_append_11 (by decide) ?_
  refine J_icmp_ge (tgt := 46) dX7_append_14 (by decide) (fun c_1 => ?_) (fun c_1 => ?_)
  · exact absurd ((nI_leI (a := 600) (by omega) (by omega)).mp c_1) (by omega)
  · refine J_aload_n (i := 0) (j := 1) dX7_append_17 rfl rfl ?_
    refine J_get (C := RX7) (T := TX7) (Z := 8) (ci := 7) (f := 0) dX7_append_18 inG7 rfl (by decide) k186 h1 rfl ?_
    refine J_aload_n (i := 0) (j := 1) dX7_append_21 rfl rfl ?_
    refine J_get (C := RX7) (T := TX7) (Z := 8) (ci := 7) (f := 1) dX7_append_22 inG7 rfl (by decide) k188 h1 rfl ?_
    refine J_iload_n (i := 1) (j := 2) dX7_append_25 rfl rfl ?_
    refine J_iload_n (i := 2) (j := 0) dX7_append_26 rfl rfl ?_
    refine J_ishr dX7_append_27 ?_
    obtain ⟨v_2, qv_2⟩ : ∃ z : Int32, z = (v >>> (24 &&& 31)).toInt8.toInt32 := ⟨_, rfl⟩
    refine J_i2b dX7_append_28 qv_2.symm ?_
    obtain ⟨h_3, e_4⟩ : ∃ z, z = h.set 2 (.inl (0, 600, .inl (upd f ((nI (n)).toNatClampNeg) (vp_nar .byte v_2)))) := ⟨_, rfl⟩
    refine J_bast dX7_append_29 h2 (vp_in_nI (n := n) (by omega) (by omega)) e_4.symm ?_
    have f_5 := a_set e_4 h2
    have l_6 := l_set e_4 rfl
    refine J_aload_n (i := 0) (j := 1) dX7_append_30 rfl rfl ?_
    refine J_dup dX7_append_31 rfl ?_
    have f_7 : h_3[1]? = some (.inr (7, [.ref 2, .int (nI (n)), .int fl, .int pl, .ref 3, .int hc, .ref 4, .int pc])) := (s_ne e_4 (by decide)).trans h1
    refine J_get (C := RX7) (T := TX7) (Z := 8) (ci := 7) (f := 1) dX7_append_32 inG7 rfl (by decide) k188 f_7 rfl ?_
    refine J_iconst (v := 1) dX7_append_35 (by decide) ?_
    refine J_iadd dX7_append_36 ?_
    refine J_ci (v := nI (n + 1)) (nI_add _ _) ?_
    obtain ⟨h_8, e_9⟩ : ∃ z, z = h_3.set 1 (.inr (7, [.ref 2, .int (nI (n + 1)), .int fl, .int pl, .ref 3, .int hc, .ref 4, .int pc])) := ⟨_, rfl⟩
    refine J_put (C := RX7) (T := TX7) (Z := 8) (ci := 7) (f := 1) (ty0 := tyX7) dX7_append_37 inG7 rfl tyX7_ok nmX7 (by decide) k188 rfl rfl f_7 (Nat.le_of_ble_eq_true rfl) (fun _ _ => ⟨rfl, rfl⟩) e_9.symm ?_
    have f_10 := a_set e_9 f_7
    have l_11 := l_set e_9 l_6
    refine J_iinc (i := 2) (j := 0) (v := 16) (lw := [(2, .int 16), (0, .ref 1), (1, .int v)]) dX7_append_40 rfl (by decide) (by decide) rfl ?_
    refine J_goto (tgt := 3) dX7_append_43 (by decide) ?_
    refine J_iload_n (i := 2) (j := 0) dX7_append_3 rfl rfl ?_
    refine J_if_lt (tgt := 46) dX7_append_4 (by decide) (fun q => absurd q (by decide)) (fun _ => ?_)
    refine J_aload_n (i := 0) (j := 1) dX7_append_7 rfl rfl ?_
    refine J_get (C := RX7) (T := TX7) (Z := 8) (ci := 7) (f := 1) dX7_append_8 inG7 rfl (by decide) k188 f_10 rfl ?_
    refine J_sipush (v := 600) dX7_append_11 (by decide) ?_
    refine J_icmp_ge (tgt := 46) dX7_append_14 (by decide) (fun c_12 => ?_) (fun c_12 => ?_)
    · exact absurd ((nI_leI (a := 600) (by omega) (by omega)).mp c_12) (by omega)
    · refine J_aload_n (i := 0) (j := 1) dX7_append_17 rfl rfl ?_
      refine J_get (C := RX7) (T := TX7) (Z := 8) (ci := 7) (f := 0) dX7_append_18 inG7 rfl (by decide) k186 f_10 rfl ?_
      refine J_aload_n (i := 0) (j := 1) dX7_append_21 rfl rfl ?_
      refine J_get (C := RX7) (T := TX7) (Z := 8) (ci := 7) (f := 1) dX7_append_22 inG7 rfl (by decide) k188 f_10 rfl ?_
      refine J_iload_n (i := 1) (j := 2) dX7_append_25 rfl rfl ?_
      refine J_iload_n (i := 2) (j := 0) dX7_append_26 rfl rfl ?_
      refine J_ishr dX7_append_27 ?_
      obtain ⟨v_13, qv_13⟩ : ∃ z : Int32, z = (v >>> (16 &&& 31)).toInt8.toInt32 := ⟨_, rfl⟩
      refine J_i2b dX7_append_28 qv_13.symm ?_
      have f_14 : h_8[2]? = some (.inl (0, 600, .inl (upd f ((nI (n)).toNatClampNeg) (vp_nar .byte v_2)))) := (s_ne e_9 (by decide)).trans f_5
      obtain ⟨h_15, e_16⟩ : ∃ z, z = h_8.set 2 (.inl (0, 600, .inl (upd (upd f ((nI (n)).toNatClampNeg) (vp_nar .byte v_2)) ((nI (n + 1)).toNatClampNeg) (vp_nar .byte v_13)))) := ⟨_, rfl⟩
      refine J_bast dX7_append_29 f_14 (vp_in_nI (n := n + 1) (by omega) (by omega)) e_16.symm ?_
      have f_17 := a_set e_16 f_14
      have l_18 := l_set e_16 l_11
      refine J_aload_n (i := 0) (j := 1) dX7_append_30 rfl rfl ?_
      refine J_dup dX7_append_31 rfl ?_
      have f_19 : h_15[1]? = some (.inr (7, [.ref 2, .int (nI (n + 1)), .int fl, .int pl, .ref 3, .int hc, .ref 4, .int pc])) := (s_ne e_16 (by decide)).trans f_10
      refine J_get (C := RX7) (T := TX7) (Z := 8) (ci := 7) (f := 1) dX7_append_32 inG7 rfl (by decide) k188 f_19 rfl ?_
      refine J_iconst (v := 1) dX7_append_35 (by decide) ?_
      refine J_iadd dX7_append_36 ?_
      refine J_ci (v := nI (n + 1 + 1)) (nI_add _ _) ?_
      obtain ⟨h_20, e_21⟩ : ∃ z, z = h_15.set 1 (.inr (7, [.ref 2, .int (nI (n + 1 + 1)), .int fl, .int pl, .ref 3, .int hc, .ref 4, .int pc])) := ⟨_, rfl⟩
      refine J_put (C := RX7) (T := TX7) (Z := 8) (ci := 7) (f := 1) (ty0 := tyX7) dX7_append_37 inG7 rfl tyX7_ok nmX7 (by decide) k188 rfl rfl f_19 (Nat.le_of_ble_eq_true rfl) (fun _ _ => ⟨rfl, rfl⟩) e_21.symm ?_
      have f_22 := a_set e_21 f_19
      have l_23 := l_set e_21 l_18
      refine J_iinc (i := 2) (j := 0) (v := 8) (lw := [(2, .int 8), (0, .ref 1), (1, .int v)]) dX7_append_40 rfl (by decide) (by decide) rfl ?_
      refine J_goto (tgt := 3) dX7_append_43 (by decide) ?_
      refine J_iload_n (i := 2) (j := 0) dX7_append_3 rfl rfl ?_
      refine J_if_lt (tgt := 46) dX7_append_4 (by decide) (fun q => absurd q (by decide)) (fun _ => ?_)
      refine J_aload_n (i := 0) (j := 1) dX7_append_7 rfl rfl ?_
      refine J_get (C := RX7) (T := TX7) (Z := 8) (ci := 7) (f := 1) dX7_append_8 inG7 rfl (by decide) k188 f_22 rfl ?_
      refine J_sipush (v := 600) dX7_append_11 (by decide) ?_
      refine J_icmp_ge (tgt := 46) dX7_append_14 (by decide) (fun c_24 => ?_) (fun c_24 => ?_)
      · exact absurd ((nI_leI (a := 600) (by omega) (by omega)).mp c_24) (by omega)
      · refine J_aload_n (i := 0) (j := 1) dX7_append_17 rfl rfl ?_
        refine J_get (C := RX7) (T := TX7) (Z := 8) (ci := 7) (f := 0) dX7_append_18 inG7 rfl (by decide) k186 f_22 rfl ?_
        refine J_aload_n (i := 0) (j := 1) dX7_append_21 rfl rfl ?_
        refine J_get (C := RX7) (T := TX7) (Z := 8) (ci := 7) (f := 1) dX7_append_22 inG7 rfl (by decide) k188 f_22 rfl ?_
        refine J_iload_n (i := 1) (j := 2) dX7_append_25 rfl rfl ?_
        refine J_iload_n (i := 2) (j := 0) dX7_append_26 rfl rfl ?_
        refine J_ishr dX7_append_27 ?_
        obtain ⟨v_25, qv_25⟩ : ∃ z : Int32, z = (v >>> (8 &&& 31)).toInt8.toInt32 := ⟨_, rfl⟩
        refine J_i2b dX7_append_28 qv_25.symm ?_
        have f_26 : h_20[2]? = some (.inl (0, 600, .inl (upd (upd f ((nI (n)).toNatClampNeg) (vp_nar .byte v_2)) ((nI (n + 1)).toNatClampNeg) (vp_nar .byte v_13)))) := (s_ne e_21 (by decide)).trans f_17
        obtain ⟨h_27, e_28⟩ : ∃ z, z = h_20.set 2 (.inl (0, 600, .inl (upd (upd (upd f ((nI (n)).toNatClampNeg) (vp_nar .byte v_2)) ((nI (n + 1)).toNatClampNeg) (vp_nar .byte v_13)) ((nI (n + 1 + 1)).toNatClampNeg) (vp_nar .byte v_25)))) := ⟨_, rfl⟩
        refine J_bast dX7_append_29 f_26 (vp_in_nI (n := n + 1 + 1) (by omega) (by omega)) e_28.symm ?_
        have f_29 := a_set e_28 f_26
        have l_30 := l_set e_28 l_23
        refine J_aload_n (i := 0) (j := 1) dX7_append_30 rfl rfl ?_
        refine J_dup dX7_append_31 rfl ?_
        have f_31 : h_27[1]? = some (.inr (7, [.ref 2, .int (nI (n + 1 + 1)), .int fl, .int pl, .ref 3, .int hc, .ref 4, .int pc])) := (s_ne e_28 (by decide)).trans f_22
        refine J_get (C := RX7) (T := TX7) (Z := 8) (ci := 7) (f := 1) dX7_append_32 inG7 rfl (by decide) k188 f_31 rfl ?_
        refine J_iconst (v := 1) dX7_append_35 (by decide) ?_
        refine J_iadd dX7_append_36 ?_
        refine J_ci (v := nI (n + 1 + 1 + 1)) (nI_add _ _) ?_
        obtain ⟨h_32, e_33⟩ : ∃ z, z = h_27.set 1 (.inr (7, [.ref 2, .int (nI (n + 1 + 1 + 1)), .int fl, .int pl, .ref 3, .int hc, .ref 4, .int pc])) := ⟨_, rfl⟩
        refine J_put (C := RX7) (T := TX7) (Z := 8) (ci := 7) (f := 1) (ty0 := tyX7) dX7_append_37 inG7 rfl tyX7_ok nmX7 (by decide) k188 rfl rfl f_31 (Nat.le_of_ble_eq_true rfl) (fun _ _ => ⟨rfl, rfl⟩) e_33.symm ?_
        have f_34 := a_set e_33 f_31
        have l_35 := l_set e_33 l_30
        refine J_iinc (i := 2) (j := 0) (v := 0) (lw := [(2, .int 0), (0, .ref 1), (1, .int v)]) dX7_append_40 rfl (by decide) (by decide) rfl ?_
        refine J_goto (tgt := 3) dX7_append_43 (by decide) ?_
        refine J_iload_n (i := 2) (j := 0) dX7_append_3 rfl rfl ?_
        refine J_if_lt (tgt := 46) dX7_append_4 (by decide) (fun q => absurd q (by decide)) (fun _ => ?_)
        refine J_aload_n (i := 0) (j := 1) dX7_append_7 rfl rfl ?_
        refine J_get (C := RX7) (T := TX7) (Z := 8) (ci := 7) (f := 1) dX7_append_8 inG7 rfl (by decide) k188 f_34 rfl ?_
        refine J_sipush (v := 600) dX7_append_11 (by decide) ?_
        refine J_icmp_ge (tgt := 46) dX7_append_14 (by decide) (fun c_36 => ?_) (fun c_36 => ?_)
        · exact absurd ((nI_leI (a := 600) (by omega) (by omega)).mp c_36) (by omega)
        · refine J_aload_n (i := 0) (j := 1) dX7_append_17 rfl rfl ?_
          refine J_get (C := RX7) (T := TX7) (Z := 8) (ci := 7) (f := 0) dX7_append_18 inG7 rfl (by decide) k186 f_34 rfl ?_
          refine J_aload_n (i := 0) (j := 1) dX7_append_21 rfl rfl ?_
          refine J_get (C := RX7) (T := TX7) (Z := 8) (ci := 7) (f := 1) dX7_append_22 inG7 rfl (by decide) k188 f_34 rfl ?_
          refine J_iload_n (i := 1) (j := 2) dX7_append_25 rfl rfl ?_
          refine J_iload_n (i := 2) (j := 0) dX7_append_26 rfl rfl ?_
          refine J_ishr dX7_append_27 ?_
          obtain ⟨v_37, qv_37⟩ : ∃ z : Int32, z = (v >>> (0 &&& 31)).toInt8.toInt32 := ⟨_, rfl⟩
          refine J_i2b dX7_append_28 qv_37.symm ?_
          have f_38 : h_32[2]? = some (.inl (0, 600, .inl (upd (upd (upd f ((nI (n)).toNatClampNeg) (vp_nar .byte v_2)) ((nI (n + 1)).toNatClampNeg) (vp_nar .byte v_13)) ((nI (n + 1 + 1)).toNatClampNeg) (vp_nar .byte v_25)))) := (s_ne e_33 (by decide)).trans f_29
          obtain ⟨h_39, e_40⟩ : ∃ z, z = h_32.set 2 (.inl (0, 600, .inl (upd (upd (upd (upd f ((nI (n)).toNatClampNeg) (vp_nar .byte v_2)) ((nI (n + 1)).toNatClampNeg) (vp_nar .byte v_13)) ((nI (n + 1 + 1)).toNatClampNeg) (vp_nar .byte v_25)) ((nI (n + 1 + 1 + 1)).toNatClampNeg) (vp_nar .byte v_37)))) := ⟨_, rfl⟩
          refine J_bast dX7_append_29 f_38 (vp_in_nI (n := n + 1 + 1 + 1) (by omega) (by omega)) e_40.symm ?_
          have f_41 := a_set e_40 f_38
          have l_42 := l_set e_40 l_35
          refine J_aload_n (i := 0) (j := 1) dX7_append_30 rfl rfl ?_
          refine J_dup dX7_append_31 rfl ?_
          have f_43 : h_39[1]? = some (.inr (7, [.ref 2, .int (nI (n + 1 + 1 + 1)), .int fl, .int pl, .ref 3, .int hc, .ref 4, .int pc])) := (s_ne e_40 (by decide)).trans f_34
          refine J_get (C := RX7) (T := TX7) (Z := 8) (ci := 7) (f := 1) dX7_append_32 inG7 rfl (by decide) k188 f_43 rfl ?_
          refine J_iconst (v := 1) dX7_append_35 (by decide) ?_
          refine J_iadd dX7_append_36 ?_
          refine J_ci (v := nI (n + 1 + 1 + 1 + 1)) (nI_add _ _) ?_
          obtain ⟨h_44, e_45⟩ : ∃ z, z = h_39.set 1 (.inr (7, [.ref 2, .int (nI (n + 1 + 1 + 1 + 1)), .int fl, .int pl, .ref 3, .int hc, .ref 4, .int pc])) := ⟨_, rfl⟩
          refine J_put (C := RX7) (T := TX7) (Z := 8) (ci := 7) (f := 1) (ty0 := tyX7) dX7_append_37 inG7 rfl tyX7_ok nmX7 (by decide) k188 rfl rfl f_43 (Nat.le_of_ble_eq_true rfl) (fun _ _ => ⟨rfl, rfl⟩) e_45.symm ?_
          have f_46 := a_set e_45 f_43
          have l_47 := l_set e_45 l_42
          refine J_iinc (i := 2) (j := 0) (v := (-8)) (lw := [(2, .int (-8)), (0, .ref 1), (1, .int v)]) dX7_append_40 rfl (by decide) (by decide) rfl ?_
          refine J_goto (tgt := 3) dX7_append_43 (by decide) ?_
          refine J_iload_n (i := 2) (j := 0) dX7_append_3 rfl rfl ?_
          refine J_if_lt (tgt := 46) dX7_append_4 (by decide) (fun _ => ?_) (fun q => absurd (by decide) q)
          have f_48 : h_44[2]? = some (.inl (0, 600, .inl (upd (upd (upd (upd f ((nI (n)).toNatClampNeg) (vp_nar .byte v_2)) ((nI (n + 1)).toNatClampNeg) (vp_nar .byte v_13)) ((nI (n + 1 + 1)).toNatClampNeg) (vp_nar .byte v_25)) ((nI (n + 1 + 1 + 1)).toNatClampNeg) (vp_nar .byte v_37)))) := (s_ne e_45 (by decide)).trans f_41
          exact J_vret hq dX7_append_46 rfl (hkz l_47) (Nat.le_refl _) (Nat.le_refl _) ⟨rfl, l_47, f_46, ⟨_, f_48⟩, fun j hj1 hj2 => ((((((((s_ne e_45 hj1)).trans (s_ne e_40 hj2)).trans (s_ne e_33 hj1)).trans (s_ne e_28 hj2)).trans (s_ne e_21 hj1)).trans (s_ne e_16 hj2)).trans (s_ne e_9 hj1)).trans (s_ne e_4 hj2)⟩
set_option maxHeartbeats 4000000 in
set_option maxRecDepth 100000 in
theorem c_X10_feed0 {d : Nat} {h : List MC} {a0 a1 a2 a3 a4 : Int32} (hd : 1 ≤ d) (h0 : h[0]? = some (.inr (10, [.ref 1, .ref 27, .ref 28, .ref 29, .ref 43, .ref 49, .ref 53, .ref 56, .ref 57, .ref 79]))) (h1 : h[1]? = some (.inr (7, [.ref 2, .int 0, .int 0, .int (-1), .ref 3, .int 0, .ref 4, .int 0]))) (h2 : h[2]? = some (.inl (0, 600, .inl (fun _ => 0))))  : CT con0 d 0 0 yX10_feed cX10_feed 6 (some .int) [.ref 0, .int a0, .int a1, .int a2, .int a3, .int a4] h (fun r h2 => r = some (.int 20) ∧ FX h h2) := by
  refine CT_of (by decide) (Nat.le_of_ble_eq_true rfl) (fun x hq => ?_)
  show J x yX10_feed cX10_feed 6 (some .int) d 0 0 h.length 0 [(0, .ref 0), (1, .int a0), (2, .int a1), (3, .int a2), (4, .int a3), (5, .int a4)] [] h 0 0
  refine J_aload_n (i := 0) (j := 0) dX10_feed_0 rfl rfl ?_
  refine J_get (C := RX10) (T := TX10) (Z := 10) (ci := 10) (f := 0) dX10_feed_1 inG10 rfl (by decide) k423 h0 rfl ?_
  refine J_getN (C := RX7) (T := TX7) (Z := 8) (ci := 7) (f := 1) dX10_feed_4 inG7 rfl (by decide) k189 h1 rfl ?_
  refine J_sipush (v := 580) dX10_feed_7 (by decide) ?_
  refine J_icmp_le (tgt := 15) dX10_feed_10 (by decide) (fun _ => ?_) (fun q => absurd (by decide) q)
  refine J_aload_n (i := 0) (j := 0) dX10_feed_15 rfl rfl ?_
  refine J_get (C := RX10) (T := TX10) (Z := 10) (ci := 10) (f := 0) dX10_feed_16 inG10 rfl (by decide) k423 h0 rfl ?_
  refine J_iload_n (i := 1) (j := 1) dX10_feed_19 rfl rfl ?_
  refine J_callV (As := [.int a0]) (rest := []) dX10_feed_20 (c_X7_append (d := 0) (h := h) (n := 0) (by decide) h1 h2 (by omega)) hq.n k458 k459 k460 h1 rfl rfl k88 k461 np_X7_append (Nat.le_trans (by decide) hd) (by decide) (Nat.le_refl _) (Nat.le_refl _) (hkz rfl) rfl (Nat.le_of_ble_eq_true rfl) (fun r_1 h_2 p_3 => ?_)
  obtain ⟨rfl, l_4, f_5, ⟨g_6, f_7⟩, r_8⟩ := p_3
  have l_9 := l_4.trans rfl
  refine J_aload_n (i := 0) (j := 0) dX10_feed_23 rfl rfl ?_
  have f_10 : h_2[0]? = some (.inr (10, [.ref 1, .ref 27, .ref 28, .ref 29, .ref 43, .ref 49, .ref 53, .ref 56, .ref 57, .ref 79])) := (r_8 0 (by decide) (by decide)).trans h0
  refine J_get (C := RX10) (T := TX10) (Z := 10) (ci := 10) (f := 0) dX10_feed_24 inG10 rfl (by decide) k423 f_10 rfl ?_
  refine J_iload_n (i := 2) (j := 2) dX10_feed_27 rfl rfl ?_
  refine J_callV (As := [.int a1]) (rest := []) dX10_feed_28 (c_X7_append (d := 0) (h := h_2) (n := 0 + 4) (by decide) f_5 f_7 (by omega)) hq.n k458 k459 k460 f_5 rfl rfl k88 k461 np_X7_append (Nat.le_trans (by decide) hd) (by decide) (Nat.le_refl _) (Nat.le_refl _) (hkz l_9) rfl (Nat.le_of_ble_eq_true rfl) (fun r_11 h_12 p_13 => ?_)
  obtain ⟨rfl, l_14, f_15, ⟨g_16, f_17⟩, r_18⟩ := p_13
  have l_19 := l_14.trans l_9
  refine J_aload_n (i := 0) (j := 0) dX10_feed_31 rfl rfl ?_
  have f_20 : h_12[0]? = some (.inr (10, [.ref 1, .ref 27, .ref 28, .ref 29, .ref 43, .ref 49, .ref 53, .ref 56, .ref 57, .ref 79])) := (r_18 0 (by decide) (by decide)).trans f_10
  refine J_get (C := RX10) (T := TX10) (Z := 10) (ci := 10) (f := 0) dX10_feed_32 inG10 rfl (by decide) k423 f_20 rfl ?_
  refine J_iload_n (i := 3) (j := 3) dX10_feed_35 rfl rfl ?_
  refine J_callV (As := [.int a2]) (rest := []) dX10_feed_36 (c_X7_append (d := 0) (h := h_12) (n := 0 + 4 + 4) (by decide) f_15 f_17 (by omega)) hq.n k458 k459 k460 f_15 rfl rfl k88 k461 np_X7_append (Nat.le_trans (by decide) hd) (by decide) (Nat.le_refl _) (Nat.le_refl _) (hkz l_19) rfl (Nat.le_of_ble_eq_true rfl) (fun r_21 h_22 p_23 => ?_)
  obtain ⟨rfl, l_24, f_25, ⟨g_26, f_27⟩, r_28⟩ := p_23
  have l_29 := l_24.trans l_19
  refine J_aload_n (i := 0) (j := 0) dX10_feed_39 rfl rfl ?_
  have f_30 : h_22[0]? = some (.inr (10, [.ref 1, .ref 27, .ref 28, .ref 29, .ref 43, .ref 49, .ref 53, .ref 56, .ref 57, .ref 79])) := (r_28 0 (by decide) (by decide)).trans f_20
  refine J_get (C := RX10) (T := TX10) (Z := 10) (ci := 10) (f := 0) dX10_feed_40 inG10 rfl (by decide) k423 f_30 rfl ?_
  refine J_iload (i := 4) (j := 4) dX10_feed_43 rfl ?_
  refine J_callV (As := [.int a3]) (rest := []) dX10_feed_45 (c_X7_append (d := 0) (h := h_22) (n := 0 + 4 + 4 + 4) (by decide) f_25 f_27 (by omega)) hq.n k458 k459 k460 f_25 rfl rfl k88 k461 np_X7_append (Nat.le_trans (by decide) hd) (by decide) (Nat.le_refl _) (Nat.le_refl _) (hkz l_29) rfl (Nat.le_of_ble_eq_true rfl) (fun r_31 h_32 p_33 => ?_)
  obtain ⟨rfl, l_34, f_35, ⟨g_36, f_37⟩, r_38⟩ := p_33
  have l_39 := l_34.trans l_29
  refine J_aload_n (i := 0) (j := 0) dX10_feed_48 rfl rfl ?_
  have f_40 : h_32[0]? = some (.inr (10, [.ref 1, .ref 27, .ref 28, .ref 29, .ref 43, .ref 49, .ref 53, .ref 56, .ref 57, .ref 79])) := (r_38 0 (by decide) (by decide)).trans f_30
  refine J_get (C := RX10) (T := TX10) (Z := 10) (ci := 10) (f := 0) dX10_feed_49 inG10 rfl (by decide) k423 f_40 rfl ?_
  refine J_iload (i := 5) (j := 5) dX10_feed_52 rfl ?_
  refine J_callV (As := [.int a4]) (rest := []) dX10_feed_54 (c_X7_append (d := 0) (h := h_32) (n := 0 + 4 + 4 + 4 + 4) (by decide) f_35 f_37 (by omega)) hq.n k458 k459 k460 f_35 rfl rfl k88 k461 np_X7_append (Nat.le_trans (by decide) hd) (by decide) (Nat.le_refl _) (Nat.le_refl _) (hkz l_39) rfl (Nat.le_of_ble_eq_true rfl) (fun r_41 h_42 p_43 => ?_)
  obtain ⟨rfl, l_44, f_45, ⟨g_46, f_47⟩, r_48⟩ := p_43
  have l_49 := l_44.trans l_39
  refine J_aload_n (i := 0) (j := 0) dX10_feed_57 rfl rfl ?_
  have f_50 : h_42[0]? = some (.inr (10, [.ref 1, .ref 27, .ref 28, .ref 29, .ref 43, .ref 49, .ref 53, .ref 56, .ref 57, .ref 79])) := (r_48 0 (by decide) (by decide)).trans f_40
  refine J_get (C := RX10) (T := TX10) (Z := 10) (ci := 10) (f := 0) dX10_feed_58 inG10 rfl (by decide) k423 f_50 rfl ?_
  refine J_getN (C := RX7) (T := TX7) (Z := 8) (ci := 7) (f := 1) dX10_feed_61 inG7 rfl (by decide) k189 f_45 rfl ?_
  refine J_ci (v := 20) (by decide) ?_
  exact J_iret hq dX10_feed_64 rfl (hkz l_49) (Nat.le_refl _) (Nat.le_refl _) ⟨rfl, ⟨l_49, fun j hj => (((((r_48 j (by omega) (by omega))).trans (r_38 j (by omega) (by omega))).trans (r_28 j (by omega) (by omega))).trans (r_18 j (by omega) (by omega))).trans (r_8 j (by omega) (by omega))⟩⟩
set_option maxHeartbeats 4000000 in
set_option maxRecDepth 100000 in
theorem c_X11_four {d : Nat} {h : List MC} {n : Nat} {v : Int32} {f g : Nat → Int32} (hd : 0 ≤ d) (hm : h[162]? = some (.inr (11, [.int 0, .ref 163, .ref 164, .ref 165, .ref 166, .ref 167, .ref 168, .ref 169, .int 0, .int 0, .int 0, .int 0, .int 0, .long 0, .int 0, .int 0, .int 0, .int 0, .int 0, .ref 170, .ref 171, .ref 172, .int 0, .int 0, .int 0, .int 0, .int 0, .int 0, .ref 173, .ref 174, .ref 175, .int 0, .int 0, .int 0, .ref 176, .ref 177, .ref 178, .ref 179, .ref 180, .int 0, .long 0, .int 0, .ref 181]))) (h3 : h[163]? = some (.inl (0, 2400, .inl f))) (h4 : h[164]? = some (.inl (1, 4, .inl g))) (hg : g 0 = nI n) (hn : n ≤ 596) : CT con0 d 0 0 yX11_four cX11_four 3 none [.ref 162, .int v] h (fun r h2 => r = none ∧ h2.length = h.length ∧ (∃ f2, h2[163]? = some (.inl (0, 2400, .inl f2))) ∧ (∃ g2, h2[164]? = some (.inl (1, 4, .inl g2)) ∧ g2 0 = nI (n + 4)) ∧ ∀ j, j ≠ 163 → j ≠ 164 → h2[j]? = h[j]?) := by
  refine CT_of (by decide) (Nat.le_of_ble_eq_true rfl) (fun x hq => ?_)
  show J x yX11_four cX11_four 3 none d 0 0 h.length 0 [(0, .ref 162), (1, .int v)] [] h 0 0
  refine J_bipush (v := 24) dX11_four_0 (by decide) ?_
  refine J_istore_n (i := 2) (lw := [(2, .int 24), (0, .ref 162), (1, .int v)]) dX11_four_2 rfl (by decide) rfl ?_
  refine J_iload_n (i := 2) (j := 0) dX11_four_3 rfl rfl ?_
  refine J_if_lt (tgt := 38) dX11_four_4 (by decide) (fun q => absurd q (by decide)) (fun _ => ?_)
  refine J_aload_n (i := 0) (j := 1) dX11_four_7 rfl rfl ?_
  refine J_get (C := RX11) (T := TX11) (Z := 43) (ci := 11) (f := 1) dX11_four_8 inG11 rfl (by decide) k1265 hm rfl ?_
  refine J_aload_n (i := 0) (j := 1) dX11_four_11 rfl rfl ?_
  refine J_get (C := RX11) (T := TX11) (Z := 43) (ci := 11) (f := 2) dX11_four_12 inG11 rfl (by decide) k1266 hm rfl ?_
  refine J_iconst (v := 0) dX11_four_15 (by decide) ?_
  refine J_iald dX11_four_16 h4 (vp_c (by decide)) ?_
  refine J_ci (v := nI (n)) hg ?_
  refine J_iload_n (i := 1) (j := 2) dX11_four_17 rfl rfl ?_
  refine J_iload_n (i := 2) (j := 0) dX11_four_18 rfl rfl ?_
  refine J_ishr dX11_four_19 ?_
  obtain ⟨v_1, qv_1⟩ : ∃ z : Int32, z = (v >>> (24 &&& 31)).toInt8.toInt32 := ⟨_, rfl⟩
  refine J_i2b dX11_four_20 qv_1.symm ?_
  obtain ⟨h_2, e_3⟩ : ∃ z, z = h.set 163 (.inl (0, 2400, .inl (upd f ((nI (n)).toNatClampNeg) (vp_nar .byte v_1)))) := ⟨_, rfl⟩
  refine J_bast dX11_four_21 h3 (vp_in_nI (n := n) (by omega) (by omega)) e_3.symm ?_
  have f_4 := a_set e_3 h3
  have l_5 := l_set e_3 rfl
  refine J_aload_n (i := 0) (j := 1) dX11_four_22 rfl rfl ?_
  have f_6 : h_2[162]? = some (.inr (11, [.int 0, .ref 163, .ref 164, .ref 165, .ref 166, .ref 167, .ref 168, .ref 169, .int 0, .int 0, .int 0, .int 0, .int 0, .long 0, .int 0, .int 0, .int 0, .int 0, .int 0, .ref 170, .ref 171, .ref 172, .int 0, .int 0, .int 0, .int 0, .int 0, .int 0, .ref 173, .ref 174, .ref 175, .int 0, .int 0, .int 0, .ref 176, .ref 177, .ref 178, .ref 179, .ref 180, .int 0, .long 0, .int 0, .ref 181])) := (s_ne e_3 (by decide)).trans hm
  refine J_get (C := RX11) (T := TX11) (Z := 43) (ci := 11) (f := 2) dX11_four_23 inG11 rfl (by decide) k1266 f_6 rfl ?_
  refine J_iconst (v := 0) dX11_four_26 (by decide) ?_
  refine J_dup2_11 dX11_four_27 rfl rfl ?_
  have f_7 : h_2[164]? = some (.inl (1, 4, .inl g)) := (s_ne e_3 (by decide)).trans h4
  refine J_iald dX11_four_28 f_7 (vp_c (by decide)) ?_
  refine J_ci (v := nI (n)) hg ?_
  refine J_iconst (v := 1) dX11_four_29 (by decide) ?_
  refine J_iadd dX11_four_30 ?_
  refine J_ci (v := nI (n + 1)) (nI_add _ _) ?_
  obtain ⟨h_8, e_9⟩ : ∃ z, z = h_2.set 164 (.inl (1, 4, .inl (upd g ((0 : Int32).toNatClampNeg) (nI (n + 1))))) := ⟨_, rfl⟩
  refine J_iast dX11_four_31 f_7 (vp_c (by decide)) e_9.symm ?_
  have f_10 := a_set e_9 f_7
  have l_11 := l_set e_9 l_5
  have z_12 : (upd g ((0 : Int32).toNatClampNeg) (nI (n + 1))) 0 = nI (n + 1) := rfl
  refine J_iinc (i := 2) (j := 0) (v := 16) (lw := [(2, .int 16), (0, .ref 162), (1, .int v)]) dX11_four_32 rfl (by decide) (by decide) rfl ?_
  refine J_goto (tgt := 3) dX11_four_35 (by decide) ?_
  refine J_iload_n (i := 2) (j := 0) dX11_four_3 rfl rfl ?_
  refine J_if_lt (tgt := 38) dX11_four_4 (by decide) (fun q => absurd q (by decide)) (fun _ => ?_)
  refine J_aload_n (i := 0) (j := 1) dX11_four_7 rfl rfl ?_
  have f_13 : h_8[162]? = some (.inr (11, [.int 0, .ref 163, .ref 164, .ref 165, .ref 166, .ref 167, .ref 168, .ref 169, .int 0, .int 0, .int 0, .int 0, .int 0, .long 0, .int 0, .int 0, .int 0, .int 0, .int 0, .ref 170, .ref 171, .ref 172, .int 0, .int 0, .int 0, .int 0, .int 0, .int 0, .ref 173, .ref 174, .ref 175, .int 0, .int 0, .int 0, .ref 176, .ref 177, .ref 178, .ref 179, .ref 180, .int 0, .long 0, .int 0, .ref 181])) := (s_ne e_9 (by decide)).trans f_6
  refine J_get (C := RX11) (T := TX11) (Z := 43) (ci := 11) (f := 1) dX11_four_8 inG11 rfl (by decide) k1265 f_13 rfl ?_
  refine J_aload_n (i := 0) (j := 1) dX11_four_11 rfl rfl ?_
  refine J_get (C := RX11) (T := TX11) (Z := 43) (ci := 11) (f := 2) dX11_four_12 inG11 rfl (by decide) k1266 f_13 rfl ?_
  refine J_iconst (v := 0) dX11_four_15 (by decide) ?_
  refine J_iald dX11_four_16 f_10 (vp_c (by decide)) ?_
  refine J_ci (v := nI (n + 1)) z_12 ?_
  refine J_iload_n (i := 1) (j := 2) dX11_four_17 rfl rfl ?_
  refine J_iload_n (i := 2) (j := 0) dX11_four_18 rfl rfl ?_
  refine J_ishr dX11_four_19 ?_
  obtain ⟨v_14, qv_14⟩ : ∃ z : Int32, z = (v >>> (16 &&& 31)).toInt8.toInt32 := ⟨_, rfl⟩
  refine J_i2b dX11_four_20 qv_14.symm ?_
  have f_15 : h_8[163]? = some (.inl (0, 2400, .inl (upd f ((nI (n)).toNatClampNeg) (vp_nar .byte v_1)))) := (s_ne e_9 (by decide)).trans f_4
  obtain ⟨h_16, e_17⟩ : ∃ z, z = h_8.set 163 (.inl (0, 2400, .inl (upd (upd f ((nI (n)).toNatClampNeg) (vp_nar .byte v_1)) ((nI (n + 1)).toNatClampNeg) (vp_nar .byte v_14)))) := ⟨_, rfl⟩
  refine J_bast dX11_four_21 f_15 (vp_in_nI (n := n + 1) (by omega) (by omega)) e_17.symm ?_
  have f_18 := a_set e_17 f_15
  have l_19 := l_set e_17 l_11
  refine J_aload_n (i := 0) (j := 1) dX11_four_22 rfl rfl ?_
  have f_20 : h_16[162]? = some (.inr (11, [.int 0, .ref 163, .ref 164, .ref 165, .ref 166, .ref 167, .ref 168, .ref 169, .int 0, .int 0, .int 0, .int 0, .int 0, .long 0, .int 0, .int 0, .int 0, .int 0, .int 0, .ref 170, .ref 171, .ref 172, .int 0, .int 0, .int 0, .int 0, .int 0, .int 0, .ref 173, .ref 174, .ref 175, .int 0, .int 0, .int 0, .ref 176, .ref 177, .ref 178, .ref 179, .ref 180, .int 0, .long 0, .int 0, .ref 181])) := (s_ne e_17 (by decide)).trans f_13
  refine J_get (C := RX11) (T := TX11) (Z := 43) (ci := 11) (f := 2) dX11_four_23 inG11 rfl (by decide) k1266 f_20 rfl ?_
  refine J_iconst (v := 0) dX11_four_26 (by decide) ?_
  refine J_dup2_11 dX11_four_27 rfl rfl ?_
  have f_21 : h_16[164]? = some (.inl (1, 4, .inl (upd g ((0 : Int32).toNatClampNeg) (nI (n + 1))))) := (s_ne e_17 (by decide)).trans f_10
  refine J_iald dX11_four_28 f_21 (vp_c (by decide)) ?_
  refine J_ci (v := nI (n + 1)) z_12 ?_
  refine J_iconst (v := 1) dX11_four_29 (by decide) ?_
  refine J_iadd dX11_four_30 ?_
  refine J_ci (v := nI (n + 1 + 1)) (nI_add _ _) ?_
  obtain ⟨h_22, e_23⟩ : ∃ z, z = h_16.set 164 (.inl (1, 4, .inl (upd (upd g ((0 : Int32).toNatClampNeg) (nI (n + 1))) ((0 : Int32).toNatClampNeg) (nI (n + 1 + 1))))) := ⟨_, rfl⟩
  refine J_iast dX11_four_31 f_21 (vp_c (by decide)) e_23.symm ?_
  have f_24 := a_set e_23 f_21
  have l_25 := l_set e_23 l_19
  have z_26 : (upd (upd g ((0 : Int32).toNatClampNeg) (nI (n + 1))) ((0 : Int32).toNatClampNeg) (nI (n + 1 + 1))) 0 = nI (n + 1 + 1) := rfl
  refine J_iinc (i := 2) (j := 0) (v := 8) (lw := [(2, .int 8), (0, .ref 162), (1, .int v)]) dX11_four_32 rfl (by decide) (by decide) rfl ?_
  refine J_goto (tgt := 3) dX11_four_35 (by decide) ?_
  refine J_iload_n (i := 2) (j := 0) dX11_four_3 rfl rfl ?_
  refine J_if_lt (tgt := 38) dX11_four_4 (by decide) (fun q => absurd q (by decide)) (fun _ => ?_)
  refine J_aload_n (i := 0) (j := 1) dX11_four_7 rfl rfl ?_
  have f_27 : h_22[162]? = some (.inr (11, [.int 0, .ref 163, .ref 164, .ref 165, .ref 166, .ref 167, .ref 168, .ref 169, .int 0, .int 0, .int 0, .int 0, .int 0, .long 0, .int 0, .int 0, .int 0, .int 0, .int 0, .ref 170, .ref 171, .ref 172, .int 0, .int 0, .int 0, .int 0, .int 0, .int 0, .ref 173, .ref 174, .ref 175, .int 0, .int 0, .int 0, .ref 176, .ref 177, .ref 178, .ref 179, .ref 180, .int 0, .long 0, .int 0, .ref 181])) := (s_ne e_23 (by decide)).trans f_20
  refine J_get (C := RX11) (T := TX11) (Z := 43) (ci := 11) (f := 1) dX11_four_8 inG11 rfl (by decide) k1265 f_27 rfl ?_
  refine J_aload_n (i := 0) (j := 1) dX11_four_11 rfl rfl ?_
  refine J_get (C := RX11) (T := TX11) (Z := 43) (ci := 11) (f := 2) dX11_four_12 inG11 rfl (by decide) k1266 f_27 rfl ?_
  refine J_iconst (v := 0) dX11_four_15 (by decide) ?_
  refine J_iald dX11_four_16 f_24 (vp_c (by decide)) ?_
  refine J_ci (v := nI (n + 1 + 1)) z_26 ?_
  refine J_iload_n (i := 1) (j := 2) dX11_four_17 rfl rfl ?_
  refine J_iload_n (i := 2) (j := 0) dX11_four_18 rfl rfl ?_
  refine J_ishr dX11_four_19 ?_
  obtain ⟨v_28, qv_28⟩ : ∃ z : Int32, z = (v >>> (8 &&& 31)).toInt8.toInt32 := ⟨_, rfl⟩
  refine J_i2b dX11_four_20 qv_28.symm ?_
  have f_29 : h_22[163]? = some (.inl (0, 2400, .inl (upd (upd f ((nI (n)).toNatClampNeg) (vp_nar .byte v_1)) ((nI (n + 1)).toNatClampNeg) (vp_nar .byte v_14)))) := (s_ne e_23 (by decide)).trans f_18
  obtain ⟨h_30, e_31⟩ : ∃ z, z = h_22.set 163 (.inl (0, 2400, .inl (upd (upd (upd f ((nI (n)).toNatClampNeg) (vp_nar .byte v_1)) ((nI (n + 1)).toNatClampNeg) (vp_nar .byte v_14)) ((nI (n + 1 + 1)).toNatClampNeg) (vp_nar .byte v_28)))) := ⟨_, rfl⟩
  refine J_bast dX11_four_21 f_29 (vp_in_nI (n := n + 1 + 1) (by omega) (by omega)) e_31.symm ?_
  have f_32 := a_set e_31 f_29
  have l_33 := l_set e_31 l_25
  refine J_aload_n (i := 0) (j := 1) dX11_four_22 rfl rfl ?_
  have f_34 : h_30[162]? = some (.inr (11, [.int 0, .ref 163, .ref 164, .ref 165, .ref 166, .ref 167, .ref 168, .ref 169, .int 0, .int 0, .int 0, .int 0, .int 0, .long 0, .int 0, .int 0, .int 0, .int 0, .int 0, .ref 170, .ref 171, .ref 172, .int 0, .int 0, .int 0, .int 0, .int 0, .int 0, .ref 173, .ref 174, .ref 175, .int 0, .int 0, .int 0, .ref 176, .ref 177, .ref 178, .ref 179, .ref 180, .int 0, .long 0, .int 0, .ref 181])) := (s_ne e_31 (by decide)).trans f_27
  refine J_get (C := RX11) (T := TX11) (Z := 43) (ci := 11) (f := 2) dX11_four_23 inG11 rfl (by decide) k1266 f_34 rfl ?_
  refine J_iconst (v := 0) dX11_four_26 (by decide) ?_
  refine J_dup2_11 dX11_four_27 rfl rfl ?_
  have f_35 : h_30[164]? = some (.inl (1, 4, .inl (upd (upd g ((0 : Int32).toNatClampNeg) (nI (n + 1))) ((0 : Int32).toNatClampNeg) (nI (n + 1 + 1))))) := (s_ne e_31 (by decide)).trans f_24
  refine J_iald dX11_four_28 f_35 (vp_c (by decide)) ?_
  refine J_ci (v := nI (n + 1 + 1)) z_26 ?_
  refine J_iconst (v := 1) dX11_four_29 (by decide) ?_
  refine J_iadd dX11_four_30 ?_
  refine J_ci (v := nI (n + 1 + 1 + 1)) (nI_add _ _) ?_
  obtain ⟨h_36, e_37⟩ : ∃ z, z = h_30.set 164 (.inl (1, 4, .inl (upd (upd (upd g ((0 : Int32).toNatClampNeg) (nI (n + 1))) ((0 : Int32).toNatClampNeg) (nI (n + 1 + 1))) ((0 : Int32).toNatClampNeg) (nI (n + 1 + 1 + 1))))) := ⟨_, rfl⟩
  refine J_iast dX11_four_31 f_35 (vp_c (by decide)) e_37.symm ?_
  have f_38 := a_set e_37 f_35
  have l_39 := l_set e_37 l_33
  have z_40 : (upd (upd (upd g ((0 : Int32).toNatClampNeg) (nI (n + 1))) ((0 : Int32).toNatClampNeg) (nI (n + 1 + 1))) ((0 : Int32).toNatClampNeg) (nI (n + 1 + 1 + 1))) 0 = nI (n + 1 + 1 + 1) := rfl
  refine J_iinc (i := 2) (j := 0) (v := 0) (lw := [(2, .int 0), (0, .ref 162), (1, .int v)]) dX11_four_32 rfl (by decide) (by decide) rfl ?_
  refine J_goto (tgt := 3) dX11_four_35 (by decide) ?_
  refine J_iload_n (i := 2) (j := 0) dX11_four_3 rfl rfl ?_
  refine J_if_lt (tgt := 38) dX11_four_4 (by decide) (fun q => absurd q (by decide)) (fun _ => ?_)
  refine J_aload_n (i := 0) (j := 1) dX11_four_7 rfl rfl ?_
  have f_41 : h_36[162]? = some (.inr (11, [.int 0, .ref 163, .ref 164, .ref 165, .ref 166, .ref 167, .ref 168, .ref 169, .int 0, .int 0, .int 0, .int 0, .int 0, .long 0, .int 0, .int 0, .int 0, .int 0, .int 0, .ref 170, .ref 171, .ref 172, .int 0, .int 0, .int 0, .int 0, .int 0, .int 0, .ref 173, .ref 174, .ref 175, .int 0, .int 0, .int 0, .ref 176, .ref 177, .ref 178, .ref 179, .ref 180, .int 0, .long 0, .int 0, .ref 181])) := (s_ne e_37 (by decide)).trans f_34
  refine J_get (C := RX11) (T := TX11) (Z := 43) (ci := 11) (f := 1) dX11_four_8 inG11 rfl (by decide) k1265 f_41 rfl ?_
  refine J_aload_n (i := 0) (j := 1) dX11_four_11 rfl rfl ?_
  refine J_get (C := RX11) (T := TX11) (Z := 43) (ci := 11) (f := 2) dX11_four_12 inG11 rfl (by decide) k1266 f_41 rfl ?_
  refine J_iconst (v := 0) dX11_four_15 (by decide) ?_
  refine J_iald dX11_four_16 f_38 (vp_c (by decide)) ?_
  refine J_ci (v := nI (n + 1 + 1 + 1)) z_40 ?_
  refine J_iload_n (i := 1) (j := 2) dX11_four_17 rfl rfl ?_
  refine J_iload_n (i := 2) (j := 0) dX11_four_18 rfl rfl ?_
  refine J_ishr dX11_four_19 ?_
  obtain ⟨v_42, qv_42⟩ : ∃ z : Int32, z = (v >>> (0 &&& 31)).toInt8.toInt32 := ⟨_, rfl⟩
  refine J_i2b dX11_four_20 qv_42.symm ?_
  have f_43 : h_36[163]? = some (.inl (0, 2400, .inl (upd (upd (upd f ((nI (n)).toNatClampNeg) (vp_nar .byte v_1)) ((nI (n + 1)).toNatClampNeg) (vp_nar .byte v_14)) ((nI (n + 1 + 1)).toNatClampNeg) (vp_nar .byte v_28)))) := (s_ne e_37 (by decide)).trans f_32
  obtain ⟨h_44, e_45⟩ : ∃ z, z = h_36.set 163 (.inl (0, 2400, .inl (upd (upd (upd (upd f ((nI (n)).toNatClampNeg) (vp_nar .byte v_1)) ((nI (n + 1)).toNatClampNeg) (vp_nar .byte v_14)) ((nI (n + 1 + 1)).toNatClampNeg) (vp_nar .byte v_28)) ((nI (n + 1 + 1 + 1)).toNatClampNeg) (vp_nar .byte v_42)))) := ⟨_, rfl⟩
  refine J_bast dX11_four_21 f_43 (vp_in_nI (n := n + 1 + 1 + 1) (by omega) (by omega)) e_45.symm ?_
  have f_46 := a_set e_45 f_43
  have l_47 := l_set e_45 l_39
  refine J_aload_n (i := 0) (j := 1) dX11_four_22 rfl rfl ?_
  have f_48 : h_44[162]? = some (.inr (11, [.int 0, .ref 163, .ref 164, .ref 165, .ref 166, .ref 167, .ref 168, .ref 169, .int 0, .int 0, .int 0, .int 0, .int 0, .long 0, .int 0, .int 0, .int 0, .int 0, .int 0, .ref 170, .ref 171, .ref 172, .int 0, .int 0, .int 0, .int 0, .int 0, .int 0, .ref 173, .ref 174, .ref 175, .int 0, .int 0, .int 0, .ref 176, .ref 177, .ref 178, .ref 179, .ref 180, .int 0, .long 0, .int 0, .ref 181])) := (s_ne e_45 (by decide)).trans f_41
  refine J_get (C := RX11) (T := TX11) (Z := 43) (ci := 11) (f := 2) dX11_four_23 inG11 rfl (by decide) k1266 f_48 rfl ?_
  refine J_iconst (v := 0) dX11_four_26 (by decide) ?_
  refine J_dup2_11 dX11_four_27 rfl rfl ?_
  have f_49 : h_44[164]? = some (.inl (1, 4, .inl (upd (upd (upd g ((0 : Int32).toNatClampNeg) (nI (n + 1))) ((0 : Int32).toNatClampNeg) (nI (n + 1 + 1))) ((0 : Int32).toNatClampNeg) (nI (n + 1 + 1 + 1))))) := (s_ne e_45 (by decide)).trans f_38
  refine J_iald dX11_four_28 f_49 (vp_c (by decide)) ?_
  refine J_ci (v := nI (n + 1 + 1 + 1)) z_40 ?_
  refine J_iconst (v := 1) dX11_four_29 (by decide) ?_
  refine J_iadd dX11_four_30 ?_
  refine J_ci (v := nI (n + 1 + 1 + 1 + 1)) (nI_add _ _) ?_
  obtain ⟨h_50, e_51⟩ : ∃ z, z = h_44.set 164 (.inl (1, 4, .inl (upd (upd (upd (upd g ((0 : Int32).toNatClampNeg) (nI (n + 1))) ((0 : Int32).toNatClampNeg) (nI (n + 1 + 1))) ((0 : Int32).toNatClampNeg) (nI (n + 1 + 1 + 1))) ((0 : Int32).toNatClampNeg) (nI (n + 1 + 1 + 1 + 1))))) := ⟨_, rfl⟩
  refine J_iast dX11_four_31 f_49 (vp_c (by decide)) e_51.symm ?_
  have f_52 := a_set e_51 f_49
  have l_53 := l_set e_51 l_47
  have z_54 : (upd (upd (upd (upd g ((0 : Int32).toNatClampNeg) (nI (n + 1))) ((0 : Int32).toNatClampNeg) (nI (n + 1 + 1))) ((0 : Int32).toNatClampNeg) (nI (n + 1 + 1 + 1))) ((0 : Int32).toNatClampNeg) (nI (n + 1 + 1 + 1 + 1))) 0 = nI (n + 1 + 1 + 1 + 1) := rfl
  refine J_iinc (i := 2) (j := 0) (v := (-8)) (lw := [(2, .int (-8)), (0, .ref 162), (1, .int v)]) dX11_four_32 rfl (by decide) (by decide) rfl ?_
  refine J_goto (tgt := 3) dX11_four_35 (by decide) ?_
  refine J_iload_n (i := 2) (j := 0) dX11_four_3 rfl rfl ?_
  refine J_if_lt (tgt := 38) dX11_four_4 (by decide) (fun _ => ?_) (fun q => absurd (by decide) q)
  have f_55 : h_50[163]? = some (.inl (0, 2400, .inl (upd (upd (upd (upd f ((nI (n)).toNatClampNeg) (vp_nar .byte v_1)) ((nI (n + 1)).toNatClampNeg) (vp_nar .byte v_14)) ((nI (n + 1 + 1)).toNatClampNeg) (vp_nar .byte v_28)) ((nI (n + 1 + 1 + 1)).toNatClampNeg) (vp_nar .byte v_42)))) := (s_ne e_51 (by decide)).trans f_46
  exact J_vret hq dX11_four_38 rfl (hkz l_53) (Nat.le_refl _) (Nat.le_refl _) ⟨rfl, l_53, ⟨_, f_55⟩, ⟨_, f_52, z_54⟩, fun j hj1 hj2 => ((((((((s_ne e_51 hj2)).trans (s_ne e_45 hj1)).trans (s_ne e_37 hj2)).trans (s_ne e_31 hj1)).trans (s_ne e_23 hj2)).trans (s_ne e_17 hj1)).trans (s_ne e_9 hj2)).trans (s_ne e_3 hj1)⟩
set_option maxHeartbeats 4000000 in
set_option maxRecDepth 100000 in
theorem c_X11_feed0 {d : Nat} {h : List MC} {a0 a1 a2 a3 a4 : Int32} (hd : 1 ≤ d) (hm : h[162]? = some (.inr (11, [.int 0, .ref 163, .ref 164, .ref 165, .ref 166, .ref 167, .ref 168, .ref 169, .int 0, .int 0, .int 0, .int 0, .int 0, .long 0, .int 0, .int 0, .int 0, .int 0, .int 0, .ref 170, .ref 171, .ref 172, .int 0, .int 0, .int 0, .int 0, .int 0, .int 0, .ref 173, .ref 174, .ref 175, .int 0, .int 0, .int 0, .ref 176, .ref 177, .ref 178, .ref 179, .ref 180, .int 0, .long 0, .int 0, .ref 181]))) (hy : h[167]? = some (.inl (1, 8, .inl (fun _ => 0)))) (h3 : h[163]? = some (.inl (0, 2400, .inl (fun _ => 0)))) (h4 : h[164]? = some (.inl (1, 4, .inl (fun _ => 0))))  : CT con0 d 0 0 yX11_feed cX11_feed 6 (some .int) [.ref 162, .int a0, .int a1, .int a2, .int a3, .int a4] h (fun r h2 => r = some (.int 20)) := by
  refine CT_of (by decide) (Nat.le_of_ble_eq_true rfl) (fun x hq => ?_)
  show J x yX11_feed cX11_feed 6 (some .int) d 0 0 h.length 0 [(0, .ref 162), (1, .int a0), (2, .int a1), (3, .int a2), (4, .int a3), (5, .int a4)] [] h 0 0
  refine J_aload_n (i := 0) (j := 0) dX11_feed_0 rfl rfl ?_
  refine J_iconst (v := 0) dX11_feed_1 (by decide) ?_
  obtain ⟨h_1, e_2⟩ : ∃ z, z = h.set 162 (.inr (11, [.int 0, .ref 163, .ref 164, .ref 165, .ref 166, .ref 167, .ref 168, .ref 169, .int 0, .int 0, .int 0, .int 0, .int 0, .long 0, .int 0, .int 0, .int 0, .int 0, .int 0, .ref 170, .ref 171, .ref 172, .int 0, .int 0, .int 0, .int 0, .int 0, .int 0, .ref 173, .ref 174, .ref 175, .int 0, .int 0, .int 0, .ref 176, .ref 177, .ref 178, .ref 179, .ref 180, .int 0, .long 0, .int 0, .ref 181])) := ⟨_, rfl⟩
  refine J_put (C := RX11) (T := TX11) (Z := 43) (ci := 11) (f := 0) (ty0 := tyX11) dX11_feed_2 inG11 rfl tyX11_ok nmX11 (by decide) k1264 rfl rfl hm (Nat.le_of_ble_eq_true rfl) (fun _ _ => ⟨rfl, rfl⟩) e_2.symm ?_
  have f_3 := a_set e_2 hm
  have l_4 := l_set e_2 rfl
  refine J_aload_n (i := 0) (j := 0) dX11_feed_5 rfl rfl ?_
  refine J_get (C := RX11) (T := TX11) (Z := 43) (ci := 11) (f := 2) dX11_feed_6 inG11 rfl (by decide) k1266 f_3 rfl ?_
  refine J_iconst (v := 0) dX11_feed_9 (by decide) ?_
  have f_5 : h_1[164]? = some (.inl (1, 4, .inl (fun _ => 0))) := (s_ne e_2 (by decide)).trans h4
  refine J_iald dX11_feed_10 f_5 (vp_c (by decide)) ?_
  refine J_ci (v := 0) rfl ?_
  refine J_bipush (v := 20) dX11_feed_11 (by decide) ?_
  refine J_iadd dX11_feed_13 ?_
  refine J_ci (v := 20) (by decide) ?_
  refine J_sipush (v := 600) dX11_feed_14 (by decide) ?_
  refine J_icmp_le (tgt := 22) dX11_feed_17 (by decide) (fun _ => ?_) (fun q => absurd (by decide) q)
  refine J_aload_n (i := 0) (j := 0) dX11_feed_22 rfl rfl ?_
  refine J_iload_n (i := 1) (j := 1) dX11_feed_23 rfl rfl ?_
  have f_6 : h_1[163]? = some (.inl (0, 2400, .inl (fun _ => 0))) := (s_ne e_2 (by decide)).trans h3
  refine J_callV (As := [.int a0]) (rest := []) dX11_feed_24 (c_X11_four (d := 0) (h := h_1) (n := 0) (by decide) f_3 f_6 f_5 rfl (by omega)) hq.n k1398 k1400 k36 f_3 rfl rfl k97 k1401 np_X11_four (Nat.le_trans (by decide) hd) (by decide) (Nat.le_refl _) (Nat.le_refl _) (hkz l_4) rfl (Nat.le_of_ble_eq_true rfl) (fun r_7 h_8 p_9 => ?_)
  obtain ⟨rfl, l_10, ⟨g_11, f_13⟩, ⟨g_12, f_14, z_15⟩, r_16⟩ := p_9
  have l_17 := l_10.trans l_4
  refine J_aload_n (i := 0) (j := 0) dX11_feed_27 rfl rfl ?_
  refine J_iload_n (i := 2) (j := 2) dX11_feed_28 rfl rfl ?_
  have f_18 : h_8[162]? = some (.inr (11, [.int 0, .ref 163, .ref 164, .ref 165, .ref 166, .ref 167, .ref 168, .ref 169, .int 0, .int 0, .int 0, .int 0, .int 0, .long 0, .int 0, .int 0, .int 0, .int 0, .int 0, .ref 170, .ref 171, .ref 172, .int 0, .int 0, .int 0, .int 0, .int 0, .int 0, .ref 173, .ref 174, .ref 175, .int 0, .int 0, .int 0, .ref 176, .ref 177, .ref 178, .ref 179, .ref 180, .int 0, .long 0, .int 0, .ref 181])) := (r_16 162 (by decide) (by decide)).trans f_3
  refine J_callV (As := [.int a1]) (rest := []) dX11_feed_29 (c_X11_four (d := 0) (h := h_8) (n := 0 + 4) (by decide) f_18 f_13 f_14 z_15 (by omega)) hq.n k1398 k1400 k36 f_18 rfl rfl k97 k1401 np_X11_four (Nat.le_trans (by decide) hd) (by decide) (Nat.le_refl _) (Nat.le_refl _) (hkz l_17) rfl (Nat.le_of_ble_eq_true rfl) (fun r_19 h_20 p_21 => ?_)
  obtain ⟨rfl, l_22, ⟨g_23, f_25⟩, ⟨g_24, f_26, z_27⟩, r_28⟩ := p_21
  have l_29 := l_22.trans l_17
  refine J_aload_n (i := 0) (j := 0) dX11_feed_32 rfl rfl ?_
  refine J_iload_n (i := 3) (j := 3) dX11_feed_33 rfl rfl ?_
  have f_30 : h_20[162]? = some (.inr (11, [.int 0, .ref 163, .ref 164, .ref 165, .ref 166, .ref 167, .ref 168, .ref 169, .int 0, .int 0, .int 0, .int 0, .int 0, .long 0, .int 0, .int 0, .int 0, .int 0, .int 0, .ref 170, .ref 171, .ref 172, .int 0, .int 0, .int 0, .int 0, .int 0, .int 0, .ref 173, .ref 174, .ref 175, .int 0, .int 0, .int 0, .ref 176, .ref 177, .ref 178, .ref 179, .ref 180, .int 0, .long 0, .int 0, .ref 181])) := (r_28 162 (by decide) (by decide)).trans f_18
  refine J_callV (As := [.int a2]) (rest := []) dX11_feed_34 (c_X11_four (d := 0) (h := h_20) (n := 0 + 4 + 4) (by decide) f_30 f_25 f_26 z_27 (by omega)) hq.n k1398 k1400 k36 f_30 rfl rfl k97 k1401 np_X11_four (Nat.le_trans (by decide) hd) (by decide) (Nat.le_refl _) (Nat.le_refl _) (hkz l_29) rfl (Nat.le_of_ble_eq_true rfl) (fun r_31 h_32 p_33 => ?_)
  obtain ⟨rfl, l_34, ⟨g_35, f_37⟩, ⟨g_36, f_38, z_39⟩, r_40⟩ := p_33
  have l_41 := l_34.trans l_29
  refine J_aload_n (i := 0) (j := 0) dX11_feed_37 rfl rfl ?_
  refine J_iload (i := 4) (j := 4) dX11_feed_38 rfl ?_
  have f_42 : h_32[162]? = some (.inr (11, [.int 0, .ref 163, .ref 164, .ref 165, .ref 166, .ref 167, .ref 168, .ref 169, .int 0, .int 0, .int 0, .int 0, .int 0, .long 0, .int 0, .int 0, .int 0, .int 0, .int 0, .ref 170, .ref 171, .ref 172, .int 0, .int 0, .int 0, .int 0, .int 0, .int 0, .ref 173, .ref 174, .ref 175, .int 0, .int 0, .int 0, .ref 176, .ref 177, .ref 178, .ref 179, .ref 180, .int 0, .long 0, .int 0, .ref 181])) := (r_40 162 (by decide) (by decide)).trans f_30
  refine J_callV (As := [.int a3]) (rest := []) dX11_feed_40 (c_X11_four (d := 0) (h := h_32) (n := 0 + 4 + 4 + 4) (by decide) f_42 f_37 f_38 z_39 (by omega)) hq.n k1398 k1400 k36 f_42 rfl rfl k97 k1401 np_X11_four (Nat.le_trans (by decide) hd) (by decide) (Nat.le_refl _) (Nat.le_refl _) (hkz l_41) rfl (Nat.le_of_ble_eq_true rfl) (fun r_43 h_44 p_45 => ?_)
  obtain ⟨rfl, l_46, ⟨g_47, f_49⟩, ⟨g_48, f_50, z_51⟩, r_52⟩ := p_45
  have l_53 := l_46.trans l_41
  refine J_aload_n (i := 0) (j := 0) dX11_feed_43 rfl rfl ?_
  refine J_iload (i := 5) (j := 5) dX11_feed_44 rfl ?_
  have f_54 : h_44[162]? = some (.inr (11, [.int 0, .ref 163, .ref 164, .ref 165, .ref 166, .ref 167, .ref 168, .ref 169, .int 0, .int 0, .int 0, .int 0, .int 0, .long 0, .int 0, .int 0, .int 0, .int 0, .int 0, .ref 170, .ref 171, .ref 172, .int 0, .int 0, .int 0, .int 0, .int 0, .int 0, .ref 173, .ref 174, .ref 175, .int 0, .int 0, .int 0, .ref 176, .ref 177, .ref 178, .ref 179, .ref 180, .int 0, .long 0, .int 0, .ref 181])) := (r_52 162 (by decide) (by decide)).trans f_42
  refine J_callV (As := [.int a4]) (rest := []) dX11_feed_46 (c_X11_four (d := 0) (h := h_44) (n := 0 + 4 + 4 + 4 + 4) (by decide) f_54 f_49 f_50 z_51 (by omega)) hq.n k1398 k1400 k36 f_54 rfl rfl k97 k1401 np_X11_four (Nat.le_trans (by decide) hd) (by decide) (Nat.le_refl _) (Nat.le_refl _) (hkz l_53) rfl (Nat.le_of_ble_eq_true rfl) (fun r_55 h_56 p_57 => ?_)
  obtain ⟨rfl, l_58, ⟨g_59, f_61⟩, ⟨g_60, f_62, z_63⟩, r_64⟩ := p_57
  have l_65 := l_58.trans l_53
  refine J_aload_n (i := 0) (j := 0) dX11_feed_49 rfl rfl ?_
  have f_66 : h_56[162]? = some (.inr (11, [.int 0, .ref 163, .ref 164, .ref 165, .ref 166, .ref 167, .ref 168, .ref 169, .int 0, .int 0, .int 0, .int 0, .int 0, .long 0, .int 0, .int 0, .int 0, .int 0, .int 0, .ref 170, .ref 171, .ref 172, .int 0, .int 0, .int 0, .int 0, .int 0, .int 0, .ref 173, .ref 174, .ref 175, .int 0, .int 0, .int 0, .ref 176, .ref 177, .ref 178, .ref 179, .ref 180, .int 0, .long 0, .int 0, .ref 181])) := (r_64 162 (by decide) (by decide)).trans f_54
  refine J_get (C := RX11) (T := TX11) (Z := 43) (ci := 11) (f := 2) dX11_feed_50 inG11 rfl (by decide) k1266 f_66 rfl ?_
  refine J_iconst (v := 0) dX11_feed_53 (by decide) ?_
  refine J_iald dX11_feed_54 f_62 (vp_c (by decide)) ?_
  refine J_ci (v := nI (0 + 4 + 4 + 4 + 4 + 4)) z_63 ?_
  refine J_ci (v := 20) (by decide) ?_
  exact J_iret hq dX11_feed_55 rfl (hkz l_65) (Nat.le_refl _) (Nat.le_refl _) rfl
