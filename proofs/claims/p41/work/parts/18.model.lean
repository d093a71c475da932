theorem k1406 : Cond.methodLink RX11 78 yX11_in ∈ gt := gt_6_5 (i := 0) rfl rfl
theorem k1407 : Cond.static yX11_in ∈ gt := gt_6_5 (i := 1) rfl rfl
theorem k97 : Cond.initialized RX11 ∈ gt := gt_1_0 (i := 11) rfl rfl
theorem k1408 : Cond.code yX11_in cX11_in 3 (some .boolean) ∈ gt := gt_6_5 (i := 2) rfl rfl
theorem np_X11_in : yX11_in.cls ≠ "java/lang/invoke/MethodHandle" ∧ yX11_in.cls ≠ "java/lang/invoke/VarHandle" ∧ (parseMethodDescriptor yX11_in.desc).map (fun d => d.parameters.length) = some 3 := ⟨cq_RX11.1, cq_RX11.2, pd_18⟩
theorem k1286 : Cond.fieldLink RX11 208 "PondStairModel" "ponds" "I" ∈ gt := gt_6_0 (i := 0) rfl rfl
theorem k1515 : Cond.methodLink RX11 211 yX11_of ∈ gt := gt_6_9 (i := 13) rfl rfl
theorem k1517 : Cond.instanceMethod yX11_of ∈ gt := gt_6_9 (i := 15) rfl rfl
theorem k55 : Cond.selects RX11 yX11_of yX11_of ∈ gt := gs_4 (i := 7) rfl rfl
theorem k1518 : Cond.code yX11_of cX11_of 3 (some .int) ∈ gt := gt_6_9 (i := 16) rfl rfl
theorem np_X11_of : yX11_of.cls ≠ "java/lang/invoke/MethodHandle" ∧ yX11_of.cls ≠ "java/lang/invoke/VarHandle" ∧ (parseMethodDescriptor yX11_of.desc).map (fun d => d.parameters.length) = some 2 := ⟨cq_RX11.1, cq_RX11.2, pd_11⟩
theorem k1295 : Cond.fieldLink RX11 246 "PondStairModel" "went" "I" ∈ gt := gt_6_0 (i := 9) rfl rfl
theorem k1555 : Cond.methodLink RX11 249 yX11_has ∈ gt := gt_7_1 (i := 5) rfl rfl
theorem k1556 : Cond.static yX11_has ∈ gt := gt_7_1 (i := 6) rfl rfl
theorem k1557 : Cond.code yX11_has cX11_has 2 (some .boolean) ∈ gt := gt_7_1 (i := 7) rfl rfl
theorem np_X11_has : yX11_has.cls ≠ "java/lang/invoke/MethodHandle" ∧ yX11_has.cls ≠ "java/lang/invoke/VarHandle" ∧ (parseMethodDescriptor yX11_has.desc).map (fun d => d.parameters.length) = some 2 := ⟨cq_RX11.1, cq_RX11.2, pd_14⟩
theorem k1562 : Cond.methodLink RX11 262 yX11_hears ∈ gt := gt_7_1 (i := 12) rfl rfl
theorem k1564 : Cond.instanceMethod yX11_hears ∈ gt := gt_7_1 (i := 14) rfl rfl
theorem k63 : Cond.selects RX11 yX11_hears yX11_hears ∈ gt := gs_4 (i := 15) rfl rfl
theorem k1565 : Cond.code yX11_hears cX11_hears 3 (some .boolean) ∈ gt := gt_7_1 (i := 15) rfl rfl
theorem np_X11_hears : yX11_hears.cls ≠ "java/lang/invoke/MethodHandle" ∧ yX11_hears.cls ≠ "java/lang/invoke/VarHandle" ∧ (parseMethodDescriptor yX11_hears.desc).map (fun d => d.parameters.length) = some 1 := ⟨cq_RX11.1, cq_RX11.2, pd_10⟩
theorem k1296 : Cond.fieldLink RX11 252 "PondStairModel" "heard" "I" ∈ gt := gt_6_0 (i := 10) rfl rfl
theorem k1290 : Cond.fieldLink RX11 231 "PondStairModel" "kept" "I" ∈ gt := gt_6_0 (i := 4) rfl rfl
theorem k1297 : Cond.fieldLink RX11 255 "PondStairModel" "brook" "I" ∈ gt := gt_6_0 (i := 11) rfl rfl
theorem k1558 : Cond.methodLink RX11 258 yX11_pass ∈ gt := gt_7_1 (i := 8) rfl rfl
theorem k1560 : Cond.instanceMethod yX11_pass ∈ gt := gt_7_1 (i := 10) rfl rfl
theorem k62 : Cond.selects RX11 yX11_pass yX11_pass ∈ gt := gs_4 (i := 14) rfl rfl
theorem k1561 : Cond.code yX11_pass cX11_pass 7 none ∈ gt := gt_7_1 (i := 11) rfl rfl
theorem np_X11_pass : yX11_pass.cls ≠ "java/lang/invoke/MethodHandle" ∧ yX11_pass.cls ≠ "java/lang/invoke/VarHandle" ∧ (parseMethodDescriptor yX11_pass.desc).map (fun d => d.parameters.length) = some 3 := ⟨cq_RX11.1, cq_RX11.2, pd_34⟩
theorem k1291 : Cond.fieldLink RX11 234 "PondStairModel" "dry" "Z" ∈ gt := gt_6_0 (i := 5) rfl rfl
theorem k1570 : Cond.methodLink RX11 281 yX11_harmOf ∈ gt := gt_7_1 (i := 20) rfl rfl
theorem k1572 : Cond.instanceMethod yX11_harmOf ∈ gt := gt_7_1 (i := 22) rfl rfl
theorem k65 : Cond.selects RX11 yX11_harmOf yX11_harmOf ∈ gt := gs_5 (i := 1) rfl rfl
theorem k1573 : Cond.code yX11_harmOf cX11_harmOf 4 (some .int) ∈ gt := gt_7_1 (i := 23) rfl rfl
theorem np_X11_harmOf : yX11_harmOf.cls ≠ "java/lang/invoke/MethodHandle" ∧ yX11_harmOf.cls ≠ "java/lang/invoke/VarHandle" ∧ (parseMethodDescriptor yX11_harmOf.desc).map (fun d => d.parameters.length) = some 1 := ⟨cq_RX11.1, cq_RX11.2, pd_6⟩
theorem k1587 : Cond.constantLong RX11 284 100 ∈ gt := gt_7_2 (i := 13) rfl rfl
theorem k1588 : Cond.constantLong RX11 286 10 ∈ gt := gt_7_2 (i := 14) rfl rfl
theorem k1579 : Cond.methodLink RX11 288 yX11_partsOf ∈ gt := gt_7_2 (i := 5) rfl rfl
theorem k1581 : Cond.instanceMethod yX11_partsOf ∈ gt := gt_7_2 (i := 7) rfl rfl
theorem k66 : Cond.selects RX11 yX11_partsOf yX11_partsOf ∈ gt := gs_5 (i := 2) rfl rfl
theorem k1582 : Cond.code yX11_partsOf cX11_partsOf 6 (some .long) ∈ gt := gt_7_2 (i := 8) rfl rfl
theorem np_X11_partsOf : yX11_partsOf.cls ≠ "java/lang/invoke/MethodHandle" ∧ yX11_partsOf.cls ≠ "java/lang/invoke/VarHandle" ∧ (parseMethodDescriptor yX11_partsOf.desc).map (fun d => d.parameters.length) = some 2 := ⟨cq_RX11.1, cq_RX11.2, pd_12⟩
theorem k1547 : Cond.methodLink RX11 271 yX11_stepsOf ∈ gt := gt_7_0 (i := 21) rfl rfl
theorem k1549 : Cond.instanceMethod yX11_stepsOf ∈ gt := gt_7_0 (i := 23) rfl rfl
theorem k60 : Cond.selects RX11 yX11_stepsOf yX11_stepsOf ∈ gt := gs_4 (i := 12) rfl rfl
theorem k1550 : Cond.code yX11_stepsOf cX11_stepsOf 2 (some .int) ∈ gt := gt_7_1 (i := 0) rfl rfl
theorem np_X11_stepsOf : yX11_stepsOf.cls ≠ "java/lang/invoke/MethodHandle" ∧ yX11_stepsOf.cls ≠ "java/lang/invoke/VarHandle" ∧ (parseMethodDescriptor yX11_stepsOf.desc).map (fun d => d.parameters.length) = some 1 := ⟨cq_RX11.1, cq_RX11.2, pd_6⟩
theorem k1551 : Cond.methodLink RX11 275 yX11_blow ∈ gt := gt_7_1 (i := 1) rfl rfl
theorem k1553 : Cond.instanceMethod yX11_blow ∈ gt := gt_7_1 (i := 3) rfl rfl
theorem k61 : Cond.selects RX11 yX11_blow yX11_blow ∈ gt := gs_4 (i := 13) rfl rfl
theorem k1554 : Cond.code yX11_blow cX11_blow 5 none ∈ gt := gt_7_1 (i := 4) rfl rfl
theorem np_X11_blow : yX11_blow.cls ≠ "java/lang/invoke/MethodHandle" ∧ yX11_blow.cls ≠ "java/lang/invoke/VarHandle" ∧ (parseMethodDescriptor yX11_blow.desc).map (fun d => d.parameters.length) = some 2 := ⟨cq_RX11.1, cq_RX11.2, pd_13⟩
theorem k1519 : Cond.methodLink RX11 215 yX11_set ∈ gt := gt_6_9 (i := 17) rfl rfl
theorem k1521 : Cond.instanceMethod yX11_set ∈ gt := gt_6_9 (i := 19) rfl rfl
theorem k56 : Cond.selects RX11 yX11_set yX11_set ∈ gt := gs_4 (i := 8) rfl rfl
theorem k1522 : Cond.code yX11_set cX11_set 4 none ∈ gt := gt_6_9 (i := 20) rfl rfl
theorem np_X11_set : yX11_set.cls ≠ "java/lang/invoke/MethodHandle" ∧ yX11_set.cls ≠ "java/lang/invoke/VarHandle" ∧ (parseMethodDescriptor yX11_set.desc).map (fun d => d.parameters.length) = some 3 := ⟨cq_RX11.1, cq_RX11.2, pd_17⟩
theorem k1631 : Cond.methodLink RX11 308 yX11_mendAll ∈ gt := gt_7_4 (i := 9) rfl rfl
theorem k1633 : Cond.instanceMethod yX11_mendAll ∈ gt := gt_7_4 (i := 11) rfl rfl
theorem k73 : Cond.selects RX11 yX11_mendAll yX11_mendAll ∈ gt := gs_5 (i := 9) rfl rfl
theorem k1634 : Cond.code yX11_mendAll cX11_mendAll 3 none ∈ gt := gt_7_4 (i := 12) rfl rfl
theorem np_X11_mendAll : yX11_mendAll.cls ≠ "java/lang/invoke/MethodHandle" ∧ yX11_mendAll.cls ≠ "java/lang/invoke/VarHandle" ∧ (parseMethodDescriptor yX11_mendAll.desc).map (fun d => d.parameters.length) = some 1 := ⟨cq_RX11.1, cq_RX11.2, pd_9⟩
theorem k1596 : Cond.methodLink RX11 301 yX11_meanBy ∈ gt := gt_7_2 (i := 22) rfl rfl
theorem k1598 : Cond.instanceMethod yX11_meanBy ∈ gt := gt_7_3 (i := 0) rfl rfl
theorem k68 : Cond.selects RX11 yX11_meanBy yX11_meanBy ∈ gt := gs_5 (i := 4) rfl rfl
theorem k1599 : Cond.code yX11_meanBy cX11_meanBy 8 (some .long) ∈ gt := gt_7_3 (i := 1) rfl rfl
theorem np_X11_meanBy : yX11_meanBy.cls ≠ "java/lang/invoke/MethodHandle" ∧ yX11_meanBy.cls ≠ "java/lang/invoke/VarHandle" ∧ (parseMethodDescriptor yX11_meanBy.desc).map (fun d => d.parameters.length) = some 1 := ⟨cq_RX11.1, cq_RX11.2, pd_7⟩
theorem k1699 : Cond.methodLink RX11 352 yX11_seenBy ∈ gt := gt_7_7 (i := 5) rfl rfl
theorem k1701 : Cond.instanceMethod yX11_seenBy ∈ gt := gt_7_7 (i := 7) rfl rfl
theorem k79 : Cond.selects RX11 yX11_seenBy yX11_seenBy ∈ gt := gs_5 (i := 15) rfl rfl
theorem k1702 : Cond.code yX11_seenBy cX11_seenBy 2 (some .int) ∈ gt := gt_7_7 (i := 8) rfl rfl
theorem np_X11_seenBy : yX11_seenBy.cls ≠ "java/lang/invoke/MethodHandle" ∧ yX11_seenBy.cls ≠ "java/lang/invoke/VarHandle" ∧ (parseMethodDescriptor yX11_seenBy.desc).map (fun d => d.parameters.length) = some 1 := ⟨cq_RX11.1, cq_RX11.2, pd_6⟩
theorem dX11_in_0 : decode cX11_in 0 = .ok (.iload_n 0, 1) := dqn_26 (k := 15) qh_cX11_in rfl rfl
theorem dX11_in_1 : decode cX11_in 1 = .ok (.iload_n 1, 1) := dqn_27 (k := 14) qh_cX11_in rfl rfl
theorem dX11_in_2 : decode cX11_in 2 = .ok (.if_icmp .lt 12, 3) := dqn_161 (k := 11) (u := 12) qh_cX11_in rfl rfl rfl (sg_p rfl rfl)
theorem dX11_in_5 : decode cX11_in 5 = .ok (.iload_n 0, 1) := dqn_26 (k := 10) qh_cX11_in rfl rfl
theorem dX11_in_6 : decode cX11_in 6 = .ok (.iload_n 2, 1) := dqn_28 (k := 9) qh_cX11_in rfl rfl
theorem dX11_in_7 : decode cX11_in 7 = .ok (.if_icmp .gt 7, 3) := dqn_163 (k := 6) (u := 7) qh_cX11_in rfl rfl rfl (sg_p rfl rfl)
theorem dX11_in_10 : decode cX11_in 10 = .ok (.iconst 1, 1) := dqn_4 (k := 5) qh_cX11_in rfl rfl
theorem dX11_in_11 : decode cX11_in 11 = .ok (.goto 4, 3) := dqn_167 (k := 2) (u := 4) qh_cX11_in rfl rfl rfl (sg_p rfl rfl)
theorem dX11_in_14 : decode cX11_in 14 = .ok (.iconst 0, 1) := dqn_3 (k := 1) qh_cX11_in rfl rfl
theorem dX11_in_15 : decode cX11_in 15 = .ok (.ireturn, 1) := dqn_172 (k := 0) qh_cX11_in rfl rfl
theorem dX11_has_0 : decode cX11_has 0 = .ok (.iload_n 0, 1) := dqn_26 (k := 14) qh_cX11_has rfl rfl
theorem dX11_has_1 : decode cX11_has 1 = .ok (.iload_n 1, 1) := dqn_27 (k := 13) qh_cX11_has rfl rfl
theorem dX11_has_2 : decode cX11_has 2 = .ok (.ishr, 1) := dqn_122 (k := 12) qh_cX11_has rfl rfl
theorem dX11_has_3 : decode cX11_has 3 = .ok (.iconst 1, 1) := dqn_4 (k := 11) qh_cX11_has rfl rfl
theorem dX11_has_4 : decode cX11_has 4 = .ok (.iand, 1) := dqn_126 (k := 10) qh_cX11_has rfl rfl
theorem dX11_has_5 : decode cX11_has 5 = .ok (.iconst 1, 1) := dqn_4 (k := 9) qh_cX11_has rfl rfl
theorem dX11_has_6 : decode cX11_has 6 = .ok (.if_icmp .ne 7, 3) := dqn_160 (k := 6) (u := 7) qh_cX11_has rfl rfl rfl (sg_p rfl rfl)
theorem dX11_has_9 : decode cX11_has 9 = .ok (.iconst 1, 1) := dqn_4 (k := 5) qh_cX11_has rfl rfl
theorem dX11_has_10 : decode cX11_has 10 = .ok (.goto 4, 3) := dqn_167 (k := 2) (u := 4) qh_cX11_has rfl rfl rfl (sg_p rfl rfl)
theorem dX11_has_13 : decode cX11_has 13 = .ok (.iconst 0, 1) := dqn_3 (k := 1) qh_cX11_has rfl rfl
theorem dX11_has_14 : decode cX11_has 14 = .ok (.ireturn, 1) := dqn_172 (k := 0) qh_cX11_has rfl rfl
theorem dX11_ones_0 : decode cX11_ones 0 = .ok (.iconst 0, 1) := dqn_3 (k := 25) qh_cX11_ones rfl rfl
theorem dX11_ones_1 : decode cX11_ones 1 = .ok (.istore_n 1, 1) := dqn_60 (k := 24) qh_cX11_ones rfl rfl
theorem dX11_ones_2 : decode cX11_ones 2 = .ok (.iconst 0, 1) := dqn_3 (k := 23) qh_cX11_ones rfl rfl
theorem dX11_ones_3 : decode cX11_ones 3 = .ok (.istore_n 2, 1) := dqn_61 (k := 22) qh_cX11_ones rfl rfl
theorem dX11_ones_4 : decode cX11_ones 4 = .ok (.iload_n 2, 1) := dqn_28 (k := 21) qh_cX11_ones rfl rfl
theorem dX11_ones_5 : decode cX11_ones 5 = .ok (.bipush 9, 2) := dqn_16 (k := 19) (u := 9) qh_cX11_ones rfl rfl rfl (by decide)
theorem dX11_ones_7 : decode cX11_ones 7 = .ok (.if_icmp .ge 17, 3) := dqn_162 (k := 16) (u := 17) qh_cX11_ones rfl rfl rfl (sg_p rfl rfl)
theorem dX11_ones_10 : decode cX11_ones 10 = .ok (.iload_n 1, 1) := dqn_27 (k := 15) qh_cX11_ones rfl rfl
theorem dX11_ones_11 : decode cX11_ones 11 = .ok (.iload_n 0, 1) := dqn_26 (k := 14) qh_cX11_ones rfl rfl
theorem dX11_ones_12 : decode cX11_ones 12 = .ok (.iload_n 2, 1) := dqn_28 (k := 13) qh_cX11_ones rfl rfl
theorem dX11_ones_13 : decode cX11_ones 13 = .ok (.ishr, 1) := dqn_122 (k := 12) qh_cX11_ones rfl rfl
theorem dX11_ones_14 : decode cX11_ones 14 = .ok (.iconst 1, 1) := dqn_4 (k := 11) qh_cX11_ones rfl rfl
theorem dX11_ones_15 : decode cX11_ones 15 = .ok (.iand, 1) := dqn_126 (k := 10) qh_cX11_ones rfl rfl
theorem dX11_ones_16 : decode cX11_ones 16 = .ok (.iadd, 1) := dqn_96 (k := 9) qh_cX11_ones rfl rfl
theorem dX11_ones_17 : decode cX11_ones 17 = .ok (.istore_n 1, 1) := dqn_60 (k := 8) qh_cX11_ones rfl rfl
theorem dX11_ones_18 : decode cX11_ones 18 = .ok (.iinc 2 1, 3) := dqn_132 (k := 5) (u := 1) qh_cX11_ones rfl rfl rfl rfl (by decide)
theorem dX11_ones_21 : decode cX11_ones 21 = .ok (.goto (-17), 3) := dqn_167 (k := 2) (u := 65519) qh_cX11_ones rfl rfl rfl (sg_n (k := 17) rfl rfl rfl)
theorem dX11_ones_24 : decode cX11_ones 24 = .ok (.iload_n 1, 1) := dqn_27 (k := 1) qh_cX11_ones rfl rfl
theorem dX11_ones_25 : decode cX11_ones 25 = .ok (.ireturn, 1) := dqn_172 (k := 0) qh_cX11_ones rfl rfl
theorem dX11_isHill_0 : decode cX11_isHill 0 = .ok (.iload_n 1, 1) := dqn_27 (k := 13) qh_cX11_isHill rfl rfl
theorem dX11_isHill_1 : decode cX11_isHill 1 = .ok (.iconst 0, 1) := dqn_3 (k := 12) qh_cX11_isHill rfl rfl
theorem dX11_isHill_2 : decode cX11_isHill 2 = .ok (.aload_n 0, 1) := dqn_42 (k := 11) qh_cX11_isHill rfl rfl
theorem dX11_isHill_3 : decode cX11_isHill 3 = .ok (.getfield 23, 3) := dqn_180 (k := 8) qh_cX11_isHill rfl rfl rfl
theorem dX11_isHill_6 : decode cX11_isHill 6 = .ok (.iconst 0, 1) := dqn_3 (k := 7) qh_cX11_isHill rfl rfl
theorem dX11_isHill_7 : decode cX11_isHill 7 = .ok (.iaload, 1) := dqn_46 (k := 6) qh_cX11_isHill rfl rfl
theorem dX11_isHill_8 : decode cX11_isHill 8 = .ok (.iconst 1, 1) := dqn_4 (k := 5) qh_cX11_isHill rfl rfl
theorem dX11_isHill_9 : decode cX11_isHill 9 = .ok (.isub, 1) := dqn_100 (k := 4) qh_cX11_isHill rfl rfl
theorem dX11_isHill_10 : decode cX11_isHill 10 = .ok (.invokestatic 78, 3) := dqn_184 (k := 1) qh_cX11_isHill rfl rfl rfl
theorem dX11_isHill_13 : decode cX11_isHill 13 = .ok (.ireturn, 1) := dqn_172 (k := 0) qh_cX11_isHill rfl rfl
theorem dX11_isPlan_0 : decode cX11_isPlan 0 = .ok (.iload_n 1, 1) := dqn_27 (k := 13) qh_cX11_isPlan rfl rfl
theorem dX11_isPlan_1 : decode cX11_isPlan 1 = .ok (.iconst 0, 1) := dqn_3 (k := 12) qh_cX11_isPlan rfl rfl
theorem dX11_isPlan_2 : decode cX11_isPlan 2 = .ok (.aload_n 0, 1) := dqn_42 (k := 11) qh_cX11_isPlan rfl rfl
theorem dX11_isPlan_3 : decode cX11_isPlan 3 = .ok (.getfield 23, 3) := dqn_180 (k := 8) qh_cX11_isPlan rfl rfl rfl
theorem dX11_isPlan_6 : decode cX11_isPlan 6 = .ok (.iconst 1, 1) := dqn_4 (k := 7) qh_cX11_isPlan rfl rfl
theorem dX11_isPlan_7 : decode cX11_isPlan 7 = .ok (.iaload, 1) := dqn_46 (k := 6) qh_cX11_isPlan rfl rfl
theorem dX11_isPlan_8 : decode cX11_isPlan 8 = .ok (.iconst 1, 1) := dqn_4 (k := 5) qh_cX11_isPlan rfl rfl
theorem dX11_isPlan_9 : decode cX11_isPlan 9 = .ok (.isub, 1) := dqn_100 (k := 4) qh_cX11_isPlan rfl rfl
theorem dX11_isPlan_10 : decode cX11_isPlan 10 = .ok (.invokestatic 78, 3) := dqn_184 (k := 1) qh_cX11_isPlan rfl rfl rfl
theorem dX11_isPlan_13 : decode cX11_isPlan 13 = .ok (.ireturn, 1) := dqn_172 (k := 0) qh_cX11_isPlan rfl rfl
theorem dX11_isPond_0 : decode cX11_isPond 0 = .ok (.iload_n 1, 1) := dqn_27 (k := 11) qh_cX11_isPond rfl rfl
theorem dX11_isPond_1 : decode cX11_isPond 1 = .ok (.iconst 0, 1) := dqn_3 (k := 10) qh_cX11_isPond rfl rfl
theorem dX11_isPond_2 : decode cX11_isPond 2 = .ok (.aload_n 0, 1) := dqn_42 (k := 9) qh_cX11_isPond rfl rfl
theorem dX11_isPond_3 : decode cX11_isPond 3 = .ok (.getfield 208, 3) := dqn_180 (k := 6) qh_cX11_isPond rfl rfl rfl
theorem dX11_isPond_6 : decode cX11_isPond 6 = .ok (.iconst 1, 1) := dqn_4 (k := 5) qh_cX11_isPond rfl rfl
theorem dX11_isPond_7 : decode cX11_isPond 7 = .ok (.isub, 1) := dqn_100 (k := 4) qh_cX11_isPond rfl rfl
theorem dX11_isPond_8 : decode cX11_isPond 8 = .ok (.invokestatic 78, 3) := dqn_184 (k := 1) qh_cX11_isPond rfl rfl rfl
theorem dX11_isPond_11 : decode cX11_isPond 11 = .ok (.ireturn, 1) := dqn_172 (k := 0) qh_cX11_isPond rfl rfl
theorem dX11_arePonds_0 : decode cX11_arePonds 0 = .ok (.iload_n 1, 1) := dqn_27 (k := 18) qh_cX11_arePonds rfl rfl
theorem dX11_arePonds_1 : decode cX11_arePonds 1 = .ok (.ifCond .lt 16, 3) := dqn_155 (k := 15) (u := 16) qh_cX11_arePonds rfl rfl rfl (sg_p rfl rfl)
theorem dX11_arePonds_4 : decode cX11_arePonds 4 = .ok (.iload_n 1, 1) := dqn_27 (k := 14) qh_cX11_arePonds rfl rfl
theorem dX11_arePonds_5 : decode cX11_arePonds 5 = .ok (.aload_n 0, 1) := dqn_42 (k := 13) qh_cX11_arePonds rfl rfl
theorem dX11_arePonds_6 : decode cX11_arePonds 6 = .ok (.getfield 208, 3) := dqn_180 (k := 10) qh_cX11_arePonds rfl rfl rfl
theorem dX11_arePonds_9 : decode cX11_arePonds 9 = .ok (.ishr, 1) := dqn_122 (k := 9) qh_cX11_arePonds rfl rfl
theorem dX11_arePonds_10 : decode cX11_arePonds 10 = .ok (.ifCond .ne 7, 3) := dqn_154 (k := 6) (u := 7) qh_cX11_arePonds rfl rfl rfl (sg_p rfl rfl)
theorem dX11_arePonds_13 : decode cX11_arePonds 13 = .ok (.iconst 1, 1) := dqn_4 (k := 5) qh_cX11_arePonds rfl rfl
theorem dX11_arePonds_14 : decode cX11_arePonds 14 = .ok (.goto 4, 3) := dqn_167 (k := 2) (u := 4) qh_cX11_arePonds rfl rfl rfl (sg_p rfl rfl)
theorem dX11_arePonds_17 : decode cX11_arePonds 17 = .ok (.iconst 0, 1) := dqn_3 (k := 1) qh_cX11_arePonds rfl rfl
theorem dX11_arePonds_18 : decode cX11_arePonds 18 = .ok (.ireturn, 1) := dqn_172 (k := 0) qh_cX11_arePonds rfl rfl
theorem dX11_isRain_0 : decode cX11_isRain 0 = .ok (.iload_n 1, 1) := dqn_27 (k := 13) qh_cX11_isRain rfl rfl
theorem dX11_isRain_1 : decode cX11_isRain 1 = .ok (.iconst 0, 1) := dqn_3 (k := 12) qh_cX11_isRain rfl rfl
theorem dX11_isRain_2 : decode cX11_isRain 2 = .ok (.aload_n 0, 1) := dqn_42 (k := 11) qh_cX11_isRain rfl rfl
theorem dX11_isRain_3 : decode cX11_isRain 3 = .ok (.getfield 38, 3) := dqn_180 (k := 8) qh_cX11_isRain rfl rfl rfl
theorem dX11_isRain_6 : decode cX11_isRain 6 = .ok (.iconst 1, 1) := dqn_4 (k := 7) qh_cX11_isRain rfl rfl
theorem dX11_isRain_7 : decode cX11_isRain 7 = .ok (.iaload, 1) := dqn_46 (k := 6) qh_cX11_isRain rfl rfl
theorem dX11_isRain_8 : decode cX11_isRain 8 = .ok (.iconst 1, 1) := dqn_4 (k := 5) qh_cX11_isRain rfl rfl
theorem dX11_isRain_9 : decode cX11_isRain 9 = .ok (.isub, 1) := dqn_100 (k := 4) qh_cX11_isRain rfl rfl
theorem dX11_isRain_10 : decode cX11_isRain 10 = .ok (.invokestatic 78, 3) := dqn_184 (k := 1) qh_cX11_isRain rfl rfl rfl
theorem dX11_isRain_13 : decode cX11_isRain 13 = .ok (.ireturn, 1) := dqn_172 (k := 0) qh_cX11_isRain rfl rfl
theorem dX11_isOwner_0 : decode cX11_isOwner 0 = .ok (.iload_n 0, 1) := dqn_26 (k := 6) qh_cX11_isOwner rfl rfl
theorem dX11_isOwner_1 : decode cX11_isOwner 1 = .ok (.iconst 0, 1) := dqn_3 (k := 5) qh_cX11_isOwner rfl rfl
theorem dX11_isOwner_2 : decode cX11_isOwner 2 = .ok (.iconst 3, 1) := dqn_6 (k := 4) qh_cX11_isOwner rfl rfl
theorem dX11_isOwner_3 : decode cX11_isOwner 3 = .ok (.invokestatic 78, 3) := dqn_184 (k := 1) qh_cX11_isOwner rfl rfl rfl
theorem dX11_isOwner_6 : decode cX11_isOwner 6 = .ok (.ireturn, 1) := dqn_172 (k := 0) qh_cX11_isOwner rfl rfl
theorem dX11_of_0 : decode cX11_of 0 = .ok (.aload_n 0, 1) := dqn_42 (k := 14) qh_cX11_of rfl rfl
theorem dX11_of_1 : decode cX11_of 1 = .ok (.getfield 38, 3) := dqn_180 (k := 11) qh_cX11_of rfl rfl rfl
theorem dX11_of_4 : decode cX11_of 4 = .ok (.bipush 13, 2) := dqn_16 (k := 9) (u := 13) qh_cX11_of rfl rfl rfl (by decide)
theorem dX11_of_6 : decode cX11_of 6 = .ok (.bipush 16, 2) := dqn_16 (k := 7) (u := 16) qh_cX11_of rfl rfl rfl (by decide)
theorem dX11_of_8 : decode cX11_of 8 = .ok (.iload_n 1, 1) := dqn_27 (k := 6) qh_cX11_of rfl rfl
theorem dX11_of_9 : decode cX11_of 9 = .ok (.imul, 1) := dqn_104 (k := 5) qh_cX11_of rfl rfl
theorem dX11_of_10 : decode cX11_of 10 = .ok (.iadd, 1) := dqn_96 (k := 4) qh_cX11_of rfl rfl
theorem dX11_of_11 : decode cX11_of 11 = .ok (.iload_n 2, 1) := dqn_28 (k := 3) qh_cX11_of rfl rfl
theorem dX11_of_12 : decode cX11_of 12 = .ok (.iadd, 1) := dqn_96 (k := 2) qh_cX11_of rfl rfl
theorem dX11_of_13 : decode cX11_of 13 = .ok (.iaload, 1) := dqn_46 (k := 1) qh_cX11_of rfl rfl
theorem dX11_of_14 : decode cX11_of 14 = .ok (.ireturn, 1) := dqn_172 (k := 0) qh_cX11_of rfl rfl
theorem dX11_set_0 : decode cX11_set 0 = .ok (.aload_n 0, 1) := dqn_42 (k := 15) qh_cX11_set rfl rfl
theorem dX11_set_1 : decode cX11_set 1 = .ok (.getfield 38, 3) := dqn_180 (k := 12) qh_cX11_set rfl rfl rfl
theorem dX11_set_4 : decode cX11_set 4 = .ok (.bipush 13, 2) := dqn_16 (k := 10) (u := 13) qh_cX11_set rfl rfl rfl (by decide)
theorem dX11_set_6 : decode cX11_set 6 = .ok (.bipush 16, 2) := dqn_16 (k := 8) (u := 16) qh_cX11_set rfl rfl rfl (by decide)
theorem dX11_set_8 : decode cX11_set 8 = .ok (.iload_n 1, 1) := dqn_27 (k := 7) qh_cX11_set rfl rfl
theorem dX11_set_9 : decode cX11_set 9 = .ok (.imul, 1) := dqn_104 (k := 6) qh_cX11_set rfl rfl
theorem dX11_set_10 : decode cX11_set 10 = .ok (.iadd, 1) := dqn_96 (k := 5) qh_cX11_set rfl rfl
theorem dX11_set_11 : decode cX11_set 11 = .ok (.iload_n 2, 1) := dqn_28 (k := 4) qh_cX11_set rfl rfl
theorem dX11_set_12 : decode cX11_set 12 = .ok (.iadd, 1) := dqn_96 (k := 3) qh_cX11_set rfl rfl
theorem dX11_set_13 : decode cX11_set 13 = .ok (.iload_n 3, 1) := dqn_29 (k := 2) qh_cX11_set rfl rfl
theorem dX11_set_14 : decode cX11_set 14 = .ok (.iastore, 1) := dqn_79 (k := 1) qh_cX11_set rfl rfl
theorem dX11_set_15 : decode cX11_set 15 = .ok (.return_, 1) := dqn_177 (k := 0) qh_cX11_set rfl rfl
theorem dX11_hears_0 : decode cX11_hears 0 = .ok (.iconst 0, 1) := dqn_3 (k := 77) qh_cX11_hears rfl rfl
theorem dX11_hears_1 : decode cX11_hears 1 = .ok (.istore_n 2, 1) := dqn_61 (k := 76) qh_cX11_hears rfl rfl
theorem dX11_hears_2 : decode cX11_hears 2 = .ok (.iload_n 2, 1) := dqn_28 (k := 75) qh_cX11_hears rfl rfl
theorem dX11_hears_3 : decode cX11_hears 3 = .ok (.iload_n 1, 1) := dqn_27 (k := 74) qh_cX11_hears rfl rfl
theorem dX11_hears_4 : decode cX11_hears 4 = .ok (.if_icmp .ge 72, 3) := dqn_162 (k := 71) (u := 72) qh_cX11_hears rfl rfl rfl (sg_p rfl rfl)
theorem dX11_hears_7 : decode cX11_hears 7 = .ok (.aload_n 0, 1) := dqn_42 (k := 70) qh_cX11_hears rfl rfl
theorem dX11_hears_8 : decode cX11_hears 8 = .ok (.iload_n 1, 1) := dqn_27 (k := 69) qh_cX11_hears rfl rfl
theorem dX11_hears_9 : decode cX11_hears 9 = .ok (.bipush 12, 2) := dqn_16 (k := 67) (u := 12) qh_cX11_hears rfl rfl rfl (by decide)
theorem dX11_hears_11 : decode cX11_hears 11 = .ok (.invokevirtual 211, 3) := dqn_182 (k := 64) qh_cX11_hears rfl rfl rfl
theorem dX11_hears_14 : decode cX11_hears 14 = .ok (.iconst (-1), 1) := dqn_2 (k := 63) qh_cX11_hears rfl rfl
theorem dX11_hears_15 : decode cX11_hears 15 = .ok (.if_icmp .eq 61, 3) := dqn_159 (k := 60) (u := 61) qh_cX11_hears rfl rfl rfl (sg_p rfl rfl)
theorem dX11_hears_18 : decode cX11_hears 18 = .ok (.aload_n 0, 1) := dqn_42 (k := 59) qh_cX11_hears rfl rfl
theorem dX11_hears_19 : decode cX11_hears 19 = .ok (.getfield 246, 3) := dqn_180 (k := 56) qh_cX11_hears rfl rfl rfl
theorem dX11_hears_22 : decode cX11_hears 22 = .ok (.iload_n 2, 1) := dqn_28 (k := 55) qh_cX11_hears rfl rfl
theorem dX11_hears_23 : decode cX11_hears 23 = .ok (.invokestatic 249, 3) := dqn_184 (k := 52) qh_cX11_hears rfl rfl rfl
theorem dX11_hears_26 : decode cX11_hears 26 = .ok (.ifCond .eq 44, 3) := dqn_153 (k := 49) (u := 44) qh_cX11_hears rfl rfl rfl (sg_p rfl rfl)
theorem dX11_hears_29 : decode cX11_hears 29 = .ok (.aload_n 0, 1) := dqn_42 (k := 48) qh_cX11_hears rfl rfl
theorem dX11_hears_30 : decode cX11_hears 30 = .ok (.iload_n 2, 1) := dqn_28 (k := 47) qh_cX11_hears rfl rfl
theorem dX11_hears_31 : decode cX11_hears 31 = .ok (.bipush 8, 2) := dqn_16 (k := 45) (u := 8) qh_cX11_hears rfl rfl rfl (by decide)
theorem dX11_hears_33 : decode cX11_hears 33 = .ok (.invokevirtual 211, 3) := dqn_182 (k := 42) qh_cX11_hears rfl rfl rfl
theorem dX11_hears_36 : decode cX11_hears 36 = .ok (.iload_n 1, 1) := dqn_27 (k := 41) qh_cX11_hears rfl rfl
theorem dX11_hears_37 : decode cX11_hears 37 = .ok (.if_icmp .eq 14, 3) := dqn_159 (k := 38) (u := 14) qh_cX11_hears rfl rfl rfl (sg_p rfl rfl)
theorem dX11_hears_40 : decode cX11_hears 40 = .ok (.aload_n 0, 1) := dqn_42 (k := 37) qh_cX11_hears rfl rfl
theorem dX11_hears_41 : decode cX11_hears 41 = .ok (.iload_n 2, 1) := dqn_28 (k := 36) qh_cX11_hears rfl rfl
theorem dX11_hears_42 : decode cX11_hears 42 = .ok (.bipush 9, 2) := dqn_16 (k := 34) (u := 9) qh_cX11_hears rfl rfl rfl (by decide)
theorem dX11_hears_44 : decode cX11_hears 44 = .ok (.invokevirtual 211, 3) := dqn_182 (k := 31) qh_cX11_hears rfl rfl rfl
theorem dX11_hears_47 : decode cX11_hears 47 = .ok (.iload_n 1, 1) := dqn_27 (k := 30) qh_cX11_hears rfl rfl
theorem dX11_hears_48 : decode cX11_hears 48 = .ok (.if_icmp .ne 22, 3) := dqn_160 (k := 27) (u := 22) qh_cX11_hears rfl rfl rfl (sg_p rfl rfl)
theorem dX11_hears_51 : decode cX11_hears 51 = .ok (.aload_n 0, 1) := dqn_42 (k := 26) qh_cX11_hears rfl rfl
theorem dX11_hears_52 : decode cX11_hears 52 = .ok (.iload_n 2, 1) := dqn_28 (k := 25) qh_cX11_hears rfl rfl
theorem dX11_hears_53 : decode cX11_hears 53 = .ok (.bipush 11, 2) := dqn_16 (k := 23) (u := 11) qh_cX11_hears rfl rfl rfl (by decide)
theorem dX11_hears_55 : decode cX11_hears 55 = .ok (.invokevirtual 211, 3) := dqn_182 (k := 20) qh_cX11_hears rfl rfl rfl
theorem dX11_hears_58 : decode cX11_hears 58 = .ok (.aload_n 0, 1) := dqn_42 (k := 19) qh_cX11_hears rfl rfl
theorem dX11_hears_59 : decode cX11_hears 59 = .ok (.iload_n 1, 1) := dqn_27 (k := 18) qh_cX11_hears rfl rfl
theorem dX11_hears_60 : decode cX11_hears 60 = .ok (.bipush 12, 2) := dqn_16 (k := 16) (u := 12) qh_cX11_hears rfl rfl rfl (by decide)
theorem dX11_hears_62 : decode cX11_hears 62 = .ok (.invokevirtual 211, 3) := dqn_182 (k := 13) qh_cX11_hears rfl rfl rfl
theorem dX11_hears_65 : decode cX11_hears 65 = .ok (.if_icmp .lt 5, 3) := dqn_161 (k := 10) (u := 5) qh_cX11_hears rfl rfl rfl (sg_p rfl rfl)
theorem dX11_hears_68 : decode cX11_hears 68 = .ok (.iconst 1, 1) := dqn_4 (k := 9) qh_cX11_hears rfl rfl
theorem dX11_hears_69 : decode cX11_hears 69 = .ok (.ireturn, 1) := dqn_172 (k := 8) qh_cX11_hears rfl rfl
theorem dX11_hears_70 : decode cX11_hears 70 = .ok (.iinc 2 1, 3) := dqn_132 (k := 5) (u := 1) qh_cX11_hears rfl rfl rfl rfl (by decide)
theorem dX11_hears_73 : decode cX11_hears 73 = .ok (.goto (-71), 3) := dqn_167 (k := 2) (u := 65465) qh_cX11_hears rfl rfl rfl (sg_n (k := 71) rfl rfl rfl)
theorem dX11_hears_76 : decode cX11_hears 76 = .ok (.iconst 0, 1) := dqn_3 (k := 1) qh_cX11_hears rfl rfl
theorem dX11_hears_77 : decode cX11_hears 77 = .ok (.ireturn, 1) := dqn_172 (k := 0) qh_cX11_hears rfl rfl
theorem dX11_pass_0 : decode cX11_pass 0 = .ok (.aload_n 0, 1) := dqn_42 (k := 240) qh_cX11_pass rfl rfl
theorem dX11_pass_1 : decode cX11_pass 1 = .ok (.iload_n 1, 1) := dqn_27 (k := 239) qh_cX11_pass rfl rfl
theorem dX11_pass_2 : decode cX11_pass 2 = .ok (.invokevirtual 262, 3) := dqn_182 (k := 236) qh_cX11_pass rfl rfl rfl
theorem dX11_pass_5 : decode cX11_pass 5 = .ok (.istore 4, 2) := dqn_54 (k := 234) qh_cX11_pass rfl rfl rfl
theorem dX11_pass_7 : decode cX11_pass 7 = .ok (.aload_n 0, 1) := dqn_42 (k := 233) qh_cX11_pass rfl rfl
theorem dX11_pass_8 : decode cX11_pass 8 = .ok (.dup, 1) := dqn_89 (k := 232) qh_cX11_pass rfl rfl
theorem dX11_pass_9 : decode cX11_pass 9 = .ok (.getfield 252, 3) := dqn_180 (k := 229) qh_cX11_pass rfl rfl rfl
theorem dX11_pass_12 : decode cX11_pass 12 = .ok (.iload 4, 2) := dqn_21 (k := 227) qh_cX11_pass rfl rfl rfl
theorem dX11_pass_14 : decode cX11_pass 14 = .ok (.ifCond .eq 9, 3) := dqn_153 (k := 224) (u := 9) qh_cX11_pass rfl rfl rfl (sg_p rfl rfl)
theorem dX11_pass_17 : decode cX11_pass 17 = .ok (.iconst 1, 1) := dqn_4 (k := 223) qh_cX11_pass rfl rfl
theorem dX11_pass_18 : decode cX11_pass 18 = .ok (.iload_n 1, 1) := dqn_27 (k := 222) qh_cX11_pass rfl rfl
theorem dX11_pass_19 : decode cX11_pass 19 = .ok (.ishl, 1) := dqn_120 (k := 221) qh_cX11_pass rfl rfl
theorem dX11_pass_20 : decode cX11_pass 20 = .ok (.goto 4, 3) := dqn_167 (k := 218) (u := 4) qh_cX11_pass rfl rfl rfl (sg_p rfl rfl)
theorem dX11_pass_23 : decode cX11_pass 23 = .ok (.iconst 0, 1) := dqn_3 (k := 217) qh_cX11_pass rfl rfl
theorem dX11_pass_24 : decode cX11_pass 24 = .ok (.ior, 1) := dqn_128 (k := 216) qh_cX11_pass rfl rfl
theorem dX11_pass_25 : decode cX11_pass 25 = .ok (.putfield 252, 3) := dqn_181 (k := 213) qh_cX11_pass rfl rfl rfl
theorem dX11_pass_28 : decode cX11_pass 28 = .ok (.aload_n 0, 1) := dqn_42 (k := 212) qh_cX11_pass rfl rfl
theorem dX11_pass_29 : decode cX11_pass 29 = .ok (.getfield 41, 3) := dqn_180 (k := 209) qh_cX11_pass rfl rfl rfl
theorem dX11_pass_32 : decode cX11_pass 32 = .ok (.iload_n 1, 1) := dqn_27 (k := 208) qh_cX11_pass rfl rfl
theorem dX11_pass_33 : decode cX11_pass 33 = .ok (.aload_n 0, 1) := dqn_42 (k := 207) qh_cX11_pass rfl rfl
theorem dX11_pass_34 : decode cX11_pass 34 = .ok (.iload_n 1, 1) := dqn_27 (k := 206) qh_cX11_pass rfl rfl
theorem dX11_pass_35 : decode cX11_pass 35 = .ok (.iconst 1, 1) := dqn_4 (k := 205) qh_cX11_pass rfl rfl
theorem dX11_pass_36 : decode cX11_pass 36 = .ok (.invokevirtual 211, 3) := dqn_182 (k := 202) qh_cX11_pass rfl rfl rfl
theorem dX11_pass_39 : decode cX11_pass 39 = .ok (.iload_n 2, 1) := dqn_28 (k := 201) qh_cX11_pass rfl rfl
theorem dX11_pass_40 : decode cX11_pass 40 = .ok (.aload_n 0, 1) := dqn_42 (k := 200) qh_cX11_pass rfl rfl
theorem dX11_pass_41 : decode cX11_pass 41 = .ok (.iload_n 1, 1) := dqn_27 (k := 199) qh_cX11_pass rfl rfl
theorem dX11_pass_42 : decode cX11_pass 42 = .ok (.iconst 2, 1) := dqn_5 (k := 198) qh_cX11_pass rfl rfl
theorem dX11_pass_43 : decode cX11_pass 43 = .ok (.invokevirtual 211, 3) := dqn_182 (k := 195) qh_cX11_pass rfl rfl rfl
theorem dX11_pass_46 : decode cX11_pass 46 = .ok (.imul, 1) := dqn_104 (k := 194) qh_cX11_pass rfl rfl
theorem dX11_pass_47 : decode cX11_pass 47 = .ok (.iadd, 1) := dqn_96 (k := 193) qh_cX11_pass rfl rfl
theorem dX11_pass_48 : decode cX11_pass 48 = .ok (.aload_n 0, 1) := dqn_42 (k := 192) qh_cX11_pass rfl rfl
theorem dX11_pass_49 : decode cX11_pass 49 = .ok (.getfield 44, 3) := dqn_180 (k := 189) qh_cX11_pass rfl rfl rfl
theorem dX11_pass_52 : decode cX11_pass 52 = .ok (.iload_n 1, 1) := dqn_27 (k := 188) qh_cX11_pass rfl rfl
theorem dX11_pass_53 : decode cX11_pass 53 = .ok (.iaload, 1) := dqn_46 (k := 187) qh_cX11_pass rfl rfl
theorem dX11_pass_54 : decode cX11_pass 54 = .ok (.iadd, 1) := dqn_96 (k := 186) qh_cX11_pass rfl rfl
theorem dX11_pass_55 : decode cX11_pass 55 = .ok (.iload 4, 2) := dqn_21 (k := 184) qh_cX11_pass rfl rfl rfl
theorem dX11_pass_57 : decode cX11_pass 57 = .ok (.ifCond .eq 12, 3) := dqn_153 (k := 181) (u := 12) qh_cX11_pass rfl rfl rfl (sg_p rfl rfl)
theorem dX11_pass_60 : decode cX11_pass 60 = .ok (.aload_n 0, 1) := dqn_42 (k := 180) qh_cX11_pass rfl rfl
theorem dX11_pass_61 : decode cX11_pass 61 = .ok (.iload_n 1, 1) := dqn_27 (k := 179) qh_cX11_pass rfl rfl
theorem dX11_pass_62 : decode cX11_pass 62 = .ok (.iconst 1, 1) := dqn_4 (k := 178) qh_cX11_pass rfl rfl
theorem dX11_pass_63 : decode cX11_pass 63 = .ok (.invokevirtual 211, 3) := dqn_182 (k := 175) qh_cX11_pass rfl rfl rfl
theorem dX11_pass_66 : decode cX11_pass 66 = .ok (.goto 4, 3) := dqn_167 (k := 172) (u := 4) qh_cX11_pass rfl rfl rfl (sg_p rfl rfl)
theorem dX11_pass_69 : decode cX11_pass 69 = .ok (.iconst 0, 1) := dqn_3 (k := 171) qh_cX11_pass rfl rfl
theorem dX11_pass_70 : decode cX11_pass 70 = .ok (.isub, 1) := dqn_100 (k := 170) qh_cX11_pass rfl rfl
theorem dX11_pass_71 : decode cX11_pass 71 = .ok (.iastore, 1) := dqn_79 (k := 169) qh_cX11_pass rfl rfl
theorem dX11_pass_72 : decode cX11_pass 72 = .ok (.aload_n 0, 1) := dqn_42 (k := 168) qh_cX11_pass rfl rfl
theorem dX11_pass_73 : decode cX11_pass 73 = .ok (.getfield 41, 3) := dqn_180 (k := 165) qh_cX11_pass rfl rfl rfl
theorem dX11_pass_76 : decode cX11_pass 76 = .ok (.iload_n 1, 1) := dqn_27 (k := 164) qh_cX11_pass rfl rfl
theorem dX11_pass_77 : decode cX11_pass 77 = .ok (.iaload, 1) := dqn_46 (k := 163) qh_cX11_pass rfl rfl
theorem dX11_pass_78 : decode cX11_pass 78 = .ok (.aload_n 0, 1) := dqn_42 (k := 162) qh_cX11_pass rfl rfl
theorem dX11_pass_79 : decode cX11_pass 79 = .ok (.iload_n 1, 1) := dqn_27 (k := 161) qh_cX11_pass rfl rfl
theorem dX11_pass_80 : decode cX11_pass 80 = .ok (.iconst 0, 1) := dqn_3 (k := 160) qh_cX11_pass rfl rfl
theorem dX11_pass_81 : decode cX11_pass 81 = .ok (.invokevirtual 211, 3) := dqn_182 (k := 157) qh_cX11_pass rfl rfl rfl
theorem dX11_pass_84 : decode cX11_pass 84 = .ok (.if_icmp .le 19, 3) := dqn_164 (k := 154) (u := 19) qh_cX11_pass rfl rfl rfl (sg_p rfl rfl)
theorem dX11_pass_87 : decode cX11_pass 87 = .ok (.aload_n 0, 1) := dqn_42 (k := 153) qh_cX11_pass rfl rfl
theorem dX11_pass_88 : decode cX11_pass 88 = .ok (.getfield 41, 3) := dqn_180 (k := 150) qh_cX11_pass rfl rfl rfl
theorem dX11_pass_91 : decode cX11_pass 91 = .ok (.iload_n 1, 1) := dqn_27 (k := 149) qh_cX11_pass rfl rfl
theorem dX11_pass_92 : decode cX11_pass 92 = .ok (.iaload, 1) := dqn_46 (k := 148) qh_cX11_pass rfl rfl
theorem dX11_pass_93 : decode cX11_pass 93 = .ok (.aload_n 0, 1) := dqn_42 (k := 147) qh_cX11_pass rfl rfl
theorem dX11_pass_94 : decode cX11_pass 94 = .ok (.iload_n 1, 1) := dqn_27 (k := 146) qh_cX11_pass rfl rfl
theorem dX11_pass_95 : decode cX11_pass 95 = .ok (.iconst 0, 1) := dqn_3 (k := 145) qh_cX11_pass rfl rfl
theorem dX11_pass_96 : decode cX11_pass 96 = .ok (.invokevirtual 211, 3) := dqn_182 (k := 142) qh_cX11_pass rfl rfl rfl
theorem dX11_pass_99 : decode cX11_pass 99 = .ok (.isub, 1) := dqn_100 (k := 141) qh_cX11_pass rfl rfl
theorem dX11_pass_100 : decode cX11_pass 100 = .ok (.goto 4, 3) := dqn_167 (k := 138) (u := 4) qh_cX11_pass rfl rfl rfl (sg_p rfl rfl)
theorem dX11_pass_103 : decode cX11_pass 103 = .ok (.iconst 0, 1) := dqn_3 (k := 137) qh_cX11_pass rfl rfl
theorem dX11_pass_104 : decode cX11_pass 104 = .ok (.istore 5, 2) := dqn_54 (k := 135) qh_cX11_pass rfl rfl rfl
theorem dX11_pass_106 : decode cX11_pass 106 = .ok (.aload_n 0, 1) := dqn_42 (k := 134) qh_cX11_pass rfl rfl
theorem dX11_pass_107 : decode cX11_pass 107 = .ok (.iload_n 1, 1) := dqn_27 (k := 133) qh_cX11_pass rfl rfl
theorem dX11_pass_108 : decode cX11_pass 108 = .ok (.bipush 15, 2) := dqn_16 (k := 131) (u := 15) qh_cX11_pass rfl rfl rfl (by decide)
theorem dX11_pass_110 : decode cX11_pass 110 = .ok (.invokevirtual 211, 3) := dqn_182 (k := 128) qh_cX11_pass rfl rfl rfl
theorem dX11_pass_113 : decode cX11_pass 113 = .ok (.ifCond .ne 30, 3) := dqn_154 (k := 125) (u := 30) qh_cX11_pass rfl rfl rfl (sg_p rfl rfl)
theorem dX11_pass_116 : decode cX11_pass 116 = .ok (.iload_n 1, 1) := dqn_27 (k := 124) qh_cX11_pass rfl rfl
theorem dX11_pass_117 : decode cX11_pass 117 = .ok (.aload_n 0, 1) := dqn_42 (k := 123) qh_cX11_pass rfl rfl
theorem dX11_pass_118 : decode cX11_pass 118 = .ok (.getfield 231, 3) := dqn_180 (k := 120) qh_cX11_pass rfl rfl rfl
theorem dX11_pass_121 : decode cX11_pass 121 = .ok (.if_icmp .eq 22, 3) := dqn_159 (k := 117) (u := 22) qh_cX11_pass rfl rfl rfl (sg_p rfl rfl)
theorem dX11_pass_124 : decode cX11_pass 124 = .ok (.iload_n 3, 1) := dqn_29 (k := 116) qh_cX11_pass rfl rfl
theorem dX11_pass_125 : decode cX11_pass 125 = .ok (.ifCond .ne 14, 3) := dqn_154 (k := 113) (u := 14) qh_cX11_pass rfl rfl rfl (sg_p rfl rfl)
theorem dX11_pass_128 : decode cX11_pass 128 = .ok (.iload 5, 2) := dqn_21 (k := 111) qh_cX11_pass rfl rfl rfl
theorem dX11_pass_130 : decode cX11_pass 130 = .ok (.aload_n 0, 1) := dqn_42 (k := 110) qh_cX11_pass rfl rfl
theorem dX11_pass_131 : decode cX11_pass 131 = .ok (.iload_n 1, 1) := dqn_27 (k := 109) qh_cX11_pass rfl rfl
theorem dX11_pass_132 : decode cX11_pass 132 = .ok (.iconst 3, 1) := dqn_6 (k := 108) qh_cX11_pass rfl rfl
theorem dX11_pass_133 : decode cX11_pass 133 = .ok (.invokevirtual 211, 3) := dqn_182 (k := 105) qh_cX11_pass rfl rfl rfl
theorem dX11_pass_136 : decode cX11_pass 136 = .ok (.if_icmp .le 7, 3) := dqn_164 (k := 102) (u := 7) qh_cX11_pass rfl rfl rfl (sg_p rfl rfl)
theorem dX11_pass_139 : decode cX11_pass 139 = .ok (.iconst 1, 1) := dqn_4 (k := 101) qh_cX11_pass rfl rfl
theorem dX11_pass_140 : decode cX11_pass 140 = .ok (.goto 4, 3) := dqn_167 (k := 98) (u := 4) qh_cX11_pass rfl rfl rfl (sg_p rfl rfl)
theorem dX11_pass_143 : decode cX11_pass 143 = .ok (.iconst 0, 1) := dqn_3 (k := 97) qh_cX11_pass rfl rfl
theorem dX11_pass_144 : decode cX11_pass 144 = .ok (.istore 6, 2) := dqn_54 (k := 95) qh_cX11_pass rfl rfl rfl
theorem dX11_pass_146 : decode cX11_pass 146 = .ok (.aload_n 0, 1) := dqn_42 (k := 94) qh_cX11_pass rfl rfl
theorem dX11_pass_147 : decode cX11_pass 147 = .ok (.dup, 1) := dqn_89 (k := 93) qh_cX11_pass rfl rfl
theorem dX11_pass_148 : decode cX11_pass 148 = .ok (.getfield 246, 3) := dqn_180 (k := 90) qh_cX11_pass rfl rfl rfl
theorem dX11_pass_151 : decode cX11_pass 151 = .ok (.iload 6, 2) := dqn_21 (k := 88) qh_cX11_pass rfl rfl rfl
theorem dX11_pass_153 : decode cX11_pass 153 = .ok (.ifCond .eq 9, 3) := dqn_153 (k := 85) (u := 9) qh_cX11_pass rfl rfl rfl (sg_p rfl rfl)
theorem dX11_pass_156 : decode cX11_pass 156 = .ok (.iconst 1, 1) := dqn_4 (k := 84) qh_cX11_pass rfl rfl
theorem dX11_pass_157 : decode cX11_pass 157 = .ok (.iload_n 1, 1) := dqn_27 (k := 83) qh_cX11_pass rfl rfl
theorem dX11_pass_158 : decode cX11_pass 158 = .ok (.ishl, 1) := dqn_120 (k := 82) qh_cX11_pass rfl rfl
theorem dX11_pass_159 : decode cX11_pass 159 = .ok (.goto 4, 3) := dqn_167 (k := 79) (u := 4) qh_cX11_pass rfl rfl rfl (sg_p rfl rfl)
theorem dX11_pass_162 : decode cX11_pass 162 = .ok (.iconst 0, 1) := dqn_3 (k := 78) qh_cX11_pass rfl rfl
theorem dX11_pass_163 : decode cX11_pass 163 = .ok (.ior, 1) := dqn_128 (k := 77) qh_cX11_pass rfl rfl
theorem dX11_pass_164 : decode cX11_pass 164 = .ok (.putfield 246, 3) := dqn_181 (k := 74) qh_cX11_pass rfl rfl rfl
theorem dX11_pass_167 : decode cX11_pass 167 = .ok (.aload_n 0, 1) := dqn_42 (k := 73) qh_cX11_pass rfl rfl
theorem dX11_pass_168 : decode cX11_pass 168 = .ok (.getfield 47, 3) := dqn_180 (k := 70) qh_cX11_pass rfl rfl rfl
theorem dX11_pass_171 : decode cX11_pass 171 = .ok (.iload_n 1, 1) := dqn_27 (k := 69) qh_cX11_pass rfl rfl
theorem dX11_pass_172 : decode cX11_pass 172 = .ok (.iload 6, 2) := dqn_21 (k := 67) qh_cX11_pass rfl rfl rfl
theorem dX11_pass_174 : decode cX11_pass 174 = .ok (.ifCond .ne 14, 3) := dqn_154 (k := 64) (u := 14) qh_cX11_pass rfl rfl rfl (sg_p rfl rfl)
theorem dX11_pass_177 : decode cX11_pass 177 = .ok (.aload_n 0, 1) := dqn_42 (k := 63) qh_cX11_pass rfl rfl
theorem dX11_pass_178 : decode cX11_pass 178 = .ok (.iload_n 1, 1) := dqn_27 (k := 62) qh_cX11_pass rfl rfl
theorem dX11_pass_179 : decode cX11_pass 179 = .ok (.bipush 15, 2) := dqn_16 (k := 60) (u := 15) qh_cX11_pass rfl rfl rfl (by decide)
theorem dX11_pass_181 : decode cX11_pass 181 = .ok (.invokevirtual 211, 3) := dqn_182 (k := 57) qh_cX11_pass rfl rfl rfl
theorem dX11_pass_184 : decode cX11_pass 184 = .ok (.iconst 1, 1) := dqn_4 (k := 56) qh_cX11_pass rfl rfl
theorem dX11_pass_185 : decode cX11_pass 185 = .ok (.if_icmp .ne 12, 3) := dqn_160 (k := 53) (u := 12) qh_cX11_pass rfl rfl rfl (sg_p rfl rfl)
theorem dX11_pass_188 : decode cX11_pass 188 = .ok (.aload_n 0, 1) := dqn_42 (k := 52) qh_cX11_pass rfl rfl
theorem dX11_pass_189 : decode cX11_pass 189 = .ok (.getfield 41, 3) := dqn_180 (k := 49) qh_cX11_pass rfl rfl rfl
theorem dX11_pass_192 : decode cX11_pass 192 = .ok (.iload_n 1, 1) := dqn_27 (k := 48) qh_cX11_pass rfl rfl
theorem dX11_pass_193 : decode cX11_pass 193 = .ok (.iaload, 1) := dqn_46 (k := 47) qh_cX11_pass rfl rfl
theorem dX11_pass_194 : decode cX11_pass 194 = .ok (.goto 5, 3) := dqn_167 (k := 44) (u := 5) qh_cX11_pass rfl rfl rfl (sg_p rfl rfl)
theorem dX11_pass_197 : decode cX11_pass 197 = .ok (.iload 5, 2) := dqn_21 (k := 42) qh_cX11_pass rfl rfl rfl
theorem dX11_pass_199 : decode cX11_pass 199 = .ok (.iload 4, 2) := dqn_21 (k := 40) qh_cX11_pass rfl rfl rfl
theorem dX11_pass_201 : decode cX11_pass 201 = .ok (.ifCond .eq 12, 3) := dqn_153 (k := 37) (u := 12) qh_cX11_pass rfl rfl rfl (sg_p rfl rfl)
theorem dX11_pass_204 : decode cX11_pass 204 = .ok (.aload_n 0, 1) := dqn_42 (k := 36) qh_cX11_pass rfl rfl
theorem dX11_pass_205 : decode cX11_pass 205 = .ok (.iload_n 1, 1) := dqn_27 (k := 35) qh_cX11_pass rfl rfl
theorem dX11_pass_206 : decode cX11_pass 206 = .ok (.iconst 1, 1) := dqn_4 (k := 34) qh_cX11_pass rfl rfl
theorem dX11_pass_207 : decode cX11_pass 207 = .ok (.invokevirtual 211, 3) := dqn_182 (k := 31) qh_cX11_pass rfl rfl rfl
theorem dX11_pass_210 : decode cX11_pass 210 = .ok (.goto 4, 3) := dqn_167 (k := 28) (u := 4) qh_cX11_pass rfl rfl rfl (sg_p rfl rfl)
theorem dX11_pass_213 : decode cX11_pass 213 = .ok (.iconst 0, 1) := dqn_3 (k := 27) qh_cX11_pass rfl rfl
theorem dX11_pass_214 : decode cX11_pass 214 = .ok (.iadd, 1) := dqn_96 (k := 26) qh_cX11_pass rfl rfl
theorem dX11_pass_215 : decode cX11_pass 215 = .ok (.iastore, 1) := dqn_79 (k := 25) qh_cX11_pass rfl rfl
theorem dX11_pass_216 : decode cX11_pass 216 = .ok (.aload_n 0, 1) := dqn_42 (k := 24) qh_cX11_pass rfl rfl
theorem dX11_pass_217 : decode cX11_pass 217 = .ok (.getfield 47, 3) := dqn_180 (k := 21) qh_cX11_pass rfl rfl rfl
theorem dX11_pass_220 : decode cX11_pass 220 = .ok (.iload_n 1, 1) := dqn_27 (k := 20) qh_cX11_pass rfl rfl
theorem dX11_pass_221 : decode cX11_pass 221 = .ok (.iload_n 1, 1) := dqn_27 (k := 19) qh_cX11_pass rfl rfl
theorem dX11_pass_222 : decode cX11_pass 222 = .ok (.aload_n 0, 1) := dqn_42 (k := 18) qh_cX11_pass rfl rfl
theorem dX11_pass_223 : decode cX11_pass 223 = .ok (.getfield 231, 3) := dqn_180 (k := 15) qh_cX11_pass rfl rfl rfl
theorem dX11_pass_226 : decode cX11_pass 226 = .ok (.if_icmp .ne 7, 3) := dqn_160 (k := 12) (u := 7) qh_cX11_pass rfl rfl rfl (sg_p rfl rfl)
theorem dX11_pass_229 : decode cX11_pass 229 = .ok (.iconst 0, 1) := dqn_3 (k := 11) qh_cX11_pass rfl rfl
theorem dX11_pass_230 : decode cX11_pass 230 = .ok (.goto 9, 3) := dqn_167 (k := 8) (u := 9) qh_cX11_pass rfl rfl rfl (sg_p rfl rfl)
theorem dX11_pass_233 : decode cX11_pass 233 = .ok (.aload_n 0, 1) := dqn_42 (k := 7) qh_cX11_pass rfl rfl
theorem dX11_pass_234 : decode cX11_pass 234 = .ok (.getfield 47, 3) := dqn_180 (k := 4) qh_cX11_pass rfl rfl rfl
theorem dX11_pass_237 : decode cX11_pass 237 = .ok (.iload_n 1, 1) := dqn_27 (k := 3) qh_cX11_pass rfl rfl
theorem dX11_pass_238 : decode cX11_pass 238 = .ok (.iaload, 1) := dqn_46 (k := 2) qh_cX11_pass rfl rfl
theorem dX11_pass_239 : decode cX11_pass 239 = .ok (.iastore, 1) := dqn_79 (k := 1) qh_cX11_pass rfl rfl
theorem dX11_pass_240 : decode cX11_pass 240 = .ok (.return_, 1) := dqn_177 (k := 0) qh_cX11_pass rfl rfl
theorem dX11_blow_0 : decode cX11_blow 0 = .ok (.aload_n 0, 1) := dqn_42 (k := 183) qh_cX11_blow rfl rfl
theorem dX11_blow_1 : decode cX11_blow 1 = .ok (.iconst 0, 1) := dqn_3 (k := 182) qh_cX11_blow rfl rfl
theorem dX11_blow_2 : decode cX11_blow 2 = .ok (.putfield 246, 3) := dqn_181 (k := 179) qh_cX11_blow rfl rfl rfl
theorem dX11_blow_5 : decode cX11_blow 5 = .ok (.aload_n 0, 1) := dqn_42 (k := 178) qh_cX11_blow rfl rfl
theorem dX11_blow_6 : decode cX11_blow 6 = .ok (.iconst 0, 1) := dqn_3 (k := 177) qh_cX11_blow rfl rfl
theorem dX11_blow_7 : decode cX11_blow 7 = .ok (.putfield 252, 3) := dqn_181 (k := 174) qh_cX11_blow rfl rfl rfl
theorem dX11_blow_10 : decode cX11_blow 10 = .ok (.aload_n 0, 1) := dqn_42 (k := 173) qh_cX11_blow rfl rfl
theorem dX11_blow_11 : decode cX11_blow 11 = .ok (.iconst 0, 1) := dqn_3 (k := 172) qh_cX11_blow rfl rfl
theorem dX11_blow_12 : decode cX11_blow 12 = .ok (.putfield 255, 3) := dqn_181 (k := 169) qh_cX11_blow rfl rfl rfl
theorem dX11_blow_15 : decode cX11_blow 15 = .ok (.iconst 0, 1) := dqn_3 (k := 168) qh_cX11_blow rfl rfl
theorem dX11_blow_16 : decode cX11_blow 16 = .ok (.istore_n 3, 1) := dqn_62 (k := 167) qh_cX11_blow rfl rfl
theorem dX11_blow_17 : decode cX11_blow 17 = .ok (.iload_n 3, 1) := dqn_29 (k := 166) qh_cX11_blow rfl rfl
theorem dX11_blow_18 : decode cX11_blow 18 = .ok (.aload_n 0, 1) := dqn_42 (k := 165) qh_cX11_blow rfl rfl
theorem dX11_blow_19 : decode cX11_blow 19 = .ok (.getfield 208, 3) := dqn_180 (k := 162) qh_cX11_blow rfl rfl rfl
theorem dX11_blow_22 : decode cX11_blow 22 = .ok (.if_icmp .ge 16, 3) := dqn_162 (k := 159) (u := 16) qh_cX11_blow rfl rfl rfl (sg_p rfl rfl)
theorem dX11_blow_25 : decode cX11_blow 25 = .ok (.aload_n 0, 1) := dqn_42 (k := 158) qh_cX11_blow rfl rfl
theorem dX11_blow_26 : decode cX11_blow 26 = .ok (.getfield 44, 3) := dqn_180 (k := 155) qh_cX11_blow rfl rfl rfl
theorem dX11_blow_29 : decode cX11_blow 29 = .ok (.iload_n 3, 1) := dqn_29 (k := 154) qh_cX11_blow rfl rfl
theorem dX11_blow_30 : decode cX11_blow 30 = .ok (.iconst 0, 1) := dqn_3 (k := 153) qh_cX11_blow rfl rfl
theorem dX11_blow_31 : decode cX11_blow 31 = .ok (.iastore, 1) := dqn_79 (k := 152) qh_cX11_blow rfl rfl
theorem dX11_blow_32 : decode cX11_blow 32 = .ok (.iinc 3 1, 3) := dqn_132 (k := 149) (u := 1) qh_cX11_blow rfl rfl rfl rfl (by decide)
theorem dX11_blow_35 : decode cX11_blow 35 = .ok (.goto (-18), 3) := dqn_167 (k := 146) (u := 65518) qh_cX11_blow rfl rfl rfl (sg_n (k := 18) rfl rfl rfl)
theorem dX11_blow_38 : decode cX11_blow 38 = .ok (.iconst 0, 1) := dqn_3 (k := 145) qh_cX11_blow rfl rfl
theorem dX11_blow_39 : decode cX11_blow 39 = .ok (.istore_n 3, 1) := dqn_62 (k := 144) qh_cX11_blow rfl rfl
theorem dX11_blow_40 : decode cX11_blow 40 = .ok (.iload_n 3, 1) := dqn_29 (k := 143) qh_cX11_blow rfl rfl
theorem dX11_blow_41 : decode cX11_blow 41 = .ok (.aload_n 0, 1) := dqn_42 (k := 142) qh_cX11_blow rfl rfl
theorem dX11_blow_42 : decode cX11_blow 42 = .ok (.getfield 208, 3) := dqn_180 (k := 139) qh_cX11_blow rfl rfl rfl
theorem dX11_blow_45 : decode cX11_blow 45 = .ok (.if_icmp .ge 138, 3) := dqn_162 (k := 136) (u := 138) qh_cX11_blow rfl rfl rfl (sg_p rfl rfl)
theorem dX11_blow_48 : decode cX11_blow 48 = .ok (.aload_n 0, 1) := dqn_42 (k := 135) qh_cX11_blow rfl rfl
theorem dX11_blow_49 : decode cX11_blow 49 = .ok (.iload_n 3, 1) := dqn_29 (k := 134) qh_cX11_blow rfl rfl
theorem dX11_blow_50 : decode cX11_blow 50 = .ok (.iload_n 1, 1) := dqn_27 (k := 133) qh_cX11_blow rfl rfl
theorem dX11_blow_51 : decode cX11_blow 51 = .ok (.iload_n 2, 1) := dqn_28 (k := 132) qh_cX11_blow rfl rfl
theorem dX11_blow_52 : decode cX11_blow 52 = .ok (.iload_n 3, 1) := dqn_29 (k := 131) qh_cX11_blow rfl rfl
theorem dX11_blow_53 : decode cX11_blow 53 = .ok (.invokestatic 249, 3) := dqn_184 (k := 128) qh_cX11_blow rfl rfl rfl
theorem dX11_blow_56 : decode cX11_blow 56 = .ok (.invokevirtual 258, 3) := dqn_182 (k := 125) qh_cX11_blow rfl rfl rfl
theorem dX11_blow_59 : decode cX11_blow 59 = .ok (.aload_n 0, 1) := dqn_42 (k := 124) qh_cX11_blow rfl rfl
theorem dX11_blow_60 : decode cX11_blow 60 = .ok (.iload_n 3, 1) := dqn_29 (k := 123) qh_cX11_blow rfl rfl
theorem dX11_blow_61 : decode cX11_blow 61 = .ok (.bipush 9, 2) := dqn_16 (k := 121) (u := 9) qh_cX11_blow rfl rfl rfl (by decide)
theorem dX11_blow_63 : decode cX11_blow 63 = .ok (.invokevirtual 211, 3) := dqn_182 (k := 118) qh_cX11_blow rfl rfl rfl
theorem dX11_blow_66 : decode cX11_blow 66 = .ok (.iconst (-1), 1) := dqn_2 (k := 117) qh_cX11_blow rfl rfl
theorem dX11_blow_67 : decode cX11_blow 67 = .ok (.if_icmp .ne 7, 3) := dqn_160 (k := 114) (u := 7) qh_cX11_blow rfl rfl rfl (sg_p rfl rfl)
theorem dX11_blow_70 : decode cX11_blow 70 = .ok (.iconst 0, 1) := dqn_3 (k := 113) qh_cX11_blow rfl rfl
theorem dX11_blow_71 : decode cX11_blow 71 = .ok (.goto 20, 3) := dqn_167 (k := 110) (u := 20) qh_cX11_blow rfl rfl rfl (sg_p rfl rfl)
theorem dX11_blow_74 : decode cX11_blow 74 = .ok (.aload_n 0, 1) := dqn_42 (k := 109) qh_cX11_blow rfl rfl
theorem dX11_blow_75 : decode cX11_blow 75 = .ok (.getfield 47, 3) := dqn_180 (k := 106) qh_cX11_blow rfl rfl rfl
theorem dX11_blow_78 : decode cX11_blow 78 = .ok (.iload_n 3, 1) := dqn_29 (k := 105) qh_cX11_blow rfl rfl
theorem dX11_blow_79 : decode cX11_blow 79 = .ok (.iaload, 1) := dqn_46 (k := 104) qh_cX11_blow rfl rfl
theorem dX11_blow_80 : decode cX11_blow 80 = .ok (.aload_n 0, 1) := dqn_42 (k := 103) qh_cX11_blow rfl rfl
theorem dX11_blow_81 : decode cX11_blow 81 = .ok (.iload_n 3, 1) := dqn_29 (k := 102) qh_cX11_blow rfl rfl
theorem dX11_blow_82 : decode cX11_blow 82 = .ok (.bipush 10, 2) := dqn_16 (k := 100) (u := 10) qh_cX11_blow rfl rfl rfl (by decide)
theorem dX11_blow_84 : decode cX11_blow 84 = .ok (.invokevirtual 211, 3) := dqn_182 (k := 97) qh_cX11_blow rfl rfl rfl
theorem dX11_blow_87 : decode cX11_blow 87 = .ok (.imul, 1) := dqn_104 (k := 96) qh_cX11_blow rfl rfl
theorem dX11_blow_88 : decode cX11_blow 88 = .ok (.bipush 10, 2) := dqn_16 (k := 94) (u := 10) qh_cX11_blow rfl rfl rfl (by decide)
theorem dX11_blow_90 : decode cX11_blow 90 = .ok (.idiv, 1) := dqn_108 (k := 93) qh_cX11_blow rfl rfl
theorem dX11_blow_91 : decode cX11_blow 91 = .ok (.istore 4, 2) := dqn_54 (k := 91) qh_cX11_blow rfl rfl rfl
theorem dX11_blow_93 : decode cX11_blow 93 = .ok (.aload_n 0, 1) := dqn_42 (k := 90) qh_cX11_blow rfl rfl
theorem dX11_blow_94 : decode cX11_blow 94 = .ok (.iload_n 3, 1) := dqn_29 (k := 89) qh_cX11_blow rfl rfl
theorem dX11_blow_95 : decode cX11_blow 95 = .ok (.bipush 9, 2) := dqn_16 (k := 87) (u := 9) qh_cX11_blow rfl rfl rfl (by decide)
theorem dX11_blow_97 : decode cX11_blow 97 = .ok (.invokevirtual 211, 3) := dqn_182 (k := 84) qh_cX11_blow rfl rfl rfl
theorem dX11_blow_100 : decode cX11_blow 100 = .ok (.iconst (-1), 1) := dqn_2 (k := 83) qh_cX11_blow rfl rfl
theorem dX11_blow_101 : decode cX11_blow 101 = .ok (.if_icmp .eq 20, 3) := dqn_159 (k := 80) (u := 20) qh_cX11_blow rfl rfl rfl (sg_p rfl rfl)
theorem dX11_blow_104 : decode cX11_blow 104 = .ok (.aload_n 0, 1) := dqn_42 (k := 79) qh_cX11_blow rfl rfl
theorem dX11_blow_105 : decode cX11_blow 105 = .ok (.getfield 44, 3) := dqn_180 (k := 76) qh_cX11_blow rfl rfl rfl
theorem dX11_blow_108 : decode cX11_blow 108 = .ok (.aload_n 0, 1) := dqn_42 (k := 75) qh_cX11_blow rfl rfl
theorem dX11_blow_109 : decode cX11_blow 109 = .ok (.iload_n 3, 1) := dqn_29 (k := 74) qh_cX11_blow rfl rfl
theorem dX11_blow_110 : decode cX11_blow 110 = .ok (.bipush 9, 2) := dqn_16 (k := 72) (u := 9) qh_cX11_blow rfl rfl rfl (by decide)
theorem dX11_blow_112 : decode cX11_blow 112 = .ok (.invokevirtual 211, 3) := dqn_182 (k := 69) qh_cX11_blow rfl rfl rfl
theorem dX11_blow_115 : decode cX11_blow 115 = .ok (.dup2, 1) := dqn_92 (k := 68) qh_cX11_blow rfl rfl
theorem dX11_blow_116 : decode cX11_blow 116 = .ok (.iaload, 1) := dqn_46 (k := 67) qh_cX11_blow rfl rfl
theorem dX11_blow_117 : decode cX11_blow 117 = .ok (.iload 4, 2) := dqn_21 (k := 65) qh_cX11_blow rfl rfl rfl
theorem dX11_blow_119 : decode cX11_blow 119 = .ok (.iadd, 1) := dqn_96 (k := 64) qh_cX11_blow rfl rfl
theorem dX11_blow_120 : decode cX11_blow 120 = .ok (.iastore, 1) := dqn_79 (k := 63) qh_cX11_blow rfl rfl
theorem dX11_blow_121 : decode cX11_blow 121 = .ok (.aload_n 0, 1) := dqn_42 (k := 62) qh_cX11_blow rfl rfl
theorem dX11_blow_122 : decode cX11_blow 122 = .ok (.iload_n 3, 1) := dqn_29 (k := 61) qh_cX11_blow rfl rfl
theorem dX11_blow_123 : decode cX11_blow 123 = .ok (.bipush 8, 2) := dqn_16 (k := 59) (u := 8) qh_cX11_blow rfl rfl rfl (by decide)
theorem dX11_blow_125 : decode cX11_blow 125 = .ok (.invokevirtual 211, 3) := dqn_182 (k := 56) qh_cX11_blow rfl rfl rfl
theorem dX11_blow_128 : decode cX11_blow 128 = .ok (.iconst (-1), 1) := dqn_2 (k := 55) qh_cX11_blow rfl rfl
theorem dX11_blow_129 : decode cX11_blow 129 = .ok (.if_icmp .eq 30, 3) := dqn_159 (k := 52) (u := 30) qh_cX11_blow rfl rfl rfl (sg_p rfl rfl)
theorem dX11_blow_132 : decode cX11_blow 132 = .ok (.aload_n 0, 1) := dqn_42 (k := 51) qh_cX11_blow rfl rfl
theorem dX11_blow_133 : decode cX11_blow 133 = .ok (.getfield 44, 3) := dqn_180 (k := 48) qh_cX11_blow rfl rfl rfl
theorem dX11_blow_136 : decode cX11_blow 136 = .ok (.aload_n 0, 1) := dqn_42 (k := 47) qh_cX11_blow rfl rfl
theorem dX11_blow_137 : decode cX11_blow 137 = .ok (.iload_n 3, 1) := dqn_29 (k := 46) qh_cX11_blow rfl rfl
theorem dX11_blow_138 : decode cX11_blow 138 = .ok (.bipush 8, 2) := dqn_16 (k := 44) (u := 8) qh_cX11_blow rfl rfl rfl (by decide)
theorem dX11_blow_140 : decode cX11_blow 140 = .ok (.invokevirtual 211, 3) := dqn_182 (k := 41) qh_cX11_blow rfl rfl rfl
theorem dX11_blow_143 : decode cX11_blow 143 = .ok (.dup2, 1) := dqn_92 (k := 40) qh_cX11_blow rfl rfl
theorem dX11_blow_144 : decode cX11_blow 144 = .ok (.iaload, 1) := dqn_46 (k := 39) qh_cX11_blow rfl rfl
theorem dX11_blow_145 : decode cX11_blow 145 = .ok (.aload_n 0, 1) := dqn_42 (k := 38) qh_cX11_blow rfl rfl
theorem dX11_blow_146 : decode cX11_blow 146 = .ok (.getfield 47, 3) := dqn_180 (k := 35) qh_cX11_blow rfl rfl rfl
theorem dX11_blow_149 : decode cX11_blow 149 = .ok (.iload_n 3, 1) := dqn_29 (k := 34) qh_cX11_blow rfl rfl
theorem dX11_blow_150 : decode cX11_blow 150 = .ok (.iaload, 1) := dqn_46 (k := 33) qh_cX11_blow rfl rfl
theorem dX11_blow_151 : decode cX11_blow 151 = .ok (.iload 4, 2) := dqn_21 (k := 31) qh_cX11_blow rfl rfl rfl
theorem dX11_blow_153 : decode cX11_blow 153 = .ok (.isub, 1) := dqn_100 (k := 30) qh_cX11_blow rfl rfl
theorem dX11_blow_154 : decode cX11_blow 154 = .ok (.iadd, 1) := dqn_96 (k := 29) qh_cX11_blow rfl rfl
theorem dX11_blow_155 : decode cX11_blow 155 = .ok (.iastore, 1) := dqn_79 (k := 28) qh_cX11_blow rfl rfl
theorem dX11_blow_156 : decode cX11_blow 156 = .ok (.goto 21, 3) := dqn_167 (k := 25) (u := 21) qh_cX11_blow rfl rfl rfl (sg_p rfl rfl)
theorem dX11_blow_159 : decode cX11_blow 159 = .ok (.aload_n 0, 1) := dqn_42 (k := 24) qh_cX11_blow rfl rfl
theorem dX11_blow_160 : decode cX11_blow 160 = .ok (.dup, 1) := dqn_89 (k := 23) qh_cX11_blow rfl rfl
theorem dX11_blow_161 : decode cX11_blow 161 = .ok (.getfield 255, 3) := dqn_180 (k := 20) qh_cX11_blow rfl rfl rfl
theorem dX11_blow_164 : decode cX11_blow 164 = .ok (.aload_n 0, 1) := dqn_42 (k := 19) qh_cX11_blow rfl rfl
theorem dX11_blow_165 : decode cX11_blow 165 = .ok (.getfield 47, 3) := dqn_180 (k := 16) qh_cX11_blow rfl rfl rfl
theorem dX11_blow_168 : decode cX11_blow 168 = .ok (.iload_n 3, 1) := dqn_29 (k := 15) qh_cX11_blow rfl rfl
theorem dX11_blow_169 : decode cX11_blow 169 = .ok (.iaload, 1) := dqn_46 (k := 14) qh_cX11_blow rfl rfl
theorem dX11_blow_170 : decode cX11_blow 170 = .ok (.iload 4, 2) := dqn_21 (k := 12) qh_cX11_blow rfl rfl rfl
theorem dX11_blow_172 : decode cX11_blow 172 = .ok (.isub, 1) := dqn_100 (k := 11) qh_cX11_blow rfl rfl
theorem dX11_blow_173 : decode cX11_blow 173 = .ok (.iadd, 1) := dqn_96 (k := 10) qh_cX11_blow rfl rfl
theorem dX11_blow_174 : decode cX11_blow 174 = .ok (.putfield 255, 3) := dqn_181 (k := 7) qh_cX11_blow rfl rfl rfl
theorem dX11_blow_177 : decode cX11_blow 177 = .ok (.iinc 3 1, 3) := dqn_132 (k := 4) (u := 1) qh_cX11_blow rfl rfl rfl rfl (by decide)
theorem dX11_blow_180 : decode cX11_blow 180 = .ok (.goto (-140), 3) := dqn_167 (k := 1) (u := 65396) qh_cX11_blow rfl rfl rfl (sg_n (k := 140) rfl rfl rfl)
theorem dX11_blow_183 : decode cX11_blow 183 = .ok (.return_, 1) := dqn_177 (k := 0) qh_cX11_blow rfl rfl
theorem dX11_stepsOf_0 : decode cX11_stepsOf 0 = .ok (.aload_n 0, 1) := dqn_42 (k := 21) qh_cX11_stepsOf rfl rfl
theorem dX11_stepsOf_1 : decode cX11_stepsOf 1 = .ok (.getfield 234, 3) := dqn_180 (k := 18) qh_cX11_stepsOf rfl rfl rfl
theorem dX11_stepsOf_4 : decode cX11_stepsOf 4 = .ok (.ifCond .eq 7, 3) := dqn_153 (k := 15) (u := 7) qh_cX11_stepsOf rfl rfl rfl (sg_p rfl rfl)
theorem dX11_stepsOf_7 : decode cX11_stepsOf 7 = .ok (.iconst 0, 1) := dqn_3 (k := 14) qh_cX11_stepsOf rfl rfl
theorem dX11_stepsOf_8 : decode cX11_stepsOf 8 = .ok (.goto 13, 3) := dqn_167 (k := 11) (u := 13) qh_cX11_stepsOf rfl rfl rfl (sg_p rfl rfl)
theorem dX11_stepsOf_11 : decode cX11_stepsOf 11 = .ok (.aload_n 0, 1) := dqn_42 (k := 10) qh_cX11_stepsOf rfl rfl
theorem dX11_stepsOf_12 : decode cX11_stepsOf 12 = .ok (.getfield 38, 3) := dqn_180 (k := 7) qh_cX11_stepsOf rfl rfl rfl
theorem dX11_stepsOf_15 : decode cX11_stepsOf 15 = .ok (.iconst 5, 1) := dqn_8 (k := 6) qh_cX11_stepsOf rfl rfl
theorem dX11_stepsOf_16 : decode cX11_stepsOf 16 = .ok (.iconst 2, 1) := dqn_5 (k := 5) qh_cX11_stepsOf rfl rfl
theorem dX11_stepsOf_17 : decode cX11_stepsOf 17 = .ok (.iload_n 1, 1) := dqn_27 (k := 4) qh_cX11_stepsOf rfl rfl
theorem dX11_stepsOf_18 : decode cX11_stepsOf 18 = .ok (.imul, 1) := dqn_104 (k := 3) qh_cX11_stepsOf rfl rfl
theorem dX11_stepsOf_19 : decode cX11_stepsOf 19 = .ok (.iadd, 1) := dqn_96 (k := 2) qh_cX11_stepsOf rfl rfl
theorem dX11_stepsOf_20 : decode cX11_stepsOf 20 = .ok (.iaload, 1) := dqn_46 (k := 1) qh_cX11_stepsOf rfl rfl
theorem dX11_stepsOf_21 : decode cX11_stepsOf 21 = .ok (.ireturn, 1) := dqn_172 (k := 0) qh_cX11_stepsOf rfl rfl
theorem dX11_harmOf_0 : decode cX11_harmOf 0 = .ok (.iconst 0, 1) := dqn_3 (k := 59) qh_cX11_harmOf rfl rfl
theorem dX11_harmOf_1 : decode cX11_harmOf 1 = .ok (.istore_n 2, 1) := dqn_61 (k := 58) qh_cX11_harmOf rfl rfl
theorem dX11_harmOf_2 : decode cX11_harmOf 2 = .ok (.iconst 0, 1) := dqn_3 (k := 57) qh_cX11_harmOf rfl rfl
theorem dX11_harmOf_3 : decode cX11_harmOf 3 = .ok (.istore_n 3, 1) := dqn_62 (k := 56) qh_cX11_harmOf rfl rfl
theorem dX11_harmOf_4 : decode cX11_harmOf 4 = .ok (.iload_n 3, 1) := dqn_29 (k := 55) qh_cX11_harmOf rfl rfl
theorem dX11_harmOf_5 : decode cX11_harmOf 5 = .ok (.aload_n 0, 1) := dqn_42 (k := 54) qh_cX11_harmOf rfl rfl
theorem dX11_harmOf_6 : decode cX11_harmOf 6 = .ok (.getfield 208, 3) := dqn_180 (k := 51) qh_cX11_harmOf rfl rfl rfl
theorem dX11_harmOf_9 : decode cX11_harmOf 9 = .ok (.if_icmp .ge 49, 3) := dqn_162 (k := 48) (u := 49) qh_cX11_harmOf rfl rfl rfl (sg_p rfl rfl)
theorem dX11_harmOf_12 : decode cX11_harmOf 12 = .ok (.iload_n 2, 1) := dqn_28 (k := 47) qh_cX11_harmOf rfl rfl
theorem dX11_harmOf_13 : decode cX11_harmOf 13 = .ok (.aload_n 0, 1) := dqn_42 (k := 46) qh_cX11_harmOf rfl rfl
theorem dX11_harmOf_14 : decode cX11_harmOf 14 = .ok (.getfield 246, 3) := dqn_180 (k := 43) qh_cX11_harmOf rfl rfl rfl
theorem dX11_harmOf_17 : decode cX11_harmOf 17 = .ok (.iload_n 3, 1) := dqn_29 (k := 42) qh_cX11_harmOf rfl rfl
theorem dX11_harmOf_18 : decode cX11_harmOf 18 = .ok (.invokestatic 249, 3) := dqn_184 (k := 39) qh_cX11_harmOf rfl rfl rfl
theorem dX11_harmOf_21 : decode cX11_harmOf 21 = .ok (.ifCond .eq 28, 3) := dqn_153 (k := 36) (u := 28) qh_cX11_harmOf rfl rfl rfl (sg_p rfl rfl)
theorem dX11_harmOf_24 : decode cX11_harmOf 24 = .ok (.iload_n 1, 1) := dqn_27 (k := 35) qh_cX11_harmOf rfl rfl
theorem dX11_harmOf_25 : decode cX11_harmOf 25 = .ok (.iconst (-1), 1) := dqn_2 (k := 34) qh_cX11_harmOf rfl rfl
theorem dX11_harmOf_26 : decode cX11_harmOf 26 = .ok (.if_icmp .eq 14, 3) := dqn_159 (k := 31) (u := 14) qh_cX11_harmOf rfl rfl rfl (sg_p rfl rfl)
theorem dX11_harmOf_29 : decode cX11_harmOf 29 = .ok (.aload_n 0, 1) := dqn_42 (k := 30) qh_cX11_harmOf rfl rfl
theorem dX11_harmOf_30 : decode cX11_harmOf 30 = .ok (.iload_n 3, 1) := dqn_29 (k := 29) qh_cX11_harmOf rfl rfl
theorem dX11_harmOf_31 : decode cX11_harmOf 31 = .ok (.bipush 6, 2) := dqn_16 (k := 27) (u := 6) qh_cX11_harmOf rfl rfl rfl (by decide)
theorem dX11_harmOf_33 : decode cX11_harmOf 33 = .ok (.invokevirtual 211, 3) := dqn_182 (k := 24) qh_cX11_harmOf rfl rfl rfl
theorem dX11_harmOf_36 : decode cX11_harmOf 36 = .ok (.iload_n 1, 1) := dqn_27 (k := 23) qh_cX11_harmOf rfl rfl
theorem dX11_harmOf_37 : decode cX11_harmOf 37 = .ok (.if_icmp .ne 12, 3) := dqn_160 (k := 20) (u := 12) qh_cX11_harmOf rfl rfl rfl (sg_p rfl rfl)
theorem dX11_harmOf_40 : decode cX11_harmOf 40 = .ok (.aload_n 0, 1) := dqn_42 (k := 19) qh_cX11_harmOf rfl rfl
theorem dX11_harmOf_41 : decode cX11_harmOf 41 = .ok (.iload_n 3, 1) := dqn_29 (k := 18) qh_cX11_harmOf rfl rfl
theorem dX11_harmOf_42 : decode cX11_harmOf 42 = .ok (.iconst 5, 1) := dqn_8 (k := 17) qh_cX11_harmOf rfl rfl
theorem dX11_harmOf_43 : decode cX11_harmOf 43 = .ok (.invokevirtual 211, 3) := dqn_182 (k := 14) qh_cX11_harmOf rfl rfl rfl
theorem dX11_harmOf_46 : decode cX11_harmOf 46 = .ok (.goto 4, 3) := dqn_167 (k := 11) (u := 4) qh_cX11_harmOf rfl rfl rfl (sg_p rfl rfl)
theorem dX11_harmOf_49 : decode cX11_harmOf 49 = .ok (.iconst 0, 1) := dqn_3 (k := 10) qh_cX11_harmOf rfl rfl
theorem dX11_harmOf_50 : decode cX11_harmOf 50 = .ok (.iadd, 1) := dqn_96 (k := 9) qh_cX11_harmOf rfl rfl
theorem dX11_harmOf_51 : decode cX11_harmOf 51 = .ok (.istore_n 2, 1) := dqn_61 (k := 8) qh_cX11_harmOf rfl rfl
theorem dX11_harmOf_52 : decode cX11_harmOf 52 = .ok (.iinc 3 1, 3) := dqn_132 (k := 5) (u := 1) qh_cX11_harmOf rfl rfl rfl rfl (by decide)
theorem dX11_harmOf_55 : decode cX11_harmOf 55 = .ok (.goto (-51), 3) := dqn_167 (k := 2) (u := 65485) qh_cX11_harmOf rfl rfl rfl (sg_n (k := 51) rfl rfl rfl)
theorem dX11_harmOf_58 : decode cX11_harmOf 58 = .ok (.iload_n 2, 1) := dqn_28 (k := 1) qh_cX11_harmOf rfl rfl
theorem dX11_harmOf_59 : decode cX11_harmOf 59 = .ok (.ireturn, 1) := dqn_172 (k := 0) qh_cX11_harmOf rfl rfl
theorem dX11_told_0 : decode cX11_told 0 = .ok (.iload_n 1, 1) := dqn_27 (k := 126) qh_cX11_told rfl rfl
theorem dX11_told_1 : decode cX11_told 1 = .ok (.bipush 10, 2) := dqn_16 (k := 124) (u := 10) qh_cX11_told rfl rfl rfl (by decide)
theorem dX11_told_3 : decode cX11_told 3 = .ok (.bipush 9, 2) := dqn_16 (k := 122) (u := 9) qh_cX11_told rfl rfl rfl (by decide)
theorem dX11_told_5 : decode cX11_told 5 = .ok (.aload_n 0, 1) := dqn_42 (k := 121) qh_cX11_told rfl rfl
theorem dX11_told_6 : decode cX11_told 6 = .ok (.getfield 208, 3) := dqn_180 (k := 118) qh_cX11_told rfl rfl rfl
theorem dX11_told_9 : decode cX11_told 9 = .ok (.iadd, 1) := dqn_96 (k := 117) qh_cX11_told rfl rfl
theorem dX11_told_10 : decode cX11_told 10 = .ok (.invokestatic 78, 3) := dqn_184 (k := 114) qh_cX11_told rfl rfl rfl
theorem dX11_told_13 : decode cX11_told 13 = .ok (.ifCond .eq 13, 3) := dqn_153 (k := 111) (u := 13) qh_cX11_told rfl rfl rfl (sg_p rfl rfl)
theorem dX11_told_16 : decode cX11_told 16 = .ok (.aload_n 0, 1) := dqn_42 (k := 110) qh_cX11_told rfl rfl
theorem dX11_told_17 : decode cX11_told 17 = .ok (.getfield 41, 3) := dqn_180 (k := 107) qh_cX11_told rfl rfl rfl
theorem dX11_told_20 : decode cX11_told 20 = .ok (.iload_n 1, 1) := dqn_27 (k := 106) qh_cX11_told rfl rfl
theorem dX11_told_21 : decode cX11_told 21 = .ok (.bipush 10, 2) := dqn_16 (k := 104) (u := 10) qh_cX11_told rfl rfl rfl (by decide)
theorem dX11_told_23 : decode cX11_told 23 = .ok (.isub, 1) := dqn_100 (k := 103) qh_cX11_told rfl rfl
theorem dX11_told_24 : decode cX11_told 24 = .ok (.iaload, 1) := dqn_46 (k := 102) qh_cX11_told rfl rfl
theorem dX11_told_25 : decode cX11_told 25 = .ok (.ireturn, 1) := dqn_172 (k := 101) qh_cX11_told rfl rfl
theorem dX11_told_26 : decode cX11_told 26 = .ok (.iload_n 1, 1) := dqn_27 (k := 100) qh_cX11_told rfl rfl
theorem dX11_told_27 : decode cX11_told 27 = .ok (.bipush 20, 2) := dqn_16 (k := 98) (u := 20) qh_cX11_told rfl rfl rfl (by decide)
theorem dX11_told_29 : decode cX11_told 29 = .ok (.bipush 19, 2) := dqn_16 (k := 96) (u := 19) qh_cX11_told rfl rfl rfl (by decide)
theorem dX11_told_31 : decode cX11_told 31 = .ok (.aload_n 0, 1) := dqn_42 (k := 95) qh_cX11_told rfl rfl
theorem dX11_told_32 : decode cX11_told 32 = .ok (.getfield 208, 3) := dqn_180 (k := 92) qh_cX11_told rfl rfl rfl
theorem dX11_told_35 : decode cX11_told 35 = .ok (.iadd, 1) := dqn_96 (k := 91) qh_cX11_told rfl rfl
theorem dX11_told_36 : decode cX11_told 36 = .ok (.invokestatic 78, 3) := dqn_184 (k := 88) qh_cX11_told rfl rfl rfl
theorem dX11_told_39 : decode cX11_told 39 = .ok (.ifCond .eq 13, 3) := dqn_153 (k := 85) (u := 13) qh_cX11_told rfl rfl rfl (sg_p rfl rfl)
theorem dX11_told_42 : decode cX11_told 42 = .ok (.aload_n 0, 1) := dqn_42 (k := 84) qh_cX11_told rfl rfl
theorem dX11_told_43 : decode cX11_told 43 = .ok (.getfield 47, 3) := dqn_180 (k := 81) qh_cX11_told rfl rfl rfl
theorem dX11_told_46 : decode cX11_told 46 = .ok (.iload_n 1, 1) := dqn_27 (k := 80) qh_cX11_told rfl rfl
theorem dX11_told_47 : decode cX11_told 47 = .ok (.bipush 20, 2) := dqn_16 (k := 78) (u := 20) qh_cX11_told rfl rfl rfl (by decide)
theorem dX11_told_49 : decode cX11_told 49 = .ok (.isub, 1) := dqn_100 (k := 77) qh_cX11_told rfl rfl
theorem dX11_told_50 : decode cX11_told 50 = .ok (.iaload, 1) := dqn_46 (k := 76) qh_cX11_told rfl rfl
theorem dX11_told_51 : decode cX11_told 51 = .ok (.ireturn, 1) := dqn_172 (k := 75) qh_cX11_told rfl rfl
theorem dX11_told_52 : decode cX11_told 52 = .ok (.iload_n 1, 1) := dqn_27 (k := 74) qh_cX11_told rfl rfl
theorem dX11_told_53 : decode cX11_told 53 = .ok (.bipush 30, 2) := dqn_16 (k := 72) (u := 30) qh_cX11_told rfl rfl rfl (by decide)
theorem dX11_told_55 : decode cX11_told 55 = .ok (.bipush 29, 2) := dqn_16 (k := 70) (u := 29) qh_cX11_told rfl rfl rfl (by decide)
theorem dX11_told_57 : decode cX11_told 57 = .ok (.aload_n 0, 1) := dqn_42 (k := 69) qh_cX11_told rfl rfl
theorem dX11_told_58 : decode cX11_told 58 = .ok (.getfield 208, 3) := dqn_180 (k := 66) qh_cX11_told rfl rfl rfl
theorem dX11_told_61 : decode cX11_told 61 = .ok (.iadd, 1) := dqn_96 (k := 65) qh_cX11_told rfl rfl
theorem dX11_told_62 : decode cX11_told 62 = .ok (.invokestatic 78, 3) := dqn_184 (k := 62) qh_cX11_told rfl rfl rfl
theorem dX11_told_65 : decode cX11_told 65 = .ok (.ifCond .eq 23, 3) := dqn_153 (k := 59) (u := 23) qh_cX11_told rfl rfl rfl (sg_p rfl rfl)
theorem dX11_told_68 : decode cX11_told 68 = .ok (.aload_n 0, 1) := dqn_42 (k := 58) qh_cX11_told rfl rfl
theorem dX11_told_69 : decode cX11_told 69 = .ok (.getfield 252, 3) := dqn_180 (k := 55) qh_cX11_told rfl rfl rfl
theorem dX11_told_72 : decode cX11_told 72 = .ok (.iload_n 1, 1) := dqn_27 (k := 54) qh_cX11_told rfl rfl
theorem dX11_told_73 : decode cX11_told 73 = .ok (.bipush 30, 2) := dqn_16 (k := 52) (u := 30) qh_cX11_told rfl rfl rfl (by decide)
theorem dX11_told_75 : decode cX11_told 75 = .ok (.isub, 1) := dqn_100 (k := 51) qh_cX11_told rfl rfl
theorem dX11_told_76 : decode cX11_told 76 = .ok (.invokestatic 249, 3) := dqn_184 (k := 48) qh_cX11_told rfl rfl rfl
theorem dX11_told_79 : decode cX11_told 79 = .ok (.ifCond .eq 7, 3) := dqn_153 (k := 45) (u := 7) qh_cX11_told rfl rfl rfl (sg_p rfl rfl)
theorem dX11_told_82 : decode cX11_told 82 = .ok (.iconst 1, 1) := dqn_4 (k := 44) qh_cX11_told rfl rfl
theorem dX11_told_83 : decode cX11_told 83 = .ok (.goto 4, 3) := dqn_167 (k := 41) (u := 4) qh_cX11_told rfl rfl rfl (sg_p rfl rfl)
theorem dX11_told_86 : decode cX11_told 86 = .ok (.iconst 0, 1) := dqn_3 (k := 40) qh_cX11_told rfl rfl
theorem dX11_told_87 : decode cX11_told 87 = .ok (.ireturn, 1) := dqn_172 (k := 39) qh_cX11_told rfl rfl
theorem dX11_told_88 : decode cX11_told 88 = .ok (.iload_n 1, 1) := dqn_27 (k := 38) qh_cX11_told rfl rfl
theorem dX11_told_89 : decode cX11_told 89 = .ok (.ifCond .ne 10, 3) := dqn_154 (k := 35) (u := 10) qh_cX11_told rfl rfl rfl (sg_p rfl rfl)
theorem dX11_told_92 : decode cX11_told 92 = .ok (.aload_n 0, 1) := dqn_42 (k := 34) qh_cX11_told rfl rfl
theorem dX11_told_93 : decode cX11_told 93 = .ok (.getfield 246, 3) := dqn_180 (k := 31) qh_cX11_told rfl rfl rfl
theorem dX11_told_96 : decode cX11_told 96 = .ok (.goto 30, 3) := dqn_167 (k := 28) (u := 30) qh_cX11_told rfl rfl rfl (sg_p rfl rfl)
theorem dX11_told_99 : decode cX11_told 99 = .ok (.iload_n 1, 1) := dqn_27 (k := 27) qh_cX11_told rfl rfl
theorem dX11_told_100 : decode cX11_told 100 = .ok (.iconst 1, 1) := dqn_4 (k := 26) qh_cX11_told rfl rfl
theorem dX11_told_101 : decode cX11_told 101 = .ok (.if_icmp .ne 11, 3) := dqn_160 (k := 23) (u := 11) qh_cX11_told rfl rfl rfl (sg_p rfl rfl)
theorem dX11_told_104 : decode cX11_told 104 = .ok (.aload_n 0, 1) := dqn_42 (k := 22) qh_cX11_told rfl rfl
theorem dX11_told_105 : decode cX11_told 105 = .ok (.iconst (-1), 1) := dqn_2 (k := 21) qh_cX11_told rfl rfl
theorem dX11_told_106 : decode cX11_told 106 = .ok (.invokevirtual 281, 3) := dqn_182 (k := 18) qh_cX11_told rfl rfl rfl
theorem dX11_told_109 : decode cX11_told 109 = .ok (.goto 17, 3) := dqn_167 (k := 15) (u := 17) qh_cX11_told rfl rfl rfl (sg_p rfl rfl)
theorem dX11_told_112 : decode cX11_told 112 = .ok (.iload_n 1, 1) := dqn_27 (k := 14) qh_cX11_told rfl rfl
theorem dX11_told_113 : decode cX11_told 113 = .ok (.bipush 40, 2) := dqn_16 (k := 12) (u := 40) qh_cX11_told rfl rfl rfl (by decide)
theorem dX11_told_115 : decode cX11_told 115 = .ok (.if_icmp .ne 10, 3) := dqn_160 (k := 9) (u := 10) qh_cX11_told rfl rfl rfl (sg_p rfl rfl)
theorem dX11_told_118 : decode cX11_told 118 = .ok (.aload_n 0, 1) := dqn_42 (k := 8) qh_cX11_told rfl rfl
theorem dX11_told_119 : decode cX11_told 119 = .ok (.getfield 255, 3) := dqn_180 (k := 5) qh_cX11_told rfl rfl rfl
theorem dX11_told_122 : decode cX11_told 122 = .ok (.goto 4, 3) := dqn_167 (k := 2) (u := 4) qh_cX11_told rfl rfl rfl (sg_p rfl rfl)
theorem dX11_told_125 : decode cX11_told 125 = .ok (.iconst (-1), 1) := dqn_2 (k := 1) qh_cX11_told rfl rfl
theorem dX11_told_126 : decode cX11_told 126 = .ok (.ireturn, 1) := dqn_172 (k := 0) qh_cX11_told rfl rfl
theorem dX11_partsOf_0 : decode cX11_partsOf 0 = .ok (.aload_n 0, 1) := dqn_42 (k := 67) qh_cX11_partsOf rfl rfl
theorem dX11_partsOf_1 : decode cX11_partsOf 1 = .ok (.getfield 38, 3) := dqn_180 (k := 64) qh_cX11_partsOf rfl rfl rfl
theorem dX11_partsOf_4 : decode cX11_partsOf 4 = .ok (.iconst 5, 1) := dqn_8 (k := 63) qh_cX11_partsOf rfl rfl
theorem dX11_partsOf_5 : decode cX11_partsOf 5 = .ok (.iconst 2, 1) := dqn_5 (k := 62) qh_cX11_partsOf rfl rfl
theorem dX11_partsOf_6 : decode cX11_partsOf 6 = .ok (.iload_n 1, 1) := dqn_27 (k := 61) qh_cX11_partsOf rfl rfl
theorem dX11_partsOf_7 : decode cX11_partsOf 7 = .ok (.imul, 1) := dqn_104 (k := 60) qh_cX11_partsOf rfl rfl
theorem dX11_partsOf_8 : decode cX11_partsOf 8 = .ok (.iadd, 1) := dqn_96 (k := 59) qh_cX11_partsOf rfl rfl
theorem dX11_partsOf_9 : decode cX11_partsOf 9 = .ok (.iconst 1, 1) := dqn_4 (k := 58) qh_cX11_partsOf rfl rfl
theorem dX11_partsOf_10 : decode cX11_partsOf 10 = .ok (.iadd, 1) := dqn_96 (k := 57) qh_cX11_partsOf rfl rfl
theorem dX11_partsOf_11 : decode cX11_partsOf 11 = .ok (.iaload, 1) := dqn_46 (k := 56) qh_cX11_partsOf rfl rfl
theorem dX11_partsOf_12 : decode cX11_partsOf 12 = .ok (.i2l, 1) := dqn_133 (k := 55) qh_cX11_partsOf rfl rfl
theorem dX11_partsOf_13 : decode cX11_partsOf 13 = .ok (.lstore_n 3, 1) := dqn_66 (k := 54) qh_cX11_partsOf rfl rfl
theorem dX11_partsOf_14 : decode cX11_partsOf 14 = .ok (.iconst 0, 1) := dqn_3 (k := 53) qh_cX11_partsOf rfl rfl
theorem dX11_partsOf_15 : decode cX11_partsOf 15 = .ok (.istore 5, 2) := dqn_54 (k := 51) qh_cX11_partsOf rfl rfl rfl
theorem dX11_partsOf_17 : decode cX11_partsOf 17 = .ok (.iload 5, 2) := dqn_21 (k := 49) qh_cX11_partsOf rfl rfl rfl
theorem dX11_partsOf_19 : decode cX11_partsOf 19 = .ok (.aload_n 0, 1) := dqn_42 (k := 48) qh_cX11_partsOf rfl rfl
theorem dX11_partsOf_20 : decode cX11_partsOf 20 = .ok (.getfield 208, 3) := dqn_180 (k := 45) qh_cX11_partsOf rfl rfl rfl
theorem dX11_partsOf_23 : decode cX11_partsOf 23 = .ok (.if_icmp .ge 43, 3) := dqn_162 (k := 42) (u := 43) qh_cX11_partsOf rfl rfl rfl (sg_p rfl rfl)
theorem dX11_partsOf_26 : decode cX11_partsOf 26 = .ok (.lload_n 3, 1) := dqn_33 (k := 41) qh_cX11_partsOf rfl rfl
theorem dX11_partsOf_27 : decode cX11_partsOf 27 = .ok (.iload_n 2, 1) := dqn_28 (k := 40) qh_cX11_partsOf rfl rfl
theorem dX11_partsOf_28 : decode cX11_partsOf 28 = .ok (.iload 5, 2) := dqn_21 (k := 38) qh_cX11_partsOf rfl rfl rfl
theorem dX11_partsOf_30 : decode cX11_partsOf 30 = .ok (.invokestatic 249, 3) := dqn_184 (k := 35) qh_cX11_partsOf rfl rfl rfl
theorem dX11_partsOf_33 : decode cX11_partsOf 33 = .ok (.ifCond .eq 14, 3) := dqn_153 (k := 32) (u := 14) qh_cX11_partsOf rfl rfl rfl (sg_p rfl rfl)
theorem dX11_partsOf_36 : decode cX11_partsOf 36 = .ok (.aload_n 0, 1) := dqn_42 (k := 31) qh_cX11_partsOf rfl rfl
theorem dX11_partsOf_37 : decode cX11_partsOf 37 = .ok (.iload 5, 2) := dqn_21 (k := 29) qh_cX11_partsOf rfl rfl rfl
theorem dX11_partsOf_39 : decode cX11_partsOf 39 = .ok (.iconst 4, 1) := dqn_7 (k := 28) qh_cX11_partsOf rfl rfl
theorem dX11_partsOf_40 : decode cX11_partsOf 40 = .ok (.invokevirtual 211, 3) := dqn_182 (k := 25) qh_cX11_partsOf rfl rfl rfl
theorem dX11_partsOf_43 : decode cX11_partsOf 43 = .ok (.i2l, 1) := dqn_133 (k := 24) qh_cX11_partsOf rfl rfl
theorem dX11_partsOf_44 : decode cX11_partsOf 44 = .ok (.goto 14, 3) := dqn_167 (k := 21) (u := 14) qh_cX11_partsOf rfl rfl rfl (sg_p rfl rfl)
theorem dX11_partsOf_47 : decode cX11_partsOf 47 = .ok (.bipush 10, 2) := dqn_16 (k := 19) (u := 10) qh_cX11_partsOf rfl rfl rfl (by decide)
theorem dX11_partsOf_49 : decode cX11_partsOf 49 = .ok (.aload_n 0, 1) := dqn_42 (k := 18) qh_cX11_partsOf rfl rfl
theorem dX11_partsOf_50 : decode cX11_partsOf 50 = .ok (.iload 5, 2) := dqn_21 (k := 16) qh_cX11_partsOf rfl rfl rfl
theorem dX11_partsOf_52 : decode cX11_partsOf 52 = .ok (.iconst 4, 1) := dqn_7 (k := 15) qh_cX11_partsOf rfl rfl
theorem dX11_partsOf_53 : decode cX11_partsOf 53 = .ok (.invokevirtual 211, 3) := dqn_182 (k := 12) qh_cX11_partsOf rfl rfl rfl
theorem dX11_partsOf_56 : decode cX11_partsOf 56 = .ok (.isub, 1) := dqn_100 (k := 11) qh_cX11_partsOf rfl rfl
theorem dX11_partsOf_57 : decode cX11_partsOf 57 = .ok (.i2l, 1) := dqn_133 (k := 10) qh_cX11_partsOf rfl rfl
theorem dX11_partsOf_58 : decode cX11_partsOf 58 = .ok (.lmul, 1) := dqn_105 (k := 9) qh_cX11_partsOf rfl rfl
theorem dX11_partsOf_59 : decode cX11_partsOf 59 = .ok (.lstore_n 3, 1) := dqn_66 (k := 8) qh_cX11_partsOf rfl rfl
theorem dX11_partsOf_60 : decode cX11_partsOf 60 = .ok (.iinc 5 1, 3) := dqn_132 (k := 5) (u := 1) qh_cX11_partsOf rfl rfl rfl rfl (by decide)
theorem dX11_partsOf_63 : decode cX11_partsOf 63 = .ok (.goto (-46), 3) := dqn_167 (k := 2) (u := 65490) qh_cX11_partsOf rfl rfl rfl (sg_n (k := 46) rfl rfl rfl)
theorem dX11_partsOf_66 : decode cX11_partsOf 66 = .ok (.lload_n 3, 1) := dqn_33 (k := 1) qh_cX11_partsOf rfl rfl
theorem dX11_partsOf_67 : decode cX11_partsOf 67 = .ok (.lreturn, 1) := dqn_173 (k := 0) qh_cX11_partsOf rfl rfl
theorem dX11_allParts_0 : decode cX11_allParts 0 = .ok (.ldc2_w 284, 3) := dqn_20 (k := 25) qh_cX11_allParts rfl rfl rfl
theorem dX11_allParts_3 : decode cX11_allParts 3 = .ok (.lstore_n 1, 1) := dqn_64 (k := 24) qh_cX11_allParts rfl rfl
theorem dX11_allParts_4 : decode cX11_allParts 4 = .ok (.iconst 0, 1) := dqn_3 (k := 23) qh_cX11_allParts rfl rfl
theorem dX11_allParts_5 : decode cX11_allParts 5 = .ok (.istore_n 3, 1) := dqn_62 (k := 22) qh_cX11_allParts rfl rfl
theorem dX11_allParts_6 : decode cX11_allParts 6 = .ok (.iload_n 3, 1) := dqn_29 (k := 21) qh_cX11_allParts rfl rfl
theorem dX11_allParts_7 : decode cX11_allParts 7 = .ok (.aload_n 0, 1) := dqn_42 (k := 20) qh_cX11_allParts rfl rfl
theorem dX11_allParts_8 : decode cX11_allParts 8 = .ok (.getfield 208, 3) := dqn_180 (k := 17) qh_cX11_allParts rfl rfl rfl
theorem dX11_allParts_11 : decode cX11_allParts 11 = .ok (.if_icmp .ge 15, 3) := dqn_162 (k := 14) (u := 15) qh_cX11_allParts rfl rfl rfl (sg_p rfl rfl)
theorem dX11_allParts_14 : decode cX11_allParts 14 = .ok (.lload_n 1, 1) := dqn_31 (k := 13) qh_cX11_allParts rfl rfl
theorem dX11_allParts_15 : decode cX11_allParts 15 = .ok (.ldc2_w 286, 3) := dqn_20 (k := 10) qh_cX11_allParts rfl rfl rfl
theorem dX11_allParts_18 : decode cX11_allParts 18 = .ok (.lmul, 1) := dqn_105 (k := 9) qh_cX11_allParts rfl rfl
theorem dX11_allParts_19 : decode cX11_allParts 19 = .ok (.lstore_n 1, 1) := dqn_64 (k := 8) qh_cX11_allParts rfl rfl
theorem dX11_allParts_20 : decode cX11_allParts 20 = .ok (.iinc 3 1, 3) := dqn_132 (k := 5) (u := 1) qh_cX11_allParts rfl rfl rfl rfl (by decide)
theorem dX11_allParts_23 : decode cX11_allParts 23 = .ok (.goto (-17), 3) := dqn_167 (k := 2) (u := 65519) qh_cX11_allParts rfl rfl rfl (sg_n (k := 17) rfl rfl rfl)
theorem dX11_allParts_26 : decode cX11_allParts 26 = .ok (.lload_n 1, 1) := dqn_31 (k := 1) qh_cX11_allParts rfl rfl
theorem dX11_allParts_27 : decode cX11_allParts 27 = .ok (.lreturn, 1) := dqn_173 (k := 0) qh_cX11_allParts rfl rfl
theorem dX11_meanBy_0 : decode cX11_meanBy 0 = .ok (.lconst 0, 1) := dqn_9 (k := 84) qh_cX11_meanBy rfl rfl
theorem dX11_meanBy_1 : decode cX11_meanBy 1 = .ok (.lstore_n 2, 1) := dqn_65 (k := 83) qh_cX11_meanBy rfl rfl
theorem dX11_meanBy_2 : decode cX11_meanBy 2 = .ok (.iconst 0, 1) := dqn_3 (k := 82) qh_cX11_meanBy rfl rfl
theorem dX11_meanBy_3 : decode cX11_meanBy 3 = .ok (.istore 4, 2) := dqn_54 (k := 80) qh_cX11_meanBy rfl rfl rfl
theorem dX11_meanBy_5 : decode cX11_meanBy 5 = .ok (.iload 4, 2) := dqn_21 (k := 78) qh_cX11_meanBy rfl rfl rfl
theorem dX11_meanBy_7 : decode cX11_meanBy 7 = .ok (.aload_n 0, 1) := dqn_42 (k := 77) qh_cX11_meanBy rfl rfl
theorem dX11_meanBy_8 : decode cX11_meanBy 8 = .ok (.getfield 38, 3) := dqn_180 (k := 74) qh_cX11_meanBy rfl rfl rfl
theorem dX11_meanBy_11 : decode cX11_meanBy 11 = .ok (.iconst 1, 1) := dqn_4 (k := 73) qh_cX11_meanBy rfl rfl
theorem dX11_meanBy_12 : decode cX11_meanBy 12 = .ok (.iaload, 1) := dqn_46 (k := 72) qh_cX11_meanBy rfl rfl
theorem dX11_meanBy_13 : decode cX11_meanBy 13 = .ok (.if_icmp .ge 70, 3) := dqn_162 (k := 69) (u := 70) qh_cX11_meanBy rfl rfl rfl (sg_p rfl rfl)
theorem dX11_meanBy_16 : decode cX11_meanBy 16 = .ok (.iconst 0, 1) := dqn_3 (k := 68) qh_cX11_meanBy rfl rfl
theorem dX11_meanBy_17 : decode cX11_meanBy 17 = .ok (.istore 5, 2) := dqn_54 (k := 66) qh_cX11_meanBy rfl rfl rfl
theorem dX11_meanBy_19 : decode cX11_meanBy 19 = .ok (.iload 5, 2) := dqn_21 (k := 64) qh_cX11_meanBy rfl rfl rfl
theorem dX11_meanBy_21 : decode cX11_meanBy 21 = .ok (.iconst 1, 1) := dqn_4 (k := 63) qh_cX11_meanBy rfl rfl
theorem dX11_meanBy_22 : decode cX11_meanBy 22 = .ok (.aload_n 0, 1) := dqn_42 (k := 62) qh_cX11_meanBy rfl rfl
theorem dX11_meanBy_23 : decode cX11_meanBy 23 = .ok (.getfield 208, 3) := dqn_180 (k := 59) qh_cX11_meanBy rfl rfl rfl
theorem dX11_meanBy_26 : decode cX11_meanBy 26 = .ok (.ishl, 1) := dqn_120 (k := 58) qh_cX11_meanBy rfl rfl
theorem dX11_meanBy_27 : decode cX11_meanBy 27 = .ok (.if_icmp .ge 50, 3) := dqn_162 (k := 55) (u := 50) qh_cX11_meanBy rfl rfl rfl (sg_p rfl rfl)
theorem dX11_meanBy_30 : decode cX11_meanBy 30 = .ok (.aload_n 0, 1) := dqn_42 (k := 54) qh_cX11_meanBy rfl rfl
theorem dX11_meanBy_31 : decode cX11_meanBy 31 = .ok (.iload 4, 2) := dqn_21 (k := 52) qh_cX11_meanBy rfl rfl rfl
theorem dX11_meanBy_33 : decode cX11_meanBy 33 = .ok (.iload 5, 2) := dqn_21 (k := 50) qh_cX11_meanBy rfl rfl rfl
theorem dX11_meanBy_35 : decode cX11_meanBy 35 = .ok (.invokevirtual 288, 3) := dqn_182 (k := 47) qh_cX11_meanBy rfl rfl rfl
theorem dX11_meanBy_38 : decode cX11_meanBy 38 = .ok (.lstore 6, 2) := dqn_55 (k := 45) qh_cX11_meanBy rfl rfl rfl
theorem dX11_meanBy_40 : decode cX11_meanBy 40 = .ok (.lload 6, 2) := dqn_22 (k := 43) qh_cX11_meanBy rfl rfl rfl
theorem dX11_meanBy_42 : decode cX11_meanBy 42 = .ok (.lconst 0, 1) := dqn_9 (k := 42) qh_cX11_meanBy rfl rfl
theorem dX11_meanBy_43 : decode cX11_meanBy 43 = .ok (.lcmp, 1) := dqn_148 (k := 41) qh_cX11_meanBy rfl rfl
theorem dX11_meanBy_44 : decode cX11_meanBy 44 = .ok (.ifCond .le 27, 3) := dqn_158 (k := 38) (u := 27) qh_cX11_meanBy rfl rfl rfl (sg_p rfl rfl)
theorem dX11_meanBy_47 : decode cX11_meanBy 47 = .ok (.aload_n 0, 1) := dqn_42 (k := 37) qh_cX11_meanBy rfl rfl
theorem dX11_meanBy_48 : decode cX11_meanBy 48 = .ok (.aload_n 0, 1) := dqn_42 (k := 36) qh_cX11_meanBy rfl rfl
theorem dX11_meanBy_49 : decode cX11_meanBy 49 = .ok (.iload 4, 2) := dqn_21 (k := 34) qh_cX11_meanBy rfl rfl rfl
theorem dX11_meanBy_51 : decode cX11_meanBy 51 = .ok (.invokevirtual 271, 3) := dqn_182 (k := 31) qh_cX11_meanBy rfl rfl rfl
theorem dX11_meanBy_54 : decode cX11_meanBy 54 = .ok (.iload 5, 2) := dqn_21 (k := 29) qh_cX11_meanBy rfl rfl rfl
theorem dX11_meanBy_56 : decode cX11_meanBy 56 = .ok (.invokevirtual 275, 3) := dqn_182 (k := 26) qh_cX11_meanBy rfl rfl rfl
theorem dX11_meanBy_59 : decode cX11_meanBy 59 = .ok (.lload_n 2, 1) := dqn_32 (k := 25) qh_cX11_meanBy rfl rfl
theorem dX11_meanBy_60 : decode cX11_meanBy 60 = .ok (.lload 6, 2) := dqn_22 (k := 23) qh_cX11_meanBy rfl rfl rfl
theorem dX11_meanBy_62 : decode cX11_meanBy 62 = .ok (.aload_n 0, 1) := dqn_42 (k := 22) qh_cX11_meanBy rfl rfl
theorem dX11_meanBy_63 : decode cX11_meanBy 63 = .ok (.iload_n 1, 1) := dqn_27 (k := 21) qh_cX11_meanBy rfl rfl
theorem dX11_meanBy_64 : decode cX11_meanBy 64 = .ok (.invokevirtual 281, 3) := dqn_182 (k := 18) qh_cX11_meanBy rfl rfl rfl
theorem dX11_meanBy_67 : decode cX11_meanBy 67 = .ok (.i2l, 1) := dqn_133 (k := 17) qh_cX11_meanBy rfl rfl
theorem dX11_meanBy_68 : decode cX11_meanBy 68 = .ok (.lmul, 1) := dqn_105 (k := 16) qh_cX11_meanBy rfl rfl
theorem dX11_meanBy_69 : decode cX11_meanBy 69 = .ok (.ladd, 1) := dqn_97 (k := 15) qh_cX11_meanBy rfl rfl
theorem dX11_meanBy_70 : decode cX11_meanBy 70 = .ok (.lstore_n 2, 1) := dqn_65 (k := 14) qh_cX11_meanBy rfl rfl
theorem dX11_meanBy_71 : decode cX11_meanBy 71 = .ok (.iinc 5 1, 3) := dqn_132 (k := 11) (u := 1) qh_cX11_meanBy rfl rfl rfl rfl (by decide)
theorem dX11_meanBy_74 : decode cX11_meanBy 74 = .ok (.goto (-55), 3) := dqn_167 (k := 8) (u := 65481) qh_cX11_meanBy rfl rfl rfl (sg_n (k := 55) rfl rfl rfl)
theorem dX11_meanBy_77 : decode cX11_meanBy 77 = .ok (.iinc 4 1, 3) := dqn_132 (k := 5) (u := 1) qh_cX11_meanBy rfl rfl rfl rfl (by decide)
theorem dX11_meanBy_80 : decode cX11_meanBy 80 = .ok (.goto (-75), 3) := dqn_167 (k := 2) (u := 65461) qh_cX11_meanBy rfl rfl rfl (sg_n (k := 75) rfl rfl rfl)
theorem dX11_meanBy_83 : decode cX11_meanBy 83 = .ok (.lload_n 2, 1) := dqn_32 (k := 1) qh_cX11_meanBy rfl rfl
theorem dX11_meanBy_84 : decode cX11_meanBy 84 = .ok (.lreturn, 1) := dqn_173 (k := 0) qh_cX11_meanBy rfl rfl
theorem dX11_keepChances_0 : decode cX11_keepChances 0 = .ok (.iconst 0, 1) := dqn_3 (k := 28) qh_cX11_keepChances rfl rfl
theorem dX11_keepChances_1 : decode cX11_keepChances 1 = .ok (.istore_n 1, 1) := dqn_60 (k := 27) qh_cX11_keepChances rfl rfl
theorem dX11_keepChances_2 : decode cX11_keepChances 2 = .ok (.iload_n 1, 1) := dqn_27 (k := 26) qh_cX11_keepChances rfl rfl
theorem dX11_keepChances_3 : decode cX11_keepChances 3 = .ok (.aload_n 0, 1) := dqn_42 (k := 25) qh_cX11_keepChances rfl rfl
theorem dX11_keepChances_4 : decode cX11_keepChances 4 = .ok (.getfield 208, 3) := dqn_180 (k := 22) qh_cX11_keepChances rfl rfl rfl
theorem dX11_keepChances_7 : decode cX11_keepChances 7 = .ok (.if_icmp .ge 21, 3) := dqn_162 (k := 19) (u := 21) qh_cX11_keepChances rfl rfl rfl (sg_p rfl rfl)
theorem dX11_keepChances_10 : decode cX11_keepChances 10 = .ok (.aload_n 0, 1) := dqn_42 (k := 18) qh_cX11_keepChances rfl rfl
theorem dX11_keepChances_11 : decode cX11_keepChances 11 = .ok (.getfield 54, 3) := dqn_180 (k := 15) qh_cX11_keepChances rfl rfl rfl
theorem dX11_keepChances_14 : decode cX11_keepChances 14 = .ok (.iload_n 1, 1) := dqn_27 (k := 14) qh_cX11_keepChances rfl rfl
theorem dX11_keepChances_15 : decode cX11_keepChances 15 = .ok (.aload_n 0, 1) := dqn_42 (k := 13) qh_cX11_keepChances rfl rfl
theorem dX11_keepChances_16 : decode cX11_keepChances 16 = .ok (.iload_n 1, 1) := dqn_27 (k := 12) qh_cX11_keepChances rfl rfl
theorem dX11_keepChances_17 : decode cX11_keepChances 17 = .ok (.iconst 4, 1) := dqn_7 (k := 11) qh_cX11_keepChances rfl rfl
theorem dX11_keepChances_18 : decode cX11_keepChances 18 = .ok (.invokevirtual 211, 3) := dqn_182 (k := 8) qh_cX11_keepChances rfl rfl rfl
theorem dX11_keepChances_21 : decode cX11_keepChances 21 = .ok (.iastore, 1) := dqn_79 (k := 7) qh_cX11_keepChances rfl rfl
theorem dX11_keepChances_22 : decode cX11_keepChances 22 = .ok (.iinc 1 1, 3) := dqn_132 (k := 4) (u := 1) qh_cX11_keepChances rfl rfl rfl rfl (by decide)
theorem dX11_keepChances_25 : decode cX11_keepChances 25 = .ok (.goto (-23), 3) := dqn_167 (k := 1) (u := 65513) qh_cX11_keepChances rfl rfl rfl (sg_n (k := 23) rfl rfl rfl)
theorem dX11_keepChances_28 : decode cX11_keepChances 28 = .ok (.return_, 1) := dqn_177 (k := 0) qh_cX11_keepChances rfl rfl
theorem dX11_mendAll_0 : decode cX11_mendAll 0 = .ok (.iconst 0, 1) := dqn_3 (k := 40) qh_cX11_mendAll rfl rfl
theorem dX11_mendAll_1 : decode cX11_mendAll 1 = .ok (.istore_n 2, 1) := dqn_61 (k := 39) qh_cX11_mendAll rfl rfl
theorem dX11_mendAll_2 : decode cX11_mendAll 2 = .ok (.iload_n 2, 1) := dqn_28 (k := 38) qh_cX11_mendAll rfl rfl
theorem dX11_mendAll_3 : decode cX11_mendAll 3 = .ok (.aload_n 0, 1) := dqn_42 (k := 37) qh_cX11_mendAll rfl rfl
theorem dX11_mendAll_4 : decode cX11_mendAll 4 = .ok (.getfield 208, 3) := dqn_180 (k := 34) qh_cX11_mendAll rfl rfl rfl
theorem dX11_mendAll_7 : decode cX11_mendAll 7 = .ok (.if_icmp .ge 33, 3) := dqn_162 (k := 31) (u := 33) qh_cX11_mendAll rfl rfl rfl (sg_p rfl rfl)
theorem dX11_mendAll_10 : decode cX11_mendAll 10 = .ok (.aload_n 0, 1) := dqn_42 (k := 30) qh_cX11_mendAll rfl rfl
theorem dX11_mendAll_11 : decode cX11_mendAll 11 = .ok (.iload_n 2, 1) := dqn_28 (k := 29) qh_cX11_mendAll rfl rfl
theorem dX11_mendAll_12 : decode cX11_mendAll 12 = .ok (.iconst 4, 1) := dqn_7 (k := 28) qh_cX11_mendAll rfl rfl
theorem dX11_mendAll_13 : decode cX11_mendAll 13 = .ok (.iload_n 1, 1) := dqn_27 (k := 27) qh_cX11_mendAll rfl rfl
theorem dX11_mendAll_14 : decode cX11_mendAll 14 = .ok (.iload_n 2, 1) := dqn_28 (k := 26) qh_cX11_mendAll rfl rfl
theorem dX11_mendAll_15 : decode cX11_mendAll 15 = .ok (.invokestatic 249, 3) := dqn_184 (k := 23) qh_cX11_mendAll rfl rfl rfl
theorem dX11_mendAll_18 : decode cX11_mendAll 18 = .ok (.ifCond .eq 7, 3) := dqn_153 (k := 20) (u := 7) qh_cX11_mendAll rfl rfl rfl (sg_p rfl rfl)
theorem dX11_mendAll_21 : decode cX11_mendAll 21 = .ok (.iconst 0, 1) := dqn_3 (k := 19) qh_cX11_mendAll rfl rfl
theorem dX11_mendAll_22 : decode cX11_mendAll 22 = .ok (.goto 9, 3) := dqn_167 (k := 16) (u := 9) qh_cX11_mendAll rfl rfl rfl (sg_p rfl rfl)
theorem dX11_mendAll_25 : decode cX11_mendAll 25 = .ok (.aload_n 0, 1) := dqn_42 (k := 15) qh_cX11_mendAll rfl rfl
theorem dX11_mendAll_26 : decode cX11_mendAll 26 = .ok (.getfield 54, 3) := dqn_180 (k := 12) qh_cX11_mendAll rfl rfl rfl
theorem dX11_mendAll_29 : decode cX11_mendAll 29 = .ok (.iload_n 2, 1) := dqn_28 (k := 11) qh_cX11_mendAll rfl rfl
theorem dX11_mendAll_30 : decode cX11_mendAll 30 = .ok (.iaload, 1) := dqn_46 (k := 10) qh_cX11_mendAll rfl rfl
theorem dX11_mendAll_31 : decode cX11_mendAll 31 = .ok (.invokevirtual 215, 3) := dqn_182 (k := 7) qh_cX11_mendAll rfl rfl rfl
theorem dX11_mendAll_34 : decode cX11_mendAll 34 = .ok (.iinc 2 1, 3) := dqn_132 (k := 4) (u := 1) qh_cX11_mendAll rfl rfl rfl rfl (by decide)
theorem dX11_mendAll_37 : decode cX11_mendAll 37 = .ok (.goto (-35), 3) := dqn_167 (k := 1) (u := 65501) qh_cX11_mendAll rfl rfl rfl (sg_n (k := 35) rfl rfl rfl)
theorem dX11_mendAll_40 : decode cX11_mendAll 40 = .ok (.return_, 1) := dqn_177 (k := 0) qh_cX11_mendAll rfl rfl
theorem dX11_meanMended_0 : decode cX11_meanMended 0 = .ok (.aload_n 0, 1) := dqn_42 (k := 17) qh_cX11_meanMended rfl rfl
theorem dX11_meanMended_1 : decode cX11_meanMended 1 = .ok (.iload_n 1, 1) := dqn_27 (k := 16) qh_cX11_meanMended rfl rfl
theorem dX11_meanMended_2 : decode cX11_meanMended 2 = .ok (.invokevirtual 308, 3) := dqn_182 (k := 13) qh_cX11_meanMended rfl rfl rfl
theorem dX11_meanMended_5 : decode cX11_meanMended 5 = .ok (.aload_n 0, 1) := dqn_42 (k := 12) qh_cX11_meanMended rfl rfl
theorem dX11_meanMended_6 : decode cX11_meanMended 6 = .ok (.iload_n 2, 1) := dqn_28 (k := 11) qh_cX11_meanMended rfl rfl
theorem dX11_meanMended_7 : decode cX11_meanMended 7 = .ok (.invokevirtual 301, 3) := dqn_182 (k := 8) qh_cX11_meanMended rfl rfl rfl
theorem dX11_meanMended_10 : decode cX11_meanMended 10 = .ok (.lstore_n 3, 1) := dqn_66 (k := 7) qh_cX11_meanMended rfl rfl
theorem dX11_meanMended_11 : decode cX11_meanMended 11 = .ok (.aload_n 0, 1) := dqn_42 (k := 6) qh_cX11_meanMended rfl rfl
theorem dX11_meanMended_12 : decode cX11_meanMended 12 = .ok (.iconst 0, 1) := dqn_3 (k := 5) qh_cX11_meanMended rfl rfl
theorem dX11_meanMended_13 : decode cX11_meanMended 13 = .ok (.invokevirtual 308, 3) := dqn_182 (k := 2) qh_cX11_meanMended rfl rfl rfl
theorem dX11_meanMended_16 : decode cX11_meanMended 16 = .ok (.lload_n 3, 1) := dqn_33 (k := 1) qh_cX11_meanMended rfl rfl
theorem dX11_meanMended_17 : decode cX11_meanMended 17 = .ok (.lreturn, 1) := dqn_173 (k := 0) qh_cX11_meanMended rfl rfl
theorem dX11_costOf_0 : decode cX11_costOf 0 = .ok (.iconst 0, 1) := dqn_3 (k := 47) qh_cX11_costOf rfl rfl
theorem dX11_costOf_1 : decode cX11_costOf 1 = .ok (.istore_n 2, 1) := dqn_61 (k := 46) qh_cX11_costOf rfl rfl
theorem dX11_costOf_2 : decode cX11_costOf 2 = .ok (.iconst 0, 1) := dqn_3 (k := 45) qh_cX11_costOf rfl rfl
theorem dX11_costOf_3 : decode cX11_costOf 3 = .ok (.istore_n 3, 1) := dqn_62 (k := 44) qh_cX11_costOf rfl rfl
theorem dX11_costOf_4 : decode cX11_costOf 4 = .ok (.iload_n 3, 1) := dqn_29 (k := 43) qh_cX11_costOf rfl rfl
theorem dX11_costOf_5 : decode cX11_costOf 5 = .ok (.aload_n 0, 1) := dqn_42 (k := 42) qh_cX11_costOf rfl rfl
theorem dX11_costOf_6 : decode cX11_costOf 6 = .ok (.getfield 208, 3) := dqn_180 (k := 39) qh_cX11_costOf rfl rfl rfl
theorem dX11_costOf_9 : decode cX11_costOf 9 = .ok (.if_icmp .ge 37, 3) := dqn_162 (k := 36) (u := 37) qh_cX11_costOf rfl rfl rfl (sg_p rfl rfl)
theorem dX11_costOf_12 : decode cX11_costOf 12 = .ok (.iload_n 2, 1) := dqn_28 (k := 35) qh_cX11_costOf rfl rfl
theorem dX11_costOf_13 : decode cX11_costOf 13 = .ok (.iload_n 1, 1) := dqn_27 (k := 34) qh_cX11_costOf rfl rfl
theorem dX11_costOf_14 : decode cX11_costOf 14 = .ok (.iload_n 3, 1) := dqn_29 (k := 33) qh_cX11_costOf rfl rfl
theorem dX11_costOf_15 : decode cX11_costOf 15 = .ok (.invokestatic 249, 3) := dqn_184 (k := 30) qh_cX11_costOf rfl rfl rfl
theorem dX11_costOf_18 : decode cX11_costOf 18 = .ok (.ifCond .eq 19, 3) := dqn_153 (k := 27) (u := 19) qh_cX11_costOf rfl rfl rfl (sg_p rfl rfl)
theorem dX11_costOf_21 : decode cX11_costOf 21 = .ok (.aload_n 0, 1) := dqn_42 (k := 26) qh_cX11_costOf rfl rfl
theorem dX11_costOf_22 : decode cX11_costOf 22 = .ok (.getfield 54, 3) := dqn_180 (k := 23) qh_cX11_costOf rfl rfl rfl
theorem dX11_costOf_25 : decode cX11_costOf 25 = .ok (.iload_n 3, 1) := dqn_29 (k := 22) qh_cX11_costOf rfl rfl
theorem dX11_costOf_26 : decode cX11_costOf 26 = .ok (.iaload, 1) := dqn_46 (k := 21) qh_cX11_costOf rfl rfl
theorem dX11_costOf_27 : decode cX11_costOf 27 = .ok (.aload_n 0, 1) := dqn_42 (k := 20) qh_cX11_costOf rfl rfl
theorem dX11_costOf_28 : decode cX11_costOf 28 = .ok (.getfield 38, 3) := dqn_180 (k := 17) qh_cX11_costOf rfl rfl rfl
theorem dX11_costOf_31 : decode cX11_costOf 31 = .ok (.iconst 2, 1) := dqn_5 (k := 16) qh_cX11_costOf rfl rfl
theorem dX11_costOf_32 : decode cX11_costOf 32 = .ok (.iaload, 1) := dqn_46 (k := 15) qh_cX11_costOf rfl rfl
theorem dX11_costOf_33 : decode cX11_costOf 33 = .ok (.imul, 1) := dqn_104 (k := 14) qh_cX11_costOf rfl rfl
theorem dX11_costOf_34 : decode cX11_costOf 34 = .ok (.goto 4, 3) := dqn_167 (k := 11) (u := 4) qh_cX11_costOf rfl rfl rfl (sg_p rfl rfl)
theorem dX11_costOf_37 : decode cX11_costOf 37 = .ok (.iconst 0, 1) := dqn_3 (k := 10) qh_cX11_costOf rfl rfl
theorem dX11_costOf_38 : decode cX11_costOf 38 = .ok (.iadd, 1) := dqn_96 (k := 9) qh_cX11_costOf rfl rfl
theorem dX11_costOf_39 : decode cX11_costOf 39 = .ok (.istore_n 2, 1) := dqn_61 (k := 8) qh_cX11_costOf rfl rfl
theorem dX11_costOf_40 : decode cX11_costOf 40 = .ok (.iinc 3 1, 3) := dqn_132 (k := 5) (u := 1) qh_cX11_costOf rfl rfl rfl rfl (by decide)
theorem dX11_costOf_43 : decode cX11_costOf 43 = .ok (.goto (-39), 3) := dqn_167 (k := 2) (u := 65497) qh_cX11_costOf rfl rfl rfl (sg_n (k := 39) rfl rfl rfl)
theorem dX11_costOf_46 : decode cX11_costOf 46 = .ok (.iload_n 2, 1) := dqn_28 (k := 1) qh_cX11_costOf rfl rfl
theorem dX11_costOf_47 : decode cX11_costOf 47 = .ok (.ireturn, 1) := dqn_172 (k := 0) qh_cX11_costOf rfl rfl
theorem dX11_pondsOf_0 : decode cX11_pondsOf 0 = .ok (.iconst 0, 1) := dqn_3 (k := 40) qh_cX11_pondsOf rfl rfl
theorem dX11_pondsOf_1 : decode cX11_pondsOf 1 = .ok (.istore_n 2, 1) := dqn_61 (k := 39) qh_cX11_pondsOf rfl rfl
theorem dX11_pondsOf_2 : decode cX11_pondsOf 2 = .ok (.iconst 0, 1) := dqn_3 (k := 38) qh_cX11_pondsOf rfl rfl
theorem dX11_pondsOf_3 : decode cX11_pondsOf 3 = .ok (.istore_n 3, 1) := dqn_62 (k := 37) qh_cX11_pondsOf rfl rfl
theorem dX11_pondsOf_4 : decode cX11_pondsOf 4 = .ok (.iload_n 3, 1) := dqn_29 (k := 36) qh_cX11_pondsOf rfl rfl
theorem dX11_pondsOf_5 : decode cX11_pondsOf 5 = .ok (.aload_n 0, 1) := dqn_42 (k := 35) qh_cX11_pondsOf rfl rfl
theorem dX11_pondsOf_6 : decode cX11_pondsOf 6 = .ok (.getfield 208, 3) := dqn_180 (k := 32) qh_cX11_pondsOf rfl rfl rfl
theorem dX11_pondsOf_9 : decode cX11_pondsOf 9 = .ok (.if_icmp .ge 30, 3) := dqn_162 (k := 29) (u := 30) qh_cX11_pondsOf rfl rfl rfl (sg_p rfl rfl)
theorem dX11_pondsOf_12 : decode cX11_pondsOf 12 = .ok (.iload_n 2, 1) := dqn_28 (k := 28) qh_cX11_pondsOf rfl rfl
theorem dX11_pondsOf_13 : decode cX11_pondsOf 13 = .ok (.aload_n 0, 1) := dqn_42 (k := 27) qh_cX11_pondsOf rfl rfl
theorem dX11_pondsOf_14 : decode cX11_pondsOf 14 = .ok (.iload_n 3, 1) := dqn_29 (k := 26) qh_cX11_pondsOf rfl rfl
theorem dX11_pondsOf_15 : decode cX11_pondsOf 15 = .ok (.bipush 6, 2) := dqn_16 (k := 24) (u := 6) qh_cX11_pondsOf rfl rfl rfl (by decide)
theorem dX11_pondsOf_17 : decode cX11_pondsOf 17 = .ok (.invokevirtual 211, 3) := dqn_182 (k := 21) qh_cX11_pondsOf rfl rfl rfl
theorem dX11_pondsOf_20 : decode cX11_pondsOf 20 = .ok (.iload_n 1, 1) := dqn_27 (k := 20) qh_cX11_pondsOf rfl rfl
theorem dX11_pondsOf_21 : decode cX11_pondsOf 21 = .ok (.if_icmp .ne 9, 3) := dqn_160 (k := 17) (u := 9) qh_cX11_pondsOf rfl rfl rfl (sg_p rfl rfl)
theorem dX11_pondsOf_24 : decode cX11_pondsOf 24 = .ok (.iconst 1, 1) := dqn_4 (k := 16) qh_cX11_pondsOf rfl rfl
theorem dX11_pondsOf_25 : decode cX11_pondsOf 25 = .ok (.iload_n 3, 1) := dqn_29 (k := 15) qh_cX11_pondsOf rfl rfl
theorem dX11_pondsOf_26 : decode cX11_pondsOf 26 = .ok (.ishl, 1) := dqn_120 (k := 14) qh_cX11_pondsOf rfl rfl
theorem dX11_pondsOf_27 : decode cX11_pondsOf 27 = .ok (.goto 4, 3) := dqn_167 (k := 11) (u := 4) qh_cX11_pondsOf rfl rfl rfl (sg_p rfl rfl)
theorem dX11_pondsOf_30 : decode cX11_pondsOf 30 = .ok (.iconst 0, 1) := dqn_3 (k := 10) qh_cX11_pondsOf rfl rfl
theorem dX11_pondsOf_31 : decode cX11_pondsOf 31 = .ok (.ior, 1) := dqn_128 (k := 9) qh_cX11_pondsOf rfl rfl
theorem dX11_pondsOf_32 : decode cX11_pondsOf 32 = .ok (.istore_n 2, 1) := dqn_61 (k := 8) qh_cX11_pondsOf rfl rfl
theorem dX11_pondsOf_33 : decode cX11_pondsOf 33 = .ok (.iinc 3 1, 3) := dqn_132 (k := 5) (u := 1) qh_cX11_pondsOf rfl rfl rfl rfl (by decide)
theorem dX11_pondsOf_36 : decode cX11_pondsOf 36 = .ok (.goto (-32), 3) := dqn_167 (k := 2) (u := 65504) qh_cX11_pondsOf rfl rfl rfl (sg_n (k := 32) rfl rfl rfl)
theorem dX11_pondsOf_39 : decode cX11_pondsOf 39 = .ok (.iload_n 2, 1) := dqn_28 (k := 1) qh_cX11_pondsOf rfl rfl
theorem dX11_pondsOf_40 : decode cX11_pondsOf 40 = .ok (.ireturn, 1) := dqn_172 (k := 0) qh_cX11_pondsOf rfl rfl
theorem dX11_isSooner_0 : decode cX11_isSooner 0 = .ok (.iload_n 2, 1) := dqn_28 (k := 48) qh_cX11_isSooner rfl rfl
theorem dX11_isSooner_1 : decode cX11_isSooner 1 = .ok (.ifCond .eq 8, 3) := dqn_153 (k := 45) (u := 8) qh_cX11_isSooner rfl rfl rfl (sg_p rfl rfl)
theorem dX11_isSooner_4 : decode cX11_isSooner 4 = .ok (.iload 5, 2) := dqn_21 (k := 43) qh_cX11_isSooner rfl rfl rfl
theorem dX11_isSooner_6 : decode cX11_isSooner 6 = .ok (.ifCond .ne 24, 3) := dqn_154 (k := 40) (u := 24) qh_cX11_isSooner rfl rfl rfl (sg_p rfl rfl)
theorem dX11_isSooner_9 : decode cX11_isSooner 9 = .ok (.iload_n 2, 1) := dqn_28 (k := 39) qh_cX11_isSooner rfl rfl
theorem dX11_isSooner_10 : decode cX11_isSooner 10 = .ok (.ifCond .ne 18, 3) := dqn_154 (k := 36) (u := 18) qh_cX11_isSooner rfl rfl rfl (sg_p rfl rfl)
theorem dX11_isSooner_13 : decode cX11_isSooner 13 = .ok (.iload 5, 2) := dqn_21 (k := 34) qh_cX11_isSooner rfl rfl rfl
theorem dX11_isSooner_15 : decode cX11_isSooner 15 = .ok (.ifCond .gt 9, 3) := dqn_157 (k := 31) (u := 9) qh_cX11_isSooner rfl rfl rfl (sg_p rfl rfl)
theorem dX11_isSooner_18 : decode cX11_isSooner 18 = .ok (.lload_n 0, 1) := dqn_30 (k := 30) qh_cX11_isSooner rfl rfl
theorem dX11_isSooner_19 : decode cX11_isSooner 19 = .ok (.lload_n 3, 1) := dqn_33 (k := 29) qh_cX11_isSooner rfl rfl
theorem dX11_isSooner_20 : decode cX11_isSooner 20 = .ok (.lcmp, 1) := dqn_148 (k := 28) qh_cX11_isSooner rfl rfl
theorem dX11_isSooner_21 : decode cX11_isSooner 21 = .ok (.ifCond .le 7, 3) := dqn_158 (k := 25) (u := 7) qh_cX11_isSooner rfl rfl rfl (sg_p rfl rfl)
theorem dX11_isSooner_24 : decode cX11_isSooner 24 = .ok (.iconst 1, 1) := dqn_4 (k := 24) qh_cX11_isSooner rfl rfl
theorem dX11_isSooner_25 : decode cX11_isSooner 25 = .ok (.goto 4, 3) := dqn_167 (k := 21) (u := 4) qh_cX11_isSooner rfl rfl rfl (sg_p rfl rfl)
theorem dX11_isSooner_28 : decode cX11_isSooner 28 = .ok (.iconst 0, 1) := dqn_3 (k := 20) qh_cX11_isSooner rfl rfl
theorem dX11_isSooner_29 : decode cX11_isSooner 29 = .ok (.ireturn, 1) := dqn_172 (k := 19) qh_cX11_isSooner rfl rfl
theorem dX11_isSooner_30 : decode cX11_isSooner 30 = .ok (.lload_n 0, 1) := dqn_30 (k := 18) qh_cX11_isSooner rfl rfl
theorem dX11_isSooner_31 : decode cX11_isSooner 31 = .ok (.iload 5, 2) := dqn_21 (k := 16) qh_cX11_isSooner rfl rfl rfl
theorem dX11_isSooner_33 : decode cX11_isSooner 33 = .ok (.i2l, 1) := dqn_133 (k := 15) qh_cX11_isSooner rfl rfl
theorem dX11_isSooner_34 : decode cX11_isSooner 34 = .ok (.lmul, 1) := dqn_105 (k := 14) qh_cX11_isSooner rfl rfl
theorem dX11_isSooner_35 : decode cX11_isSooner 35 = .ok (.lload_n 3, 1) := dqn_33 (k := 13) qh_cX11_isSooner rfl rfl
theorem dX11_isSooner_36 : decode cX11_isSooner 36 = .ok (.iload_n 2, 1) := dqn_28 (k := 12) qh_cX11_isSooner rfl rfl
theorem dX11_isSooner_37 : decode cX11_isSooner 37 = .ok (.i2l, 1) := dqn_133 (k := 11) qh_cX11_isSooner rfl rfl
theorem dX11_isSooner_38 : decode cX11_isSooner 38 = .ok (.lmul, 1) := dqn_105 (k := 10) qh_cX11_isSooner rfl rfl
theorem dX11_isSooner_39 : decode cX11_isSooner 39 = .ok (.lcmp, 1) := dqn_148 (k := 9) qh_cX11_isSooner rfl rfl
theorem dX11_isSooner_40 : decode cX11_isSooner 40 = .ok (.ifCond .le 7, 3) := dqn_158 (k := 6) (u := 7) qh_cX11_isSooner rfl rfl rfl (sg_p rfl rfl)
theorem dX11_isSooner_43 : decode cX11_isSooner 43 = .ok (.iconst 1, 1) := dqn_4 (k := 5) qh_cX11_isSooner rfl rfl
theorem dX11_isSooner_44 : decode cX11_isSooner 44 = .ok (.goto 4, 3) := dqn_167 (k := 2) (u := 4) qh_cX11_isSooner rfl rfl rfl (sg_p rfl rfl)
theorem dX11_isSooner_47 : decode cX11_isSooner 47 = .ok (.iconst 0, 1) := dqn_3 (k := 1) qh_cX11_isSooner rfl rfl
theorem dX11_isSooner_48 : decode cX11_isSooner 48 = .ok (.ireturn, 1) := dqn_172 (k := 0) qh_cX11_isSooner rfl rfl
theorem dX11_seenBy_0 : decode cX11_seenBy 0 = .ok (.aload_n 0, 1) := dqn_42 (k := 14) qh_cX11_seenBy rfl rfl
theorem dX11_seenBy_1 : decode cX11_seenBy 1 = .ok (.iload_n 1, 1) := dqn_27 (k := 13) qh_cX11_seenBy rfl rfl
theorem dX11_seenBy_2 : decode cX11_seenBy 2 = .ok (.iconst 4, 1) := dqn_7 (k := 12) qh_cX11_seenBy rfl rfl
theorem dX11_seenBy_3 : decode cX11_seenBy 3 = .ok (.invokevirtual 211, 3) := dqn_182 (k := 9) qh_cX11_seenBy rfl rfl rfl
theorem dX11_seenBy_6 : decode cX11_seenBy 6 = .ok (.aload_n 0, 1) := dqn_42 (k := 8) qh_cX11_seenBy rfl rfl
theorem dX11_seenBy_7 : decode cX11_seenBy 7 = .ok (.iload_n 1, 1) := dqn_27 (k := 7) qh_cX11_seenBy rfl rfl
theorem dX11_seenBy_8 : decode cX11_seenBy 8 = .ok (.bipush 13, 2) := dqn_16 (k := 5) (u := 13) qh_cX11_seenBy rfl rfl rfl (by decide)
theorem dX11_seenBy_10 : decode cX11_seenBy 10 = .ok (.invokevirtual 211, 3) := dqn_182 (k := 2) qh_cX11_seenBy rfl rfl rfl
theorem dX11_seenBy_13 : decode cX11_seenBy 13 = .ok (.imul, 1) := dqn_104 (k := 1) qh_cX11_seenBy rfl rfl
theorem dX11_seenBy_14 : decode cX11_seenBy 14 = .ok (.ireturn, 1) := dqn_172 (k := 0) qh_cX11_seenBy rfl rfl
theorem dX11_seenAll_0 : decode cX11_seenAll 0 = .ok (.aload_n 0, 1) := dqn_42 (k := 23) qh_cX11_seenAll rfl rfl
theorem dX11_seenAll_1 : decode cX11_seenAll 1 = .ok (.iload_n 1, 1) := dqn_27 (k := 22) qh_cX11_seenAll rfl rfl
theorem dX11_seenAll_2 : decode cX11_seenAll 2 = .ok (.invokevirtual 352, 3) := dqn_182 (k := 19) qh_cX11_seenAll rfl rfl rfl
theorem dX11_seenAll_5 : decode cX11_seenAll 5 = .ok (.bipush 10, 2) := dqn_16 (k := 17) (u := 10) qh_cX11_seenAll rfl rfl rfl (by decide)
theorem dX11_seenAll_7 : decode cX11_seenAll 7 = .ok (.aload_n 0, 1) := dqn_42 (k := 16) qh_cX11_seenAll rfl rfl
theorem dX11_seenAll_8 : decode cX11_seenAll 8 = .ok (.iload_n 1, 1) := dqn_27 (k := 15) qh_cX11_seenAll rfl rfl
theorem dX11_seenAll_9 : decode cX11_seenAll 9 = .ok (.iconst 4, 1) := dqn_7 (k := 14) qh_cX11_seenAll rfl rfl
theorem dX11_seenAll_10 : decode cX11_seenAll 10 = .ok (.invokevirtual 211, 3) := dqn_182 (k := 11) qh_cX11_seenAll rfl rfl rfl
theorem dX11_seenAll_13 : decode cX11_seenAll 13 = .ok (.isub, 1) := dqn_100 (k := 10) qh_cX11_seenAll rfl rfl
theorem dX11_seenAll_14 : decode cX11_seenAll 14 = .ok (.aload_n 0, 1) := dqn_42 (k := 9) qh_cX11_seenAll rfl rfl
theorem dX11_seenAll_15 : decode cX11_seenAll 15 = .ok (.iload_n 1, 1) := dqn_27 (k := 8) qh_cX11_seenAll rfl rfl
theorem dX11_seenAll_16 : decode cX11_seenAll 16 = .ok (.bipush 14, 2) := dqn_16 (k := 6) (u := 14) qh_cX11_seenAll rfl rfl rfl (by decide)
theorem dX11_seenAll_18 : decode cX11_seenAll 18 = .ok (.invokevirtual 211, 3) := dqn_182 (k := 3) qh_cX11_seenAll rfl rfl rfl
theorem dX11_seenAll_21 : decode cX11_seenAll 21 = .ok (.imul, 1) := dqn_104 (k := 2) qh_cX11_seenAll rfl rfl
theorem dX11_seenAll_22 : decode cX11_seenAll 22 = .ok (.iadd, 1) := dqn_96 (k := 1) qh_cX11_seenAll rfl rfl
theorem dX11_seenAll_23 : decode cX11_seenAll 23 = .ok (.ireturn, 1) := dqn_172 (k := 0) qh_cX11_seenAll rfl rfl
theorem dX11_leads_0 : decode cX11_leads 0 = .ok (.aload_n 0, 1) := dqn_42 (k := 27) qh_cX11_leads rfl rfl
theorem dX11_leads_1 : decode cX11_leads 1 = .ok (.iload_n 1, 1) := dqn_27 (k := 26) qh_cX11_leads rfl rfl
theorem dX11_leads_2 : decode cX11_leads 2 = .ok (.bipush 8, 2) := dqn_16 (k := 24) (u := 8) qh_cX11_leads rfl rfl rfl (by decide)
theorem dX11_leads_4 : decode cX11_leads 4 = .ok (.invokevirtual 211, 3) := dqn_182 (k := 21) qh_cX11_leads rfl rfl rfl
theorem dX11_leads_7 : decode cX11_leads 7 = .ok (.iload_n 2, 1) := dqn_28 (k := 20) qh_cX11_leads rfl rfl
theorem dX11_leads_8 : decode cX11_leads 8 = .ok (.if_icmp .eq 14, 3) := dqn_159 (k := 17) (u := 14) qh_cX11_leads rfl rfl rfl (sg_p rfl rfl)
theorem dX11_leads_11 : decode cX11_leads 11 = .ok (.aload_n 0, 1) := dqn_42 (k := 16) qh_cX11_leads rfl rfl
theorem dX11_leads_12 : decode cX11_leads 12 = .ok (.iload_n 1, 1) := dqn_27 (k := 15) qh_cX11_leads rfl rfl
theorem dX11_leads_13 : decode cX11_leads 13 = .ok (.bipush 9, 2) := dqn_16 (k := 13) (u := 9) qh_cX11_leads rfl rfl rfl (by decide)
theorem dX11_leads_15 : decode cX11_leads 15 = .ok (.invokevirtual 211, 3) := dqn_182 (k := 10) qh_cX11_leads rfl rfl rfl
theorem dX11_leads_18 : decode cX11_leads 18 = .ok (.iload_n 2, 1) := dqn_28 (k := 9) qh_cX11_leads rfl rfl
theorem dX11_leads_19 : decode cX11_leads 19 = .ok (.if_icmp .ne 7, 3) := dqn_160 (k := 6) (u := 7) qh_cX11_leads rfl rfl rfl (sg_p rfl rfl)
theorem dX11_leads_22 : decode cX11_leads 22 = .ok (.iconst 1, 1) := dqn_4 (k := 5) qh_cX11_leads rfl rfl
theorem dX11_leads_23 : decode cX11_leads 23 = .ok (.goto 4, 3) := dqn_167 (k := 2) (u := 4) qh_cX11_leads rfl rfl rfl (sg_p rfl rfl)
theorem dX11_leads_26 : decode cX11_leads 26 = .ok (.iconst 0, 1) := dqn_3 (k := 1) qh_cX11_leads rfl rfl
theorem dX11_leads_27 : decode cX11_leads 27 = .ok (.ireturn, 1) := dqn_172 (k := 0) qh_cX11_leads rfl rfl
theorem dX11_together_0 : decode cX11_together 0 = .ok (.lconst 0, 1) := dqn_9 (k := 91) qh_cX11_together rfl rfl
theorem dX11_together_1 : decode cX11_together 1 = .ok (.lstore_n 2, 1) := dqn_65 (k := 90) qh_cX11_together rfl rfl
theorem dX11_together_2 : decode cX11_together 2 = .ok (.iconst 0, 1) := dqn_3 (k := 89) qh_cX11_together rfl rfl
theorem dX11_together_3 : decode cX11_together 3 = .ok (.istore 4, 2) := dqn_54 (k := 87) qh_cX11_together rfl rfl rfl
theorem dX11_together_5 : decode cX11_together 5 = .ok (.iload 4, 2) := dqn_21 (k := 85) qh_cX11_together rfl rfl rfl
theorem dX11_together_7 : decode cX11_together 7 = .ok (.aload_n 0, 1) := dqn_42 (k := 84) qh_cX11_together rfl rfl
theorem dX11_together_8 : decode cX11_together 8 = .ok (.getfield 38, 3) := dqn_180 (k := 81) qh_cX11_together rfl rfl rfl
theorem dX11_together_11 : decode cX11_together 11 = .ok (.iconst 1, 1) := dqn_4 (k := 80) qh_cX11_together rfl rfl
theorem dX11_together_12 : decode cX11_together 12 = .ok (.iaload, 1) := dqn_46 (k := 79) qh_cX11_together rfl rfl
theorem dX11_together_13 : decode cX11_together 13 = .ok (.if_icmp .ge 77, 3) := dqn_162 (k := 76) (u := 77) qh_cX11_together rfl rfl rfl (sg_p rfl rfl)
theorem dX11_together_16 : decode cX11_together 16 = .ok (.iconst 0, 1) := dqn_3 (k := 75) qh_cX11_together rfl rfl
theorem dX11_together_17 : decode cX11_together 17 = .ok (.istore 5, 2) := dqn_54 (k := 73) qh_cX11_together rfl rfl rfl
theorem dX11_together_19 : decode cX11_together 19 = .ok (.iload 5, 2) := dqn_21 (k := 71) qh_cX11_together rfl rfl rfl
theorem dX11_together_21 : decode cX11_together 21 = .ok (.iconst 1, 1) := dqn_4 (k := 70) qh_cX11_together rfl rfl
theorem dX11_together_22 : decode cX11_together 22 = .ok (.aload_n 0, 1) := dqn_42 (k := 69) qh_cX11_together rfl rfl
theorem dX11_together_23 : decode cX11_together 23 = .ok (.getfield 208, 3) := dqn_180 (k := 66) qh_cX11_together rfl rfl rfl
theorem dX11_together_26 : decode cX11_together 26 = .ok (.ishl, 1) := dqn_120 (k := 65) qh_cX11_together rfl rfl
theorem dX11_together_27 : decode cX11_together 27 = .ok (.if_icmp .ge 57, 3) := dqn_162 (k := 62) (u := 57) qh_cX11_together rfl rfl rfl (sg_p rfl rfl)
theorem dX11_together_30 : decode cX11_together 30 = .ok (.aload_n 0, 1) := dqn_42 (k := 61) qh_cX11_together rfl rfl
theorem dX11_together_31 : decode cX11_together 31 = .ok (.iload 4, 2) := dqn_21 (k := 59) qh_cX11_together rfl rfl rfl
theorem dX11_together_33 : decode cX11_together 33 = .ok (.iload 5, 2) := dqn_21 (k := 57) qh_cX11_together rfl rfl rfl
theorem dX11_together_35 : decode cX11_together 35 = .ok (.invokevirtual 288, 3) := dqn_182 (k := 54) qh_cX11_together rfl rfl rfl
theorem dX11_together_38 : decode cX11_together 38 = .ok (.lstore 6, 2) := dqn_55 (k := 52) qh_cX11_together rfl rfl rfl
theorem dX11_together_40 : decode cX11_together 40 = .ok (.lload 6, 2) := dqn_22 (k := 50) qh_cX11_together rfl rfl rfl
theorem dX11_together_42 : decode cX11_together 42 = .ok (.lconst 0, 1) := dqn_9 (k := 49) qh_cX11_together rfl rfl
theorem dX11_together_43 : decode cX11_together 43 = .ok (.lcmp, 1) := dqn_148 (k := 48) qh_cX11_together rfl rfl
theorem dX11_together_44 : decode cX11_together 44 = .ok (.ifCond .le 34, 3) := dqn_158 (k := 45) (u := 34) qh_cX11_together rfl rfl rfl (sg_p rfl rfl)
theorem dX11_together_47 : decode cX11_together 47 = .ok (.aload_n 0, 1) := dqn_42 (k := 44) qh_cX11_together rfl rfl
theorem dX11_together_48 : decode cX11_together 48 = .ok (.aload_n 0, 1) := dqn_42 (k := 43) qh_cX11_together rfl rfl
theorem dX11_together_49 : decode cX11_together 49 = .ok (.iload 4, 2) := dqn_21 (k := 41) qh_cX11_together rfl rfl rfl
theorem dX11_together_51 : decode cX11_together 51 = .ok (.invokevirtual 271, 3) := dqn_182 (k := 38) qh_cX11_together rfl rfl rfl
theorem dX11_together_54 : decode cX11_together 54 = .ok (.iload 5, 2) := dqn_21 (k := 36) qh_cX11_together rfl rfl rfl
theorem dX11_together_56 : decode cX11_together 56 = .ok (.invokevirtual 275, 3) := dqn_182 (k := 33) qh_cX11_together rfl rfl rfl
theorem dX11_together_59 : decode cX11_together 59 = .ok (.lload_n 2, 1) := dqn_32 (k := 32) qh_cX11_together rfl rfl
theorem dX11_together_60 : decode cX11_together 60 = .ok (.aload_n 0, 1) := dqn_42 (k := 31) qh_cX11_together rfl rfl
theorem dX11_together_61 : decode cX11_together 61 = .ok (.getfield 246, 3) := dqn_180 (k := 28) qh_cX11_together rfl rfl rfl
theorem dX11_together_64 : decode cX11_together 64 = .ok (.iload_n 1, 1) := dqn_27 (k := 27) qh_cX11_together rfl rfl
theorem dX11_together_65 : decode cX11_together 65 = .ok (.iand, 1) := dqn_126 (k := 26) qh_cX11_together rfl rfl
theorem dX11_together_66 : decode cX11_together 66 = .ok (.iload_n 1, 1) := dqn_27 (k := 25) qh_cX11_together rfl rfl
theorem dX11_together_67 : decode cX11_together 67 = .ok (.if_icmp .ne 8, 3) := dqn_160 (k := 22) (u := 8) qh_cX11_together rfl rfl rfl (sg_p rfl rfl)
theorem dX11_together_70 : decode cX11_together 70 = .ok (.lload 6, 2) := dqn_22 (k := 20) qh_cX11_together rfl rfl rfl
theorem dX11_together_72 : decode cX11_together 72 = .ok (.goto 4, 3) := dqn_167 (k := 17) (u := 4) qh_cX11_together rfl rfl rfl (sg_p rfl rfl)
theorem dX11_together_75 : decode cX11_together 75 = .ok (.lconst 0, 1) := dqn_9 (k := 16) qh_cX11_together rfl rfl
theorem dX11_together_76 : decode cX11_together 76 = .ok (.ladd, 1) := dqn_97 (k := 15) qh_cX11_together rfl rfl
theorem dX11_together_77 : decode cX11_together 77 = .ok (.lstore_n 2, 1) := dqn_65 (k := 14) qh_cX11_together rfl rfl
theorem dX11_together_78 : decode cX11_together 78 = .ok (.iinc 5 1, 3) := dqn_132 (k := 11) (u := 1) qh_cX11_together rfl rfl rfl rfl (by decide)
theorem dX11_together_81 : decode cX11_together 81 = .ok (.goto (-62), 3) := dqn_167 (k := 8) (u := 65474) qh_cX11_together rfl rfl rfl (sg_n (k := 62) rfl rfl rfl)
theorem dX11_together_84 : decode cX11_together 84 = .ok (.iinc 4 1, 3) := dqn_132 (k := 5) (u := 1) qh_cX11_together rfl rfl rfl rfl (by decide)
theorem dX11_together_87 : decode cX11_together 87 = .ok (.goto (-82), 3) := dqn_167 (k := 2) (u := 65454) qh_cX11_together rfl rfl rfl (sg_n (k := 82) rfl rfl rfl)
theorem dX11_together_90 : decode cX11_together 90 = .ok (.lload_n 2, 1) := dqn_32 (k := 1) qh_cX11_together rfl rfl
theorem dX11_together_91 : decode cX11_together 91 = .ok (.lreturn, 1) := dqn_173 (k := 0) qh_cX11_together rfl rfl
/-! the reference: what its hill as it stands now tells -/
theorem ab_i {u u2 : Nat → Nat → Int32} {a i : Nat} {lo hi : Int} (fc : ∀ j, j ≠ i → u2 a j = u a j) (h : AB u a lo hi) (b : Bd lo hi (u2 a i)) : AB u2 a lo hi := by
  intro j
  by_cases q : j = i
  · rw [q]; exact b
  · rw [fc j q]; exact h j
theorem bd_adc {a b c2 e h : Int} {c u v : Int32} (p : Bd a b u) (l : u + c ≤ v) (q : Bd c2 e v) (r : 0 ≤ c.toInt ∧ b + c.toInt ≤ 2147483647 ∧ e - c.toInt ≤ h) : Bd a h u := by
  have h1 := Int32.le_iff_toInt_le.mp l
  obtain ⟨p1, p2⟩ := p; obtain ⟨q1, q2⟩ := q; obtain ⟨r1, r2, r3⟩ := r
  have h0 := (bd_any u).1
  rw [ti_add (by omega) (by omega)] at h1
  exact ⟨p1, by omega⟩
theorem bd_mulc {a b l h : Int} {c v : Int32} (q : Bd a b v) (r : 0 ≤ c.toInt ∧ l ≤ c.toInt * a ∧ c.toInt * b ≤ h ∧ -2147483648 ≤ l ∧ h ≤ 2147483647) : Bd l h (c * v) := by
  obtain ⟨q1, q2⟩ := q; obtain ⟨r1, r2, r3, r4, r5⟩ := r
  have h1 : c.toInt * a ≤ c.toInt * v.toInt := Int.mul_le_mul_of_nonneg_left q1 r1
  have h2 : c.toInt * v.toInt ≤ c.toInt * b := Int.mul_le_mul_of_nonneg_left q2 r1
  rw [Bd, Int32.toInt_mul, bmod (by omega) (by omega)]
  omega
def mof (u : Nat → Nat → Int32) (p c : Int32) : Int32 := u 172 (13 + 16 * p + c).toNatClampNeg
theorem mof_c {u u2 : Nat → Nat → Int32} {p c : Int32} (e : u2 172 = u 172) : mof u2 p c = mof u p c := by unfold mof; rw [e]
def DN (u : Nat → Nat → Int32) : Prop := ∀ p, p < 9 → Bd (-1) 8 (u 172 (21 + 16 * p)) ∧ Bd (-1) 8 (u 172 (22 + 16 * p))
theorem dn_c {u u2 : Nat → Nat → Int32} (e : u2 172 = u 172) (h : DN u) : DN u2 := by unfold DN; rw [e]; exact h
theorem mix {p c : Int32} (bp : Bd 0 8 p) (bc : Bd 0 15 c) : (13 + 16 * p + c).toNatClampNeg = 13 + 16 * p.toInt.toNat + c.toInt.toNat := by
  have h1 : Bd 0 128 (16 * p) := bd_mul (l := 0) (h := 128) (bd_c (v := 16) (lo := 16) (hi := 16) (by decide)) bp (by decide)
  have h2 : (16 * p).toInt = 16 * p.toInt := by
    obtain ⟨p1, p2⟩ := bp
    rw [Int32.toInt_mul, bmod] <;> (have e : (16 : Int32).toInt = 16 := rfl) <;> rw [e] <;> omega
  have e13 : (13 : Int32).toInt = 13 := rfl
  have h3 : (13 + 16 * p).toInt = 13 + 16 * p.toInt := by
    rw [ti_add (by have := h1.1; have := h1.2; omega) (by have := h1.1; have := h1.2; omega), h2, e13]
  have h4 : (13 + 16 * p + c).toInt = 13 + 16 * p.toInt + c.toInt := by
    obtain ⟨p1, p2⟩ := bp; obtain ⟨c1, c2⟩ := bc
    rw [ti_add (by omega) (by omega), h3]
  have h5 : (13 + 16 * p + c).toNatClampNeg = (13 + 16 * p + c).toInt.toNat := rfl
  obtain ⟨p1, p2⟩ := bp; obtain ⟨c1, c2⟩ := bc
  rw [h5, h4]
  omega
theorem dn_8 {u : Nat → Nat → Int32} {p : Int32} (h : DN u) (b : Bd 0 8 p) : Bd (-1) 8 (mof u p 8) := by
  unfold mof
  rw [mix b (by decide)]
  have h1 := (h p.toInt.toNat (by have := b.1; have := b.2; omega)).1
  have e : 13 + 16 * p.toInt.toNat + (8 : Int32).toInt.toNat = 21 + 16 * p.toInt.toNat := by
    have : (8 : Int32).toInt.toNat = 8 := rfl
    omega
  rw [e]; exact h1
theorem dn_9 {u : Nat → Nat → Int32} {p : Int32} (h : DN u) (b : Bd 0 8 p) : Bd (-1) 8 (mof u p 9) := by
  unfold mof
  rw [mix b (by decide)]
  have h1 := (h p.toInt.toNat (by have := b.1; have := b.2; omega)).2
  have e : 13 + 16 * p.toInt.toNat + (9 : Int32).toInt.toNat = 22 + 16 * p.toInt.toNat := by
    have : (9 : Int32).toInt.toNat = 9 := rfl
    omega
  rw [e]; exact h1
theorem dn_s {u u2 : Nat → Nat → Int32} {p c v : Int32} (e : u2 = ms u 172 (13 + 16 * p + c).toNatClampNeg v) (bp : Bd 0 8 p) (bc : Bd 0 15 c ∧ c.toInt ≠ 8 ∧ c.toInt ≠ 9) (h : DN u) : DN u2 := by
  rw [mix bp bc.1] at e
  obtain ⟨⟨c1, c2⟩, c3, c4⟩ := bc
  intro q hq
  rw [ms_i e (by omega), ms_i e (by omega)]
  exact h q hq
theorem dn_s8 {u u2 : Nat → Nat → Int32} {p c v : Int32} (e : u2 = ms u 172 (13 + 16 * p + c).toNatClampNeg v) (bp : Bd 0 8 p) (bc : Bd 0 15 c) (bv : Bd (-1) 8 v) (h : DN u) : DN u2 := by
  rw [mix bp bc] at e
  intro q hq
  rw [ms_a e]
  unfold upd
  refine ⟨?_, ?_⟩ <;> split
  · exact bv
  · exact (h q hq).1
  · exact bv
  · exact (h q hq).2
/-- the chances of the rains, together a hundred -/
def RCf (f : Nat → Int32) : Prop := Bd 1 4 (f 1) ∧ Bd 0 999 (f 6) ∧ Bd 0 999 (f 8) ∧ Bd 0 999 (f 10) ∧ Bd 0 999 (f 12) ∧
  (((f 1).toInt = 1 ∧ (f 6).toInt = 100) ∨ ((f 1).toInt = 2 ∧ (f 6).toInt + (f 8).toInt = 100) ∨ ((f 1).toInt = 3 ∧ (f 6).toInt + (f 8).toInt + (f 10).toInt = 100) ∨ ((f 1).toInt = 4 ∧ (f 6).toInt + (f 8).toInt + (f 10).toInt + (f 12).toInt = 100))
def RC (u : Nat → Nat → Int32) : Prop := RCf (u 172)
theorem rc_c {u u2 : Nat → Nat → Int32} (e : u2 172 = u 172) (h : RC u) : RC u2 := by unfold RC; rw [e]; exact h
theorem rc_s {u u2 : Nat → Nat → Int32} {p c v : Int32} (e : u2 = ms u 172 (13 + 16 * p + c).toNatClampNeg v) (bp : Bd 0 8 p) (bc : Bd 0 15 c) (h : RC u) : RC u2 := by
  rw [mix bp bc] at e
  unfold RC RCf
  rw [ms_i e (by omega), ms_i e (by omega), ms_i e (by omega), ms_i e (by omega), ms_i e (by omega)]
  exact h
/-- how many of the first n bits are set -/
def onesN (s : Int32) : Nat → Int32
  | 0 => 0
  | n + 1 => onesN s n + ((s >>> (Int32.ofNat n &&& 31)) &&& 1)
theorem ones_s {s n k : Int32} (b : Bd 0 8 k) (e : n = onesN s k.toNatClampNeg) : n + ((s >>> (k &&& 31)) &&& 1) = onesN s (k + 1).toNatClampNeg := by
  obtain ⟨m, h1, h2⟩ := i32_nat b (by decide)
  have h3 : k.toNatClampNeg = m := by
    have : k.toNatClampNeg = k.toInt.toNat := rfl
    omega
  have h4 : (k + 1).toNatClampNeg = m + 1 := by
    have e1 : (1 : Int32).toInt = 1 := rfl
    have : (k + 1).toNatClampNeg = (k + 1).toInt.toNat := rfl
    have := ti_add (u := k) (v := 1) (by have := b.1; have := b.2; omega) (by have := b.1; have := b.2; omega)
    omega
  rw [h4, e, h3, onesN, h2]
theorem ones_e {s n k : Int32} (b : Bd 9 9 k) (e : n = onesN s k.toNatClampNeg) : n = onesN s 9 := by
  have h3 : k.toNatClampNeg = 9 := by
    have : k.toNatClampNeg = k.toInt.toNat := rfl
    have := b.1; have := b.2; omega
  rw [e, h3]
theorem le_pred_lt {h m : Int32} (e : h ≤ m - 1) (b : Bd 0 2 m) : h.toInt < m.toInt := by
  have h1 := Int32.le_iff_toInt_le.mp e
  have e1 : (1 : Int32).toInt = 1 := rfl
  obtain ⟨b1, b2⟩ := b
  rw [ti_sub (by omega) (by omega)] at h1
  omega
theorem arep {s p : Int32} (h0 : 0 ≤ s) (bp : Bd 0 9 p) (h : s >>> (p &&& 31) = 0) : Bd 0 511 s := by
  obtain ⟨k, hk, hw⟩ := i32_nat bp (by decide)
  have hk2 : k ≤ 9 := by have := bp.2; omega
  have e0 : (p &&& 31) = Int32.ofNat k := by
    rw [hw]
    have : ∀ k, k < 10 → (Int32.ofNat k &&& 31) = Int32.ofNat k := by decide +kernel
    exact this k (by omega)
  have e : (s >>> (p &&& 31)).toInt = s.toInt >>> k := by
    rw [e0]
    show (s >>> Int32.ofNat k).toBitVec.toInt = _
    rw [Int32.toBitVec_shiftRight, BitVec.sshiftRight', sh_dec k (by omega), BitVec.toInt_sshiftRight]
    rfl
  rw [h, Int.shiftRight_eq_div_pow] at e
  have h1 := Int32.le_iff_toInt_le.mp h0
  have e1 : (0 : Int32).toInt = 0 := rfl
  rw [e1] at e h1
  have h2 : (0 : Int) < ((2 ^ k : Nat) : Int) := Int.ofNat_lt.mpr (Nat.two_pow_pos k)
  have h3 : s.toInt < ((2 ^ k : Nat) : Int) := by
    have h4 := Int.emod_lt_of_pos s.toInt h2
    have h5 := Int.mul_ediv_add_emod s.toInt ((2 ^ k : Nat) : Int)
    rw [← e] at h5
    omega
  have h6 : 2 ^ k ≤ 2 ^ 9 := Nat.pow_le_pow_right (by decide) hk2
  exact ⟨h1, by omega⟩
set_option maxHeartbeats 4000000 in
set_option maxRecDepth 100000 in
theorem c_M_in {d : Nat} {u : Nat → Nat → Int32} {g : Nat → Nat → Int64} {ex : List MC} {v : Int32} {low : Int32} {high : Int32} (hd : 0 ≤ d)  : CT con0 d 0 0 yX11_in cX11_in 3 (some .boolean) [.int v, .int low, .int high] (Wd u g ex) (fun r h2 => ∃ (z : Bool), r = some (.int (bI z)) ∧ h2 = Wd u g ex ∧ (z = true → low ≤ v) ∧ (z = true → v ≤ high)) := by
  refine CT_of (by decide) (Nat.le_of_ble_eq_true rfl) (fun x hq => ?_)
  show J x yX11_in cX11_in 3 (some .boolean) d 0 0 (Wd u g ex).length 0 [(0, .int v), (1, .int low), (2, .int high)] [] (Wd u g ex) 0 0
  refine J_iload_n (i := 0) (j := 0) dX11_in_0 rfl rfl ?_
  refine J_iload_n (i := 1) (j := 1) dX11_in_1 rfl rfl ?_
  refine J_icmp_lt (tgt := 14) dX11_in_2 (by decide) (fun c1 => ?_) (fun c1 => ?_)
  · refine J_iconst (v := 0) dX11_in_14 (by decide) ?_
    exact J_zret hq dX11_in_15 rfl rfl wlen (Nat.le_refl _) (Nat.le_refl _) ⟨false, rfl, rfl, (fun q => absurd q (by decide)), (fun q => absurd q (by decide))⟩
  · refine J_iload_n (i := 0) (j := 0) dX11_in_5 rfl rfl ?_
    refine J_iload_n (i := 2) (j := 2) dX11_in_6 rfl rfl ?_
    refine J_icmp_gt (tgt := 14) dX11_in_7 (by decide) (fun c2 => ?_) (fun c2 => ?_)
    · refine J_iconst (v := 0) dX11_in_14 (by decide) ?_
      exact J_zret hq dX11_in_15 rfl rfl wlen (Nat.le_refl _) (Nat.le_refl _) ⟨false, rfl, rfl, (fun q => absurd q (by decide)), (fun q => absurd q (by decide))⟩
    · refine J_iconst (v := 1) dX11_in_10 (by decide) ?_
      refine J_goto (tgt := 15) dX11_in_11 (by decide) ?_
      exact J_zret hq dX11_in_15 rfl rfl wlen (Nat.le_refl _) (Nat.le_refl _) ⟨true, rfl, rfl, (fun _ => (i_nlt c1)), (fun _ => (i_nlt c2))⟩
set_option maxHeartbeats 4000000 in
set_option maxRecDepth 100000 in
theorem c_M_has {d : Nat} {u : Nat → Nat → Int32} {g : Nat → Nat → Int64} {ex : List MC} {set : Int32} {k : Int32} (hd : 0 ≤ d)  : CT con0 d 0 0 yX11_has cX11_has 2 (some .boolean) [.int set, .int k] (Wd u g ex) (fun r h2 => ∃ (z : Bool), r = some (.int (bI z)) ∧ h2 = Wd u g ex) := by
  refine CT_of (by decide) (Nat.le_of_ble_eq_true rfl) (fun x hq => ?_)
  show J x yX11_has cX11_has 2 (some .boolean) d 0 0 (Wd u g ex).length 0 [(0, .int set), (1, .int k)] [] (Wd u g ex) 0 0
  refine J_iload_n (i := 0) (j := 0) dX11_has_0 rfl rfl ?_
  refine J_iload_n (i := 1) (j := 1) dX11_has_1 rfl rfl ?_
  refine J_ishr dX11_has_2 ?_
  refine J_iconst (v := 1) dX11_has_3 (by decide) ?_
  refine J_iand dX11_has_4 ?_
  refine J_iconst (v := 1) dX11_has_5 (by decide) ?_
  refine J_icmp_ne (tgt := 13) dX11_has_6 (by decide) (fun c1 => ?_) (fun c1 => ?_)
  · refine J_iconst (v := 0) dX11_has_13 (by decide) ?_
    exact J_zret hq dX11_has_14 rfl rfl wlen (Nat.le_refl _) (Nat.le_refl _) ⟨false, rfl, rfl⟩
  · refine J_iconst (v := 1) dX11_has_9 (by decide) ?_
    refine J_goto (tgt := 14) dX11_has_10 (by decide) ?_
    exact J_zret hq dX11_has_14 rfl rfl wlen (Nat.le_refl _) (Nat.le_refl _) ⟨true, rfl, rfl⟩
set_option maxHeartbeats 4000000 in
set_option maxRecDepth 100000 in
theorem c_M_ones {d : Nat} {u : Nat → Nat → Int32} {g : Nat → Nat → Int64} {ex : List MC} {set : Int32} (hd : 0 ≤ d)  : CT con0 d 0 0 yX11_ones cX11_ones 3 (some .int) [.int set] (Wd u g ex) (fun r h2 => r = some (.int (onesN set 9)) ∧ h2 = Wd u g ex) := by
  refine CT_of (by decide) (Nat.le_of_ble_eq_true rfl) (fun x hq => ?_)
  show J x yX11_ones cX11_ones 3 (some .int) d 0 0 (Wd u g ex).length 0 [(0, .int set)] [] (Wd u g ex) 0 0
  refine J_iconst (v := 0) dX11_ones_0 (by decide) ?_
  refine J_istore_n (i := 1) (lw := [(1, .int 0), (0, .int set)]) dX11_ones_1 rfl (by decide) rfl ?_
  refine J_iconst (v := 0) dX11_ones_2 (by decide) ?_
  refine J_istore_n (i := 2) (lw := [(2, .int 0), (1, .int 0), (0, .int set)]) dX11_ones_3 rfl (by decide) rfl ?_
  have lp31 : ∀ (n32 : Nat) (w28 : Int32) (w29 : Int32), Bd 0 9 w29 → w28 = onesN set w29.toNatClampNeg → (9 - w29.toInt).toNat < n32 → J x yX11_ones cX11_ones 3 (some .int) d 0 0 (Wd u g ex).length 4 [(0, .int set), (1, .int w28), (2, .int w29)] [] (Wd u g ex) 0 0 := by
    intro n32
    induction n32 with
    | zero => intro w28 w29 bw29 hI35 hm34; exact absurd hm34 (Nat.not_lt_zero _)
    | succ n32 ih33 =>
      intro w28 w29 bw29 hI35 hm34
      refine J_iload_n (i := 2) (j := 2) dX11_ones_4 rfl rfl ?_
      refine J_bipush (v := 9) dX11_ones_5 (by decide) ?_
      refine J_icmp_ge (tgt := 24) dX11_ones_7 (by decide) (fun c36 => ?_) (fun c36 => ?_)
      · refine J_iload_n (i := 1) (j := 1) dX11_ones_24 rfl rfl ?_
        exact J_iret hq dX11_ones_25 rfl wlen (Nat.le_refl _) (Nat.le_refl _) ⟨(congrArg (fun z => some (Value.int z)) (ones_e (bd_le_lo bw29 c36 (bd_c (v := 9) (lo := 9) (hi := 9) (by decide))) hI35)), rfl⟩
      · refine J_iload_n (i := 1) (j := 1) dX11_ones_10 rfl rfl ?_
        refine J_iload_n (i := 0) (j := 0) dX11_ones_11 rfl rfl ?_
        refine J_iload_n (i := 2) (j := 2) dX11_ones_12 rfl rfl ?_
        refine J_ishr dX11_ones_13 ?_
        refine J_iconst (v := 1) dX11_ones_14 (by decide) ?_
        refine J_iand dX11_ones_15 ?_
        refine J_iadd dX11_ones_16 ?_
        refine J_istore_n (i := 1) (lw := [(1, .int (w28 + ((set >>> (w29 &&& 31)) &&& 1))), (0, .int set), (2, .int w29)]) dX11_ones_17 rfl (by decide) rfl ?_
        refine J_iinc (i := 2) (j := 2) (v := (w29 + 1)) (lw := [(2, .int (w29 + 1)), (1, .int (w28 + ((set >>> (w29 &&& 31)) &&& 1))), (0, .int set)]) dX11_ones_18 rfl rfl (by decide) rfl ?_
        refine J_goto (tgt := 4) dX11_ones_21 (by decide) ?_
        refine J_lv [2, 1, 0] rfl ?_
        exact ih33 (w28 + ((set >>> (w29 &&& 31)) &&& 1)) (w29 + 1) (bd_w (l := 0) (h := 9) (bd_add (l := 1) (h := 9) (bd_lt_hi bw29 (i_nle c36) (bd_c (v := 9) (lo := 9) (hi := 9) (by decide))) (bd_c (v := 1) (lo := 1) (hi := 1) (by decide)) (by decide)) (by decide)) (ones_s (bd_lt_hi bw29 (i_nle c36) (bd_c (v := 9) (lo := 9) (hi := 9) (by decide))) hI35) (mu_up 1 bw29 rfl (by decide) (bd_w (l := 1) (h := 9) (bd_add (l := 1) (h := 9) (bd_lt_hi bw29 (i_nle c36) (bd_c (v := 9) (lo := 9) (hi := 9) (by decide))) (bd_c (v := 1) (lo := 1) (hi := 1) (by decide)) (by decide)) (by decide)) hm34)
  refine J_lv [2, 1, 0] rfl ?_
  exact lp31 _ (0 : Int32) (0 : Int32) (bd_w (l := 0) (h := 9) (bd_c (v := 0) (lo := 0) (hi := 0) (by decide)) (by decide)) rfl (Nat.lt_succ_self _)
set_option maxHeartbeats 4000000 in
set_option maxRecDepth 100000 in
theorem c_M_isHill {d : Nat} {u : Nat → Nat → Int32} {g : Nat → Nat → Int64} {ex : List MC} {h : Int32} (hd : 1 ≤ d) (hp0 : Bd 0 2 (u 167 0)) : CT con0 d 0 0 yX11_isHill cX11_isHill 2 (some .boolean) [.ref 162, .int h] (Wd u g ex) (fun r h2 => ∃ (z : Bool), r = some (.int (bI z)) ∧ h2 = Wd u g ex ∧ (z = true → Bd 0 1 h) ∧ (z = true → h.toInt < (u 167 0).toInt)) := by
  refine CT_of (by decide) (Nat.le_of_ble_eq_true rfl) (fun x hq => ?_)
  show J x yX11_isHill cX11_isHill 2 (some .boolean) d 0 0 (Wd u g ex).length 0 [(0, .ref 162), (1, .int h)] [] (Wd u g ex) 0 0
  refine J_iload_n (i := 1) (j := 1) dX11_isHill_0 rfl rfl ?_
  refine J_iconst (v := 0) dX11_isHill_1 (by decide) ?_
  refine J_aload_n (i := 0) (j := 0) dX11_isHill_2 rfl rfl ?_
  refine J_get (C := RX11) (T := TX11) (Z := 43) (ci := 11) (f := 5) dX11_isHill_3 inG11 rfl (by decide) k1269 wc_162 rfl ?_
  refine J_iconst (v := 0) dX11_isHill_6 (by decide) ?_
  refine J_iald dX11_isHill_7 wc_167 (vin (bd_c (v := 0) (lo := 0) (hi := 0) (by decide)) (by decide)) ?_
  refine J_ci (v := u 167 0) rfl ?_
  refine J_iconst (v := 1) dX11_isHill_8 (by decide) ?_
  refine J_isub dX11_isHill_9 ?_
  refine J_callS (As := [.int h, .int 0, .int ((u 167 0) - 1)]) (rest := []) dX11_isHill_10 (c_M_in (d := 0) (u := u) (g := g) (ex := ex) (v := h) (low := 0) (high := ((u 167 0) - 1))  (by decide) ) hq.n k1406 k1407 k97 k1408 np_X11_in (Nat.le_trans (by decide) hd) (by decide) (Nat.le_refl _) (Nat.le_refl _) wlen rfl (Nat.le_of_ble_eq_true rfl) (fun r_ h_ p1 => ?_)
  obtain ⟨t2, rfl, rfl, h3, h4⟩ := p1
  exact J_zret hq dX11_isHill_13 rfl (bI_n _) wlen (Nat.le_refl _) (Nat.le_refl _) ⟨t2, rfl, rfl, (fun qb => (bd_le_hi (bd_le_lo (bd_any h) (h3 qb) (bd_c (v := 0) (lo := 0) (hi := 0) (by decide))) (h4 qb) (bd_sub (l := (-1)) (h := 1) hp0 (bd_c (v := 1) (lo := 1) (hi := 1) (by decide)) (by decide)))), (fun qb => (le_pred_lt (h4 qb) hp0))⟩
set_option maxHeartbeats 4000000 in
set_option maxRecDepth 100000 in
theorem c_M_isPlan {d : Nat} {u : Nat → Nat → Int32} {g : Nat → Nat → Int64} {ex : List MC} {p : Int32} (hd : 1 ≤ d) (hp0 : Bd 0 3 (u 167 1)) : CT con0 d 0 0 yX11_isPlan cX11_isPlan 2 (some .boolean) [.ref 162, .int p] (Wd u g ex) (fun r h2 => ∃ (z : Bool), r = some (.int (bI z)) ∧ h2 = Wd u g ex ∧ (z = true → Bd 0 2 p)) := by
  refine CT_of (by decide) (Nat.le_of_ble_eq_true rfl) (fun x hq => ?_)
  show J x yX11_isPlan cX11_isPlan 2 (some .boolean) d 0 0 (Wd u g ex).length 0 [(0, .ref 162), (1, .int p)] [] (Wd u g ex) 0 0
  refine J_iload_n (i := 1) (j := 1) dX11_isPlan_0 rfl rfl ?_
  refine J_iconst (v := 0) dX11_isPlan_1 (by decide) ?_
  refine J_aload_n (i := 0) (j := 0) dX11_isPlan_2 rfl rfl ?_
  refine J_get (C := RX11) (T := TX11) (Z := 43) (ci := 11) (f := 5) dX11_isPlan_3 inG11 rfl (by decide) k1269 wc_162 rfl ?_
  refine J_iconst (v := 1) dX11_isPlan_6 (by decide) ?_
  refine J_iald dX11_isPlan_7 wc_167 (vin (bd_c (v := 1) (lo := 1) (hi := 1) (by decide)) (by decide)) ?_
  refine J_ci (v := u 167 1) rfl ?_
  refine J_iconst (v := 1) dX11_isPlan_8 (by decide) ?_
  refine J_isub dX11_isPlan_9 ?_
  refine J_callS (As := [.int p, .int 0, .int ((u 167 1) - 1)]) (rest := []) dX11_isPlan_10 (c_M_in (d := 0) (u := u) (g := g) (ex := ex) (v := p) (low := 0) (high := ((u 167 1) - 1))  (by decide) ) hq.n k1406 k1407 k97 k1408 np_X11_in (Nat.le_trans (by decide) hd) (by decide) (Nat.le_refl _) (Nat.le_refl _) wlen rfl (Nat.le_of_ble_eq_true rfl) (fun r_ h_ p1 => ?_)
  obtain ⟨t2, rfl, rfl, h3, h4⟩ := p1
  exact J_zret hq dX11_isPlan_13 rfl (bI_n _) wlen (Nat.le_refl _) (Nat.le_refl _) ⟨t2, rfl, rfl, (fun qb => (bd_le_hi (bd_le_lo (bd_any p) (h3 qb) (bd_c (v := 0) (lo := 0) (hi := 0) (by decide))) (h4 qb) (bd_sub (l := (-1)) (h := 2) hp0 (bd_c (v := 1) (lo := 1) (hi := 1) (by decide)) (by decide))))⟩
set_option maxHeartbeats 4000000 in
set_option maxRecDepth 100000 in
theorem c_M_isPond {d : Nat} {u : Nat → Nat → Int32} {g : Nat → Nat → Int64} {ex : List MC} {p : Int32} (hd : 1 ≤ d) (hp0 : Bd 0 9 (u 162 22)) : CT con0 d 0 0 yX11_isPond cX11_isPond 2 (some .boolean) [.ref 162, .int p] (Wd u g ex) (fun r h2 => ∃ (z : Bool), r = some (.int (bI z)) ∧ h2 = Wd u g ex ∧ (z = true → Bd 0 8 p)) := by
  refine CT_of (by decide) (Nat.le_of_ble_eq_true rfl) (fun x hq => ?_)
  show J x yX11_isPond cX11_isPond 2 (some .boolean) d 0 0 (Wd u g ex).length 0 [(0, .ref 162), (1, .int p)] [] (Wd u g ex) 0 0
  refine J_iload_n (i := 1) (j := 1) dX11_isPond_0 rfl rfl ?_
  refine J_iconst (v := 0) dX11_isPond_1 (by decide) ?_
  refine J_aload_n (i := 0) (j := 0) dX11_isPond_2 rfl rfl ?_
  refine J_get (C := RX11) (T := TX11) (Z := 43) (ci := 11) (f := 22) dX11_isPond_3 inG11 rfl (by decide) k1286 wc_162 rfl ?_
  refine J_iconst (v := 1) dX11_isPond_6 (by decide) ?_
  refine J_isub dX11_isPond_7 ?_
  refine J_callS (As := [.int p, .int 0, .int ((u 162 22) - 1)]) (rest := []) dX11_isPond_8 (c_M_in (d := 0) (u := u) (g := g) (ex := ex) (v := p) (low := 0) (high := ((u 162 22) - 1))  (by decide) ) hq.n k1406 k1407 k97 k1408 np_X11_in (Nat.le_trans (by decide) hd) (by decide) (Nat.le_refl _) (Nat.le_refl _) wlen rfl (Nat.le_of_ble_eq_true rfl) (fun r_ h_ p1 => ?_)
  obtain ⟨t2, rfl, rfl, h3, h4⟩ := p1
  exact J_zret hq dX11_isPond_11 rfl (bI_n _) wlen (Nat.le_refl _) (Nat.le_refl _) ⟨t2, rfl, rfl, (fun qb => (bd_le_hi (bd_le_lo (bd_any p) (h3 qb) (bd_c (v := 0) (lo := 0) (hi := 0) (by decide))) (h4 qb) (bd_sub (l := (-1)) (h := 8) hp0 (bd_c (v := 1) (lo := 1) (hi := 1) (by decide)) (by decide))))⟩
set_option maxHeartbeats 4000000 in
set_option maxRecDepth 100000 in
theorem c_M_arePonds {d : Nat} {u : Nat → Nat → Int32} {g : Nat → Nat → Int64} {ex : List MC} {set : Int32} (hd : 0 ≤ d) (hp0 : Bd 0 9 (u 162 22)) : CT con0 d 0 0 yX11_arePonds cX11_arePonds 2 (some .boolean) [.ref 162, .int set] (Wd u g ex) (fun r h2 => ∃ (z : Bool), r = some (.int (bI z)) ∧ h2 = Wd u g ex ∧ (z = true → Bd 0 511 set)) := by
  refine CT_of (by decide) (Nat.le_of_ble_eq_true rfl) (fun x hq => ?_)
  show J x yX11_arePonds cX11_arePonds 2 (some .boolean) d 0 0 (Wd u g ex).length 0 [(0, .ref 162), (1, .int set)] [] (Wd u g ex) 0 0
  refine J_iload_n (i := 1) (j := 1) dX11_arePonds_0 rfl rfl ?_
  refine J_if_lt (tgt := 17) dX11_arePonds_1 (by decide) (fun c1 => ?_) (fun c1 => ?_)
  · refine J_iconst (v := 0) dX11_arePonds_17 (by decide) ?_
    exact J_zret hq dX11_arePonds_18 rfl rfl wlen (Nat.le_refl _) (Nat.le_refl _) ⟨false, rfl, rfl, (fun q => absurd q (by decide))⟩
  · refine J_iload_n (i := 1) (j := 1) dX11_arePonds_4 rfl rfl ?_
    refine J_aload_n (i := 0) (j := 0) dX11_arePonds_5 rfl rfl ?_
    refine J_get (C := RX11) (T := TX11) (Z := 43) (ci := 11) (f := 22) dX11_arePonds_6 inG11 rfl (by decide) k1286 wc_162 rfl ?_
    refine J_ishr dX11_arePonds_9 ?_
    refine J_if_ne (tgt := 17) dX11_arePonds_10 (by decide) (fun c2 => ?_) (fun c2 => ?_)
    · refine J_iconst (v := 0) dX11_arePonds_17 (by decide) ?_
      exact J_zret hq dX11_arePonds_18 rfl rfl wlen (Nat.le_refl _) (Nat.le_refl _) ⟨false, rfl, rfl, (fun q => absurd q (by decide))⟩
    · refine J_iconst (v := 1) dX11_arePonds_13 (by decide) ?_
      refine J_goto (tgt := 18) dX11_arePonds_14 (by decide) ?_
      exact J_zret hq dX11_arePonds_18 rfl rfl wlen (Nat.le_refl _) (Nat.le_refl _) ⟨true, rfl, rfl, (fun _ => (arep (i_nlt c1) hp0 c2))⟩
set_option maxHeartbeats 4000000 in
set_option maxRecDepth 100000 in
theorem c_M_isRain {d : Nat} {u : Nat → Nat → Int32} {g : Nat → Nat → Int64} {ex : List MC} {rr : Int32} (hd : 1 ≤ d) (hp0 : (RC u)) : CT con0 d 0 0 yX11_isRain cX11_isRain 2 (some .boolean) [.ref 162, .int rr] (Wd u g ex) (fun r h2 => ∃ (z : Bool), r = some (.int (bI z)) ∧ h2 = Wd u g ex ∧ (z = true → Bd 0 3 rr)) := by
  refine CT_of (by decide) (Nat.le_of_ble_eq_true rfl) (fun x hq => ?_)
  show J x yX11_isRain cX11_isRain 2 (some .boolean) d 0 0 (Wd u g ex).length 0 [(0, .ref 162), (1, .int rr)] [] (Wd u g ex) 0 0
  refine J_iload_n (i := 1) (j := 1) dX11_isRain_0 rfl rfl ?_
  refine J_iconst (v := 0) dX11_isRain_1 (by decide) ?_
  refine J_aload_n (i := 0) (j := 0) dX11_isRain_2 rfl rfl ?_
  refine J_get (C := RX11) (T := TX11) (Z := 43) (ci := 11) (f := 21) dX11_isRain_3 inG11 rfl (by decide) k1285 wc_162 rfl ?_
  refine J_iconst (v := 1) dX11_isRain_6 (by decide) ?_
  refine J_iald dX11_isRain_7 wc_172 (vin (bd_c (v := 1) (lo := 1) (hi := 1) (by decide)) (by decide)) ?_
  refine J_ci (v := u 172 1) rfl ?_
  refine J_iconst (v := 1) dX11_isRain_8 (by decide) ?_
  refine J_isub dX11_isRain_9 ?_
  refine J_callS (As := [.int rr, .int 0, .int ((u 172 1) - 1)]) (rest := []) dX11_isRain_10 (c_M_in (d := 0) (u := u) (g := g) (ex := ex) (v := rr) (low := 0) (high := ((u 172 1) - 1))  (by decide) ) hq.n k1406 k1407 k97 k1408 np_X11_in (Nat.le_trans (by decide) hd) (by decide) (Nat.le_refl _) (Nat.le_refl _) wlen rfl (Nat.le_of_ble_eq_true rfl) (fun r_ h_ p1 => ?_)
  obtain ⟨t2, rfl, rfl, h3, h4⟩ := p1
  exact J_zret hq dX11_isRain_13 rfl (bI_n _) wlen (Nat.le_refl _) (Nat.le_refl _) ⟨t2, rfl, rfl, (fun qb => (bd_le_hi (bd_le_lo (bd_any rr) (h3 qb) (bd_c (v := 0) (lo := 0) (hi := 0) (by decide))) (h4 qb) (bd_sub (l := 0) (h := 3) (hp0).1 (bd_c (v := 1) (lo := 1) (hi := 1) (by decide)) (by decide))))⟩
set_option maxHeartbeats 4000000 in
set_option maxRecDepth 100000 in
theorem c_M_isOwner {d : Nat} {u : Nat → Nat → Int32} {g : Nat → Nat → Int64} {ex : List MC} {o : Int32} (hd : 1 ≤ d)  : CT con0 d 0 0 yX11_isOwner cX11_isOwner 1 (some .boolean) [.int o] (Wd u g ex) (fun r h2 => ∃ (z : Bool), r = some (.int (bI z)) ∧ h2 = Wd u g ex) := by
  refine CT_of (by decide) (Nat.le_of_ble_eq_true rfl) (fun x hq => ?_)
  show J x yX11_isOwner cX11_isOwner 1 (some .boolean) d 0 0 (Wd u g ex).length 0 [(0, .int o)] [] (Wd u g ex) 0 0
  refine J_iload_n (i := 0) (j := 0) dX11_isOwner_0 rfl rfl ?_
  refine J_iconst (v := 0) dX11_isOwner_1 (by decide) ?_
  refine J_iconst (v := 3) dX11_isOwner_2 (by decide) ?_
  refine J_callS (As := [.int o, .int 0, .int 3]) (rest := []) dX11_isOwner_3 (c_M_in (d := 0) (u := u) (g := g) (ex := ex) (v := o) (low := 0) (high := 3)  (by decide) ) hq.n k1406 k1407 k97 k1408 np_X11_in (Nat.le_trans (by decide) hd) (by decide) (Nat.le_refl _) (Nat.le_refl _) wlen rfl (Nat.le_of_ble_eq_true rfl) (fun r_ h_ p1 => ?_)
  obtain ⟨t2, rfl, rfl, h3, h4⟩ := p1
  exact J_zret hq dX11_isOwner_6 rfl (bI_n _) wlen (Nat.le_refl _) (Nat.le_refl _) ⟨t2, rfl, rfl⟩
set_option maxHeartbeats 4000000 in
set_option maxRecDepth 100000 in
theorem c_M_of {d : Nat} {u : Nat → Nat → Int32} {g : Nat → Nat → Int64} {ex : List MC} {p : Int32} {what : Int32} (hd : 0 ≤ d) (hp0 : Bd 0 8 p) (hp1 : Bd 0 15 what) : CT con0 d 0 0 yX11_of cX11_of 3 (some .int) [.ref 162, .int p, .int what] (Wd u g ex) (fun r h2 => r = some (.int (mof u p what)) ∧ h2 = Wd u g ex) := by
  refine CT_of (by decide) (Nat.le_of_ble_eq_true rfl) (fun x hq => ?_)
  show J x yX11_of cX11_of 3 (some .int) d 0 0 (Wd u g ex).length 0 [(0, .ref 162), (1, .int p), (2, .int what)] [] (Wd u g ex) 0 0
  refine J_aload_n (i := 0) (j := 0) dX11_of_0 rfl rfl ?_
  refine J_get (C := RX11) (T := TX11) (Z := 43) (ci := 11) (f := 21) dX11_of_1 inG11 rfl (by decide) k1285 wc_162 rfl ?_
  refine J_bipush (v := 13) dX11_of_4 (by decide) ?_
  refine J_bipush (v := 16) dX11_of_6 (by decide) ?_
  refine J_iload_n (i := 1) (j := 1) dX11_of_8 rfl rfl ?_
  refine J_imul dX11_of_9 ?_
  refine J_iadd dX11_of_10 ?_
  refine J_iload_n (i := 2) (j := 2) dX11_of_11 rfl rfl ?_
  refine J_iadd dX11_of_12 ?_
  refine J_iald dX11_of_13 wc_172 (vin (bd_add (l := 13) (h := 156) (bd_add (l := 13) (h := 141) (bd_c (v := 13) (lo := 13) (hi := 13) (by decide)) (bd_mul (l := 0) (h := 128) (bd_c (v := 16) (lo := 16) (hi := 16) (by decide)) hp0 (by decide)) (by decide)) hp1 (by decide)) (by decide)) ?_
  refine J_topi (fun v1 qv1 => ?_)
  exact J_iret hq dX11_of_14 rfl wlen (Nat.le_refl _) (Nat.le_refl _) ⟨(congrArg (fun z => some (Value.int z)) qv1), rfl⟩
set_option maxHeartbeats 4000000 in
set_option maxRecDepth 100000 in
theorem c_M_set {d : Nat} {u : Nat → Nat → Int32} {g : Nat → Nat → Int64} {ex : List MC} {p : Int32} {what : Int32} {v : Int32} (hd : 0 ≤ d) (hp0 : Bd 0 8 p) (hp1 : Bd 0 15 what) : CT con0 d 0 0 yX11_set cX11_set 4 none [.ref 162, .int p, .int what, .int v] (Wd u g ex) (fun r h2 => ∃ (u2 : Nat → Nat → Int32), r = none ∧ h2 = Wd u2 g ex ∧ (u2 = ms u 172 (13 + 16 * p + what).toNatClampNeg v) ∧ (∀ c, c ≠ 172 → u2 c = u c)) := by
  refine CT_of (by decide) (Nat.le_of_ble_eq_true rfl) (fun x hq => ?_)
  show J x yX11_set cX11_set 4 none d 0 0 (Wd u g ex).length 0 [(0, .ref 162), (1, .int p), (2, .int what), (3, .int v)] [] (Wd u g ex) 0 0
  refine J_aload_n (i := 0) (j := 0) dX11_set_0 rfl rfl ?_
  refine J_get (C := RX11) (T := TX11) (Z := 43) (ci := 11) (f := 21) dX11_set_1 inG11 rfl (by decide) k1285 wc_162 rfl ?_
  refine J_bipush (v := 13) dX11_set_4 (by decide) ?_
  refine J_bipush (v := 16) dX11_set_6 (by decide) ?_
  refine J_iload_n (i := 1) (j := 1) dX11_set_8 rfl rfl ?_
  refine J_imul dX11_set_9 ?_
  refine J_iadd dX11_set_10 ?_
  refine J_iload_n (i := 2) (j := 2) dX11_set_11 rfl rfl ?_
  refine J_iadd dX11_set_12 ?_
  refine J_iload_n (i := 3) (j := 3) dX11_set_13 rfl rfl ?_
  obtain ⟨u1, e2⟩ : ∃ z, z = ms u 172 ((((13 : Int32) + ((16 : Int32) * p)) + what).toNatClampNeg) v := ⟨_, rfl⟩
  refine J_iast dX11_set_14 wc_172 (vin (bd_add (l := 13) (h := 156) (bd_add (l := 13) (h := 141) (bd_c (v := 13) (lo := 13) (hi := 13) (by decide)) (bd_mul (l := 0) (h := 128) (bd_c (v := 16) (lo := 16) (hi := 16) (by decide)) hp0 (by decide)) (by decide)) hp1 (by decide)) (by decide)) (ws e2 wk_172 rfl) ?_
  exact J_vret hq dX11_set_15 rfl wlen (Nat.le_refl _) (Nat.le_refl _) ⟨u1, rfl, rfl, e2, (fun c k0_ => (ms_c e2 k0_))⟩
set_option maxHeartbeats 4000000 in
set_option maxRecDepth 100000 in
theorem c_M_hears {d : Nat} {u : Nat → Nat → Int32} {g : Nat → Nat → Int64} {ex : List MC} {p : Int32} (hd : 1 ≤ d) (hp0 : Bd 0 8 p) : CT con0 d 0 0 yX11_hears cX11_hears 3 (some .boolean) [.ref 162, .int p] (Wd u g ex) (fun r h2 => ∃ (z : Bool), r = some (.int (bI z)) ∧ h2 = Wd u g ex) := by
  refine CT_of (by decide) (Nat.le_of_ble_eq_true rfl) (fun x hq => ?_)
  show J x yX11_hears cX11_hears 3 (some .boolean) d 0 0 (Wd u g ex).length 0 [(0, .ref 162), (1, .int p)] [] (Wd u g ex) 0 0
  refine J_iconst (v := 0) dX11_hears_0 (by decide) ?_
  refine J_istore_n (i := 2) (lw := [(2, .int 0), (0, .ref 162), (1, .int p)]) dX11_hears_1 rfl (by decide) rfl ?_
  have lp68 : ∀ (n69 : Nat) (w51 : Int32), Bd 0 8 w51 → (8 - w51.toInt).toNat < n69 → J x yX11_hears cX11_hears 3 (some .boolean) d 0 0 (Wd u g ex).length 2 [(0, .ref 162), (1, .int p), (2, .int w51)] [] (Wd u g ex) 0 0 := by
    intro n69
    induction n69 with
    | zero => intro w51 bw51 hm71; exact absurd hm71 (Nat.not_lt_zero _)
    | succ n69 ih70 =>
      intro w51 bw51 hm71
      refine J_iload_n (i := 2) (j := 2) dX11_hears_2 rfl rfl ?_
      refine J_iload_n (i := 1) (j := 1) dX11_hears_3 rfl rfl ?_
      refine J_icmp_ge (tgt := 76) dX11_hears_4 (by decide) (fun c72 => ?_) (fun c72 => ?_)
      · refine J_iconst (v := 0) dX11_hears_76 (by decide) ?_
        exact J_zret hq dX11_hears_77 rfl rfl wlen (Nat.le_refl _) (Nat.le_refl _) ⟨false, rfl, rfl⟩
      · refine J_aload_n (i := 0) (j := 0) dX11_hears_7 rfl rfl ?_
        refine J_iload_n (i := 1) (j := 1) dX11_hears_8 rfl rfl ?_
        refine J_bipush (v := 12) dX11_hears_9 (by decide) ?_
        refine J_callV (As := [.int p, .int 12]) (rest := []) dX11_hears_11 (c_M_of (d := 0) (u := u) (g := g) (ex := ex) (p := p) (what := 12)  (by decide) (bd_w (l := 0) (h := 8) (bd_lt_lo hp0 (i_nle c72) bw51) (by decide)) (bd_w (l := 0) (h := 15) (bd_c (v := 12) (lo := 12) (hi := 12) (by decide)) (by decide))) hq.n k1515 k1517 k55 wc_162 rfl rfl k97 k1518 np_X11_of (Nat.le_trans (by decide) hd) (by decide) (Nat.le_refl _) (Nat.le_refl _) wlen rfl (Nat.le_of_ble_eq_true rfl) (fun r_ h_ p73 => ?_)
        obtain ⟨rfl, rfl⟩ := p73
        refine J_iconst (v := (-1)) dX11_hears_14 (by decide) ?_
        refine J_icmp_eq (tgt := 76) dX11_hears_15 (by decide) (fun c74 => ?_) (fun c74 => ?_)
        · refine J_iconst (v := 0) dX11_hears_76 (by decide) ?_
          exact J_zret hq dX11_hears_77 rfl rfl wlen (Nat.le_refl _) (Nat.le_refl _) ⟨false, rfl, rfl⟩
        · refine J_aload_n (i := 0) (j := 0) dX11_hears_18 rfl rfl ?_
          refine J_get (C := RX11) (T := TX11) (Z := 43) (ci := 11) (f := 31) dX11_hears_19 inG11 rfl (by decide) k1295 wc_162 rfl ?_
          refine J_iload_n (i := 2) (j := 2) dX11_hears_22 rfl rfl ?_
          refine J_callS (As := [.int (u 162 31), .int w51]) (rest := []) dX11_hears_23 (c_M_has (d := 0) (u := u) (g := g) (ex := ex) (set := u 162 31) (k := w51)  (by decide) ) hq.n k1555 k1556 k97 k1557 np_X11_has (Nat.le_trans (by decide) hd) (by decide) (Nat.le_refl _) (Nat.le_refl _) wlen rfl (Nat.le_of_ble_eq_true rfl) (fun r_ h_ p75 => ?_)
          obtain ⟨t76, rfl, rfl⟩ := p75
          refine J_ifB_eq (tgt := 70) dX11_hears_26 (by decide) (fun c77 => ?_) (fun c77 => ?_)
          · refine J_iinc (i := 2) (j := 2) (v := (w51 + 1)) (lw := [(2, .int (w51 + 1)), (0, .ref 162), (1, .int p)]) dX11_hears_70 rfl rfl (by decide) rfl ?_
            refine J_goto (tgt := 2) dX11_hears_73 (by decide) ?_
            refine J_lv [1, 2, 0] rfl ?_
            exact ih70 (w51 + 1) (bd_w (l := 0) (h := 8) (bd_add (l := 1) (h := 8) (bd_lt_hi bw51 (i_nle c72) hp0) (bd_c (v := 1) (lo := 1) (hi := 1) (by decide)) (by decide)) (by decide)) (mu_up 1 bw51 rfl (by decide) (bd_w (l := 1) (h := 8) (bd_add (l := 1) (h := 8) (bd_lt_hi bw51 (i_nle c72) hp0) (bd_c (v := 1) (lo := 1) (hi := 1) (by decide)) (by decide)) (by decide)) hm71)
          · refine J_aload_n (i := 0) (j := 0) dX11_hears_29 rfl rfl ?_
            refine J_iload_n (i := 2) (j := 2) dX11_hears_30 rfl rfl ?_
            refine J_bipush (v := 8) dX11_hears_31 (by decide) ?_
            refine J_callV (As := [.int w51, .int 8]) (rest := []) dX11_hears_33 (c_M_of (d := 0) (u := u) (g := g) (ex := ex) (p := w51) (what := 8)  (by decide) (bd_w (l := 0) (h := 8) (bd_lt_hi bw51 (i_nle c72) hp0) (by decide)) (bd_w (l := 0) (h := 15) (bd_c (v := 8) (lo := 8) (hi := 8) (by decide)) (by decide))) hq.n k1515 k1517 k55 wc_162 rfl rfl k97 k1518 np_X11_of (Nat.le_trans (by decide) hd) (by decide) (Nat.le_refl _) (Nat.le_refl _) wlen rfl (Nat.le_of_ble_eq_true rfl) (fun r_ h_ p78 => ?_)
            obtain ⟨rfl, rfl⟩ := p78
            refine J_iload_n (i := 1) (j := 1) dX11_hears_36 rfl rfl ?_
            refine J_icmp_eq (tgt := 51) dX11_hears_37 (by decide) (fun c79 => ?_) (fun c79 => ?_)
            · refine J_aload_n (i := 0) (j := 0) dX11_hears_51 rfl rfl ?_
              refine J_iload_n (i := 2) (j := 2) dX11_hears_52 rfl rfl ?_
              refine J_bipush (v := 11) dX11_hears_53 (by decide) ?_
              refine J_callV (As := [.int w51, .int 11]) (rest := []) dX11_hears_55 (c_M_of (d := 0) (u := u) (g := g) (ex := ex) (p := w51) (what := 11)  (by decide) (bd_w (l := 0) (h := 8) (bd_lt_hi bw51 (i_nle c72) hp0) (by decide)) (bd_w (l := 0) (h := 15) (bd_c (v := 11) (lo := 11) (hi := 11) (by decide)) (by decide))) hq.n k1515 k1517 k55 wc_162 rfl rfl k97 k1518 np_X11_of (Nat.le_trans (by decide) hd) (by decide) (Nat.le_refl _) (Nat.le_refl _) wlen rfl (Nat.le_of_ble_eq_true rfl) (fun r_ h_ p80 => ?_)
              obtain ⟨rfl, rfl⟩ := p80
              refine J_aload_n (i := 0) (j := 0) dX11_hears_58 rfl rfl ?_
              refine J_iload_n (i := 1) (j := 1) dX11_hears_59 rfl rfl ?_
              refine J_bipush (v := 12) dX11_hears_60 (by decide) ?_
              refine J_callV (As := [.int p, .int 12]) (rest := [.int (mof u w51 (11 : Int32))]) dX11_hears_62 (c_M_of (d := 0) (u := u) (g := g) (ex := ex) (p := p) (what := 12)  (by decide) (bd_w (l := 0) (h := 8) (bd_lt_lo hp0 (i_nle c72) bw51) (by decide)) (bd_w (l := 0) (h := 15) (bd_c (v := 12) (lo := 12) (hi := 12) (by decide)) (by decide))) hq.n k1515 k1517 k55 wc_162 rfl rfl k97 k1518 np_X11_of (Nat.le_trans (by decide) hd) (by decide) (Nat.le_refl _) (Nat.le_refl _) wlen rfl (Nat.le_of_ble_eq_true rfl) (fun r_ h_ p81 => ?_)
              obtain ⟨rfl, rfl⟩ := p81
              refine J_icmp_lt (tgt := 70) dX11_hears_65 (by decide) (fun c82 => ?_) (fun c82 => ?_)
              · refine J_iinc (i := 2) (j := 2) (v := (w51 + 1)) (lw := [(2, .int (w51 + 1)), (0, .ref 162), (1, .int p)]) dX11_hears_70 rfl rfl (by decide) rfl ?_
                refine J_goto (tgt := 2) dX11_hears_73 (by decide) ?_
                refine J_lv [1, 2, 0] rfl ?_
                exact ih70 (w51 + 1) (bd_w (l := 0) (h := 8) (bd_add (l := 1) (h := 8) (bd_lt_hi bw51 (i_nle c72) hp0) (bd_c (v := 1) (lo := 1) (hi := 1) (by decide)) (by decide)) (by decide)) (mu_up 1 bw51 rfl (by decide) (bd_w (l := 1) (h := 8) (bd_add (l := 1) (h := 8) (bd_lt_hi bw51 (i_nle c72) hp0) (bd_c (v := 1) (lo := 1) (hi := 1) (by decide)) (by decide)) (by decide)) hm71)
              · refine J_iconst (v := 1) dX11_hears_68 (by decide) ?_
                exact J_zret hq dX11_hears_69 rfl rfl wlen (Nat.le_refl _) (Nat.le_refl _) ⟨true, rfl, rfl⟩
            · refine J_aload_n (i := 0) (j := 0) dX11_hears_40 rfl rfl ?_
              refine J_iload_n (i := 2) (j := 2) dX11_hears_41 rfl rfl ?_
              refine J_bipush (v := 9) dX11_hears_42 (by decide) ?_
              refine J_callV (As := [.int w51, .int 9]) (rest := []) dX11_hears_44 (c_M_of (d := 0) (u := u) (g := g) (ex := ex) (p := w51) (what := 9)  (by decide) (bd_w (l := 0) (h := 8) (bd_lt_hi bw51 (i_nle c72) hp0) (by decide)) (bd_w (l := 0) (h := 15) (bd_c (v := 9) (lo := 9) (hi := 9) (by decide)) (by decide))) hq.n k1515 k1517 k55 wc_162 rfl rfl k97 k1518 np_X11_of (Nat.le_trans (by decide) hd) (by decide) (Nat.le_refl _) (Nat.le_refl _) wlen rfl (Nat.le_of_ble_eq_true rfl) (fun r_ h_ p83 => ?_)
              obtain ⟨rfl, rfl⟩ := p83
              refine J_iload_n (i := 1) (j := 1) dX11_hears_47 rfl rfl ?_
              refine J_icmp_ne (tgt := 70) dX11_hears_48 (by decide) (fun c84 => ?_) (fun c84 => ?_)
              · refine J_iinc (i := 2) (j := 2) (v := (w51 + 1)) (lw := [(2, .int (w51 + 1)), (0, .ref 162), (1, .int p)]) dX11_hears_70 rfl rfl (by decide) rfl ?_
                refine J_goto (tgt := 2) dX11_hears_73 (by decide) ?_
                refine J_lv [1, 2, 0] rfl ?_
                exact ih70 (w51 + 1) (bd_w (l := 0) (h := 8) (bd_add (l := 1) (h := 8) (bd_lt_hi bw51 (i_nle c72) hp0) (bd_c (v := 1) (lo := 1) (hi := 1) (by decide)) (by decide)) (by decide)) (mu_up 1 bw51 rfl (by decide) (bd_w (l := 1) (h := 8) (bd_add (l := 1) (h := 8) (bd_lt_hi bw51 (i_nle c72) hp0) (bd_c (v := 1) (lo := 1) (hi := 1) (by decide)) (by decide)) (by decide)) hm71)
              · refine J_aload_n (i := 0) (j := 0) dX11_hears_51 rfl rfl ?_
                refine J_iload_n (i := 2) (j := 2) dX11_hears_52 rfl rfl ?_
                refine J_bipush (v := 11) dX11_hears_53 (by decide) ?_
                refine J_callV (As := [.int w51, .int 11]) (rest := []) dX11_hears_55 (c_M_of (d := 0) (u := u) (g := g) (ex := ex) (p := w51) (what := 11)  (by decide) (bd_w (l := 0) (h := 8) (bd_lt_hi bw51 (i_nle c72) hp0) (by decide)) (bd_w (l := 0) (h := 15) (bd_c (v := 11) (lo := 11) (hi := 11) (by decide)) (by decide))) hq.n k1515 k1517 k55 wc_162 rfl rfl k97 k1518 np_X11_of (Nat.le_trans (by decide) hd) (by decide) (Nat.le_refl _) (Nat.le_refl _) wlen rfl (Nat.le_of_ble_eq_true rfl) (fun r_ h_ p85 => ?_)
                obtain ⟨rfl, rfl⟩ := p85
                refine J_aload_n (i := 0) (j := 0) dX11_hears_58 rfl rfl ?_
                refine J_iload_n (i := 1) (j := 1) dX11_hears_59 rfl rfl ?_
                refine J_bipush (v := 12) dX11_hears_60 (by decide) ?_
                refine J_callV (As := [.int p, .int 12]) (rest := [.int (mof u w51 (11 : Int32))]) dX11_hears_62 (c_M_of (d := 0) (u := u) (g := g) (ex := ex) (p := p) (what := 12)  (by decide) (bd_w (l := 0) (h := 8) (bd_lt_lo hp0 (i_nle c72) bw51) (by decide)) (bd_w (l := 0) (h := 15) (bd_c (v := 12) (lo := 12) (hi := 12) (by decide)) (by decide))) hq.n k1515 k1517 k55 wc_162 rfl rfl k97 k1518 np_X11_of (Nat.le_trans (by decide) hd) (by decide) (Nat.le_refl _) (Nat.le_refl _) wlen rfl (Nat.le_of_ble_eq_true rfl) (fun r_ h_ p86 => ?_)
                obtain ⟨rfl, rfl⟩ := p86
                refine J_icmp_lt (tgt := 70) dX11_hears_65 (by decide) (fun c87 => ?_) (fun c87 => ?_)
                · refine J_iinc (i := 2) (j := 2) (v := (w51 + 1)) (lw := [(2, .int (w51 + 1)), (0, .ref 162), (1, .int p)]) dX11_hears_70 rfl rfl (by decide) rfl ?_
                  refine J_goto (tgt := 2) dX11_hears_73 (by decide) ?_
                  refine J_lv [1, 2, 0] rfl ?_
                  exact ih70 (w51 + 1) (bd_w (l := 0) (h := 8) (bd_add (l := 1) (h := 8) (bd_lt_hi bw51 (i_nle c72) hp0) (bd_c (v := 1) (lo := 1) (hi := 1) (by decide)) (by decide)) (by decide)) (mu_up 1 bw51 rfl (by decide) (bd_w (l := 1) (h := 8) (bd_add (l := 1) (h := 8) (bd_lt_hi bw51 (i_nle c72) hp0) (bd_c (v := 1) (lo := 1) (hi := 1) (by decide)) (by decide)) (by decide)) hm71)
                · refine J_iconst (v := 1) dX11_hears_68 (by decide) ?_
                  exact J_zret hq dX11_hears_69 rfl rfl wlen (Nat.le_refl _) (Nat.le_refl _) ⟨true, rfl, rfl⟩
  refine J_lv [1, 2, 0] rfl ?_
  exact lp68 _ (0 : Int32) (bd_w (l := 0) (h := 8) (bd_c (v := 0) (lo := 0) (hi := 0) (by decide)) (by decide)) (Nat.lt_succ_self _)
set_option maxHeartbeats 4000000 in
set_option maxRecDepth 100000 in
theorem c_M_pass {d : Nat} {u : Nat → Nat → Int32} {g : Nat → Nat → Int64} {ex : List MC} {p : Int32} {steps : Int32} {bank : Int32} (hd : 2 ≤ d) (hp0 : Bd 0 8 p) (hp1 : Bd 0 511 (u 162 31)) : CT con0 d 0 0 yX11_pass cX11_pass 7 none [.ref 162, .int p, .int steps, .int bank] (Wd u g ex) (fun r h2 => ∃ (u2 : Nat → Nat → Int32), r = none ∧ h2 = Wd u2 g ex ∧ Bd 0 511 (u2 162 31) ∧ (∀ c, nin c [(162, 162), (173, 173), (175, 175)] = true → u2 c = u c) ∧ (∀ j, j ≠ 31 → j ≠ 32 → u2 162 j = u 162 j)) := by
  refine CT_of (by decide) (Nat.le_of_ble_eq_true rfl) (fun x hq => ?_)
  show J x yX11_pass cX11_pass 7 none d 0 0 (Wd u g ex).length 0 [(0, .ref 162), (1, .int p), (2, .int steps), (3, .int bank)] [] (Wd u g ex) 0 0
  refine J_aload_n (i := 0) (j := 0) dX11_pass_0 rfl rfl ?_
  refine J_iload_n (i := 1) (j := 1) dX11_pass_1 rfl rfl ?_
  refine J_callV (As := [.int p]) (rest := []) dX11_pass_2 (c_M_hears (d := 1) (u := u) (g := g) (ex := ex) (p := p)  (by decide) hp0) hq.n k1562 k1564 k63 wc_162 rfl rfl k97 k1565 np_X11_hears (Nat.le_trans (by decide) hd) (by decide) (Nat.le_refl _) (Nat.le_refl _) wlen rfl (Nat.le_of_ble_eq_true rfl) (fun r_ h_ p1 => ?_)
  obtain ⟨t2, rfl, rfl⟩ := p1
  refine J_istore (i := 4) (lw := [(4, .int (bI t2)), (0, .ref 162), (1, .int p), (2, .int steps), (3, .int bank)]) dX11_pass_5 (by decide) rfl ?_
  refine J_aload_n (i := 0) (j := 1) dX11_pass_7 rfl rfl ?_
  refine J_dup dX11_pass_8 rfl ?_
  refine J_get (C := RX11) (T := TX11) (Z := 43) (ci := 11) (f := 32) dX11_pass_9 inG11 rfl (by decide) k1296 wc_162 rfl ?_
  refine J_iload (i := 4) (j := 0) dX11_pass_12 rfl ?_
  have jn5 : ∀ (w4 : Int32), Bd 0 256 w4 → J x yX11_pass cX11_pass 7 none d 0 0 (Wd u g ex).length 24 [(0, .ref 162), (1, .int p), (2, .int steps), (3, .int bank), (4, .int (bI t2))] [.int w4, .int (u 162 32), .ref 162] (Wd u g ex) 0 0 := by
    intro w4 bw4
    refine J_ior dX11_pass_24 ?_
    obtain ⟨u6, e7⟩ : ∃ z, z = ms u 162 32 ((u 162 32) ||| w4) := ⟨_, rfl⟩
    refine J_put (C := RX11) (T := TX11) (Z := 43) (ci := 11) (f := 32) (ty0 := tyX11) dX11_pass_25 inG11 rfl tyX11_ok nmX11 (by decide) k1296 rfl rfl wc_162 (Nat.le_of_ble_eq_true rfl) (fun _ _ => ⟨rfl, rfl⟩) (ws e7 wk_162 rfl) ?_
    refine J_aload_n (i := 0) (j := 0) dX11_pass_28 rfl rfl ?_
    refine J_get (C := RX11) (T := TX11) (Z := 43) (ci := 11) (f := 28) dX11_pass_29 inG11 rfl (by decide) k1292 wc_162 rfl ?_
    refine J_iload_n (i := 1) (j := 1) dX11_pass_32 rfl rfl ?_
    refine J_aload_n (i := 0) (j := 0) dX11_pass_33 rfl rfl ?_
    refine J_iload_n (i := 1) (j := 1) dX11_pass_34 rfl rfl ?_
    refine J_iconst (v := 1) dX11_pass_35 (by decide) ?_
    refine J_callV (As := [.int p, .int 1]) (rest := [.int p, .ref 173]) dX11_pass_36 (c_M_of (d := 0) (u := u6) (g := g) (ex := ex) (p := p) (what := 1)  (by decide) hp0 (bd_w (l := 0) (h := 15) (bd_c (v := 1) (lo := 1) (hi := 1) (by decide)) (by decide))) hq.n k1515 k1517 k55 wc_162 rfl rfl k97 k1518 np_X11_of (Nat.le_trans (by decide) hd) (by decide) (Nat.le_refl _) (Nat.le_refl _) wlen rfl (Nat.le_of_ble_eq_true rfl) (fun r_ h_ p8 => ?_)
    obtain ⟨rfl, rfl⟩ := p8
    refine J_ci (v := (mof u p (1 : Int32))) (mof_c (ms_c e7 (Nat.ne_of_beq_eq_false rfl))) ?_
    refine J_iload_n (i := 2) (j := 2) dX11_pass_39 rfl rfl ?_
    refine J_aload_n (i := 0) (j := 0) dX11_pass_40 rfl rfl ?_
    refine J_iload_n (i := 1) (j := 1) dX11_pass_41 rfl rfl ?_
    refine J_iconst (v := 2) dX11_pass_42 (by decide) ?_
    refine J_callV (As := [.int p, .int 2]) (rest := [.int steps, .int (mof u p (1 : Int32)), .int p, .ref 173]) dX11_pass_43 (c_M_of (d := 0) (u := u6) (g := g) (ex := ex) (p := p) (what := 2)  (by decide) hp0 (bd_w (l := 0) (h := 15) (bd_c (v := 2) (lo := 2) (hi := 2) (by decide)) (by decide))) hq.n k1515 k1517 k55 wc_162 rfl rfl k97 k1518 np_X11_of (Nat.le_trans (by decide) hd) (by decide) (Nat.le_refl _) (Nat.le_refl _) wlen rfl (Nat.le_of_ble_eq_true rfl) (fun r_ h_ p9 => ?_)
    obtain ⟨rfl, rfl⟩ := p9
    refine J_ci (v := (mof u p (2 : Int32))) (mof_c (ms_c e7 (Nat.ne_of_beq_eq_false rfl))) ?_
    refine J_imul dX11_pass_46 ?_
    refine J_iadd dX11_pass_47 ?_
    refine J_aload_n (i := 0) (j := 0) dX11_pass_48 rfl rfl ?_
    refine J_get (C := RX11) (T := TX11) (Z := 43) (ci := 11) (f := 29) dX11_pass_49 inG11 rfl (by decide) k1293 wc_162 rfl ?_
    refine J_iload_n (i := 1) (j := 1) dX11_pass_52 rfl rfl ?_
    refine J_iald dX11_pass_53 wc_174 (vin hp0 (by decide)) ?_
    refine J_topi (fun v10 qv10 => ?_)
    refine J_iadd dX11_pass_54 ?_
    refine J_iload (i := 4) (j := 4) dX11_pass_55 rfl ?_
    have jn14 : ∀ (w13 : Int32), J x yX11_pass cX11_pass 7 none d 0 0 (Wd u g ex).length 70 [(0, .ref 162), (1, .int p), (3, .int bank), (4, .int (bI t2))] [.int w13, .int (((mof u p (1 : Int32)) + (steps * (mof u p (2 : Int32)))) + v10), .int p, .ref 173] (Wd u6 g ex) 0 0 := by
      intro w13
      refine J_isub dX11_pass_70 ?_
      obtain ⟨u15, e16⟩ : ∃ z, z = ms u6 173 p.toNatClampNeg ((((mof u p (1 : Int32)) + (steps * (mof u p (2 : Int32)))) + v10) - w13) := ⟨_, rfl⟩
      refine J_iast dX11_pass_71 wc_173 (vin hp0 (by decide)) (ws e16 wk_173 rfl) ?_
      refine J_aload_n (i := 0) (j := 0) dX11_pass_72 rfl rfl ?_
      refine J_get (C := RX11) (T := TX11) (Z := 43) (ci := 11) (f := 28) dX11_pass_73 inG11 rfl (by decide) k1292 wc_162 rfl ?_
      refine J_iload_n (i := 1) (j := 1) dX11_pass_76 rfl rfl ?_
      refine J_iald dX11_pass_77 wc_173 (vin hp0 (by decide)) ?_
      refine J_topi (fun v17 qv17 => ?_)
      refine J_aload_n (i := 0) (j := 0) dX11_pass_78 rfl rfl ?_
      refine J_iload_n (i := 1) (j := 1) dX11_pass_79 rfl rfl ?_
      refine J_iconst (v := 0) dX11_pass_80 (by decide) ?_
      refine J_callV (As := [.int p, .int 0]) (rest := [.int v17]) dX11_pass_81 (c_M_of (d := 0) (u := u15) (g := g) (ex := ex) (p := p) (what := 0)  (by decide) hp0 (bd_w (l := 0) (h := 15) (bd_c (v := 0) (lo := 0) (hi := 0) (by decide)) (by decide))) hq.n k1515 k1517 k55 wc_162 rfl rfl k97 k1518 np_X11_of (Nat.le_trans (by decide) hd) (by decide) (Nat.le_refl _) (Nat.le_refl _) wlen rfl (Nat.le_of_ble_eq_true rfl) (fun r_ h_ p18 => ?_)
      obtain ⟨rfl, rfl⟩ := p18
      refine J_ci (v := (mof u p (0 : Int32))) (mof_c ((ms_c e16 (Nat.ne_of_beq_eq_false rfl)).trans (ms_c e7 (Nat.ne_of_beq_eq_false rfl)))) ?_
      have jn23 : ∀ (w22 : Int32), J x yX11_pass cX11_pass 7 none d 0 0 (Wd u g ex).length 104 [(0, .ref 162), (1, .int p), (3, .int bank), (4, .int (bI t2))] [.int w22] (Wd u15 g ex) 0 0 := by
        intro w22
        refine J_istore (i := 5) (lw := [(5, .int w22), (0, .ref 162), (1, .int p), (3, .int bank), (4, .int (bI t2))]) dX11_pass_104 (by decide) rfl ?_
        refine J_aload_n (i := 0) (j := 1) dX11_pass_106 rfl rfl ?_
        refine J_iload_n (i := 1) (j := 2) dX11_pass_107 rfl rfl ?_
        refine J_bipush (v := 15) dX11_pass_108 (by decide) ?_
        refine J_callV (As := [.int p, .int 15]) (rest := []) dX11_pass_110 (c_M_of (d := 0) (u := u15) (g := g) (ex := ex) (p := p) (what := 15)  (by decide) hp0 (bd_w (l := 0) (h := 15) (bd_c (v := 15) (lo := 15) (hi := 15) (by decide)) (by decide))) hq.n k1515 k1517 k55 wc_162 rfl rfl k97 k1518 np_X11_of (Nat.le_trans (by decide) hd) (by decide) (Nat.le_refl _) (Nat.le_refl _) wlen rfl (Nat.le_of_ble_eq_true rfl) (fun r_ h_ p24 => ?_)
        obtain ⟨rfl, rfl⟩ := p24
        refine J_ci (v := (mof u p (15 : Int32))) (mof_c ((ms_c e16 (Nat.ne_of_beq_eq_false rfl)).trans (ms_c e7 (Nat.ne_of_beq_eq_false rfl)))) ?_
        have jn31 : ∀ (w30 : Int32), Bd 0 1 w30 → J x yX11_pass cX11_pass 7 none d 0 0 (Wd u g ex).length 144 [(0, .ref 162), (1, .int p), (4, .int (bI t2)), (5, .int w22)] [.int w30] (Wd u15 g ex) 0 0 := by
          intro w30 bw30
          refine J_istore (i := 6) (lw := [(6, .int w30), (0, .ref 162), (1, .int p), (4, .int (bI t2)), (5, .int w22)]) dX11_pass_144 (by decide) rfl ?_
          refine J_aload_n (i := 0) (j := 1) dX11_pass_146 rfl rfl ?_
          refine J_dup dX11_pass_147 rfl ?_
          refine J_get (C := RX11) (T := TX11) (Z := 43) (ci := 11) (f := 31) dX11_pass_148 inG11 rfl (by decide) k1295 wc_162 rfl ?_
          refine J_ci (v := u 162 31) ((congrFun (ms_c e16 (Nat.ne_of_beq_eq_false rfl)) 31).trans (ms_i e7 (Nat.ne_of_beq_eq_false rfl))) ?_
          refine J_iload (i := 6) (j := 0) dX11_pass_151 rfl ?_
          have jn34 : ∀ (w33 : Int32), Bd 0 256 w33 → J x yX11_pass cX11_pass 7 none d 0 0 (Wd u g ex).length 163 [(0, .ref 162), (1, .int p), (4, .int (bI t2)), (5, .int w22), (6, .int w30)] [.int w33, .int (u 162 31), .ref 162] (Wd u15 g ex) 0 0 := by
            intro w33 bw33
            refine J_ior dX11_pass_163 ?_
            obtain ⟨u35, e36⟩ : ∃ z, z = ms u15 162 31 ((u 162 31) ||| w33) := ⟨_, rfl⟩
            refine J_put (C := RX11) (T := TX11) (Z := 43) (ci := 11) (f := 31) (ty0 := tyX11) dX11_pass_164 inG11 rfl tyX11_ok nmX11 (by decide) k1295 rfl rfl wc_162 (Nat.le_of_ble_eq_true rfl) (fun _ _ => ⟨rfl, rfl⟩) (ws e36 wk_162 rfl) ?_
            refine J_aload_n (i := 0) (j := 0) dX11_pass_167 rfl rfl ?_
            refine J_get (C := RX11) (T := TX11) (Z := 43) (ci := 11) (f := 30) dX11_pass_168 inG11 rfl (by decide) k1294 wc_162 rfl ?_
            refine J_iload_n (i := 1) (j := 1) dX11_pass_171 rfl rfl ?_
            refine J_iload (i := 6) (j := 4) dX11_pass_172 rfl ?_
            have jn43 : ∀ (w42 : Int32), J x yX11_pass cX11_pass 7 none d 0 0 (Wd u g ex).length 199 [(0, .ref 162), (1, .int p), (4, .int (bI t2))] [.int w42, .int p, .ref 175] (Wd u35 g ex) 0 0 := by
              intro w42
              refine J_iload (i := 4) (j := 2) dX11_pass_199 rfl ?_
              have jn47 : ∀ (w46 : Int32), J x yX11_pass cX11_pass 7 none d 0 0 (Wd u g ex).length 214 [(0, .ref 162), (1, .int p)] [.int w46, .int w42, .int p, .ref 175] (Wd u35 g ex) 0 0 := by
                intro w46
                refine J_iadd dX11_pass_214 ?_
                obtain ⟨u48, e49⟩ : ∃ z, z = ms u35 175 p.toNatClampNeg (w42 + w46) := ⟨_, rfl⟩
                refine J_iast dX11_pass_215 wc_175 (vin hp0 (by decide)) (ws e49 wk_175 rfl) ?_
                refine J_aload_n (i := 0) (j := 0) dX11_pass_216 rfl rfl ?_
                refine J_get (C := RX11) (T := TX11) (Z := 43) (ci := 11) (f := 30) dX11_pass_217 inG11 rfl (by decide) k1294 wc_162 rfl ?_
                refine J_iload_n (i := 1) (j := 1) dX11_pass_220 rfl rfl ?_
                refine J_iload_n (i := 1) (j := 1) dX11_pass_221 rfl rfl ?_
                refine J_aload_n (i := 0) (j := 0) dX11_pass_222 rfl rfl ?_
                refine J_get (C := RX11) (T := TX11) (Z := 43) (ci := 11) (f := 26) dX11_pass_223 inG11 rfl (by decide) k1290 wc_162 rfl ?_
                refine J_ci (v := u 162 26) ((congrFun (ms_c e49 (Nat.ne_of_beq_eq_false rfl)) 26).trans ((ms_i e36 (Nat.ne_of_beq_eq_false rfl)).trans ((congrFun (ms_c e16 (Nat.ne_of_beq_eq_false rfl)) 26).trans (ms_i e7 (Nat.ne_of_beq_eq_false rfl))))) ?_
                have jn53 : ∀ (w52 : Int32), J x yX11_pass cX11_pass 7 none d 0 0 (Wd u g ex).length 239 [] [.int w52, .int p, .ref 175] (Wd u48 g ex) 0 0 := by
                  intro w52
                  obtain ⟨u54, e55⟩ : ∃ z, z = ms u48 175 p.toNatClampNeg w52 := ⟨_, rfl⟩
                  refine J_iast dX11_pass_239 wc_175 (vin hp0 (by decide)) (ws e55 wk_175 rfl) ?_
                  exact J_vret hq dX11_pass_240 rfl wlen (Nat.le_refl _) (Nat.le_refl _) ⟨u54, rfl, rfl, (bd_r ((congrFun (ms_c e55 (Nat.ne_of_beq_eq_false rfl)) 31).trans ((congrFun (ms_c e49 (Nat.ne_of_beq_eq_false rfl)) 31).trans (ms_e e36))) (bd_or (k := 9) (h := 511) hp1 bw33 (by decide))), (fun c k_ => ((ms_c e55 (nin_ne (a := 175) k_ rfl)).trans ((ms_c e49 (nin_ne (a := 175) k_ rfl)).trans ((ms_c e36 (nin_ne (a := 162) k_ rfl)).trans ((ms_c e16 (nin_ne (a := 173) k_ rfl)).trans (ms_c e7 (nin_ne (a := 162) k_ rfl))))))), (fun j k31_ k32_ => ((congrFun (ms_c e55 (Nat.ne_of_beq_eq_false rfl)) j).trans ((congrFun (ms_c e49 (Nat.ne_of_beq_eq_false rfl)) j).trans ((ms_i e36 k31_).trans ((congrFun (ms_c e16 (Nat.ne_of_beq_eq_false rfl)) j).trans (ms_i e7 k32_))))))⟩
                refine J_icmp_ne (tgt := 233) dX11_pass_226 (by decide) (fun c50 => ?_) (fun c50 => ?_)
                · refine J_aload_n (i := 0) (j := 0) dX11_pass_233 rfl rfl ?_
                  refine J_get (C := RX11) (T := TX11) (Z := 43) (ci := 11) (f := 30) dX11_pass_234 inG11 rfl (by decide) k1294 wc_162 rfl ?_
                  refine J_iload_n (i := 1) (j := 1) dX11_pass_237 rfl rfl ?_
                  refine J_iald dX11_pass_238 wc_175 (vin hp0 (by decide)) ?_
                  refine J_topi (fun v56 qv56 => ?_)
                  refine J_lv [] rfl ?_
                  exact jn53 v56 
                · refine J_iconst (v := 0) dX11_pass_229 (by decide) ?_
                  refine J_goto (tgt := 239) dX11_pass_230 (by decide) ?_
                  refine J_lv [] rfl ?_
                  exact jn53 (0 : Int32) 
              refine J_ifB_eq (tgt := 213) dX11_pass_201 (by decide) (fun c44 => ?_) (fun c44 => ?_)
              · refine J_iconst (v := 0) dX11_pass_213 (by decide) ?_
                refine J_lv [0, 1] rfl ?_
                exact jn47 (0 : Int32) 
              · refine J_aload_n (i := 0) (j := 0) dX11_pass_204 rfl rfl ?_
                refine J_iload_n (i := 1) (j := 1) dX11_pass_205 rfl rfl ?_
                refine J_iconst (v := 1) dX11_pass_206 (by decide) ?_
                refine J_callV (As := [.int p, .int 1]) (rest := [.int w42, .int p, .ref 175]) dX11_pass_207 (c_M_of (d := 0) (u := u35) (g := g) (ex := ex) (p := p) (what := 1)  (by decide) hp0 (bd_w (l := 0) (h := 15) (bd_c (v := 1) (lo := 1) (hi := 1) (by decide)) (by decide))) hq.n k1515 k1517 k55 wc_162 rfl rfl k97 k1518 np_X11_of (Nat.le_trans (by decide) hd) (by decide) (Nat.le_refl _) (Nat.le_refl _) wlen rfl (Nat.le_of_ble_eq_true rfl) (fun r_ h_ p57 => ?_)
                obtain ⟨rfl, rfl⟩ := p57
                refine J_ci (v := (mof u p (1 : Int32))) (mof_c ((ms_c e36 (Nat.ne_of_beq_eq_false rfl)).trans ((ms_c e16 (Nat.ne_of_beq_eq_false rfl)).trans (ms_c e7 (Nat.ne_of_beq_eq_false rfl))))) ?_
                refine J_goto (tgt := 214) dX11_pass_210 (by decide) ?_
                refine J_lv [0, 1] rfl ?_
                exact jn47 (mof u p (1 : Int32)) 
            refine J_if_ne (tgt := 188) dX11_pass_174 (by decide) (fun c37 => ?_) (fun c37 => ?_)
            · refine J_aload_n (i := 0) (j := 0) dX11_pass_188 rfl rfl ?_
              refine J_get (C := RX11) (T := TX11) (Z := 43) (ci := 11) (f := 28) dX11_pass_189 inG11 rfl (by decide) k1292 wc_162 rfl ?_
              refine J_iload_n (i := 1) (j := 1) dX11_pass_192 rfl rfl ?_
              refine J_iald dX11_pass_193 wc_173 (vin hp0 (by decide)) ?_
              refine J_topi (fun v58 qv58 => ?_)
              refine J_goto (tgt := 199) dX11_pass_194 (by decide) ?_
              refine J_lv [0, 1, 2] rfl ?_
              exact jn43 v58 
            · refine J_aload_n (i := 0) (j := 0) dX11_pass_177 rfl rfl ?_
              refine J_iload_n (i := 1) (j := 1) dX11_pass_178 rfl rfl ?_
              refine J_bipush (v := 15) dX11_pass_179 (by decide) ?_
              refine J_callV (As := [.int p, .int 15]) (rest := [.int p, .ref 175]) dX11_pass_181 (c_M_of (d := 0) (u := u35) (g := g) (ex := ex) (p := p) (what := 15)  (by decide) hp0 (bd_w (l := 0) (h := 15) (bd_c (v := 15) (lo := 15) (hi := 15) (by decide)) (by decide))) hq.n k1515 k1517 k55 wc_162 rfl rfl k97 k1518 np_X11_of (Nat.le_trans (by decide) hd) (by decide) (Nat.le_refl _) (Nat.le_refl _) wlen rfl (Nat.le_of_ble_eq_true rfl) (fun r_ h_ p59 => ?_)
              obtain ⟨rfl, rfl⟩ := p59
              refine J_ci (v := (mof u p (15 : Int32))) (mof_c ((ms_c e36 (Nat.ne_of_beq_eq_false rfl)).trans ((ms_c e16 (Nat.ne_of_beq_eq_false rfl)).trans (ms_c e7 (Nat.ne_of_beq_eq_false rfl))))) ?_
              refine J_iconst (v := 1) dX11_pass_184 (by decide) ?_
              refine J_icmp_ne (tgt := 197) dX11_pass_185 (by decide) (fun c60 => ?_) (fun c60 => ?_)
              · refine J_iload (i := 5) (j := 3) dX11_pass_197 rfl ?_
                refine J_lv [0, 1, 2] rfl ?_
                exact jn43 w22 
              · refine J_aload_n (i := 0) (j := 0) dX11_pass_188 rfl rfl ?_
                refine J_get (C := RX11) (T := TX11) (Z := 43) (ci := 11) (f := 28) dX11_pass_189 inG11 rfl (by decide) k1292 wc_162 rfl ?_
                refine J_iload_n (i := 1) (j := 1) dX11_pass_192 rfl rfl ?_
                refine J_iald dX11_pass_193 wc_173 (vin hp0 (by decide)) ?_
                refine J_topi (fun v61 qv61 => ?_)
                refine J_goto (tgt := 199) dX11_pass_194 (by decide) ?_
                refine J_lv [0, 1, 2] rfl ?_
                exact jn43 v61 
          refine J_if_eq (tgt := 162) dX11_pass_153 (by decide) (fun c32 => ?_) (fun c32 => ?_)
          · refine J_iconst (v := 0) dX11_pass_162 (by decide) ?_
            refine J_lv [1, 2, 3, 4, 0] rfl ?_
            exact jn34 (0 : Int32) (bd_w (l := 0) (h := 256) (bd_c (v := 0) (lo := 0) (hi := 0) (by decide)) (by decide))
          · refine J_iconst (v := 1) dX11_pass_156 (by decide) ?_
            refine J_iload_n (i := 1) (j := 2) dX11_pass_157 rfl rfl ?_
            refine J_ishl dX11_pass_158 ?_
            refine J_goto (tgt := 163) dX11_pass_159 (by decide) ?_
            refine J_lv [1, 2, 3, 4, 0] rfl ?_
            exact jn34 ((1 : Int32) <<< (p &&& 31)) (bd_w (l := 0) (h := 256) (bd_shl (lo := 0) (hi := 8) (l := 1) (h := 256) hp0 (by decide)) (by decide))
        refine J_if_ne (tgt := 143) dX11_pass_113 (by decide) (fun c25 => ?_) (fun c25 => ?_)
        · refine J_iconst (v := 0) dX11_pass_143 (by decide) ?_
          refine J_lv [1, 2, 4, 0] rfl ?_
          exact jn31 (0 : Int32) (bd_w (l := 0) (h := 1) (bd_c (v := 0) (lo := 0) (hi := 0) (by decide)) (by decide))
        · refine J_iload_n (i := 1) (j := 2) dX11_pass_116 rfl rfl ?_
          refine J_aload_n (i := 0) (j := 1) dX11_pass_117 rfl rfl ?_
          refine J_get (C := RX11) (T := TX11) (Z := 43) (ci := 11) (f := 26) dX11_pass_118 inG11 rfl (by decide) k1290 wc_162 rfl ?_
          refine J_ci (v := u 162 26) ((congrFun (ms_c e16 (Nat.ne_of_beq_eq_false rfl)) 26).trans (ms_i e7 (Nat.ne_of_beq_eq_false rfl))) ?_
          refine J_icmp_eq (tgt := 143) dX11_pass_121 (by decide) (fun c62 => ?_) (fun c62 => ?_)
          · refine J_iconst (v := 0) dX11_pass_143 (by decide) ?_
            refine J_lv [1, 2, 4, 0] rfl ?_
            exact jn31 (0 : Int32) (bd_w (l := 0) (h := 1) (bd_c (v := 0) (lo := 0) (hi := 0) (by decide)) (by decide))
          · refine J_iload_n (i := 3) (j := 3) dX11_pass_124 rfl rfl ?_
            refine J_if_ne (tgt := 139) dX11_pass_125 (by decide) (fun c63 => ?_) (fun c63 => ?_)
            · refine J_iconst (v := 1) dX11_pass_139 (by decide) ?_
              refine J_goto (tgt := 144) dX11_pass_140 (by decide) ?_
              refine J_lv [1, 2, 4, 0] rfl ?_
              exact jn31 (1 : Int32) (bd_w (l := 0) (h := 1) (bd_c (v := 1) (lo := 1) (hi := 1) (by decide)) (by decide))
            · refine J_iload (i := 5) (j := 0) dX11_pass_128 rfl ?_
              refine J_aload_n (i := 0) (j := 1) dX11_pass_130 rfl rfl ?_
              refine J_iload_n (i := 1) (j := 2) dX11_pass_131 rfl rfl ?_
              refine J_iconst (v := 3) dX11_pass_132 (by decide) ?_
              refine J_callV (As := [.int p, .int 3]) (rest := [.int w22]) dX11_pass_133 (c_M_of (d := 0) (u := u15) (g := g) (ex := ex) (p := p) (what := 3)  (by decide) hp0 (bd_w (l := 0) (h := 15) (bd_c (v := 3) (lo := 3) (hi := 3) (by decide)) (by decide))) hq.n k1515 k1517 k55 wc_162 rfl rfl k97 k1518 np_X11_of (Nat.le_trans (by decide) hd) (by decide) (Nat.le_refl _) (Nat.le_refl _) wlen rfl (Nat.le_of_ble_eq_true rfl) (fun r_ h_ p64 => ?_)
              obtain ⟨rfl, rfl⟩ := p64
              refine J_ci (v := (mof u p (3 : Int32))) (mof_c ((ms_c e16 (Nat.ne_of_beq_eq_false rfl)).trans (ms_c e7 (Nat.ne_of_beq_eq_false rfl)))) ?_
              refine J_icmp_le (tgt := 143) dX11_pass_136 (by decide) (fun c65 => ?_) (fun c65 => ?_)
              · refine J_iconst (v := 0) dX11_pass_143 (by decide) ?_
                refine J_lv [1, 2, 4, 0] rfl ?_
                exact jn31 (0 : Int32) (bd_w (l := 0) (h := 1) (bd_c (v := 0) (lo := 0) (hi := 0) (by decide)) (by decide))
              · refine J_iconst (v := 1) dX11_pass_139 (by decide) ?_
                refine J_goto (tgt := 144) dX11_pass_140 (by decide) ?_
                refine J_lv [1, 2, 4, 0] rfl ?_
                exact jn31 (1 : Int32) (bd_w (l := 0) (h := 1) (bd_c (v := 1) (lo := 1) (hi := 1) (by decide)) (by decide))
      refine J_icmp_le (tgt := 103) dX11_pass_84 (by decide) (fun c19 => ?_) (fun c19 => ?_)
      · refine J_iconst (v := 0) dX11_pass_103 (by decide) ?_
        refine J_lv [0, 1, 2, 3] rfl ?_
        exact jn23 (0 : Int32) 
      · refine J_aload_n (i := 0) (j := 0) dX11_pass_87 rfl rfl ?_
        refine J_get (C := RX11) (T := TX11) (Z := 43) (ci := 11) (f := 28) dX11_pass_88 inG11 rfl (by decide) k1292 wc_162 rfl ?_
        refine J_iload_n (i := 1) (j := 1) dX11_pass_91 rfl rfl ?_
        refine J_iald dX11_pass_92 wc_173 (vin hp0 (by decide)) ?_
        refine J_topi (fun v66 qv66 => ?_)
        refine J_aload_n (i := 0) (j := 0) dX11_pass_93 rfl rfl ?_
        refine J_iload_n (i := 1) (j := 1) dX11_pass_94 rfl rfl ?_
        refine J_iconst (v := 0) dX11_pass_95 (by decide) ?_
        refine J_callV (As := [.int p, .int 0]) (rest := [.int v66]) dX11_pass_96 (c_M_of (d := 0) (u := u15) (g := g) (ex := ex) (p := p) (what := 0)  (by decide) hp0 (bd_w (l := 0) (h := 15) (bd_c (v := 0) (lo := 0) (hi := 0) (by decide)) (by decide))) hq.n k1515 k1517 k55 wc_162 rfl rfl k97 k1518 np_X11_of (Nat.le_trans (by decide) hd) (by decide) (Nat.le_refl _) (Nat.le_refl _) wlen rfl (Nat.le_of_ble_eq_true rfl) (fun r_ h_ p67 => ?_)
        obtain ⟨rfl, rfl⟩ := p67
        refine J_ci (v := (mof u p (0 : Int32))) (mof_c ((ms_c e16 (Nat.ne_of_beq_eq_false rfl)).trans (ms_c e7 (Nat.ne_of_beq_eq_false rfl)))) ?_
        refine J_isub dX11_pass_99 ?_
        refine J_goto (tgt := 104) dX11_pass_100 (by decide) ?_
        refine J_lv [0, 1, 2, 3] rfl ?_
        exact jn23 (v66 - (mof u p (0 : Int32))) 
    refine J_ifB_eq (tgt := 69) dX11_pass_57 (by decide) (fun c11 => ?_) (fun c11 => ?_)
    · refine J_iconst (v := 0) dX11_pass_69 (by decide) ?_
      refine J_lv [0, 1, 3, 4] rfl ?_
      exact jn14 (0 : Int32) 
    · refine J_aload_n (i := 0) (j := 0) dX11_pass_60 rfl rfl ?_
      refine J_iload_n (i := 1) (j := 1) dX11_pass_61 rfl rfl ?_
      refine J_iconst (v := 1) dX11_pass_62 (by decide) ?_
      refine J_callV (As := [.int p, .int 1]) (rest := [.int (((mof u p (1 : Int32)) + (steps * (mof u p (2 : Int32)))) + v10), .int p, .ref 173]) dX11_pass_63 (c_M_of (d := 0) (u := u6) (g := g) (ex := ex) (p := p) (what := 1)  (by decide) hp0 (bd_w (l := 0) (h := 15) (bd_c (v := 1) (lo := 1) (hi := 1) (by decide)) (by decide))) hq.n k1515 k1517 k55 wc_162 rfl rfl k97 k1518 np_X11_of (Nat.le_trans (by decide) hd) (by decide) (Nat.le_refl _) (Nat.le_refl _) wlen rfl (Nat.le_of_ble_eq_true rfl) (fun r_ h_ p68 => ?_)
      obtain ⟨rfl, rfl⟩ := p68
      refine J_ci (v := (mof u p (1 : Int32))) (mof_c (ms_c e7 (Nat.ne_of_beq_eq_false rfl))) ?_
      refine J_goto (tgt := 70) dX11_pass_66 (by decide) ?_
      refine J_lv [0, 1, 3, 4] rfl ?_
      exact jn14 (mof u p (1 : Int32)) 
  refine J_ifB_eq (tgt := 23) dX11_pass_14 (by decide) (fun c3 => ?_) (fun c3 => ?_)
  · refine J_iconst (v := 0) dX11_pass_23 (by decide) ?_
    refine J_lv [1, 2, 3, 4, 0] rfl ?_
    exact jn5 (0 : Int32) (bd_w (l := 0) (h := 256) (bd_c (v := 0) (lo := 0) (hi := 0) (by decide)) (by decide))
  · refine J_iconst (v := 1) dX11_pass_17 (by decide) ?_
    refine J_iload_n (i := 1) (j := 2) dX11_pass_18 rfl rfl ?_
    refine J_ishl dX11_pass_19 ?_
    refine J_goto (tgt := 24) dX11_pass_20 (by decide) ?_
    refine J_lv [1, 2, 3, 4, 0] rfl ?_
    exact jn5 ((1 : Int32) <<< (p &&& 31)) (bd_w (l := 0) (h := 256) (bd_shl (lo := 0) (hi := 8) (l := 1) (h := 256) hp0 (by decide)) (by decide))
set_option maxHeartbeats 4000000 in
set_option maxRecDepth 100000 in
theorem c_M_blow {d : Nat} {u : Nat → Nat → Int32} {g : Nat → Nat → Int64} {ex : List MC} {steps : Int32} {banks : Int32} (hd : 3 ≤ d) (hp0 : Bd 0 9 (u 162 22)) (hp1 : (DN u)) : CT con0 d 0 0 yX11_blow cX11_blow 5 none [.ref 162, .int steps, .int banks] (Wd u g ex) (fun r h2 => ∃ (u2 : Nat → Nat → Int32), r = none ∧ h2 = Wd u2 g ex ∧ Bd 0 511 (u2 162 31) ∧ (∀ c, nin c [(162, 162), (173, 175)] = true → u2 c = u c) ∧ (∀ j, j ≠ 31 → j ≠ 32 → j ≠ 33 → u2 162 j = u 162 j)) := by
  refine CT_of (by decide) (Nat.le_of_ble_eq_true rfl) (fun x hq => ?_)
  show J x yX11_blow cX11_blow 5 none d 0 0 (Wd u g ex).length 0 [(0, .ref 162), (1, .int steps), (2, .int banks)] [] (Wd u g ex) 0 0
  refine J_aload_n (i := 0) (j := 0) dX11_blow_0 rfl rfl ?_
  refine J_iconst (v := 0) dX11_blow_1 (by decide) ?_
  obtain ⟨u1, e2⟩ : ∃ z, z = ms u 162 31 0 := ⟨_, rfl⟩
  refine J_put (C := RX11) (T := TX11) (Z := 43) (ci := 11) (f := 31) (ty0 := tyX11) dX11_blow_2 inG11 rfl tyX11_ok nmX11 (by decide) k1295 rfl rfl wc_162 (Nat.le_of_ble_eq_true rfl) (fun _ _ => ⟨rfl, rfl⟩) (ws e2 wk_162 rfl) ?_
  refine J_aload_n (i := 0) (j := 0) dX11_blow_5 rfl rfl ?_
  refine J_iconst (v := 0) dX11_blow_6 (by decide) ?_
  obtain ⟨u3, e4⟩ : ∃ z, z = ms u1 162 32 0 := ⟨_, rfl⟩
  refine J_put (C := RX11) (T := TX11) (Z := 43) (ci := 11) (f := 32) (ty0 := tyX11) dX11_blow_7 inG11 rfl tyX11_ok nmX11 (by decide) k1296 rfl rfl wc_162 (Nat.le_of_ble_eq_true rfl) (fun _ _ => ⟨rfl, rfl⟩) (ws e4 wk_162 rfl) ?_
  refine J_aload_n (i := 0) (j := 0) dX11_blow_10 rfl rfl ?_
  refine J_iconst (v := 0) dX11_blow_11 (by decide) ?_
  obtain ⟨u5, e6⟩ : ∃ z, z = ms u3 162 33 0 := ⟨_, rfl⟩
  refine J_put (C := RX11) (T := TX11) (Z := 43) (ci := 11) (f := 33) (ty0 := tyX11) dX11_blow_12 inG11 rfl tyX11_ok nmX11 (by decide) k1297 rfl rfl wc_162 (Nat.le_of_ble_eq_true rfl) (fun _ _ => ⟨rfl, rfl⟩) (ws e6 wk_162 rfl) ?_
  refine J_iconst (v := 0) dX11_blow_15 (by decide) ?_
  refine J_istore_n (i := 3) (lw := [(3, .int 0), (0, .ref 162), (1, .int steps), (2, .int banks)]) dX11_blow_16 rfl (by decide) rfl ?_
  have lp398 : ∀ (n399 : Nat) (w178 : Int32) (u179 : Nat → Nat → Int32), Bd 0 9 w178 → (∀ c, c ≠ 174 → u179 c = u5 c) → (9 - w178.toInt).toNat < n399 → J x yX11_blow cX11_blow 5 none d 0 0 (Wd u g ex).length 17 [(0, .ref 162), (1, .int steps), (2, .int banks), (3, .int w178)] [] (Wd u179 g ex) 0 0 := by
    intro n399
    induction n399 with
    | zero => intro w178 u179 bw178 fr180 hm401; exact absurd hm401 (Nat.not_lt_zero _)
    | succ n399 ih400 =>
      intro w178 u179 bw178 fr180 hm401
      refine J_iload_n (i := 3) (j := 3) dX11_blow_17 rfl rfl ?_
      refine J_aload_n (i := 0) (j := 0) dX11_blow_18 rfl rfl ?_
      refine J_get (C := RX11) (T := TX11) (Z := 43) (ci := 11) (f := 22) dX11_blow_19 inG11 rfl (by decide) k1286 wc_162 rfl ?_
      refine J_ci (v := u 162 22) ((congrFun (fr180 162 (Nat.ne_of_beq_eq_false rfl)) 22).trans ((ms_i e6 (Nat.ne_of_beq_eq_false rfl)).trans ((ms_i e4 (Nat.ne_of_beq_eq_false rfl)).trans (ms_i e2 (Nat.ne_of_beq_eq_false rfl))))) ?_
      refine J_icmp_ge (tgt := 38) dX11_blow_22 (by decide) (fun c402 => ?_) (fun c402 => ?_)
      · refine J_iconst (v := 0) dX11_blow_38 (by decide) ?_
        refine J_istore_n (i := 3) (lw := [(3, .int 0), (0, .ref 162), (1, .int steps), (2, .int banks)]) dX11_blow_39 rfl (by decide) rfl ?_
        have lp562 : ∀ (n563 : Nat) (w506 : Int32) (u507 : Nat → Nat → Int32), Bd 0 9 w506 → (∀ c, nin c [(162, 162), (173, 175)] = true → u507 c = u179 c) → (∀ j, j ≠ 31 → j ≠ 32 → j ≠ 33 → u507 162 j = u179 162 j) → Bd 0 511 (u507 162 31) → (9 - w506.toInt).toNat < n563 → J x yX11_blow cX11_blow 5 none d 0 0 (Wd u g ex).length 40 [(0, .ref 162), (1, .int steps), (2, .int banks), (3, .int w506)] [] (Wd u507 g ex) 0 0 := by
          intro n563
          induction n563 with
          | zero => intro w506 u507 bw506 fr508 fc509 bm510 hm565; exact absurd hm565 (Nat.not_lt_zero _)
          | succ n563 ih564 =>
            intro w506 u507 bw506 fr508 fc509 bm510 hm565
            refine J_iload_n (i := 3) (j := 3) dX11_blow_40 rfl rfl ?_
            refine J_aload_n (i := 0) (j := 0) dX11_blow_41 rfl rfl ?_
            refine J_get (C := RX11) (T := TX11) (Z := 43) (ci := 11) (f := 22) dX11_blow_42 inG11 rfl (by decide) k1286 wc_162 rfl ?_
            refine J_ci (v := u 162 22) ((fc509 22 (Nat.ne_of_beq_eq_false rfl) (Nat.ne_of_beq_eq_false rfl) (Nat.ne_of_beq_eq_false rfl)).trans ((congrFun (fr180 162 (Nat.ne_of_beq_eq_false rfl)) 22).trans ((ms_i e6 (Nat.ne_of_beq_eq_false rfl)).trans ((ms_i e4 (Nat.ne_of_beq_eq_false rfl)).trans (ms_i e2 (Nat.ne_of_beq_eq_false rfl)))))) ?_
            refine J_icmp_ge (tgt := 183) dX11_blow_45 (by decide) (fun c566 => ?_) (fun c566 => ?_)
            · exact J_vret hq dX11_blow_183 rfl wlen (Nat.le_refl _) (Nat.le_refl _) ⟨u507, rfl, rfl, bm510, (fun c k_ => ((fr508 c (nin_sub (M := [(162, 162), (173, 175)]) k_ rfl)).trans ((fr180 c (nin_ne (a := 174) k_ rfl)).trans ((ms_c e6 (nin_ne (a := 162) k_ rfl)).trans ((ms_c e4 (nin_ne (a := 162) k_ rfl)).trans (ms_c e2 (nin_ne (a := 162) k_ rfl))))))), (fun j k31_ k32_ k33_ => ((fc509 j k31_ k32_ k33_).trans ((congrFun (fr180 162 (Nat.ne_of_beq_eq_false rfl)) j).trans ((ms_i e6 k33_).trans ((ms_i e4 k32_).trans (ms_i e2 k31_))))))⟩
            · refine J_aload_n (i := 0) (j := 0) dX11_blow_48 rfl rfl ?_
              refine J_iload_n (i := 3) (j := 3) dX11_blow_49 rfl rfl ?_
              refine J_iload_n (i := 1) (j := 1) dX11_blow_50 rfl rfl ?_
              refine J_iload_n (i := 2) (j := 2) dX11_blow_51 rfl rfl ?_
              refine J_iload_n (i := 3) (j := 3) dX11_blow_52 rfl rfl ?_
              refine J_callS (As := [.int banks, .int w506]) (rest := [.int steps, .int w506, .ref 162]) dX11_blow_53 (c_M_has (d := 0) (u := u507) (g := g) (ex := ex) (set := banks) (k := w506)  (by decide) ) hq.n k1555 k1556 k97 k1557 np_X11_has (Nat.le_trans (by decide) hd) (by decide) (Nat.le_refl _) (Nat.le_refl _) wlen rfl (Nat.le_of_ble_eq_true rfl) (fun r_ h_ p567 => ?_)
              obtain ⟨t568, rfl, rfl⟩ := p567
              refine J_callV (As := [.int w506, .int steps, .int (bI t568)]) (rest := []) dX11_blow_56 (c_M_pass (d := 2) (u := u507) (g := g) (ex := ex) (p := w506) (steps := steps) (bank := bI t568)  (by decide) (bd_lt_hi bw506 (i_nle c566) hp0) bm510) hq.n k1558 k1560 k62 wc_162 rfl rfl k97 k1561 np_X11_pass (Nat.le_trans (by decide) hd) (by decide) (Nat.le_refl _) (Nat.le_refl _) wlen rfl (Nat.le_of_ble_eq_true rfl) (fun r_ h_ p569 => ?_)
              obtain ⟨u570, rfl, rfl, h571, fr572, fc573⟩ := p569
              refine J_aload_n (i := 0) (j := 0) dX11_blow_59 rfl rfl ?_
              refine J_iload_n (i := 3) (j := 3) dX11_blow_60 rfl rfl ?_
              refine J_bipush (v := 9) dX11_blow_61 (by decide) ?_
              refine J_callV (As := [.int w506, .int 9]) (rest := []) dX11_blow_63 (c_M_of (d := 0) (u := u570) (g := g) (ex := ex) (p := w506) (what := 9)  (by decide) (bd_lt_hi bw506 (i_nle c566) hp0) (bd_w (l := 0) (h := 15) (bd_c (v := 9) (lo := 9) (hi := 9) (by decide)) (by decide))) hq.n k1515 k1517 k55 wc_162 rfl rfl k97 k1518 np_X11_of (Nat.le_trans (by decide) hd) (by decide) (Nat.le_refl _) (Nat.le_refl _) wlen rfl (Nat.le_of_ble_eq_true rfl) (fun r_ h_ p574 => ?_)
              obtain ⟨rfl, rfl⟩ := p574
              refine J_ci (v := (mof u w506 (9 : Int32))) (mof_c ((fr572 172 rfl).trans ((fr508 172 rfl).trans ((fr180 172 (Nat.ne_of_beq_eq_false rfl)).trans ((ms_c e6 (Nat.ne_of_beq_eq_false rfl)).trans ((ms_c e4 (Nat.ne_of_beq_eq_false rfl)).trans (ms_c e2 (Nat.ne_of_beq_eq_false rfl)))))))) ?_
              refine J_iconst (v := (-1)) dX11_blow_66 (by decide) ?_
              have jn579 : ∀ (w578 : Int32), J x yX11_blow cX11_blow 5 none d 0 0 (Wd u g ex).length 91 [(0, .ref 162), (1, .int steps), (2, .int banks), (3, .int w506)] [.int w578] (Wd u570 g ex) 0 0 := by
                intro w578
                refine J_istore (i := 4) (lw := [(4, .int w578), (0, .ref 162), (1, .int steps), (2, .int banks), (3, .int w506)]) dX11_blow_91 (by decide) rfl ?_
                refine J_aload_n (i := 0) (j := 1) dX11_blow_93 rfl rfl ?_
                refine J_iload_n (i := 3) (j := 4) dX11_blow_94 rfl rfl ?_
                refine J_bipush (v := 9) dX11_blow_95 (by decide) ?_
                refine J_callV (As := [.int w506, .int 9]) (rest := []) dX11_blow_97 (c_M_of (d := 0) (u := u570) (g := g) (ex := ex) (p := w506) (what := 9)  (by decide) (bd_lt_hi bw506 (i_nle c566) hp0) (bd_w (l := 0) (h := 15) (bd_c (v := 9) (lo := 9) (hi := 9) (by decide)) (by decide))) hq.n k1515 k1517 k55 wc_162 rfl rfl k97 k1518 np_X11_of (Nat.le_trans (by decide) hd) (by decide) (Nat.le_refl _) (Nat.le_refl _) wlen rfl (Nat.le_of_ble_eq_true rfl) (fun r_ h_ p580 => ?_)
                obtain ⟨rfl, rfl⟩ := p580
                refine J_ci (v := (mof u w506 (9 : Int32))) (mof_c ((fr572 172 rfl).trans ((fr508 172 rfl).trans ((fr180 172 (Nat.ne_of_beq_eq_false rfl)).trans ((ms_c e6 (Nat.ne_of_beq_eq_false rfl)).trans ((ms_c e4 (Nat.ne_of_beq_eq_false rfl)).trans (ms_c e2 (Nat.ne_of_beq_eq_false rfl)))))))) ?_
                refine J_iconst (v := (-1)) dX11_blow_100 (by decide) ?_
                have jn588 : ∀ (u586 : Nat → Nat → Int32), (∀ c, c ≠ 174 → u586 c = u570 c) → J x yX11_blow cX11_blow 5 none d 0 0 (Wd u g ex).length 121 [(0, .ref 162), (1, .int steps), (2, .int banks), (3, .int w506), (4, .int w578)] [] (Wd u586 g ex) 0 0 := by
                  intro u586 fr587
                  refine J_aload_n (i := 0) (j := 0) dX11_blow_121 rfl rfl ?_
                  refine J_iload_n (i := 3) (j := 3) dX11_blow_122 rfl rfl ?_
                  refine J_bipush (v := 8) dX11_blow_123 (by decide) ?_
                  refine J_callV (As := [.int w506, .int 8]) (rest := []) dX11_blow_125 (c_M_of (d := 0) (u := u586) (g := g) (ex := ex) (p := w506) (what := 8)  (by decide) (bd_lt_hi bw506 (i_nle c566) hp0) (bd_w (l := 0) (h := 15) (bd_c (v := 8) (lo := 8) (hi := 8) (by decide)) (by decide))) hq.n k1515 k1517 k55 wc_162 rfl rfl k97 k1518 np_X11_of (Nat.le_trans (by decide) hd) (by decide) (Nat.le_refl _) (Nat.le_refl _) wlen rfl (Nat.le_of_ble_eq_true rfl) (fun r_ h_ p589 => ?_)
                  obtain ⟨rfl, rfl⟩ := p589
                  refine J_ci (v := (mof u w506 (8 : Int32))) (mof_c ((fr587 172 (Nat.ne_of_beq_eq_false rfl)).trans ((fr572 172 rfl).trans ((fr508 172 rfl).trans ((fr180 172 (Nat.ne_of_beq_eq_false rfl)).trans ((ms_c e6 (Nat.ne_of_beq_eq_false rfl)).trans ((ms_c e4 (Nat.ne_of_beq_eq_false rfl)).trans (ms_c e2 (Nat.ne_of_beq_eq_false rfl))))))))) ?_
                  refine J_iconst (v := (-1)) dX11_blow_128 (by decide) ?_
                  have jn602 : ∀ (u599 : Nat → Nat → Int32), (∀ c, c ≠ 162 → c ≠ 174 → u599 c = u586 c) → (∀ j, j ≠ 33 → u599 162 j = u586 162 j) → J x yX11_blow cX11_blow 5 none d 0 0 (Wd u g ex).length 177 [(0, .ref 162), (1, .int steps), (2, .int banks), (3, .int w506)] [] (Wd u599 g ex) 0 0 := by
                    intro u599 fr600 fc601
                    refine J_iinc (i := 3) (j := 3) (v := (w506 + 1)) (lw := [(3, .int (w506 + 1)), (0, .ref 162), (1, .int steps), (2, .int banks)]) dX11_blow_177 rfl rfl (by decide) rfl ?_
                    refine J_goto (tgt := 40) dX11_blow_180 (by decide) ?_
                    refine J_lv [1, 2, 3, 0] rfl ?_
                    exact ih564 (w506 + 1) u599 (bd_w (l := 0) (h := 9) (bd_add (l := 1) (h := 9) (bd_lt_hi bw506 (i_nle c566) hp0) (bd_c (v := 1) (lo := 1) (hi := 1) (by decide)) (by decide)) (by decide)) (fun c k_ => ((fr600 c (nin_ne (a := 162) k_ rfl) (nin_ne (a := 174) k_ rfl)).trans ((fr587 c (nin_ne (a := 174) k_ rfl)).trans ((fr572 c (nin_sub (M := [(162, 162), (173, 173), (175, 175)]) k_ rfl)).trans (fr508 c (nin_sub (M := [(162, 162), (173, 175)]) k_ rfl)))))) (fun j k31_ k32_ k33_ => ((fc601 j k33_).trans ((congrFun (fr587 162 (Nat.ne_of_beq_eq_false rfl)) j).trans ((fc573 j k31_ k32_).trans (fc509 j k31_ k32_ k33_))))) (bd_r ((fc601 31 (Nat.ne_of_beq_eq_false rfl)).trans (congrFun (fr587 162 (Nat.ne_of_beq_eq_false rfl)) 31)) h571) (mu_up 1 bw506 rfl (by decide) (bd_w (l := 1) (h := 9) (bd_add (l := 1) (h := 9) (bd_lt_hi bw506 (i_nle c566) hp0) (bd_c (v := 1) (lo := 1) (hi := 1) (by decide)) (by decide)) (by decide)) hm565)
                  refine J_icmp_eq (tgt := 159) dX11_blow_129 (by decide) (fun c590 => ?_) (fun c590 => ?_)
                  · refine J_aload_n (i := 0) (j := 0) dX11_blow_159 rfl rfl ?_
                    refine J_dup dX11_blow_160 rfl ?_
                    refine J_get (C := RX11) (T := TX11) (Z := 43) (ci := 11) (f := 33) dX11_blow_161 inG11 rfl (by decide) k1297 wc_162 rfl ?_
                    refine J_ci (v := u507 162 33) ((congrFun (fr587 162 (Nat.ne_of_beq_eq_false rfl)) 33).trans (fc573 33 (Nat.ne_of_beq_eq_false rfl) (Nat.ne_of_beq_eq_false rfl))) ?_
                    refine J_aload_n (i := 0) (j := 0) dX11_blow_164 rfl rfl ?_
                    refine J_get (C := RX11) (T := TX11) (Z := 43) (ci := 11) (f := 30) dX11_blow_165 inG11 rfl (by decide) k1294 wc_162 rfl ?_
                    refine J_iload_n (i := 3) (j := 3) dX11_blow_168 rfl rfl ?_
                    refine J_iald dX11_blow_169 wc_175 (vin (bd_lt_hi bw506 (i_nle c566) hp0) (by decide)) ?_
                    refine J_topi (fun v603 qv603 => ?_)
                    refine J_iload (i := 4) (j := 4) dX11_blow_170 rfl ?_
                    refine J_isub dX11_blow_172 ?_
                    refine J_iadd dX11_blow_173 ?_
                    obtain ⟨u604, e605⟩ : ∃ z, z = ms u586 162 33 ((u507 162 33) + (v603 - w578)) := ⟨_, rfl⟩
                    refine J_put (C := RX11) (T := TX11) (Z := 43) (ci := 11) (f := 33) (ty0 := tyX11) dX11_blow_174 inG11 rfl tyX11_ok nmX11 (by decide) k1297 rfl rfl wc_162 (Nat.le_of_ble_eq_true rfl) (fun _ _ => ⟨rfl, rfl⟩) (ws e605 wk_162 rfl) ?_
                    refine J_lv [0, 1, 2, 3] rfl ?_
                    exact jn602 u604 (fun c k0_ k1_ => (ms_c e605 k0_)) (fun j k33_ => (ms_i e605 k33_))
                  · refine J_aload_n (i := 0) (j := 0) dX11_blow_132 rfl rfl ?_
                    refine J_get (C := RX11) (T := TX11) (Z := 43) (ci := 11) (f := 29) dX11_blow_133 inG11 rfl (by decide) k1293 wc_162 rfl ?_
                    refine J_aload_n (i := 0) (j := 0) dX11_blow_136 rfl rfl ?_
                    refine J_iload_n (i := 3) (j := 3) dX11_blow_137 rfl rfl ?_
                    refine J_bipush (v := 8) dX11_blow_138 (by decide) ?_
                    refine J_callV (As := [.int w506, .int 8]) (rest := [.ref 174]) dX11_blow_140 (c_M_of (d := 0) (u := u586) (g := g) (ex := ex) (p := w506) (what := 8)  (by decide) (bd_lt_hi bw506 (i_nle c566) hp0) (bd_w (l := 0) (h := 15) (bd_c (v := 8) (lo := 8) (hi := 8) (by decide)) (by decide))) hq.n k1515 k1517 k55 wc_162 rfl rfl k97 k1518 np_X11_of (Nat.le_trans (by decide) hd) (by decide) (Nat.le_refl _) (Nat.le_refl _) wlen rfl (Nat.le_of_ble_eq_true rfl) (fun r_ h_ p606 => ?_)
                    obtain ⟨rfl, rfl⟩ := p606
                    refine J_ci (v := (mof u w506 (8 : Int32))) (mof_c ((fr587 172 (Nat.ne_of_beq_eq_false rfl)).trans ((fr572 172 rfl).trans ((fr508 172 rfl).trans ((fr180 172 (Nat.ne_of_beq_eq_false rfl)).trans ((ms_c e6 (Nat.ne_of_beq_eq_false rfl)).trans ((ms_c e4 (Nat.ne_of_beq_eq_false rfl)).trans (ms_c e2 (Nat.ne_of_beq_eq_false rfl))))))))) ?_
                    refine J_dup2_11 dX11_blow_143 rfl rfl ?_
                    refine J_iald dX11_blow_144 wc_174 (vin (bd_ne_lo (dn_8 hp1 (bd_lt_hi bw506 (i_nle c566) hp0)) c590 (by decide)) (by decide)) ?_
                    refine J_topi (fun v607 qv607 => ?_)
                    refine J_aload_n (i := 0) (j := 0) dX11_blow_145 rfl rfl ?_
                    refine J_get (C := RX11) (T := TX11) (Z := 43) (ci := 11) (f := 30) dX11_blow_146 inG11 rfl (by decide) k1294 wc_162 rfl ?_
                    refine J_iload_n (i := 3) (j := 3) dX11_blow_149 rfl rfl ?_
                    refine J_iald dX11_blow_150 wc_175 (vin (bd_lt_hi bw506 (i_nle c566) hp0) (by decide)) ?_
                    refine J_topi (fun v608 qv608 => ?_)
                    refine J_iload (i := 4) (j := 4) dX11_blow_151 rfl ?_
                    refine J_isub dX11_blow_153 ?_
                    refine J_iadd dX11_blow_154 ?_
                    obtain ⟨u609, e610⟩ : ∃ z, z = ms u586 174 ((mof u w506 (8 : Int32)).toNatClampNeg) (v607 + (v608 - w578)) := ⟨_, rfl⟩
                    refine J_iast dX11_blow_155 wc_174 (vin (bd_ne_lo (dn_8 hp1 (bd_lt_hi bw506 (i_nle c566) hp0)) c590 (by decide)) (by decide)) (ws e610 wk_174 rfl) ?_
                    refine J_goto (tgt := 177) dX11_blow_156 (by decide) ?_
                    refine J_lv [0, 1, 2, 3] rfl ?_
                    exact jn602 u609 (fun c k0_ k1_ => (ms_c e610 k1_)) (fun j k33_ => (congrFun (ms_c e610 (Nat.ne_of_beq_eq_false rfl)) j))
                refine J_icmp_eq (tgt := 121) dX11_blow_101 (by decide) (fun c581 => ?_) (fun c581 => ?_)
                · refine J_lv [1, 2, 3, 4, 0] rfl ?_
                  exact jn588 u570 (fun c k0_ => rfl)
                · refine J_aload_n (i := 0) (j := 1) dX11_blow_104 rfl rfl ?_
                  refine J_get (C := RX11) (T := TX11) (Z := 43) (ci := 11) (f := 29) dX11_blow_105 inG11 rfl (by decide) k1293 wc_162 rfl ?_
                  refine J_aload_n (i := 0) (j := 1) dX11_blow_108 rfl rfl ?_
                  refine J_iload_n (i := 3) (j := 4) dX11_blow_109 rfl rfl ?_
                  refine J_bipush (v := 9) dX11_blow_110 (by decide) ?_
                  refine J_callV (As := [.int w506, .int 9]) (rest := [.ref 174]) dX11_blow_112 (c_M_of (d := 0) (u := u570) (g := g) (ex := ex) (p := w506) (what := 9)  (by decide) (bd_lt_hi bw506 (i_nle c566) hp0) (bd_w (l := 0) (h := 15) (bd_c (v := 9) (lo := 9) (hi := 9) (by decide)) (by decide))) hq.n k1515 k1517 k55 wc_162 rfl rfl k97 k1518 np_X11_of (Nat.le_trans (by decide) hd) (by decide) (Nat.le_refl _) (Nat.le_refl _) wlen rfl (Nat.le_of_ble_eq_true rfl) (fun r_ h_ p611 => ?_)
                  obtain ⟨rfl, rfl⟩ := p611
                  refine J_ci (v := (mof u w506 (9 : Int32))) (mof_c ((fr572 172 rfl).trans ((fr508 172 rfl).trans ((fr180 172 (Nat.ne_of_beq_eq_false rfl)).trans ((ms_c e6 (Nat.ne_of_beq_eq_false rfl)).trans ((ms_c e4 (Nat.ne_of_beq_eq_false rfl)).trans (ms_c e2 (Nat.ne_of_beq_eq_false rfl)))))))) ?_
                  refine J_dup2_11 dX11_blow_115 rfl rfl ?_
                  refine J_iald dX11_blow_116 wc_174 (vin (bd_ne_lo (dn_9 hp1 (bd_lt_hi bw506 (i_nle c566) hp0)) c581 (by decide)) (by decide)) ?_
                  refine J_topi (fun v612 qv612 => ?_)
                  refine J_iload (i := 4) (j := 0) dX11_blow_117 rfl ?_
                  refine J_iadd dX11_blow_119 ?_
                  obtain ⟨u613, e614⟩ : ∃ z, z = ms u570 174 ((mof u w506 (9 : Int32)).toNatClampNeg) (v612 + w578) := ⟨_, rfl⟩
                  refine J_iast dX11_blow_120 wc_174 (vin (bd_ne_lo (dn_9 hp1 (bd_lt_hi bw506 (i_nle c566) hp0)) c581 (by decide)) (by decide)) (ws e614 wk_174 rfl) ?_
                  refine J_lv [1, 2, 3, 4, 0] rfl ?_
                  exact jn588 u613 (fun c k0_ => (ms_c e614 k0_))
              refine J_icmp_ne (tgt := 74) dX11_blow_67 (by decide) (fun c575 => ?_) (fun c575 => ?_)
              · refine J_aload_n (i := 0) (j := 0) dX11_blow_74 rfl rfl ?_
                refine J_get (C := RX11) (T := TX11) (Z := 43) (ci := 11) (f := 30) dX11_blow_75 inG11 rfl (by decide) k1294 wc_162 rfl ?_
                refine J_iload_n (i := 3) (j := 3) dX11_blow_78 rfl rfl ?_
                refine J_iald dX11_blow_79 wc_175 (vin (bd_lt_hi bw506 (i_nle c566) hp0) (by decide)) ?_
                refine J_topi (fun v615 qv615 => ?_)
                refine J_aload_n (i := 0) (j := 0) dX11_blow_80 rfl rfl ?_
                refine J_iload_n (i := 3) (j := 3) dX11_blow_81 rfl rfl ?_
                refine J_bipush (v := 10) dX11_blow_82 (by decide) ?_
                refine J_callV (As := [.int w506, .int 10]) (rest := [.int v615]) dX11_blow_84 (c_M_of (d := 0) (u := u570) (g := g) (ex := ex) (p := w506) (what := 10)  (by decide) (bd_lt_hi bw506 (i_nle c566) hp0) (bd_w (l := 0) (h := 15) (bd_c (v := 10) (lo := 10) (hi := 10) (by decide)) (by decide))) hq.n k1515 k1517 k55 wc_162 rfl rfl k97 k1518 np_X11_of (Nat.le_trans (by decide) hd) (by decide) (Nat.le_refl _) (Nat.le_refl _) wlen rfl (Nat.le_of_ble_eq_true rfl) (fun r_ h_ p616 => ?_)
                obtain ⟨rfl, rfl⟩ := p616
                refine J_ci (v := (mof u w506 (10 : Int32))) (mof_c ((fr572 172 rfl).trans ((fr508 172 rfl).trans ((fr180 172 (Nat.ne_of_beq_eq_false rfl)).trans ((ms_c e6 (Nat.ne_of_beq_eq_false rfl)).trans ((ms_c e4 (Nat.ne_of_beq_eq_false rfl)).trans (ms_c e2 (Nat.ne_of_beq_eq_false rfl)))))))) ?_
                refine J_imul dX11_blow_87 ?_
                refine J_bipush (v := 10) dX11_blow_88 (by decide) ?_
                refine J_idiv dX11_blow_90 (by decide) ?_
                refine J_lv [0, 1, 2, 3] rfl ?_
                exact jn579 ((v615 * (mof u w506 (10 : Int32))) / 10) 
              · refine J_iconst (v := 0) dX11_blow_70 (by decide) ?_
                refine J_goto (tgt := 91) dX11_blow_71 (by decide) ?_
                refine J_lv [0, 1, 2, 3] rfl ?_
                exact jn579 (0 : Int32) 
        refine J_lv [1, 2, 3, 0] rfl ?_
        exact lp562 _ (0 : Int32) u179 (bd_w (l := 0) (h := 9) (bd_c (v := 0) (lo := 0) (hi := 0) (by decide)) (by decide)) (fun c k_ => rfl) (fun j k31_ k32_ k33_ => rfl) (bd_r ((congrFun (fr180 162 (Nat.ne_of_beq_eq_false rfl)) 31).trans ((ms_i e6 (Nat.ne_of_beq_eq_false rfl)).trans ((ms_i e4 (Nat.ne_of_beq_eq_false rfl)).trans (ms_e e2)))) (bd_w (l := 0) (h := 511) (bd_c (v := 0) (lo := 0) (hi := 0) (by decide)) (by decide))) (Nat.lt_succ_self _)
      · refine J_aload_n (i := 0) (j := 0) dX11_blow_25 rfl rfl ?_
        refine J_get (C := RX11) (T := TX11) (Z := 43) (ci := 11) (f := 29) dX11_blow_26 inG11 rfl (by decide) k1293 wc_162 rfl ?_
        refine J_iload_n (i := 3) (j := 3) dX11_blow_29 rfl rfl ?_
        refine J_iconst (v := 0) dX11_blow_30 (by decide) ?_
        obtain ⟨u617, e618⟩ : ∃ z, z = ms u179 174 w178.toNatClampNeg 0 := ⟨_, rfl⟩
        refine J_iast dX11_blow_31 wc_174 (vin (bd_lt_hi bw178 (i_nle c402) hp0) (by decide)) (ws e618 wk_174 rfl) ?_
        refine J_iinc (i := 3) (j := 3) (v := (w178 + 1)) (lw := [(3, .int (w178 + 1)), (0, .ref 162), (1, .int steps), (2, .int banks)]) dX11_blow_32 rfl rfl (by decide) rfl ?_
        refine J_goto (tgt := 17) dX11_blow_35 (by decide) ?_
        refine J_lv [1, 2, 3, 0] rfl ?_
        exact ih400 (w178 + 1) u617 (bd_w (l := 0) (h := 9) (bd_add (l := 1) (h := 9) (bd_lt_hi bw178 (i_nle c402) hp0) (bd_c (v := 1) (lo := 1) (hi := 1) (by decide)) (by decide)) (by decide)) (fun c k0_ => ((ms_c e618 k0_).trans (fr180 c k0_))) (mu_up 1 bw178 rfl (by decide) (bd_w (l := 1) (h := 9) (bd_add (l := 1) (h := 9) (bd_lt_hi bw178 (i_nle c402) hp0) (bd_c (v := 1) (lo := 1) (hi := 1) (by decide)) (by decide)) (by decide)) hm401)
  refine J_lv [1, 2, 3, 0] rfl ?_
  exact lp398 _ (0 : Int32) u5 (bd_w (l := 0) (h := 9) (bd_c (v := 0) (lo := 0) (hi := 0) (by decide)) (by decide)) (fun c k0_ => rfl) (Nat.lt_succ_self _)
set_option maxHeartbeats 4000000 in
set_option maxRecDepth 100000 in
theorem c_M_stepsOf {d : Nat} {u : Nat → Nat → Int32} {g : Nat → Nat → Int64} {ex : List MC} {rain : Int32} (hd : 0 ≤ d) (hp0 : Bd 0 75 rain) : CT con0 d 0 0 yX11_stepsOf cX11_stepsOf 2 (some .int) [.ref 162, .int rain] (Wd u g ex) (fun r h2 => ∃ (z : Int32), r = some (.int z) ∧ h2 = Wd u g ex) := by
  refine CT_of (by decide) (Nat.le_of_ble_eq_true rfl) (fun x hq => ?_)
  show J x yX11_stepsOf cX11_stepsOf 2 (some .int) d 0 0 (Wd u g ex).length 0 [(0, .ref 162), (1, .int rain)] [] (Wd u g ex) 0 0
  refine J_aload_n (i := 0) (j := 0) dX11_stepsOf_0 rfl rfl ?_
  refine J_get (C := RX11) (T := TX11) (Z := 43) (ci := 11) (f := 27) dX11_stepsOf_1 inG11 rfl (by decide) k1291 wc_162 rfl ?_
  refine J_if_eq (tgt := 11) dX11_stepsOf_4 (by decide) (fun c1 => ?_) (fun c1 => ?_)
  · refine J_aload_n (i := 0) (j := 0) dX11_stepsOf_11 rfl rfl ?_
    refine J_get (C := RX11) (T := TX11) (Z := 43) (ci := 11) (f := 21) dX11_stepsOf_12 inG11 rfl (by decide) k1285 wc_162 rfl ?_
    refine J_iconst (v := 5) dX11_stepsOf_15 (by decide) ?_
    refine J_iconst (v := 2) dX11_stepsOf_16 (by decide) ?_
    refine J_iload_n (i := 1) (j := 1) dX11_stepsOf_17 rfl rfl ?_
    refine J_imul dX11_stepsOf_18 ?_
    refine J_iadd dX11_stepsOf_19 ?_
    refine J_iald dX11_stepsOf_20 wc_172 (vin (bd_add (l := 5) (h := 155) (bd_c (v := 5) (lo := 5) (hi := 5) (by decide)) (bd_mul (l := 0) (h := 150) (bd_c (v := 2) (lo := 2) (hi := 2) (by decide)) hp0 (by decide)) (by decide)) (by decide)) ?_
    refine J_topi (fun v2 qv2 => ?_)
    exact J_iret hq dX11_stepsOf_21 rfl wlen (Nat.le_refl _) (Nat.le_refl _) ⟨v2, rfl, rfl⟩
  · refine J_iconst (v := 0) dX11_stepsOf_7 (by decide) ?_
    refine J_goto (tgt := 21) dX11_stepsOf_8 (by decide) ?_
    exact J_iret hq dX11_stepsOf_21 rfl wlen (Nat.le_refl _) (Nat.le_refl _) ⟨(0 : Int32), rfl, rfl⟩
set_option maxHeartbeats 4000000 in
set_option maxRecDepth 100000 in
theorem c_M_harmOf {d : Nat} {u : Nat → Nat → Int32} {g : Nat → Nat → Int64} {ex : List MC} {owner : Int32} (hd : 1 ≤ d) (hp0 : Bd 0 9 (u 162 22)) : CT con0 d 0 0 yX11_harmOf cX11_harmOf 4 (some .int) [.ref 162, .int owner] (Wd u g ex) (fun r h2 => ∃ (z : Int32), r = some (.int z) ∧ h2 = Wd u g ex) := by
  refine CT_of (by decide) (Nat.le_of_ble_eq_true rfl) (fun x hq => ?_)
  show J x yX11_harmOf cX11_harmOf 4 (some .int) d 0 0 (Wd u g ex).length 0 [(0, .ref 162), (1, .int owner)] [] (Wd u g ex) 0 0
  refine J_iconst (v := 0) dX11_harmOf_0 (by decide) ?_
  refine J_istore_n (i := 2) (lw := [(2, .int 0), (0, .ref 162), (1, .int owner)]) dX11_harmOf_1 rfl (by decide) rfl ?_
  refine J_iconst (v := 0) dX11_harmOf_2 (by decide) ?_
  refine J_istore_n (i := 3) (lw := [(3, .int 0), (2, .int 0), (0, .ref 162), (1, .int owner)]) dX11_harmOf_3 rfl (by decide) rfl ?_
  have lp98 : ∀ (n99 : Nat) (w65 : Int32) (w66 : Int32), Bd 0 9 w66 → (9 - w66.toInt).toNat < n99 → J x yX11_harmOf cX11_harmOf 4 (some .int) d 0 0 (Wd u g ex).length 4 [(0, .ref 162), (1, .int owner), (2, .int w65), (3, .int w66)] [] (Wd u g ex) 0 0 := by
    intro n99
    induction n99 with
    | zero => intro w65 w66 bw66 hm101; exact absurd hm101 (Nat.not_lt_zero _)
    | succ n99 ih100 =>
      intro w65 w66 bw66 hm101
      refine J_iload_n (i := 3) (j := 3) dX11_harmOf_4 rfl rfl ?_
      refine J_aload_n (i := 0) (j := 0) dX11_harmOf_5 rfl rfl ?_
      refine J_get (C := RX11) (T := TX11) (Z := 43) (ci := 11) (f := 22) dX11_harmOf_6 inG11 rfl (by decide) k1286 wc_162 rfl ?_
      refine J_icmp_ge (tgt := 58) dX11_harmOf_9 (by decide) (fun c102 => ?_) (fun c102 => ?_)
      · refine J_iload_n (i := 2) (j := 2) dX11_harmOf_58 rfl rfl ?_
        exact J_iret hq dX11_harmOf_59 rfl wlen (Nat.le_refl _) (Nat.le_refl _) ⟨w65, rfl, rfl⟩
      · refine J_iload_n (i := 2) (j := 2) dX11_harmOf_12 rfl rfl ?_
        refine J_aload_n (i := 0) (j := 0) dX11_harmOf_13 rfl rfl ?_
        refine J_get (C := RX11) (T := TX11) (Z := 43) (ci := 11) (f := 31) dX11_harmOf_14 inG11 rfl (by decide) k1295 wc_162 rfl ?_
        refine J_iload_n (i := 3) (j := 3) dX11_harmOf_17 rfl rfl ?_
        refine J_callS (As := [.int (u 162 31), .int w66]) (rest := [.int w65]) dX11_harmOf_18 (c_M_has (d := 0) (u := u) (g := g) (ex := ex) (set := u 162 31) (k := w66)  (by decide) ) hq.n k1555 k1556 k97 k1557 np_X11_has (Nat.le_trans (by decide) hd) (by decide) (Nat.le_refl _) (Nat.le_refl _) wlen rfl (Nat.le_of_ble_eq_true rfl) (fun r_ h_ p118 => ?_)
        obtain ⟨t119, rfl, rfl⟩ := p118
        have jn127 : ∀ (w126 : Int32), J x yX11_harmOf cX11_harmOf 4 (some .int) d 0 0 (Wd u g ex).length 50 [(0, .ref 162), (1, .int owner), (3, .int w66)] [.int w126, .int w65] (Wd u g ex) 0 0 := by
          intro w126
          refine J_iadd dX11_harmOf_50 ?_
          refine J_istore_n (i := 2) (lw := [(2, .int (w65 + w126)), (0, .ref 162), (1, .int owner), (3, .int w66)]) dX11_harmOf_51 rfl (by decide) rfl ?_
          refine J_iinc (i := 3) (j := 3) (v := (w66 + 1)) (lw := [(3, .int (w66 + 1)), (2, .int (w65 + w126)), (0, .ref 162), (1, .int owner)]) dX11_harmOf_52 rfl rfl (by decide) rfl ?_
          refine J_goto (tgt := 4) dX11_harmOf_55 (by decide) ?_
          refine J_lv [2, 3, 1, 0] rfl ?_
          exact ih100 (w65 + w126) (w66 + 1) (bd_w (l := 0) (h := 9) (bd_add (l := 1) (h := 9) (bd_lt_hi bw66 (i_nle c102) hp0) (bd_c (v := 1) (lo := 1) (hi := 1) (by decide)) (by decide)) (by decide)) (mu_up 1 bw66 rfl (by decide) (bd_w (l := 1) (h := 9) (bd_add (l := 1) (h := 9) (bd_lt_hi bw66 (i_nle c102) hp0) (bd_c (v := 1) (lo := 1) (hi := 1) (by decide)) (by decide)) (by decide)) hm101)
        refine J_ifB_eq (tgt := 49) dX11_harmOf_21 (by decide) (fun c120 => ?_) (fun c120 => ?_)
        · refine J_iconst (v := 0) dX11_harmOf_49 (by decide) ?_
          refine J_lv [0, 1, 3] rfl ?_
          exact jn127 (0 : Int32) 
        · refine J_iload_n (i := 1) (j := 1) dX11_harmOf_24 rfl rfl ?_
          refine J_iconst (v := (-1)) dX11_harmOf_25 (by decide) ?_
          refine J_icmp_eq (tgt := 40) dX11_harmOf_26 (by decide) (fun c128 => ?_) (fun c128 => ?_)
          · refine J_aload_n (i := 0) (j := 0) dX11_harmOf_40 rfl rfl ?_
            refine J_iload_n (i := 3) (j := 3) dX11_harmOf_41 rfl rfl ?_
            refine J_iconst (v := 5) dX11_harmOf_42 (by decide) ?_
            refine J_callV (As := [.int w66, .int 5]) (rest := [.int w65]) dX11_harmOf_43 (c_M_of (d := 0) (u := u) (g := g) (ex := ex) (p := w66) (what := 5)  (by decide) (bd_lt_hi bw66 (i_nle c102) hp0) (bd_w (l := 0) (h := 15) (bd_c (v := 5) (lo := 5) (hi := 5) (by decide)) (by decide))) hq.n k1515 k1517 k55 wc_162 rfl rfl k97 k1518 np_X11_of (Nat.le_trans (by decide) hd) (by decide) (Nat.le_refl _) (Nat.le_refl _) wlen rfl (Nat.le_of_ble_eq_true rfl) (fun r_ h_ p129 => ?_)
            obtain ⟨rfl, rfl⟩ := p129
            refine J_goto (tgt := 50) dX11_harmOf_46 (by decide) ?_
            refine J_lv [0, 1, 3] rfl ?_
            exact jn127 (mof u w66 (5 : Int32)) 
          · refine J_aload_n (i := 0) (j := 0) dX11_harmOf_29 rfl rfl ?_
            refine J_iload_n (i := 3) (j := 3) dX11_harmOf_30 rfl rfl ?_
            refine J_bipush (v := 6) dX11_harmOf_31 (by decide) ?_
            refine J_callV (As := [.int w66, .int 6]) (rest := [.int w65]) dX11_harmOf_33 (c_M_of (d := 0) (u := u) (g := g) (ex := ex) (p := w66) (what := 6)  (by decide) (bd_lt_hi bw66 (i_nle c102) hp0) (bd_w (l := 0) (h := 15) (bd_c (v := 6) (lo := 6) (hi := 6) (by decide)) (by decide))) hq.n k1515 k1517 k55 wc_162 rfl rfl k97 k1518 np_X11_of (Nat.le_trans (by decide) hd) (by decide) (Nat.le_refl _) (Nat.le_refl _) wlen rfl (Nat.le_of_ble_eq_true rfl) (fun r_ h_ p130 => ?_)
            obtain ⟨rfl, rfl⟩ := p130
            refine J_iload_n (i := 1) (j := 1) dX11_harmOf_36 rfl rfl ?_
            refine J_icmp_ne (tgt := 49) dX11_harmOf_37 (by decide) (fun c131 => ?_) (fun c131 => ?_)
            · refine J_iconst (v := 0) dX11_harmOf_49 (by decide) ?_
              refine J_lv [0, 1, 3] rfl ?_
              exact jn127 (0 : Int32) 
            · refine J_aload_n (i := 0) (j := 0) dX11_harmOf_40 rfl rfl ?_
              refine J_iload_n (i := 3) (j := 3) dX11_harmOf_41 rfl rfl ?_
              refine J_iconst (v := 5) dX11_harmOf_42 (by decide) ?_
              refine J_callV (As := [.int w66, .int 5]) (rest := [.int w65]) dX11_harmOf_43 (c_M_of (d := 0) (u := u) (g := g) (ex := ex) (p := w66) (what := 5)  (by decide) (bd_lt_hi bw66 (i_nle c102) hp0) (bd_w (l := 0) (h := 15) (bd_c (v := 5) (lo := 5) (hi := 5) (by decide)) (by decide))) hq.n k1515 k1517 k55 wc_162 rfl rfl k97 k1518 np_X11_of (Nat.le_trans (by decide) hd) (by decide) (Nat.le_refl _) (Nat.le_refl _) wlen rfl (Nat.le_of_ble_eq_true rfl) (fun r_ h_ p132 => ?_)
              obtain ⟨rfl, rfl⟩ := p132
              refine J_goto (tgt := 50) dX11_harmOf_46 (by decide) ?_
              refine J_lv [0, 1, 3] rfl ?_
              exact jn127 (mof u w66 (5 : Int32)) 
  refine J_lv [2, 3, 1, 0] rfl ?_
  exact lp98 _ (0 : Int32) (0 : Int32) (bd_w (l := 0) (h := 9) (bd_c (v := 0) (lo := 0) (hi := 0) (by decide)) (by decide)) (Nat.lt_succ_self _)
set_option maxHeartbeats 4000000 in
set_option maxRecDepth 100000 in
theorem c_M_told {d : Nat} {u : Nat → Nat → Int32} {g : Nat → Nat → Int64} {ex : List MC} {what : Int32} (hd : 2 ≤ d) (hp0 : Bd 0 9 (u 162 22)) : CT con0 d 0 0 yX11_told cX11_told 2 (some .int) [.ref 162, .int what] (Wd u g ex) (fun r h2 => ∃ (z : Int32), r = some (.int z) ∧ h2 = Wd u g ex) := by
  refine CT_of (by decide) (Nat.le_of_ble_eq_true rfl) (fun x hq => ?_)
  show J x yX11_told cX11_told 2 (some .int) d 0 0 (Wd u g ex).length 0 [(0, .ref 162), (1, .int what)] [] (Wd u g ex) 0 0
  refine J_iload_n (i := 1) (j := 1) dX11_told_0 rfl rfl ?_
  refine J_bipush (v := 10) dX11_told_1 (by decide) ?_
  refine J_bipush (v := 9) dX11_told_3 (by decide) ?_
  refine J_aload_n (i := 0) (j := 0) dX11_told_5 rfl rfl ?_
  refine J_get (C := RX11) (T := TX11) (Z := 43) (ci := 11) (f := 22) dX11_told_6 inG11 rfl (by decide) k1286 wc_162 rfl ?_
  refine J_iadd dX11_told_9 ?_
  refine J_callS (As := [.int what, .int 10, .int ((9 : Int32) + (u 162 22))]) (rest := []) dX11_told_10 (c_M_in (d := 0) (u := u) (g := g) (ex := ex) (v := what) (low := 10) (high := ((9 : Int32) + (u 162 22)))  (by decide) ) hq.n k1406 k1407 k97 k1408 np_X11_in (Nat.le_trans (by decide) hd) (by decide) (Nat.le_refl _) (Nat.le_refl _) wlen rfl (Nat.le_of_ble_eq_true rfl) (fun r_ h_ p1 => ?_)
  obtain ⟨t2, rfl, rfl, h3, h4⟩ := p1
  refine J_ifB_eq (tgt := 26) dX11_told_13 (by decide) (fun c5 => ?_) (fun c5 => ?_)
  · refine J_iload_n (i := 1) (j := 1) dX11_told_26 rfl rfl ?_
    refine J_bipush (v := 20) dX11_told_27 (by decide) ?_
    refine J_bipush (v := 19) dX11_told_29 (by decide) ?_
    refine J_aload_n (i := 0) (j := 0) dX11_told_31 rfl rfl ?_
    refine J_get (C := RX11) (T := TX11) (Z := 43) (ci := 11) (f := 22) dX11_told_32 inG11 rfl (by decide) k1286 wc_162 rfl ?_
    refine J_iadd dX11_told_35 ?_
    refine J_callS (As := [.int what, .int 20, .int ((19 : Int32) + (u 162 22))]) (rest := []) dX11_told_36 (c_M_in (d := 0) (u := u) (g := g) (ex := ex) (v := what) (low := 20) (high := ((19 : Int32) + (u 162 22)))  (by decide) ) hq.n k1406 k1407 k97 k1408 np_X11_in (Nat.le_trans (by decide) hd) (by decide) (Nat.le_refl _) (Nat.le_refl _) wlen rfl (Nat.le_of_ble_eq_true rfl) (fun r_ h_ p6 => ?_)
    obtain ⟨t7, rfl, rfl, h8, h9⟩ := p6
    refine J_ifB_eq (tgt := 52) dX11_told_39 (by decide) (fun c10 => ?_) (fun c10 => ?_)
    · refine J_iload_n (i := 1) (j := 1) dX11_told_52 rfl rfl ?_
      refine J_bipush (v := 30) dX11_told_53 (by decide) ?_
      refine J_bipush (v := 29) dX11_told_55 (by decide) ?_
      refine J_aload_n (i := 0) (j := 0) dX11_told_57 rfl rfl ?_
      refine J_get (C := RX11) (T := TX11) (Z := 43) (ci := 11) (f := 22) dX11_told_58 inG11 rfl (by decide) k1286 wc_162 rfl ?_
      refine J_iadd dX11_told_61 ?_
      refine J_callS (As := [.int what, .int 30, .int ((29 : Int32) + (u 162 22))]) (rest := []) dX11_told_62 (c_M_in (d := 0) (u := u) (g := g) (ex := ex) (v := what) (low := 30) (high := ((29 : Int32) + (u 162 22)))  (by decide) ) hq.n k1406 k1407 k97 k1408 np_X11_in (Nat.le_trans (by decide) hd) (by decide) (Nat.le_refl _) (Nat.le_refl _) wlen rfl (Nat.le_of_ble_eq_true rfl) (fun r_ h_ p11 => ?_)
      obtain ⟨t12, rfl, rfl, h13, h14⟩ := p11
      refine J_ifB_eq (tgt := 88) dX11_told_65 (by decide) (fun c15 => ?_) (fun c15 => ?_)
      · refine J_iload_n (i := 1) (j := 1) dX11_told_88 rfl rfl ?_
        refine J_if_ne (tgt := 99) dX11_told_89 (by decide) (fun c16 => ?_) (fun c16 => ?_)
        · refine J_iload_n (i := 1) (j := 1) dX11_told_99 rfl rfl ?_
          refine J_iconst (v := 1) dX11_told_100 (by decide) ?_
          refine J_icmp_ne (tgt := 112) dX11_told_101 (by decide) (fun c17 => ?_) (fun c17 => ?_)
          · refine J_iload_n (i := 1) (j := 1) dX11_told_112 rfl rfl ?_
            refine J_bipush (v := 40) dX11_told_113 (by decide) ?_
            refine J_icmp_ne (tgt := 125) dX11_told_115 (by decide) (fun c18 => ?_) (fun c18 => ?_)
            · refine J_iconst (v := (-1)) dX11_told_125 (by decide) ?_
              exact J_iret hq dX11_told_126 rfl wlen (Nat.le_refl _) (Nat.le_refl _) ⟨((-1) : Int32), rfl, rfl⟩
            · refine J_aload_n (i := 0) (j := 0) dX11_told_118 rfl rfl ?_
              refine J_get (C := RX11) (T := TX11) (Z := 43) (ci := 11) (f := 33) dX11_told_119 inG11 rfl (by decide) k1297 wc_162 rfl ?_
              refine J_goto (tgt := 126) dX11_told_122 (by decide) ?_
              exact J_iret hq dX11_told_126 rfl wlen (Nat.le_refl _) (Nat.le_refl _) ⟨(u 162 33), rfl, rfl⟩
          · refine J_aload_n (i := 0) (j := 0) dX11_told_104 rfl rfl ?_
            refine J_iconst (v := (-1)) dX11_told_105 (by decide) ?_
            refine J_callV (As := [.int (-1)]) (rest := []) dX11_told_106 (c_M_harmOf (d := 1) (u := u) (g := g) (ex := ex) (owner := (-1))  (by decide) hp0) hq.n k1570 k1572 k65 wc_162 rfl rfl k97 k1573 np_X11_harmOf (Nat.le_trans (by decide) hd) (by decide) (Nat.le_refl _) (Nat.le_refl _) wlen rfl (Nat.le_of_ble_eq_true rfl) (fun r_ h_ p19 => ?_)
            obtain ⟨v20, rfl, rfl⟩ := p19
            refine J_goto (tgt := 126) dX11_told_109 (by decide) ?_
            exact J_iret hq dX11_told_126 rfl wlen (Nat.le_refl _) (Nat.le_refl _) ⟨v20, rfl, rfl⟩
        · refine J_aload_n (i := 0) (j := 0) dX11_told_92 rfl rfl ?_
          refine J_get (C := RX11) (T := TX11) (Z := 43) (ci := 11) (f := 31) dX11_told_93 inG11 rfl (by decide) k1295 wc_162 rfl ?_
          refine J_goto (tgt := 126) dX11_told_96 (by decide) ?_
          exact J_iret hq dX11_told_126 rfl wlen (Nat.le_refl _) (Nat.le_refl _) ⟨(u 162 31), rfl, rfl⟩
      · refine J_aload_n (i := 0) (j := 0) dX11_told_68 rfl rfl ?_
        refine J_get (C := RX11) (T := TX11) (Z := 43) (ci := 11) (f := 32) dX11_told_69 inG11 rfl (by decide) k1296 wc_162 rfl ?_
        refine J_iload_n (i := 1) (j := 1) dX11_told_72 rfl rfl ?_
        refine J_bipush (v := 30) dX11_told_73 (by decide) ?_
        refine J_isub dX11_told_75 ?_
        refine J_callS (As := [.int (u 162 32), .int (what - 30)]) (rest := []) dX11_told_76 (c_M_has (d := 0) (u := u) (g := g) (ex := ex) (set := u 162 32) (k := (what - 30))  (by decide) ) hq.n k1555 k1556 k97 k1557 np_X11_has (Nat.le_trans (by decide) hd) (by decide) (Nat.le_refl _) (Nat.le_refl _) wlen rfl (Nat.le_of_ble_eq_true rfl) (fun r_ h_ p21 => ?_)
        obtain ⟨t22, rfl, rfl⟩ := p21
        refine J_ifB_eq (tgt := 86) dX11_told_79 (by decide) (fun c23 => ?_) (fun c23 => ?_)
        · refine J_iconst (v := 0) dX11_told_86 (by decide) ?_
          exact J_iret hq dX11_told_87 rfl wlen (Nat.le_refl _) (Nat.le_refl _) ⟨(0 : Int32), rfl, rfl⟩
        · refine J_iconst (v := 1) dX11_told_82 (by decide) ?_
          refine J_goto (tgt := 87) dX11_told_83 (by decide) ?_
          exact J_iret hq dX11_told_87 rfl wlen (Nat.le_refl _) (Nat.le_refl _) ⟨(1 : Int32), rfl, rfl⟩
    · refine J_aload_n (i := 0) (j := 0) dX11_told_42 rfl rfl ?_
      refine J_get (C := RX11) (T := TX11) (Z := 43) (ci := 11) (f := 30) dX11_told_43 inG11 rfl (by decide) k1294 wc_162 rfl ?_
      refine J_iload_n (i := 1) (j := 1) dX11_told_46 rfl rfl ?_
      refine J_bipush (v := 20) dX11_told_47 (by decide) ?_
      refine J_isub dX11_told_49 ?_
      refine J_iald dX11_told_50 wc_175 (vin (bd_sub (l := 0) (h := 8) (bd_le_hi (bd_le_lo (bd_any what) (h8 c10) (bd_c (v := 20) (lo := 20) (hi := 20) (by decide))) (h9 c10) (bd_add (l := 19) (h := 28) (bd_c (v := 19) (lo := 19) (hi := 19) (by decide)) hp0 (by decide))) (bd_c (v := 20) (lo := 20) (hi := 20) (by decide)) (by decide)) (by decide)) ?_
      refine J_topi (fun v24 qv24 => ?_)
      exact J_iret hq dX11_told_51 rfl wlen (Nat.le_refl _) (Nat.le_refl _) ⟨v24, rfl, rfl⟩
  · refine J_aload_n (i := 0) (j := 0) dX11_told_16 rfl rfl ?_
    refine J_get (C := RX11) (T := TX11) (Z := 43) (ci := 11) (f := 28) dX11_told_17 inG11 rfl (by decide) k1292 wc_162 rfl ?_
    refine J_iload_n (i := 1) (j := 1) dX11_told_20 rfl rfl ?_
    refine J_bipush (v := 10) dX11_told_21 (by decide) ?_
    refine J_isub dX11_told_23 ?_
    refine J_iald dX11_told_24 wc_173 (vin (bd_sub (l := 0) (h := 8) (bd_le_hi (bd_le_lo (bd_any what) (h3 c5) (bd_c (v := 10) (lo := 10) (hi := 10) (by decide))) (h4 c5) (bd_add (l := 9) (h := 18) (bd_c (v := 9) (lo := 9) (hi := 9) (by decide)) hp0 (by decide))) (bd_c (v := 10) (lo := 10) (hi := 10) (by decide)) (by decide)) (by decide)) ?_
    refine J_topi (fun v25 qv25 => ?_)
    exact J_iret hq dX11_told_25 rfl wlen (Nat.le_refl _) (Nat.le_refl _) ⟨v25, rfl, rfl⟩
set_option maxHeartbeats 4000000 in
set_option maxRecDepth 100000 in
theorem c_M_partsOf {d : Nat} {u : Nat → Nat → Int32} {g : Nat → Nat → Int64} {ex : List MC} {rain : Int32} {banks : Int32} (hd : 1 ≤ d) (hp0 : Bd 0 9 (u 162 22)) (hp1 : Bd (-1) 75 rain) : CT con0 d 0 0 yX11_partsOf cX11_partsOf 6 (some .long) [.ref 162, .int rain, .int banks] (Wd u g ex) (fun r h2 => ∃ (z : Int64), r = some (.long z) ∧ h2 = Wd u g ex) := by
  refine CT_of (by decide) (Nat.le_of_ble_eq_true rfl) (fun x hq => ?_)
  show J x yX11_partsOf cX11_partsOf 6 (some .long) d 0 0 (Wd u g ex).length 0 [(0, .ref 162), (1, .int rain), (2, .int banks)] [] (Wd u g ex) 0 0
  refine J_aload_n (i := 0) (j := 0) dX11_partsOf_0 rfl rfl ?_
  refine J_get (C := RX11) (T := TX11) (Z := 43) (ci := 11) (f := 21) dX11_partsOf_1 inG11 rfl (by decide) k1285 wc_162 rfl ?_
  refine J_iconst (v := 5) dX11_partsOf_4 (by decide) ?_
  refine J_iconst (v := 2) dX11_partsOf_5 (by decide) ?_
  refine J_iload_n (i := 1) (j := 1) dX11_partsOf_6 rfl rfl ?_
  refine J_imul dX11_partsOf_7 ?_
  refine J_iadd dX11_partsOf_8 ?_
  refine J_iconst (v := 1) dX11_partsOf_9 (by decide) ?_
  refine J_iadd dX11_partsOf_10 ?_
  refine J_iald dX11_partsOf_11 wc_172 (vin (bd_add (l := 4) (h := 156) (bd_add (l := 3) (h := 155) (bd_c (v := 5) (lo := 5) (hi := 5) (by decide)) (bd_mulc (c := 2) (l := (-2)) (h := 150) hp1 (by decide)) (by decide)) (bd_c (v := 1) (lo := 1) (hi := 1) (by decide)) (by decide)) (by decide)) ?_
  refine J_topi (fun v1 qv1 => ?_)
  refine J_i2l dX11_partsOf_12 rfl ?_
  refine J_topl (fun l2 _ => ?_)
  refine J_lstore_n (i := 3) (lw := [(3, .long l2), (0, .ref 162), (1, .int rain), (2, .int banks)]) dX11_partsOf_13 rfl (by decide) rfl ?_
  refine J_iconst (v := 0) dX11_partsOf_14 (by decide) ?_
  refine J_istore (i := 5) (lw := [(5, .int 0), (3, .long l2), (0, .ref 162), (1, .int rain), (2, .int banks)]) dX11_partsOf_15 (by decide) rfl ?_
  have lp94 : ∀ (n95 : Nat) (w63 : Int64) (w64 : Int32), Bd 0 9 w64 → (9 - w64.toInt).toNat < n95 → J x yX11_partsOf cX11_partsOf 6 (some .long) d 0 0 (Wd u g ex).length 17 [(0, .ref 162), (2, .int banks), (3, .long w63), (5, .int w64)] [] (Wd u g ex) 0 0 := by
    intro n95
    induction n95 with
    | zero => intro w63 w64 bw64 hm97; exact absurd hm97 (Nat.not_lt_zero _)
    | succ n95 ih96 =>
      intro w63 w64 bw64 hm97
      refine J_iload (i := 5) (j := 3) dX11_partsOf_17 rfl ?_
      refine J_aload_n (i := 0) (j := 0) dX11_partsOf_19 rfl rfl ?_
      refine J_get (C := RX11) (T := TX11) (Z := 43) (ci := 11) (f := 22) dX11_partsOf_20 inG11 rfl (by decide) k1286 wc_162 rfl ?_
      refine J_icmp_ge (tgt := 66) dX11_partsOf_23 (by decide) (fun c98 => ?_) (fun c98 => ?_)
      · refine J_lload_n (i := 3) (j := 2) dX11_partsOf_66 rfl rfl ?_
        exact J_lret hq dX11_partsOf_67 rfl wlen (Nat.le_refl _) (Nat.le_refl _) ⟨w63, rfl, rfl⟩
      · refine J_lload_n (i := 3) (j := 2) dX11_partsOf_26 rfl rfl ?_
        refine J_iload_n (i := 2) (j := 1) dX11_partsOf_27 rfl rfl ?_
        refine J_iload (i := 5) (j := 3) dX11_partsOf_28 rfl ?_
        refine J_callS (As := [.int banks, .int w64]) (rest := [.long w63]) dX11_partsOf_30 (c_M_has (d := 0) (u := u) (g := g) (ex := ex) (set := banks) (k := w64)  (by decide) ) hq.n k1555 k1556 k97 k1557 np_X11_has (Nat.le_trans (by decide) hd) (by decide) (Nat.le_refl _) (Nat.le_refl _) wlen rfl (Nat.le_of_ble_eq_true rfl) (fun r_ h_ p113 => ?_)
        obtain ⟨t114, rfl, rfl⟩ := p113
        have jn121 : ∀ (w120 : Int64), J x yX11_partsOf cX11_partsOf 6 (some .long) d 0 0 (Wd u g ex).length 58 [(0, .ref 162), (2, .int banks), (5, .int w64)] [.long w120, .long w63] (Wd u g ex) 0 0 := by
          intro w120
          refine J_lmul dX11_partsOf_58 ?_
          refine J_topl (fun l122 _ => ?_)
          refine J_lstore_n (i := 3) (lw := [(3, .long l122), (0, .ref 162), (2, .int banks), (5, .int w64)]) dX11_partsOf_59 rfl (by decide) rfl ?_
          refine J_iinc (i := 5) (j := 3) (v := (w64 + 1)) (lw := [(5, .int (w64 + 1)), (3, .long l122), (0, .ref 162), (2, .int banks)]) dX11_partsOf_60 rfl rfl (by decide) rfl ?_
          refine J_goto (tgt := 17) dX11_partsOf_63 (by decide) ?_
          refine J_lv [2, 3, 1, 0] rfl ?_
          exact ih96 l122 (w64 + 1) (bd_w (l := 0) (h := 9) (bd_add (l := 1) (h := 9) (bd_lt_hi bw64 (i_nle c98) hp0) (bd_c (v := 1) (lo := 1) (hi := 1) (by decide)) (by decide)) (by decide)) (mu_up 1 bw64 rfl (by decide) (bd_w (l := 1) (h := 9) (bd_add (l := 1) (h := 9) (bd_lt_hi bw64 (i_nle c98) hp0) (bd_c (v := 1) (lo := 1) (hi := 1) (by decide)) (by decide)) (by decide)) hm97)
        refine J_ifB_eq (tgt := 47) dX11_partsOf_33 (by decide) (fun c115 => ?_) (fun c115 => ?_)
        · refine J_bipush (v := 10) dX11_partsOf_47 (by decide) ?_
          refine J_aload_n (i := 0) (j := 0) dX11_partsOf_49 rfl rfl ?_
          refine J_iload (i := 5) (j := 3) dX11_partsOf_50 rfl ?_
          refine J_iconst (v := 4) dX11_partsOf_52 (by decide) ?_
          refine J_callV (As := [.int w64, .int 4]) (rest := [.int 10, .long w63]) dX11_partsOf_53 (c_M_of (d := 0) (u := u) (g := g) (ex := ex) (p := w64) (what := 4)  (by decide) (bd_lt_hi bw64 (i_nle c98) hp0) (bd_w (l := 0) (h := 15) (bd_c (v := 4) (lo := 4) (hi := 4) (by decide)) (by decide))) hq.n k1515 k1517 k55 wc_162 rfl rfl k97 k1518 np_X11_of (Nat.le_trans (by decide) hd) (by decide) (Nat.le_refl _) (Nat.le_refl _) wlen rfl (Nat.le_of_ble_eq_true rfl) (fun r_ h_ p123 => ?_)
          obtain ⟨rfl, rfl⟩ := p123
          refine J_isub dX11_partsOf_56 ?_
          refine J_i2l dX11_partsOf_57 rfl ?_
          refine J_topl (fun l124 _ => ?_)
          refine J_lv [0, 1, 3] rfl ?_
          exact jn121 l124 
        · refine J_aload_n (i := 0) (j := 0) dX11_partsOf_36 rfl rfl ?_
          refine J_iload (i := 5) (j := 3) dX11_partsOf_37 rfl ?_
          refine J_iconst (v := 4) dX11_partsOf_39 (by decide) ?_
          refine J_callV (As := [.int w64, .int 4]) (rest := [.long w63]) dX11_partsOf_40 (c_M_of (d := 0) (u := u) (g := g) (ex := ex) (p := w64) (what := 4)  (by decide) (bd_lt_hi bw64 (i_nle c98) hp0) (bd_w (l := 0) (h := 15) (bd_c (v := 4) (lo := 4) (hi := 4) (by decide)) (by decide))) hq.n k1515 k1517 k55 wc_162 rfl rfl k97 k1518 np_X11_of (Nat.le_trans (by decide) hd) (by decide) (Nat.le_refl _) (Nat.le_refl _) wlen rfl (Nat.le_of_ble_eq_true rfl) (fun r_ h_ p125 => ?_)
          obtain ⟨rfl, rfl⟩ := p125
          refine J_i2l dX11_partsOf_43 rfl ?_
          refine J_topl (fun l126 _ => ?_)
          refine J_goto (tgt := 58) dX11_partsOf_44 (by decide) ?_
          refine J_lv [0, 1, 3] rfl ?_
          exact jn121 l126 
  refine J_lv [2, 4, 1, 0] rfl ?_
  exact lp94 _ l2 (0 : Int32) (bd_w (l := 0) (h := 9) (bd_c (v := 0) (lo := 0) (hi := 0) (by decide)) (by decide)) (Nat.lt_succ_self _)
set_option maxHeartbeats 4000000 in
set_option maxRecDepth 100000 in
theorem c_M_allParts {d : Nat} {u : Nat → Nat → Int32} {g : Nat → Nat → Int64} {ex : List MC}  (hd : 0 ≤ d) (hp0 : Bd 0 9 (u 162 22)) : CT con0 d 0 0 yX11_allParts cX11_allParts 4 (some .long) [.ref 162] (Wd u g ex) (fun r h2 => ∃ (z : Int64), r = some (.long z) ∧ h2 = Wd u g ex) := by
  refine CT_of (by decide) (Nat.le_of_ble_eq_true rfl) (fun x hq => ?_)
  show J x yX11_allParts cX11_allParts 4 (some .long) d 0 0 (Wd u g ex).length 0 [(0, .ref 162)] [] (Wd u g ex) 0 0
  refine J_ldc2 (v := 100) dX11_allParts_0 k1587 ?_
  refine J_lstore_n (i := 1) (lw := [(1, .long 100), (0, .ref 162)]) dX11_allParts_3 rfl (by decide) rfl ?_
  refine J_iconst (v := 0) dX11_allParts_4 (by decide) ?_
  refine J_istore_n (i := 3) (lw := [(3, .int 0), (1, .long 100), (0, .ref 162)]) dX11_allParts_5 rfl (by decide) rfl ?_
  have lp14 : ∀ (n15 : Nat) (w9 : Int64) (w10 : Int32), Bd 0 9 w10 → (9 - w10.toInt).toNat < n15 → J x yX11_allParts cX11_allParts 4 (some .long) d 0 0 (Wd u g ex).length 6 [(0, .ref 162), (1, .long w9), (3, .int w10)] [] (Wd u g ex) 0 0 := by
    intro n15
    induction n15 with
    | zero => intro w9 w10 bw10 hm17; exact absurd hm17 (Nat.not_lt_zero _)
    | succ n15 ih16 =>
      intro w9 w10 bw10 hm17
      refine J_iload_n (i := 3) (j := 2) dX11_allParts_6 rfl rfl ?_
      refine J_aload_n (i := 0) (j := 0) dX11_allParts_7 rfl rfl ?_
      refine J_get (C := RX11) (T := TX11) (Z := 43) (ci := 11) (f := 22) dX11_allParts_8 inG11 rfl (by decide) k1286 wc_162 rfl ?_
      refine J_icmp_ge (tgt := 26) dX11_allParts_11 (by decide) (fun c18 => ?_) (fun c18 => ?_)
      · refine J_lload_n (i := 1) (j := 1) dX11_allParts_26 rfl rfl ?_
        exact J_lret hq dX11_allParts_27 rfl wlen (Nat.le_refl _) (Nat.le_refl _) ⟨w9, rfl, rfl⟩
      · refine J_lload_n (i := 1) (j := 1) dX11_allParts_14 rfl rfl ?_
        refine J_ldc2 (v := 10) dX11_allParts_15 k1588 ?_
        refine J_lmul dX11_allParts_18 ?_
        refine J_topl (fun l20 _ => ?_)
        refine J_lstore_n (i := 1) (lw := [(1, .long l20), (0, .ref 162), (3, .int w10)]) dX11_allParts_19 rfl (by decide) rfl ?_
        refine J_iinc (i := 3) (j := 2) (v := (w10 + 1)) (lw := [(3, .int (w10 + 1)), (1, .long l20), (0, .ref 162)]) dX11_allParts_20 rfl rfl (by decide) rfl ?_
        refine J_goto (tgt := 6) dX11_allParts_23 (by decide) ?_
        refine J_lv [2, 1, 0] rfl ?_
        exact ih16 l20 (w10 + 1) (bd_w (l := 0) (h := 9) (bd_add (l := 1) (h := 9) (bd_lt_hi bw10 (i_nle c18) hp0) (bd_c (v := 1) (lo := 1) (hi := 1) (by decide)) (by decide)) (by decide)) (mu_up 1 bw10 rfl (by decide) (bd_w (l := 1) (h := 9) (bd_add (l := 1) (h := 9) (bd_lt_hi bw10 (i_nle c18) hp0) (bd_c (v := 1) (lo := 1) (hi := 1) (by decide)) (by decide)) (by decide)) hm17)
  refine J_lv [2, 1, 0] rfl ?_
  exact lp14 _ (100 : Int64) (0 : Int32) (bd_w (l := 0) (h := 9) (bd_c (v := 0) (lo := 0) (hi := 0) (by decide)) (by decide)) (Nat.lt_succ_self _)
set_option maxHeartbeats 4000000 in
set_option maxRecDepth 100000 in
theorem c_M_meanBy {d : Nat} {u : Nat → Nat → Int32} {g : Nat → Nat → Int64} {ex : List MC} {owner : Int32} (hd : 4 ≤ d) (hp0 : Bd 0 9 (u 162 22)) (hp1 : (RC u)) (hp2 : (DN u)) (hp3 : Bd 0 511 (u 162 31)) : CT con0 d 0 0 yX11_meanBy cX11_meanBy 8 (some .long) [.ref 162, .int owner] (Wd u g ex) (fun r h2 => ∃ (z : Int64) (u2 : Nat → Nat → Int32), r = some (.long z) ∧ h2 = Wd u2 g ex ∧ Bd 0 511 (u2 162 31) ∧ (∀ c, nin c [(162, 162), (173, 175)] = true → u2 c = u c) ∧ (∀ j, j ≠ 31 → j ≠ 32 → j ≠ 33 → u2 162 j = u 162 j)) := by
  refine CT_of (by decide) (Nat.le_of_ble_eq_true rfl) (fun x hq => ?_)
  show J x yX11_meanBy cX11_meanBy 8 (some .long) d 0 0 (Wd u g ex).length 0 [(0, .ref 162), (1, .int owner)] [] (Wd u g ex) 0 0
  refine J_lconst (v := 0) dX11_meanBy_0 (by decide) ?_
  refine J_lstore_n (i := 2) (lw := [(2, .long 0), (0, .ref 162), (1, .int owner)]) dX11_meanBy_1 rfl (by decide) rfl ?_
  refine J_iconst (v := 0) dX11_meanBy_2 (by decide) ?_
  refine J_istore (i := 4) (lw := [(4, .int 0), (2, .long 0), (0, .ref 162), (1, .int owner)]) dX11_meanBy_3 (by decide) rfl ?_
  have lp4631 : ∀ (n4632 : Nat) (w3472 : Int64) (w3473 : Int32) (u3474 : Nat → Nat → Int32), Bd 0 4 w3473 → (∀ c, nin c [(162, 162), (173, 175)] = true → u3474 c = u c) → (∀ j, j ≠ 31 → j ≠ 32 → j ≠ 33 → u3474 162 j = u 162 j) → Bd 0 511 (u3474 162 31) → (4 - w3473.toInt).toNat < n4632 → J x yX11_meanBy cX11_meanBy 8 (some .long) d 0 0 (Wd u g ex).length 5 [(0, .ref 162), (1, .int owner), (2, .long w3472), (4, .int w3473)] [] (Wd u3474 g ex) 0 0 := by
    intro n4632
    induction n4632 with
    | zero => intro w3472 w3473 u3474 bw3473 fr3475 fc3476 bm3477 hm4634; exact absurd hm4634 (Nat.not_lt_zero _)
    | succ n4632 ih4633 =>
      intro w3472 w3473 u3474 bw3473 fr3475 fc3476 bm3477 hm4634
      refine J_iload (i := 4) (j := 3) dX11_meanBy_5 rfl ?_
      refine J_aload_n (i := 0) (j := 0) dX11_meanBy_7 rfl rfl ?_
      refine J_get (C := RX11) (T := TX11) (Z := 43) (ci := 11) (f := 21) dX11_meanBy_8 inG11 rfl (by decide) k1285 wc_162 rfl ?_
      refine J_iconst (v := 1) dX11_meanBy_11 (by decide) ?_
      refine J_iald dX11_meanBy_12 wc_172 (vin (bd_c (v := 1) (lo := 1) (hi := 1) (by decide)) (by decide)) ?_
      refine J_ci (v := u 172 1) (congrFun (fr3475 172 rfl) 1) ?_
      refine J_icmp_ge (tgt := 83) dX11_meanBy_13 (by decide) (fun c4635 => ?_) (fun c4635 => ?_)
      · refine J_lload_n (i := 2) (j := 2) dX11_meanBy_83 rfl rfl ?_
        exact J_lret hq dX11_meanBy_84 rfl wlen (Nat.le_refl _) (Nat.le_refl _) ⟨w3472, u3474, rfl, rfl, bm3477, (fun c k_ => (fr3475 c (nin_sub (M := [(162, 162), (173, 175)]) k_ rfl))), (fun j k31_ k32_ k33_ => (fc3476 j k31_ k32_ k33_))⟩
      · refine J_iconst (v := 0) dX11_meanBy_16 (by decide) ?_
        refine J_istore (i := 5) (lw := [(5, .int 0), (0, .ref 162), (1, .int owner), (2, .long w3472), (4, .int w3473)]) dX11_meanBy_17 (by decide) rfl ?_
        have lp5717 : ∀ (n5718 : Nat) (w5644 : Int64) (w5645 : Int32) (u5646 : Nat → Nat → Int32), Bd 0 512 w5645 → (∀ c, nin c [(162, 162), (173, 175)] = true → u5646 c = u3474 c) → (∀ j, j ≠ 31 → j ≠ 32 → j ≠ 33 → u5646 162 j = u3474 162 j) → Bd 0 511 (u5646 162 31) → (512 - w5645.toInt).toNat < n5718 → J x yX11_meanBy cX11_meanBy 8 (some .long) d 0 0 (Wd u g ex).length 19 [(0, .ref 162), (1, .int owner), (2, .long w5644), (4, .int w3473), (5, .int w5645)] [] (Wd u5646 g ex) 0 0 := by
          intro n5718
          induction n5718 with
          | zero => intro w5644 w5645 u5646 bw5645 fr5647 fc5648 bm5649 hm5720; exact absurd hm5720 (Nat.not_lt_zero _)
          | succ n5718 ih5719 =>
            intro w5644 w5645 u5646 bw5645 fr5647 fc5648 bm5649 hm5720
            refine J_iload (i := 5) (j := 4) dX11_meanBy_19 rfl ?_
            refine J_iconst (v := 1) dX11_meanBy_21 (by decide) ?_
            refine J_aload_n (i := 0) (j := 0) dX11_meanBy_22 rfl rfl ?_
            refine J_get (C := RX11) (T := TX11) (Z := 43) (ci := 11) (f := 22) dX11_meanBy_23 inG11 rfl (by decide) k1286 wc_162 rfl ?_
            refine J_ci (v := u 162 22) ((fc5648 22 (Nat.ne_of_beq_eq_false rfl) (Nat.ne_of_beq_eq_false rfl) (Nat.ne_of_beq_eq_false rfl)).trans (fc3476 22 (Nat.ne_of_beq_eq_false rfl) (Nat.ne_of_beq_eq_false rfl) (Nat.ne_of_beq_eq_false rfl))) ?_
            refine J_ishl dX11_meanBy_26 ?_
            refine J_icmp_ge (tgt := 77) dX11_meanBy_27 (by decide) (fun c5721 => ?_) (fun c5721 => ?_)
            · refine J_iinc (i := 4) (j := 3) (v := (w3473 + 1)) (lw := [(4, .int (w3473 + 1)), (0, .ref 162), (1, .int owner), (2, .long w5644), (5, .int w5645)]) dX11_meanBy_77 rfl rfl (by decide) rfl ?_
              refine J_goto (tgt := 5) dX11_meanBy_80 (by decide) ?_
              refine J_lv [1, 2, 3, 0] rfl ?_
              exact ih4633 w5644 (w3473 + 1) u5646 (bd_w (l := 0) (h := 4) (bd_add (l := 1) (h := 4) (bd_lt_hi bw3473 (i_nle c4635) (hp1).1) (bd_c (v := 1) (lo := 1) (hi := 1) (by decide)) (by decide)) (by decide)) (fun c k_ => ((fr5647 c (nin_sub (M := [(162, 162), (173, 175)]) k_ rfl)).trans (fr3475 c (nin_sub (M := [(162, 162), (173, 175)]) k_ rfl)))) (fun j k31_ k32_ k33_ => ((fc5648 j k31_ k32_ k33_).trans (fc3476 j k31_ k32_ k33_))) bm5649 (mu_up 1 bw3473 rfl (by decide) (bd_w (l := 1) (h := 4) (bd_add (l := 1) (h := 4) (bd_lt_hi bw3473 (i_nle c4635) (hp1).1) (bd_c (v := 1) (lo := 1) (hi := 1) (by decide)) (by decide)) (by decide)) hm4634)
            · refine J_aload_n (i := 0) (j := 0) dX11_meanBy_30 rfl rfl ?_
              refine J_iload (i := 4) (j := 3) dX11_meanBy_31 rfl ?_
              refine J_iload (i := 5) (j := 4) dX11_meanBy_33 rfl ?_
              refine J_callV (As := [.int w3473, .int w5645]) (rest := []) dX11_meanBy_35 (c_M_partsOf (d := 1) (u := u5646) (g := g) (ex := ex) (rain := w3473) (banks := w5645)  (by decide) (bd_r ((fc5648 22 (Nat.ne_of_beq_eq_false rfl) (Nat.ne_of_beq_eq_false rfl) (Nat.ne_of_beq_eq_false rfl)).trans (fc3476 22 (Nat.ne_of_beq_eq_false rfl) (Nat.ne_of_beq_eq_false rfl) (Nat.ne_of_beq_eq_false rfl))) hp0) (bd_w (l := (-1)) (h := 75) (bd_lt_hi bw3473 (i_nle c4635) (hp1).1) (by decide))) hq.n k1579 k1581 k66 wc_162 rfl rfl k97 k1582 np_X11_partsOf (Nat.le_trans (by decide) hd) (by decide) (Nat.le_refl _) (Nat.le_refl _) wlen rfl (Nat.le_of_ble_eq_true rfl) (fun r_ h_ p5755 => ?_)
              obtain ⟨l5756, rfl, rfl⟩ := p5755
              refine J_lstore (i := 6) (lw := [(6, .long l5756), (0, .ref 162), (1, .int owner), (2, .long w5644), (4, .int w3473), (5, .int w5645)]) dX11_meanBy_38 (by decide) rfl ?_
              refine J_lload (i := 6) (j := 0) dX11_meanBy_40 rfl ?_
              refine J_lconst (v := 0) dX11_meanBy_42 (by decide) ?_
              refine J_lcmp dX11_meanBy_43 ?_
              have jn5775 : ∀ (w5770 : Int64) (u5771 : Nat → Nat → Int32), (∀ c, nin c [(162, 162), (173, 175)] = true → u5771 c = u5646 c) → (∀ j, j ≠ 31 → j ≠ 32 → j ≠ 33 → u5771 162 j = u5646 162 j) → Bd 0 511 (u5771 162 31) → J x yX11_meanBy cX11_meanBy 8 (some .long) d 0 0 (Wd u g ex).length 71 [(0, .ref 162), (1, .int owner), (2, .long w5770), (4, .int w3473), (5, .int w5645)] [] (Wd u5771 g ex) 0 0 := by
                intro w5770 u5771 fr5772 fc5773 bm5774
                refine J_iinc (i := 5) (j := 4) (v := (w5645 + 1)) (lw := [(5, .int (w5645 + 1)), (0, .ref 162), (1, .int owner), (2, .long w5770), (4, .int w3473)]) dX11_meanBy_71 rfl rfl (by decide) rfl ?_
                refine J_goto (tgt := 19) dX11_meanBy_74 (by decide) ?_
                refine J_lv [1, 2, 3, 4, 0] rfl ?_
                exact ih5719 w5770 (w5645 + 1) u5771 (bd_w (l := 0) (h := 512) (bd_add (l := 1) (h := 512) (bd_lt_hi bw5645 (i_nle c5721) (bd_shl (lo := 0) (hi := 9) (l := 1) (h := 512) hp0 (by decide))) (bd_c (v := 1) (lo := 1) (hi := 1) (by decide)) (by decide)) (by decide)) (fun c k_ => ((fr5772 c (nin_sub (M := [(162, 162), (173, 175)]) k_ rfl)).trans (fr5647 c (nin_sub (M := [(162, 162), (173, 175)]) k_ rfl)))) (fun j k31_ k32_ k33_ => ((fc5773 j k31_ k32_ k33_).trans (fc5648 j k31_ k32_ k33_))) bm5774 (mu_up 1 bw5645 rfl (by decide) (bd_w (l := 1) (h := 512) (bd_add (l := 1) (h := 512) (bd_lt_hi bw5645 (i_nle c5721) (bd_shl (lo := 0) (hi := 9) (l := 1) (h := 512) hp0 (by decide))) (bd_c (v := 1) (lo := 1) (hi := 1) (by decide)) (by decide)) (by decide)) hm5720)
              refine J_if_le (tgt := 71) dX11_meanBy_44 (by decide) (fun c5757 => ?_) (fun c5757 => ?_)
              · refine J_lv [1, 2, 3, 4, 5] rfl ?_
                exact jn5775 w5644 u5646 (fun c k_ => rfl) (fun j k31_ k32_ k33_ => rfl) bm5649
              · refine J_aload_n (i := 0) (j := 1) dX11_meanBy_47 rfl rfl ?_
                refine J_aload_n (i := 0) (j := 1) dX11_meanBy_48 rfl rfl ?_
                refine J_iload (i := 4) (j := 4) dX11_meanBy_49 rfl ?_
                refine J_callV (As := [.int w3473]) (rest := [.ref 162]) dX11_meanBy_51 (c_M_stepsOf (d := 0) (u := u5646) (g := g) (ex := ex) (rain := w3473)  (by decide) (bd_w (l := 0) (h := 75) (bd_lt_hi bw3473 (i_nle c4635) (hp1).1) (by decide))) hq.n k1547 k1549 k60 wc_162 rfl rfl k97 k1550 np_X11_stepsOf (Nat.le_trans (by decide) hd) (by decide) (Nat.le_refl _) (Nat.le_refl _) wlen rfl (Nat.le_of_ble_eq_true rfl) (fun r_ h_ p5776 => ?_)
                obtain ⟨v5777, rfl, rfl⟩ := p5776
                refine J_iload (i := 5) (j := 5) dX11_meanBy_54 rfl ?_
                refine J_callV (As := [.int v5777, .int w5645]) (rest := []) dX11_meanBy_56 (c_M_blow (d := 3) (u := u5646) (g := g) (ex := ex) (steps := v5777) (banks := w5645)  (by decide) (bd_r ((fc5648 22 (Nat.ne_of_beq_eq_false rfl) (Nat.ne_of_beq_eq_false rfl) (Nat.ne_of_beq_eq_false rfl)).trans (fc3476 22 (Nat.ne_of_beq_eq_false rfl) (Nat.ne_of_beq_eq_false rfl) (Nat.ne_of_beq_eq_false rfl))) hp0) (dn_c ((fr5647 172 rfl).trans (fr3475 172 rfl)) hp2)) hq.n k1551 k1553 k61 wc_162 rfl rfl k97 k1554 np_X11_blow (Nat.le_trans (by decide) hd) (by decide) (Nat.le_refl _) (Nat.le_refl _) wlen rfl (Nat.le_of_ble_eq_true rfl) (fun r_ h_ p5778 => ?_)
                obtain ⟨u5779, rfl, rfl, h5780, fr5781, fc5782⟩ := p5778
                refine J_lload_n (i := 2) (j := 3) dX11_meanBy_59 rfl rfl ?_
                refine J_lload (i := 6) (j := 0) dX11_meanBy_60 rfl ?_
                refine J_aload_n (i := 0) (j := 1) dX11_meanBy_62 rfl rfl ?_
                refine J_iload_n (i := 1) (j := 2) dX11_meanBy_63 rfl rfl ?_
                refine J_callV (As := [.int owner]) (rest := [.long l5756, .long w5644]) dX11_meanBy_64 (c_M_harmOf (d := 1) (u := u5779) (g := g) (ex := ex) (owner := owner)  (by decide) (bd_r ((fc5782 22 (Nat.ne_of_beq_eq_false rfl) (Nat.ne_of_beq_eq_false rfl) (Nat.ne_of_beq_eq_false rfl)).trans ((fc5648 22 (Nat.ne_of_beq_eq_false rfl) (Nat.ne_of_beq_eq_false rfl) (Nat.ne_of_beq_eq_false rfl)).trans (fc3476 22 (Nat.ne_of_beq_eq_false rfl) (Nat.ne_of_beq_eq_false rfl) (Nat.ne_of_beq_eq_false rfl)))) hp0)) hq.n k1570 k1572 k65 wc_162 rfl rfl k97 k1573 np_X11_harmOf (Nat.le_trans (by decide) hd) (by decide) (Nat.le_refl _) (Nat.le_refl _) wlen rfl (Nat.le_of_ble_eq_true rfl) (fun r_ h_ p5783 => ?_)
                obtain ⟨v5784, rfl, rfl⟩ := p5783
                refine J_i2l dX11_meanBy_67 rfl ?_
                refine J_topl (fun l5785 _ => ?_)
                refine J_lmul dX11_meanBy_68 ?_
                refine J_topl (fun l5786 _ => ?_)
                refine J_ladd dX11_meanBy_69 ?_
                refine J_topl (fun l5787 _ => ?_)
                refine J_lstore_n (i := 2) (lw := [(2, .long l5787), (6, .long l5756), (0, .ref 162), (1, .int owner), (4, .int w3473), (5, .int w5645)]) dX11_meanBy_70 rfl (by decide) rfl ?_
                refine J_lv [2, 3, 0, 4, 5] rfl ?_
                exact jn5775 l5787 u5779 (fun c k_ => (fr5781 c (nin_sub (M := [(162, 162), (173, 175)]) k_ rfl))) (fun j k31_ k32_ k33_ => (fc5782 j k31_ k32_ k33_)) h5780
        refine J_lv [1, 2, 3, 4, 0] rfl ?_
        exact lp5717 _ w3472 (0 : Int32) u3474 (bd_w (l := 0) (h := 512) (bd_c (v := 0) (lo := 0) (hi := 0) (by decide)) (by decide)) (fun c k_ => rfl) (fun j k31_ k32_ k33_ => rfl) bm3477 (Nat.lt_succ_self _)
  refine J_lv [2, 3, 1, 0] rfl ?_
  exact lp4631 _ (0 : Int64) (0 : Int32) u (bd_w (l := 0) (h := 4) (bd_c (v := 0) (lo := 0) (hi := 0) (by decide)) (by decide)) (fun c k_ => rfl) (fun j k31_ k32_ k33_ => rfl) hp3 (Nat.lt_succ_self _)
set_option maxHeartbeats 4000000 in
set_option maxRecDepth 100000 in
theorem c_M_keepChances {d : Nat} {u : Nat → Nat → Int32} {g : Nat → Nat → Int64} {ex : List MC}  (hd : 1 ≤ d) (hp0 : Bd 0 9 (u 162 22)) (hp1 : AB u 172 (-1) 999) (hp2 : AB u 177 (-1) 999) : CT con0 d 0 0 yX11_keepChances cX11_keepChances 2 none [.ref 162] (Wd u g ex) (fun r h2 => ∃ (u2 : Nat → Nat → Int32), r = none ∧ h2 = Wd u2 g ex ∧ AB u2 177 (-1) 999 ∧ (∀ c, c ≠ 177 → u2 c = u c)) := by
  refine CT_of (by decide) (Nat.le_of_ble_eq_true rfl) (fun x hq => ?_)
  show J x yX11_keepChances cX11_keepChances 2 none d 0 0 (Wd u g ex).length 0 [(0, .ref 162)] [] (Wd u g ex) 0 0
  refine J_iconst (v := 0) dX11_keepChances_0 (by decide) ?_
  refine J_istore_n (i := 1) (lw := [(1, .int 0), (0, .ref 162)]) dX11_keepChances_1 rfl (by decide) rfl ?_
  have lp21 : ∀ (n22 : Nat) (w13 : Int32) (u14 : Nat → Nat → Int32), Bd 0 9 w13 → (∀ c, c ≠ 177 → u14 c = u c) → AB u14 177 (-1) 999 → (9 - w13.toInt).toNat < n22 → J x yX11_keepChances cX11_keepChances 2 none d 0 0 (Wd u g ex).length 2 [(0, .ref 162), (1, .int w13)] [] (Wd u14 g ex) 0 0 := by
    intro n22
    induction n22 with
    | zero => intro w13 u14 bw13 fr15 ab16 hm24; exact absurd hm24 (Nat.not_lt_zero _)
    | succ n22 ih23 =>
      intro w13 u14 bw13 fr15 ab16 hm24
      refine J_iload_n (i := 1) (j := 1) dX11_keepChances_2 rfl rfl ?_
      refine J_aload_n (i := 0) (j := 0) dX11_keepChances_3 rfl rfl ?_
      refine J_get (C := RX11) (T := TX11) (Z := 43) (ci := 11) (f := 22) dX11_keepChances_4 inG11 rfl (by decide) k1286 wc_162 rfl ?_
      refine J_ci (v := u 162 22) (congrFun (fr15 162 (Nat.ne_of_beq_eq_false rfl)) 22) ?_
      refine J_icmp_ge (tgt := 28) dX11_keepChances_7 (by decide) (fun c25 => ?_) (fun c25 => ?_)
      · exact J_vret hq dX11_keepChances_28 rfl wlen (Nat.le_refl _) (Nat.le_refl _) ⟨u14, rfl, rfl, ab16, (fun c k0_ => (fr15 c k0_))⟩
      · refine J_aload_n (i := 0) (j := 0) dX11_keepChances_10 rfl rfl ?_
        refine J_get (C := RX11) (T := TX11) (Z := 43) (ci := 11) (f := 35) dX11_keepChances_11 inG11 rfl (by decide) k1299 wc_162 rfl ?_
        refine J_iload_n (i := 1) (j := 1) dX11_keepChances_14 rfl rfl ?_
        refine J_aload_n (i := 0) (j := 0) dX11_keepChances_15 rfl rfl ?_
        refine J_iload_n (i := 1) (j := 1) dX11_keepChances_16 rfl rfl ?_
        refine J_iconst (v := 4) dX11_keepChances_17 (by decide) ?_
        refine J_callV (As := [.int w13, .int 4]) (rest := [.int w13, .ref 177]) dX11_keepChances_18 (c_M_of (d := 0) (u := u14) (g := g) (ex := ex) (p := w13) (what := 4)  (by decide) (bd_lt_hi bw13 (i_nle c25) hp0) (bd_w (l := 0) (h := 15) (bd_c (v := 4) (lo := 4) (hi := 4) (by decide)) (by decide))) hq.n k1515 k1517 k55 wc_162 rfl rfl k97 k1518 np_X11_of (Nat.le_trans (by decide) hd) (by decide) (Nat.le_refl _) (Nat.le_refl _) wlen rfl (Nat.le_of_ble_eq_true rfl) (fun r_ h_ p26 => ?_)
        obtain ⟨rfl, rfl⟩ := p26
        refine J_ci (v := (mof u w13 (4 : Int32))) (mof_c (fr15 172 (Nat.ne_of_beq_eq_false rfl))) ?_
        obtain ⟨u27, e28⟩ : ∃ z, z = ms u14 177 w13.toNatClampNeg (mof u w13 (4 : Int32)) := ⟨_, rfl⟩
        refine J_iast dX11_keepChances_21 wc_177 (vin (bd_lt_hi bw13 (i_nle c25) hp0) (by decide)) (ws e28 wk_177 rfl) ?_
        refine J_iinc (i := 1) (j := 1) (v := (w13 + 1)) (lw := [(1, .int (w13 + 1)), (0, .ref 162)]) dX11_keepChances_22 rfl rfl (by decide) rfl ?_
        refine J_goto (tgt := 2) dX11_keepChances_25 (by decide) ?_
        refine J_lv [1, 0] rfl ?_
        exact ih23 (w13 + 1) u27 (bd_w (l := 0) (h := 9) (bd_add (l := 1) (h := 9) (bd_lt_hi bw13 (i_nle c25) hp0) (bd_c (v := 1) (lo := 1) (hi := 1) (by decide)) (by decide)) (by decide)) (fun c k0_ => ((ms_c e28 k0_).trans (fr15 c k0_))) (ab_s e28 ab16 (hp1 _)) (mu_up 1 bw13 rfl (by decide) (bd_w (l := 1) (h := 9) (bd_add (l := 1) (h := 9) (bd_lt_hi bw13 (i_nle c25) hp0) (bd_c (v := 1) (lo := 1) (hi := 1) (by decide)) (by decide)) (by decide)) hm24)
  refine J_lv [1, 0] rfl ?_
  exact lp21 _ (0 : Int32) u (bd_w (l := 0) (h := 9) (bd_c (v := 0) (lo := 0) (hi := 0) (by decide)) (by decide)) (fun c k0_ => rfl) hp2 (Nat.lt_succ_self _)
set_option maxHeartbeats 4000000 in
set_option maxRecDepth 100000 in
theorem c_M_costOf {d : Nat} {u : Nat → Nat → Int32} {g : Nat → Nat → Int64} {ex : List MC} {set : Int32} (hd : 1 ≤ d) (hp0 : Bd 0 9 (u 162 22)) : CT con0 d 0 0 yX11_costOf cX11_costOf 4 (some .int) [.ref 162, .int set] (Wd u g ex) (fun r h2 => ∃ (z : Int32), r = some (.int z) ∧ h2 = Wd u g ex) := by
  refine CT_of (by decide) (Nat.le_of_ble_eq_true rfl) (fun x hq => ?_)
  show J x yX11_costOf cX11_costOf 4 (some .int) d 0 0 (Wd u g ex).length 0 [(0, .ref 162), (1, .int set)] [] (Wd u g ex) 0 0
  refine J_iconst (v := 0) dX11_costOf_0 (by decide) ?_
  refine J_istore_n (i := 2) (lw := [(2, .int 0), (0, .ref 162), (1, .int set)]) dX11_costOf_1 rfl (by decide) rfl ?_
  refine J_iconst (v := 0) dX11_costOf_2 (by decide) ?_
  refine J_istore_n (i := 3) (lw := [(3, .int 0), (2, .int 0), (0, .ref 162), (1, .int set)]) dX11_costOf_3 rfl (by decide) rfl ?_
  have lp46 : ∀ (n47 : Nat) (w29 : Int32) (w30 : Int32), Bd 0 9 w30 → (9 - w30.toInt).toNat < n47 → J x yX11_costOf cX11_costOf 4 (some .int) d 0 0 (Wd u g ex).length 4 [(0, .ref 162), (1, .int set), (2, .int w29), (3, .int w30)] [] (Wd u g ex) 0 0 := by
    intro n47
    induction n47 with
    | zero => intro w29 w30 bw30 hm49; exact absurd hm49 (Nat.not_lt_zero _)
    | succ n47 ih48 =>
      intro w29 w30 bw30 hm49
      refine J_iload_n (i := 3) (j := 3) dX11_costOf_4 rfl rfl ?_
      refine J_aload_n (i := 0) (j := 0) dX11_costOf_5 rfl rfl ?_
      refine J_get (C := RX11) (T := TX11) (Z := 43) (ci := 11) (f := 22) dX11_costOf_6 inG11 rfl (by decide) k1286 wc_162 rfl ?_
      refine J_icmp_ge (tgt := 46) dX11_costOf_9 (by decide) (fun c50 => ?_) (fun c50 => ?_)
      · refine J_iload_n (i := 2) (j := 2) dX11_costOf_46 rfl rfl ?_
        exact J_iret hq dX11_costOf_47 rfl wlen (Nat.le_refl _) (Nat.le_refl _) ⟨w29, rfl, rfl⟩
      · refine J_iload_n (i := 2) (j := 2) dX11_costOf_12 rfl rfl ?_
        refine J_iload_n (i := 1) (j := 1) dX11_costOf_13 rfl rfl ?_
        refine J_iload_n (i := 3) (j := 3) dX11_costOf_14 rfl rfl ?_
        refine J_callS (As := [.int set, .int w30]) (rest := [.int w29]) dX11_costOf_15 (c_M_has (d := 0) (u := u) (g := g) (ex := ex) (set := set) (k := w30)  (by decide) ) hq.n k1555 k1556 k97 k1557 np_X11_has (Nat.le_trans (by decide) hd) (by decide) (Nat.le_refl _) (Nat.le_refl _) wlen rfl (Nat.le_of_ble_eq_true rfl) (fun r_ h_ p58 => ?_)
        obtain ⟨t59, rfl, rfl⟩ := p58
        have jn63 : ∀ (w62 : Int32), J x yX11_costOf cX11_costOf 4 (some .int) d 0 0 (Wd u g ex).length 38 [(0, .ref 162), (1, .int set), (3, .int w30)] [.int w62, .int w29] (Wd u g ex) 0 0 := by
          intro w62
          refine J_iadd dX11_costOf_38 ?_
          refine J_istore_n (i := 2) (lw := [(2, .int (w29 + w62)), (0, .ref 162), (1, .int set), (3, .int w30)]) dX11_costOf_39 rfl (by decide) rfl ?_
          refine J_iinc (i := 3) (j := 3) (v := (w30 + 1)) (lw := [(3, .int (w30 + 1)), (2, .int (w29 + w62)), (0, .ref 162), (1, .int set)]) dX11_costOf_40 rfl rfl (by decide) rfl ?_
          refine J_goto (tgt := 4) dX11_costOf_43 (by decide) ?_
          refine J_lv [2, 3, 1, 0] rfl ?_
          exact ih48 (w29 + w62) (w30 + 1) (bd_w (l := 0) (h := 9) (bd_add (l := 1) (h := 9) (bd_lt_hi bw30 (i_nle c50) hp0) (bd_c (v := 1) (lo := 1) (hi := 1) (by decide)) (by decide)) (by decide)) (mu_up 1 bw30 rfl (by decide) (bd_w (l := 1) (h := 9) (bd_add (l := 1) (h := 9) (bd_lt_hi bw30 (i_nle c50) hp0) (bd_c (v := 1) (lo := 1) (hi := 1) (by decide)) (by decide)) (by decide)) hm49)
        refine J_ifB_eq (tgt := 37) dX11_costOf_18 (by decide) (fun c60 => ?_) (fun c60 => ?_)
        · refine J_iconst (v := 0) dX11_costOf_37 (by decide) ?_
          refine J_lv [0, 1, 3] rfl ?_
          exact jn63 (0 : Int32) 
        · refine J_aload_n (i := 0) (j := 0) dX11_costOf_21 rfl rfl ?_
          refine J_get (C := RX11) (T := TX11) (Z := 43) (ci := 11) (f := 35) dX11_costOf_22 inG11 rfl (by decide) k1299 wc_162 rfl ?_
          refine J_iload_n (i := 3) (j := 3) dX11_costOf_25 rfl rfl ?_
          refine J_iald dX11_costOf_26 wc_177 (vin (bd_lt_hi bw30 (i_nle c50) hp0) (by decide)) ?_
          refine J_topi (fun v64 qv64 => ?_)
          refine J_aload_n (i := 0) (j := 0) dX11_costOf_27 rfl rfl ?_
          refine J_get (C := RX11) (T := TX11) (Z := 43) (ci := 11) (f := 21) dX11_costOf_28 inG11 rfl (by decide) k1285 wc_162 rfl ?_
          refine J_iconst (v := 2) dX11_costOf_31 (by decide) ?_
          refine J_iald dX11_costOf_32 wc_172 (vin (bd_c (v := 2) (lo := 2) (hi := 2) (by decide)) (by decide)) ?_
          refine J_ci (v := u 172 2) rfl ?_
          refine J_imul dX11_costOf_33 ?_
          refine J_goto (tgt := 38) dX11_costOf_34 (by decide) ?_
          refine J_lv [0, 1, 3] rfl ?_
          exact jn63 (v64 * (u 172 2)) 
  refine J_lv [2, 3, 1, 0] rfl ?_
  exact lp46 _ (0 : Int32) (0 : Int32) (bd_w (l := 0) (h := 9) (bd_c (v := 0) (lo := 0) (hi := 0) (by decide)) (by decide)) (Nat.lt_succ_self _)
set_option maxHeartbeats 4000000 in
set_option maxRecDepth 100000 in
theorem c_M_pondsOf {d : Nat} {u : Nat → Nat → Int32} {g : Nat → Nat → Int64} {ex : List MC} {owner : Int32} (hd : 1 ≤ d) (hp0 : Bd 0 9 (u 162 22)) : CT con0 d 0 0 yX11_pondsOf cX11_pondsOf 4 (some .int) [.ref 162, .int owner] (Wd u g ex) (fun r h2 => ∃ (z : Int32), r = some (.int z) ∧ h2 = Wd u g ex) := by
  refine CT_of (by decide) (Nat.le_of_ble_eq_true rfl) (fun x hq => ?_)
  show J x yX11_pondsOf cX11_pondsOf 4 (some .int) d 0 0 (Wd u g ex).length 0 [(0, .ref 162), (1, .int owner)] [] (Wd u g ex) 0 0
  refine J_iconst (v := 0) dX11_pondsOf_0 (by decide) ?_
  refine J_istore_n (i := 2) (lw := [(2, .int 0), (0, .ref 162), (1, .int owner)]) dX11_pondsOf_1 rfl (by decide) rfl ?_
  refine J_iconst (v := 0) dX11_pondsOf_2 (by decide) ?_
  refine J_istore_n (i := 3) (lw := [(3, .int 0), (2, .int 0), (0, .ref 162), (1, .int owner)]) dX11_pondsOf_3 rfl (by decide) rfl ?_
  have lp43 : ∀ (n44 : Nat) (w32 : Int32) (w33 : Int32), Bd 0 511 w32 → Bd 0 9 w33 → (9 - w33.toInt).toNat < n44 → J x yX11_pondsOf cX11_pondsOf 4 (some .int) d 0 0 (Wd u g ex).length 4 [(0, .ref 162), (1, .int owner), (2, .int w32), (3, .int w33)] [] (Wd u g ex) 0 0 := by
    intro n44
    induction n44 with
    | zero => intro w32 w33 bw32 bw33 hm46; exact absurd hm46 (Nat.not_lt_zero _)
    | succ n44 ih45 =>
      intro w32 w33 bw32 bw33 hm46
      refine J_iload_n (i := 3) (j := 3) dX11_pondsOf_4 rfl rfl ?_
      refine J_aload_n (i := 0) (j := 0) dX11_pondsOf_5 rfl rfl ?_
      refine J_get (C := RX11) (T := TX11) (Z := 43) (ci := 11) (f := 22) dX11_pondsOf_6 inG11 rfl (by decide) k1286 wc_162 rfl ?_
      refine J_icmp_ge (tgt := 39) dX11_pondsOf_9 (by decide) (fun c47 => ?_) (fun c47 => ?_)
      · refine J_iload_n (i := 2) (j := 2) dX11_pondsOf_39 rfl rfl ?_
        exact J_iret hq dX11_pondsOf_40 rfl wlen (Nat.le_refl _) (Nat.le_refl _) ⟨w32, rfl, rfl⟩
      · refine J_iload_n (i := 2) (j := 2) dX11_pondsOf_12 rfl rfl ?_
        refine J_aload_n (i := 0) (j := 0) dX11_pondsOf_13 rfl rfl ?_
        refine J_iload_n (i := 3) (j := 3) dX11_pondsOf_14 rfl rfl ?_
        refine J_bipush (v := 6) dX11_pondsOf_15 (by decide) ?_
        refine J_callV (As := [.int w33, .int 6]) (rest := [.int w32]) dX11_pondsOf_17 (c_M_of (d := 0) (u := u) (g := g) (ex := ex) (p := w33) (what := 6)  (by decide) (bd_lt_hi bw33 (i_nle c47) hp0) (bd_w (l := 0) (h := 15) (bd_c (v := 6) (lo := 6) (hi := 6) (by decide)) (by decide))) hq.n k1515 k1517 k55 wc_162 rfl rfl k97 k1518 np_X11_of (Nat.le_trans (by decide) hd) (by decide) (Nat.le_refl _) (Nat.le_refl _) wlen rfl (Nat.le_of_ble_eq_true rfl) (fun r_ h_ p52 => ?_)
        obtain ⟨rfl, rfl⟩ := p52
        refine J_iload_n (i := 1) (j := 1) dX11_pondsOf_20 rfl rfl ?_
        have jn55 : ∀ (w54 : Int32), Bd 0 256 w54 → J x yX11_pondsOf cX11_pondsOf 4 (some .int) d 0 0 (Wd u g ex).length 31 [(0, .ref 162), (1, .int owner), (3, .int w33)] [.int w54, .int w32] (Wd u g ex) 0 0 := by
          intro w54 bw54
          refine J_ior dX11_pondsOf_31 ?_
          refine J_istore_n (i := 2) (lw := [(2, .int (w32 ||| w54)), (0, .ref 162), (1, .int owner), (3, .int w33)]) dX11_pondsOf_32 rfl (by decide) rfl ?_
          refine J_iinc (i := 3) (j := 3) (v := (w33 + 1)) (lw := [(3, .int (w33 + 1)), (2, .int (w32 ||| w54)), (0, .ref 162), (1, .int owner)]) dX11_pondsOf_33 rfl rfl (by decide) rfl ?_
          refine J_goto (tgt := 4) dX11_pondsOf_36 (by decide) ?_
          refine J_lv [2, 3, 1, 0] rfl ?_
          exact ih45 (w32 ||| w54) (w33 + 1) (bd_or (k := 9) (h := 511) bw32 bw54 (by decide)) (bd_w (l := 0) (h := 9) (bd_add (l := 1) (h := 9) (bd_lt_hi bw33 (i_nle c47) hp0) (bd_c (v := 1) (lo := 1) (hi := 1) (by decide)) (by decide)) (by decide)) (mu_up 1 bw33 rfl (by decide) (bd_w (l := 1) (h := 9) (bd_add (l := 1) (h := 9) (bd_lt_hi bw33 (i_nle c47) hp0) (bd_c (v := 1) (lo := 1) (hi := 1) (by decide)) (by decide)) (by decide)) hm46)
        refine J_icmp_ne (tgt := 30) dX11_pondsOf_21 (by decide) (fun c53 => ?_) (fun c53 => ?_)
        · refine J_iconst (v := 0) dX11_pondsOf_30 (by decide) ?_
          refine J_lv [0, 1, 3] rfl ?_
          exact jn55 (0 : Int32) (bd_w (l := 0) (h := 256) (bd_c (v := 0) (lo := 0) (hi := 0) (by decide)) (by decide))
        · refine J_iconst (v := 1) dX11_pondsOf_24 (by decide) ?_
          refine J_iload_n (i := 3) (j := 3) dX11_pondsOf_25 rfl rfl ?_
          refine J_ishl dX11_pondsOf_26 ?_
          refine J_goto (tgt := 31) dX11_pondsOf_27 (by decide) ?_
          refine J_lv [0, 1, 3] rfl ?_
          exact jn55 ((1 : Int32) <<< (w33 &&& 31)) (bd_w (l := 0) (h := 256) (bd_shl (lo := 0) (hi := 8) (l := 1) (h := 256) (bd_lt_hi bw33 (i_nle c47) hp0) (by decide)) (by decide))
  refine J_lv [2, 3, 1, 0] rfl ?_
  exact lp43 _ (0 : Int32) (0 : Int32) (bd_w (l := 0) (h := 511) (bd_c (v := 0) (lo := 0) (hi := 0) (by decide)) (by decide)) (bd_w (l := 0) (h := 9) (bd_c (v := 0) (lo := 0) (hi := 0) (by decide)) (by decide)) (Nat.lt_succ_self _)
set_option maxHeartbeats 4000000 in
set_option maxRecDepth 100000 in
theorem c_M_isSooner {d : Nat} {u : Nat → Nat → Int32} {g : Nat → Nat → Int64} {ex : List MC} {by0 : Int64} {its : Int32} {fall : Int64} {cost : Int32} (hd : 0 ≤ d)  : CT con0 d 0 0 yX11_isSooner cX11_isSooner 6 (some .boolean) [.long by0, .int its, .long fall, .int cost] (Wd u g ex) (fun r h2 => ∃ (z : Bool), r = some (.int (bI z)) ∧ h2 = Wd u g ex) := by
  refine CT_of (by decide) (Nat.le_of_ble_eq_true rfl) (fun x hq => ?_)
  show J x yX11_isSooner cX11_isSooner 6 (some .boolean) d 0 0 (Wd u g ex).length 0 [(0, .long by0), (2, .int its), (3, .long fall), (5, .int cost)] [] (Wd u g ex) 0 0
  refine J_iload_n (i := 2) (j := 1) dX11_isSooner_0 rfl rfl ?_
  refine J_if_eq (tgt := 9) dX11_isSooner_1 (by decide) (fun c1 => ?_) (fun c1 => ?_)
  · refine J_iload_n (i := 2) (j := 1) dX11_isSooner_9 rfl rfl ?_
    refine J_if_ne (tgt := 28) dX11_isSooner_10 (by decide) (fun c2 => ?_) (fun c2 => ?_)
    · exact (bd_no (bd_ne_lo (bd_r c1 (bd_c (v := 0) (lo := 0) (hi := 0) (by decide))) c2 (by decide)) (by decide)).elim
    · refine J_iload (i := 5) (j := 3) dX11_isSooner_13 rfl ?_
      refine J_if_gt (tgt := 24) dX11_isSooner_15 (by decide) (fun c3 => ?_) (fun c3 => ?_)
      · refine J_iconst (v := 1) dX11_isSooner_24 (by decide) ?_
        refine J_goto (tgt := 29) dX11_isSooner_25 (by decide) ?_
        exact J_zret hq dX11_isSooner_29 rfl rfl wlen (Nat.le_refl _) (Nat.le_refl _) ⟨true, rfl, rfl⟩
      · refine J_lload_n (i := 0) (j := 0) dX11_isSooner_18 rfl rfl ?_
        refine J_lload_n (i := 3) (j := 2) dX11_isSooner_19 rfl rfl ?_
        refine J_lcmp dX11_isSooner_20 ?_
        refine J_if_le (tgt := 28) dX11_isSooner_21 (by decide) (fun c4 => ?_) (fun c4 => ?_)
        · refine J_iconst (v := 0) dX11_isSooner_28 (by decide) ?_
          exact J_zret hq dX11_isSooner_29 rfl rfl wlen (Nat.le_refl _) (Nat.le_refl _) ⟨false, rfl, rfl⟩
        · refine J_iconst (v := 1) dX11_isSooner_24 (by decide) ?_
          refine J_goto (tgt := 29) dX11_isSooner_25 (by decide) ?_
          exact J_zret hq dX11_isSooner_29 rfl rfl wlen (Nat.le_refl _) (Nat.le_refl _) ⟨true, rfl, rfl⟩
  · refine J_iload (i := 5) (j := 3) dX11_isSooner_4 rfl ?_
    refine J_if_ne (tgt := 30) dX11_isSooner_6 (by decide) (fun c5 => ?_) (fun c5 => ?_)
    · refine J_lload_n (i := 0) (j := 0) dX11_isSooner_30 rfl rfl ?_
      refine J_iload (i := 5) (j := 3) dX11_isSooner_31 rfl ?_
      refine J_i2l dX11_isSooner_33 rfl ?_
      refine J_topl (fun l6 _ => ?_)
      refine J_lmul dX11_isSooner_34 ?_
      refine J_topl (fun l7 _ => ?_)
      refine J_lload_n (i := 3) (j := 2) dX11_isSooner_35 rfl rfl ?_
      refine J_iload_n (i := 2) (j := 1) dX11_isSooner_36 rfl rfl ?_
      refine J_i2l dX11_isSooner_37 rfl ?_
      refine J_topl (fun l8 _ => ?_)
      refine J_lmul dX11_isSooner_38 ?_
      refine J_topl (fun l9 _ => ?_)
      refine J_lcmp dX11_isSooner_39 ?_
      refine J_if_le (tgt := 47) dX11_isSooner_40 (by decide) (fun c10 => ?_) (fun c10 => ?_)
      · refine J_iconst (v := 0) dX11_isSooner_47 (by decide) ?_
        exact J_zret hq dX11_isSooner_48 rfl rfl wlen (Nat.le_refl _) (Nat.le_refl _) ⟨false, rfl, rfl⟩
      · refine J_iconst (v := 1) dX11_isSooner_43 (by decide) ?_
        refine J_goto (tgt := 48) dX11_isSooner_44 (by decide) ?_
        exact J_zret hq dX11_isSooner_48 rfl rfl wlen (Nat.le_refl _) (Nat.le_refl _) ⟨true, rfl, rfl⟩
    · refine J_iload_n (i := 2) (j := 1) dX11_isSooner_9 rfl rfl ?_
      refine J_if_ne (tgt := 28) dX11_isSooner_10 (by decide) (fun c11 => ?_) (fun c11 => ?_)
      · refine J_iconst (v := 0) dX11_isSooner_28 (by decide) ?_
        exact J_zret hq dX11_isSooner_29 rfl rfl wlen (Nat.le_refl _) (Nat.le_refl _) ⟨false, rfl, rfl⟩
      · exact absurd c11 c1
set_option maxHeartbeats 4000000 in
set_option maxRecDepth 100000 in
theorem c_M_seenBy {d : Nat} {u : Nat → Nat → Int32} {g : Nat → Nat → Int64} {ex : List MC} {p : Int32} (hd : 1 ≤ d) (hp0 : Bd 0 8 p) : CT con0 d 0 0 yX11_seenBy cX11_seenBy 2 (some .int) [.ref 162, .int p] (Wd u g ex) (fun r h2 => ∃ (z : Int32), r = some (.int z) ∧ h2 = Wd u g ex) := by
  refine CT_of (by decide) (Nat.le_of_ble_eq_true rfl) (fun x hq => ?_)
  show J x yX11_seenBy cX11_seenBy 2 (some .int) d 0 0 (Wd u g ex).length 0 [(0, .ref 162), (1, .int p)] [] (Wd u g ex) 0 0
  refine J_aload_n (i := 0) (j := 0) dX11_seenBy_0 rfl rfl ?_
  refine J_iload_n (i := 1) (j := 1) dX11_seenBy_1 rfl rfl ?_
  refine J_iconst (v := 4) dX11_seenBy_2 (by decide) ?_
  refine J_callV (As := [.int p, .int 4]) (rest := []) dX11_seenBy_3 (c_M_of (d := 0) (u := u) (g := g) (ex := ex) (p := p) (what := 4)  (by decide) hp0 (bd_w (l := 0) (h := 15) (bd_c (v := 4) (lo := 4) (hi := 4) (by decide)) (by decide))) hq.n k1515 k1517 k55 wc_162 rfl rfl k97 k1518 np_X11_of (Nat.le_trans (by decide) hd) (by decide) (Nat.le_refl _) (Nat.le_refl _) wlen rfl (Nat.le_of_ble_eq_true rfl) (fun r_ h_ p1 => ?_)
  obtain ⟨rfl, rfl⟩ := p1
  refine J_aload_n (i := 0) (j := 0) dX11_seenBy_6 rfl rfl ?_
  refine J_iload_n (i := 1) (j := 1) dX11_seenBy_7 rfl rfl ?_
  refine J_bipush (v := 13) dX11_seenBy_8 (by decide) ?_
  refine J_callV (As := [.int p, .int 13]) (rest := [.int (mof u p (4 : Int32))]) dX11_seenBy_10 (c_M_of (d := 0) (u := u) (g := g) (ex := ex) (p := p) (what := 13)  (by decide) hp0 (bd_w (l := 0) (h := 15) (bd_c (v := 13) (lo := 13) (hi := 13) (by decide)) (by decide))) hq.n k1515 k1517 k55 wc_162 rfl rfl k97 k1518 np_X11_of (Nat.le_trans (by decide) hd) (by decide) (Nat.le_refl _) (Nat.le_refl _) wlen rfl (Nat.le_of_ble_eq_true rfl) (fun r_ h_ p2 => ?_)
  obtain ⟨rfl, rfl⟩ := p2
  refine J_imul dX11_seenBy_13 ?_
  exact J_iret hq dX11_seenBy_14 rfl wlen (Nat.le_refl _) (Nat.le_refl _) ⟨((mof u p (4 : Int32)) * (mof u p (13 : Int32))), rfl, rfl⟩
set_option maxHeartbeats 4000000 in
set_option maxRecDepth 100000 in
theorem c_M_seenAll {d : Nat} {u : Nat → Nat → Int32} {g : Nat → Nat → Int64} {ex : List MC} {p : Int32} (hd : 2 ≤ d) (hp0 : Bd 0 8 p) : CT con0 d 0 0 yX11_seenAll cX11_seenAll 2 (some .int) [.ref 162, .int p] (Wd u g ex) (fun r h2 => ∃ (z : Int32), r = some (.int z) ∧ h2 = Wd u g ex) := by
  refine CT_of (by decide) (Nat.le_of_ble_eq_true rfl) (fun x hq => ?_)
  show J x yX11_seenAll cX11_seenAll 2 (some .int) d 0 0 (Wd u g ex).length 0 [(0, .ref 162), (1, .int p)] [] (Wd u g ex) 0 0
  refine J_aload_n (i := 0) (j := 0) dX11_seenAll_0 rfl rfl ?_
  refine J_iload_n (i := 1) (j := 1) dX11_seenAll_1 rfl rfl ?_
  refine J_callV (As := [.int p]) (rest := []) dX11_seenAll_2 (c_M_seenBy (d := 1) (u := u) (g := g) (ex := ex) (p := p)  (by decide) hp0) hq.n k1699 k1701 k79 wc_162 rfl rfl k97 k1702 np_X11_seenBy (Nat.le_trans (by decide) hd) (by decide) (Nat.le_refl _) (Nat.le_refl _) wlen rfl (Nat.le_of_ble_eq_true rfl) (fun r_ h_ p1 => ?_)
  obtain ⟨v2, rfl, rfl⟩ := p1
  refine J_bipush (v := 10) dX11_seenAll_5 (by decide) ?_
  refine J_aload_n (i := 0) (j := 0) dX11_seenAll_7 rfl rfl ?_
  refine J_iload_n (i := 1) (j := 1) dX11_seenAll_8 rfl rfl ?_
  refine J_iconst (v := 4) dX11_seenAll_9 (by decide) ?_
  refine J_callV (As := [.int p, .int 4]) (rest := [.int 10, .int v2]) dX11_seenAll_10 (c_M_of (d := 0) (u := u) (g := g) (ex := ex) (p := p) (what := 4)  (by decide) hp0 (bd_w (l := 0) (h := 15) (bd_c (v := 4) (lo := 4) (hi := 4) (by decide)) (by decide))) hq.n k1515 k1517 k55 wc_162 rfl rfl k97 k1518 np_X11_of (Nat.le_trans (by decide) hd) (by decide) (Nat.le_refl _) (Nat.le_refl _) wlen rfl (Nat.le_of_ble_eq_true rfl) (fun r_ h_ p3 => ?_)
  obtain ⟨rfl, rfl⟩ := p3
  refine J_isub dX11_seenAll_13 ?_
  refine J_aload_n (i := 0) (j := 0) dX11_seenAll_14 rfl rfl ?_
  refine J_iload_n (i := 1) (j := 1) dX11_seenAll_15 rfl rfl ?_
  refine J_bipush (v := 14) dX11_seenAll_16 (by decide) ?_
  refine J_callV (As := [.int p, .int 14]) (rest := [.int ((10 : Int32) - (mof u p (4 : Int32))), .int v2]) dX11_seenAll_18 (c_M_of (d := 0) (u := u) (g := g) (ex := ex) (p := p) (what := 14)  (by decide) hp0 (bd_w (l := 0) (h := 15) (bd_c (v := 14) (lo := 14) (hi := 14) (by decide)) (by decide))) hq.n k1515 k1517 k55 wc_162 rfl rfl k97 k1518 np_X11_of (Nat.le_trans (by decide) hd) (by decide) (Nat.le_refl _) (Nat.le_refl _) wlen rfl (Nat.le_of_ble_eq_true rfl) (fun r_ h_ p4 => ?_)
  obtain ⟨rfl, rfl⟩ := p4
  refine J_imul dX11_seenAll_21 ?_
  refine J_iadd dX11_seenAll_22 ?_
  exact J_iret hq dX11_seenAll_23 rfl wlen (Nat.le_refl _) (Nat.le_refl _) ⟨(v2 + (((10 : Int32) - (mof u p (4 : Int32))) * (mof u p (14 : Int32)))), rfl, rfl⟩
set_option maxHeartbeats 4000000 in
set_option maxRecDepth 100000 in
theorem c_M_leads {d : Nat} {u : Nat → Nat → Int32} {g : Nat → Nat → Int64} {ex : List MC} {uu : Int32} {p : Int32} (hd : 1 ≤ d) (hp0 : Bd 0 8 uu) : CT con0 d 0 0 yX11_leads cX11_leads 3 (some .boolean) [.ref 162, .int uu, .int p] (Wd u g ex) (fun r h2 => ∃ (z : Bool), r = some (.int (bI z)) ∧ h2 = Wd u g ex) := by
  refine CT_of (by decide) (Nat.le_of_ble_eq_true rfl) (fun x hq => ?_)
  show J x yX11_leads cX11_leads 3 (some .boolean) d 0 0 (Wd u g ex).length 0 [(0, .ref 162), (1, .int uu), (2, .int p)] [] (Wd u g ex) 0 0
  refine J_aload_n (i := 0) (j := 0) dX11_leads_0 rfl rfl ?_
  refine J_iload_n (i := 1) (j := 1) dX11_leads_1 rfl rfl ?_
  refine J_bipush (v := 8) dX11_leads_2 (by decide) ?_
  refine J_callV (As := [.int uu, .int 8]) (rest := []) dX11_leads_4 (c_M_of (d := 0) (u := u) (g := g) (ex := ex) (p := uu) (what := 8)  (by decide) hp0 (bd_w (l := 0) (h := 15) (bd_c (v := 8) (lo := 8) (hi := 8) (by decide)) (by decide))) hq.n k1515 k1517 k55 wc_162 rfl rfl k97 k1518 np_X11_of (Nat.le_trans (by decide) hd) (by decide) (Nat.le_refl _) (Nat.le_refl _) wlen rfl (Nat.le_of_ble_eq_true rfl) (fun r_ h_ p1 => ?_)
  obtain ⟨rfl, rfl⟩ := p1
  refine J_iload_n (i := 2) (j := 2) dX11_leads_7 rfl rfl ?_
  refine J_icmp_eq (tgt := 22) dX11_leads_8 (by decide) (fun c2 => ?_) (fun c2 => ?_)
  · refine J_iconst (v := 1) dX11_leads_22 (by decide) ?_
    refine J_goto (tgt := 27) dX11_leads_23 (by decide) ?_
    exact J_zret hq dX11_leads_27 rfl rfl wlen (Nat.le_refl _) (Nat.le_refl _) ⟨true, rfl, rfl⟩
  · refine J_aload_n (i := 0) (j := 0) dX11_leads_11 rfl rfl ?_
    refine J_iload_n (i := 1) (j := 1) dX11_leads_12 rfl rfl ?_
    refine J_bipush (v := 9) dX11_leads_13 (by decide) ?_
    refine J_callV (As := [.int uu, .int 9]) (rest := []) dX11_leads_15 (c_M_of (d := 0) (u := u) (g := g) (ex := ex) (p := uu) (what := 9)  (by decide) hp0 (bd_w (l := 0) (h := 15) (bd_c (v := 9) (lo := 9) (hi := 9) (by decide)) (by decide))) hq.n k1515 k1517 k55 wc_162 rfl rfl k97 k1518 np_X11_of (Nat.le_trans (by decide) hd) (by decide) (Nat.le_refl _) (Nat.le_refl _) wlen rfl (Nat.le_of_ble_eq_true rfl) (fun r_ h_ p3 => ?_)
    obtain ⟨rfl, rfl⟩ := p3
    refine J_iload_n (i := 2) (j := 2) dX11_leads_18 rfl rfl ?_
    refine J_icmp_ne (tgt := 26) dX11_leads_19 (by decide) (fun c4 => ?_) (fun c4 => ?_)
    · refine J_iconst (v := 0) dX11_leads_26 (by decide) ?_
      exact J_zret hq dX11_leads_27 rfl rfl wlen (Nat.le_refl _) (Nat.le_refl _) ⟨false, rfl, rfl⟩
    · refine J_iconst (v := 1) dX11_leads_22 (by decide) ?_
      refine J_goto (tgt := 27) dX11_leads_23 (by decide) ?_
      exact J_zret hq dX11_leads_27 rfl rfl wlen (Nat.le_refl _) (Nat.le_refl _) ⟨true, rfl, rfl⟩
set_option maxHeartbeats 4000000 in
set_option maxRecDepth 100000 in
theorem c_M_together {d : Nat} {u : Nat → Nat → Int32} {g : Nat → Nat → Int64} {ex : List MC} {set : Int32} (hd : 4 ≤ d) (hp0 : Bd 0 9 (u 162 22)) (hp1 : (RC u)) (hp2 : (DN u)) (hp3 : Bd 0 511 (u 162 31)) : CT con0 d 0 0 yX11_together cX11_together 8 (some .long) [.ref 162, .int set] (Wd u g ex) (fun r h2 => ∃ (z : Int64) (u2 : Nat → Nat → Int32), r = some (.long z) ∧ h2 = Wd u2 g ex ∧ Bd 0 511 (u2 162 31) ∧ (∀ c, nin c [(162, 162), (173, 175)] = true → u2 c = u c) ∧ (∀ j, j ≠ 31 → j ≠ 32 → j ≠ 33 → u2 162 j = u 162 j)) := by
  refine CT_of (by decide) (Nat.le_of_ble_eq_true rfl) (fun x hq => ?_)
  show J x yX11_together cX11_together 8 (some .long) d 0 0 (Wd u g ex).length 0 [(0, .ref 162), (1, .int set)] [] (Wd u g ex) 0 0
  refine J_lconst (v := 0) dX11_together_0 (by decide) ?_
  refine J_lstore_n (i := 2) (lw := [(2, .long 0), (0, .ref 162), (1, .int set)]) dX11_together_1 rfl (by decide) rfl ?_
  refine J_iconst (v := 0) dX11_together_2 (by decide) ?_
  refine J_istore (i := 4) (lw := [(4, .int 0), (2, .long 0), (0, .ref 162), (1, .int set)]) dX11_together_3 (by decide) rfl ?_
  have lp4375 : ∀ (n4376 : Nat) (w3280 : Int64) (w3281 : Int32) (u3282 : Nat → Nat → Int32), Bd 0 4 w3281 → (∀ c, nin c [(162, 162), (173, 175)] = true → u3282 c = u c) → (∀ j, j ≠ 31 → j ≠ 32 → j ≠ 33 → u3282 162 j = u 162 j) → Bd 0 511 (u3282 162 31) → (4 - w3281.toInt).toNat < n4376 → J x yX11_together cX11_together 8 (some .long) d 0 0 (Wd u g ex).length 5 [(0, .ref 162), (1, .int set), (2, .long w3280), (4, .int w3281)] [] (Wd u3282 g ex) 0 0 := by
    intro n4376
    induction n4376 with
    | zero => intro w3280 w3281 u3282 bw3281 fr3283 fc3284 bm3285 hm4378; exact absurd hm4378 (Nat.not_lt_zero _)
    | succ n4376 ih4377 =>
      intro w3280 w3281 u3282 bw3281 fr3283 fc3284 bm3285 hm4378
      refine J_iload (i := 4) (j := 3) dX11_together_5 rfl ?_
      refine J_aload_n (i := 0) (j := 0) dX11_together_7 rfl rfl ?_
      refine J_get (C := RX11) (T := TX11) (Z := 43) (ci := 11) (f := 21) dX11_together_8 inG11 rfl (by decide) k1285 wc_162 rfl ?_
      refine J_iconst (v := 1) dX11_together_11 (by decide) ?_
      refine J_iald dX11_together_12 wc_172 (vin (bd_c (v := 1) (lo := 1) (hi := 1) (by decide)) (by decide)) ?_
      refine J_ci (v := u 172 1) (congrFun (fr3283 172 rfl) 1) ?_
      refine J_icmp_ge (tgt := 90) dX11_together_13 (by decide) (fun c4379 => ?_) (fun c4379 => ?_)
      · refine J_lload_n (i := 2) (j := 2) dX11_together_90 rfl rfl ?_
        exact J_lret hq dX11_together_91 rfl wlen (Nat.le_refl _) (Nat.le_refl _) ⟨w3280, u3282, rfl, rfl, bm3285, (fun c k_ => (fr3283 c (nin_sub (M := [(162, 162), (173, 175)]) k_ rfl))), (fun j k31_ k32_ k33_ => (fc3284 j k31_ k32_ k33_))⟩
      · refine J_iconst (v := 0) dX11_together_16 (by decide) ?_
        refine J_istore (i := 5) (lw := [(5, .int 0), (0, .ref 162), (1, .int set), (2, .long w3280), (4, .int w3281)]) dX11_together_17 (by decide) rfl ?_
        have lp5401 : ∀ (n5402 : Nat) (w5332 : Int64) (w5333 : Int32) (u5334 : Nat → Nat → Int32), Bd 0 512 w5333 → (∀ c, nin c [(162, 162), (173, 175)] = true → u5334 c = u3282 c) → (∀ j, j ≠ 31 → j ≠ 32 → j ≠ 33 → u5334 162 j = u3282 162 j) → Bd 0 511 (u5334 162 31) → (512 - w5333.toInt).toNat < n5402 → J x yX11_together cX11_together 8 (some .long) d 0 0 (Wd u g ex).length 19 [(0, .ref 162), (1, .int set), (2, .long w5332), (4, .int w3281), (5, .int w5333)] [] (Wd u5334 g ex) 0 0 := by
          intro n5402
          induction n5402 with
          | zero => intro w5332 w5333 u5334 bw5333 fr5335 fc5336 bm5337 hm5404; exact absurd hm5404 (Nat.not_lt_zero _)
          | succ n5402 ih5403 =>
            intro w5332 w5333 u5334 bw5333 fr5335 fc5336 bm5337 hm5404
            refine J_iload (i := 5) (j := 4) dX11_together_19 rfl ?_
            refine J_iconst (v := 1) dX11_together_21 (by decide) ?_
            refine J_aload_n (i := 0) (j := 0) dX11_together_22 rfl rfl ?_
            refine J_get (C := RX11) (T := TX11) (Z := 43) (ci := 11) (f := 22) dX11_together_23 inG11 rfl (by decide) k1286 wc_162 rfl ?_
            refine J_ci (v := u 162 22) ((fc5336 22 (Nat.ne_of_beq_eq_false rfl) (Nat.ne_of_beq_eq_false rfl) (Nat.ne_of_beq_eq_false rfl)).trans (fc3284 22 (Nat.ne_of_beq_eq_false rfl) (Nat.ne_of_beq_eq_false rfl) (Nat.ne_of_beq_eq_false rfl))) ?_
            refine J_ishl dX11_together_26 ?_
            refine J_icmp_ge (tgt := 84) dX11_together_27 (by decide) (fun c5405 => ?_) (fun c5405 => ?_)
            · refine J_iinc (i := 4) (j := 3) (v := (w3281 + 1)) (lw := [(4, .int (w3281 + 1)), (0, .ref 162), (1, .int set), (2, .long w5332), (5, .int w5333)]) dX11_together_84 rfl rfl (by decide) rfl ?_
              refine J_goto (tgt := 5) dX11_together_87 (by decide) ?_
              refine J_lv [1, 2, 3, 0] rfl ?_
              exact ih4377 w5332 (w3281 + 1) u5334 (bd_w (l := 0) (h := 4) (bd_add (l := 1) (h := 4) (bd_lt_hi bw3281 (i_nle c4379) (hp1).1) (bd_c (v := 1) (lo := 1) (hi := 1) (by decide)) (by decide)) (by decide)) (fun c k_ => ((fr5335 c (nin_sub (M := [(162, 162), (173, 175)]) k_ rfl)).trans (fr3283 c (nin_sub (M := [(162, 162), (173, 175)]) k_ rfl)))) (fun j k31_ k32_ k33_ => ((fc5336 j k31_ k32_ k33_).trans (fc3284 j k31_ k32_ k33_))) bm5337 (mu_up 1 bw3281 rfl (by decide) (bd_w (l := 1) (h := 4) (bd_add (l := 1) (h := 4) (bd_lt_hi bw3281 (i_nle c4379) (hp1).1) (bd_c (v := 1) (lo := 1) (hi := 1) (by decide)) (by decide)) (by decide)) hm4378)
            · refine J_aload_n (i := 0) (j := 0) dX11_together_30 rfl rfl ?_
              refine J_iload (i := 4) (j := 3) dX11_together_31 rfl ?_
              refine J_iload (i := 5) (j := 4) dX11_together_33 rfl ?_
              refine J_callV (As := [.int w3281, .int w5333]) (rest := []) dX11_together_35 (c_M_partsOf (d := 1) (u := u5334) (g := g) (ex := ex) (rain := w3281) (banks := w5333)  (by decide) (bd_r ((fc5336 22 (Nat.ne_of_beq_eq_false rfl) (Nat.ne_of_beq_eq_false rfl) (Nat.ne_of_beq_eq_false rfl)).trans (fc3284 22 (Nat.ne_of_beq_eq_false rfl) (Nat.ne_of_beq_eq_false rfl) (Nat.ne_of_beq_eq_false rfl))) hp0) (bd_w (l := (-1)) (h := 75) (bd_lt_hi bw3281 (i_nle c4379) (hp1).1) (by decide))) hq.n k1579 k1581 k66 wc_162 rfl rfl k97 k1582 np_X11_partsOf (Nat.le_trans (by decide) hd) (by decide) (Nat.le_refl _) (Nat.le_refl _) wlen rfl (Nat.le_of_ble_eq_true rfl) (fun r_ h_ p5437 => ?_)
              obtain ⟨l5438, rfl, rfl⟩ := p5437
              refine J_lstore (i := 6) (lw := [(6, .long l5438), (0, .ref 162), (1, .int set), (2, .long w5332), (4, .int w3281), (5, .int w5333)]) dX11_together_38 (by decide) rfl ?_
              refine J_lload (i := 6) (j := 0) dX11_together_40 rfl ?_
              refine J_lconst (v := 0) dX11_together_42 (by decide) ?_
              refine J_lcmp dX11_together_43 ?_
              have jn5456 : ∀ (w5451 : Int64) (u5452 : Nat → Nat → Int32), (∀ c, nin c [(162, 162), (173, 175)] = true → u5452 c = u5334 c) → (∀ j, j ≠ 31 → j ≠ 32 → j ≠ 33 → u5452 162 j = u5334 162 j) → Bd 0 511 (u5452 162 31) → J x yX11_together cX11_together 8 (some .long) d 0 0 (Wd u g ex).length 78 [(0, .ref 162), (1, .int set), (2, .long w5451), (4, .int w3281), (5, .int w5333)] [] (Wd u5452 g ex) 0 0 := by
                intro w5451 u5452 fr5453 fc5454 bm5455
                refine J_iinc (i := 5) (j := 4) (v := (w5333 + 1)) (lw := [(5, .int (w5333 + 1)), (0, .ref 162), (1, .int set), (2, .long w5451), (4, .int w3281)]) dX11_together_78 rfl rfl (by decide) rfl ?_
                refine J_goto (tgt := 19) dX11_together_81 (by decide) ?_
                refine J_lv [1, 2, 3, 4, 0] rfl ?_
                exact ih5403 w5451 (w5333 + 1) u5452 (bd_w (l := 0) (h := 512) (bd_add (l := 1) (h := 512) (bd_lt_hi bw5333 (i_nle c5405) (bd_shl (lo := 0) (hi := 9) (l := 1) (h := 512) hp0 (by decide))) (bd_c (v := 1) (lo := 1) (hi := 1) (by decide)) (by decide)) (by decide)) (fun c k_ => ((fr5453 c (nin_sub (M := [(162, 162), (173, 175)]) k_ rfl)).trans (fr5335 c (nin_sub (M := [(162, 162), (173, 175)]) k_ rfl)))) (fun j k31_ k32_ k33_ => ((fc5454 j k31_ k32_ k33_).trans (fc5336 j k31_ k32_ k33_))) bm5455 (mu_up 1 bw5333 rfl (by decide) (bd_w (l := 1) (h := 512) (bd_add (l := 1) (h := 512) (bd_lt_hi bw5333 (i_nle c5405) (bd_shl (lo := 0) (hi := 9) (l := 1) (h := 512) hp0 (by decide))) (bd_c (v := 1) (lo := 1) (hi := 1) (by decide)) (by decide)) (by decide)) hm5404)
              refine J_if_le (tgt := 78) dX11_together_44 (by decide) (fun c5439 => ?_) (fun c5439 => ?_)
              · refine J_lv [1, 2, 3, 4, 5] rfl ?_
                exact jn5456 w5332 u5334 (fun c k_ => rfl) (fun j k31_ k32_ k33_ => rfl) bm5337
              · refine J_aload_n (i := 0) (j := 1) dX11_together_47 rfl rfl ?_
                refine J_aload_n (i := 0) (j := 1) dX11_together_48 rfl rfl ?_
                refine J_iload (i := 4) (j := 4) dX11_together_49 rfl ?_
                refine J_callV (As := [.int w3281]) (rest := [.ref 162]) dX11_together_51 (c_M_stepsOf (d := 0) (u := u5334) (g := g) (ex := ex) (rain := w3281)  (by decide) (bd_w (l := 0) (h := 75) (bd_lt_hi bw3281 (i_nle c4379) (hp1).1) (by decide))) hq.n k1547 k1549 k60 wc_162 rfl rfl k97 k1550 np_X11_stepsOf (Nat.le_trans (by decide) hd) (by decide) (Nat.le_refl _) (Nat.le_refl _) wlen rfl (Nat.le_of_ble_eq_true rfl) (fun r_ h_ p5457 => ?_)
                obtain ⟨v5458, rfl, rfl⟩ := p5457
                refine J_iload (i := 5) (j := 5) dX11_together_54 rfl ?_
                refine J_callV (As := [.int v5458, .int w5333]) (rest := []) dX11_together_56 (c_M_blow (d := 3) (u := u5334) (g := g) (ex := ex) (steps := v5458) (banks := w5333)  (by decide) (bd_r ((fc5336 22 (Nat.ne_of_beq_eq_false rfl) (Nat.ne_of_beq_eq_false rfl) (Nat.ne_of_beq_eq_false rfl)).trans (fc3284 22 (Nat.ne_of_beq_eq_false rfl) (Nat.ne_of_beq_eq_false rfl) (Nat.ne_of_beq_eq_false rfl))) hp0) (dn_c ((fr5335 172 rfl).trans (fr3283 172 rfl)) hp2)) hq.n k1551 k1553 k61 wc_162 rfl rfl k97 k1554 np_X11_blow (Nat.le_trans (by decide) hd) (by decide) (Nat.le_refl _) (Nat.le_refl _) wlen rfl (Nat.le_of_ble_eq_true rfl) (fun r_ h_ p5459 => ?_)
                obtain ⟨u5460, rfl, rfl, h5461, fr5462, fc5463⟩ := p5459
                refine J_lload_n (i := 2) (j := 3) dX11_together_59 rfl rfl ?_
                refine J_aload_n (i := 0) (j := 1) dX11_together_60 rfl rfl ?_
                refine J_get (C := RX11) (T := TX11) (Z := 43) (ci := 11) (f := 31) dX11_together_61 inG11 rfl (by decide) k1295 wc_162 rfl ?_
                refine J_iload_n (i := 1) (j := 2) dX11_together_64 rfl rfl ?_
                refine J_iand dX11_together_65 ?_
                refine J_iload_n (i := 1) (j := 2) dX11_together_66 rfl rfl ?_
                have jn5466 : ∀ (w5465 : Int64), J x yX11_together cX11_together 8 (some .long) d 0 0 (Wd u g ex).length 76 [(0, .ref 162), (1, .int set), (4, .int w3281), (5, .int w5333)] [.long w5465, .long w5332] (Wd u5460 g ex) 0 0 := by
                  intro w5465
                  refine J_ladd dX11_together_76 ?_
                  refine J_topl (fun l5467 _ => ?_)
                  refine J_lstore_n (i := 2) (lw := [(2, .long l5467), (0, .ref 162), (1, .int set), (4, .int w3281), (5, .int w5333)]) dX11_together_77 rfl (by decide) rfl ?_
                  refine J_lv [1, 2, 0, 3, 4] rfl ?_
                  exact jn5456 l5467 u5460 (fun c k_ => (fr5462 c (nin_sub (M := [(162, 162), (173, 175)]) k_ rfl))) (fun j k31_ k32_ k33_ => (fc5463 j k31_ k32_ k33_)) h5461
                refine J_icmp_ne (tgt := 75) dX11_together_67 (by decide) (fun c5464 => ?_) (fun c5464 => ?_)
                · refine J_lconst (v := 0) dX11_together_75 (by decide) ?_
                  refine J_lv [1, 2, 4, 5] rfl ?_
                  exact jn5466 (0 : Int64) 
                · refine J_lload (i := 6) (j := 0) dX11_together_70 rfl ?_
                  refine J_goto (tgt := 76) dX11_together_72 (by decide) ?_
                  refine J_lv [1, 2, 4, 5] rfl ?_
                  exact jn5466 l5438 
        refine J_lv [1, 2, 3, 4, 0] rfl ?_
        exact lp5401 _ w3280 (0 : Int32) u3282 (bd_w (l := 0) (h := 512) (bd_c (v := 0) (lo := 0) (hi := 0) (by decide)) (by decide)) (fun c k_ => rfl) (fun j k31_ k32_ k33_ => rfl) bm3285 (Nat.lt_succ_self _)
  refine J_lv [2, 3, 1, 0] rfl ?_
  exact lp4375 _ (0 : Int64) (0 : Int32) u (bd_w (l := 0) (h := 4) (bd_c (v := 0) (lo := 0) (hi := 0) (by decide)) (by decide)) (fun c k_ => rfl) (fun j k31_ k32_ k33_ => rfl) hp3 (Nat.lt_succ_self _)
