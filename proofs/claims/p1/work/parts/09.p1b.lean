theorem k1406 : Cond.methodLink RX11 78 yX11_in ∈ gt := gt_in 1406 (by decide +kernel) (by decide +kernel)
theorem k1407 : Cond.static yX11_in ∈ gt := gt_in 1407 (by decide +kernel) (by decide +kernel)
theorem k97 : Cond.initialized RX11 ∈ gt := gt_in 97 (by decide +kernel) (by decide +kernel)
theorem k1408 : Cond.code yX11_in cX11_in 3 (some .boolean) ∈ gt := gt_in 1408 (by decide +kernel) (by decide +kernel)
theorem np_X11_in : yX11_in.cls ≠ "java/lang/invoke/MethodHandle" ∧ yX11_in.cls ≠ "java/lang/invoke/VarHandle" ∧ (parseMethodDescriptor yX11_in.desc).map (fun d => d.parameters.length) = some 3 := by decide +kernel
theorem k1495 : Cond.methodLink RX11 205 yX11_isHill ∈ gt := gt_in 1495 (by decide +kernel) (by decide +kernel)
theorem k1497 : Cond.instanceMethod yX11_isHill ∈ gt := gt_in 1497 (by decide +kernel) (by decide +kernel)
theorem k51 : Cond.selects RX11 yX11_isHill yX11_isHill ∈ gt := gt_in 51 (by decide +kernel) (by decide +kernel)
theorem k1498 : Cond.code yX11_isHill cX11_isHill 2 (some .boolean) ∈ gt := gt_in 1498 (by decide +kernel) (by decide +kernel)
theorem np_X11_isHill : yX11_isHill.cls ≠ "java/lang/invoke/MethodHandle" ∧ yX11_isHill.cls ≠ "java/lang/invoke/VarHandle" ∧ (parseMethodDescriptor yX11_isHill.desc).map (fun d => d.parameters.length) = some 1 := by decide +kernel
theorem k1503 : Cond.methodLink RX11 240 yX11_lay ∈ gt := gt_in 1503 (by decide +kernel) (by decide +kernel)
theorem k1505 : Cond.instanceMethod yX11_lay ∈ gt := gt_in 1505 (by decide +kernel) (by decide +kernel)
theorem k52 : Cond.selects RX11 yX11_lay yX11_lay ∈ gt := gt_in 52 (by decide +kernel) (by decide +kernel)
theorem k1506 : Cond.code yX11_lay cX11_lay 5 (some .boolean) ∈ gt := gt_in 1506 (by decide +kernel) (by decide +kernel)
theorem np_X11_lay : yX11_lay.cls ≠ "java/lang/invoke/MethodHandle" ∧ yX11_lay.cls ≠ "java/lang/invoke/VarHandle" ∧ (parseMethodDescriptor yX11_lay.desc).map (fun d => d.parameters.length) = some 2 := by decide +kernel
theorem k1264 : Cond.fieldLink RX11 70 "PondStairModel" "code" "I" ∈ gt := gt_in 1264 (by decide +kernel) (by decide +kernel)
theorem k1507 : Cond.methodLink RX11 225 yX11_isPlan ∈ gt := gt_in 1507 (by decide +kernel) (by decide +kernel)
theorem k1509 : Cond.instanceMethod yX11_isPlan ∈ gt := gt_in 1509 (by decide +kernel) (by decide +kernel)
theorem k53 : Cond.selects RX11 yX11_isPlan yX11_isPlan ∈ gt := gt_in 53 (by decide +kernel) (by decide +kernel)
theorem k1510 : Cond.code yX11_isPlan cX11_isPlan 2 (some .boolean) ∈ gt := gt_in 1510 (by decide +kernel) (by decide +kernel)
theorem np_X11_isPlan : yX11_isPlan.cls ≠ "java/lang/invoke/MethodHandle" ∧ yX11_isPlan.cls ≠ "java/lang/invoke/VarHandle" ∧ (parseMethodDescriptor yX11_isPlan.desc).map (fun d => d.parameters.length) = some 1 := by decide +kernel
theorem k1578 : Cond.constantLong RX11 292 (-1) ∈ gt := gt_in 1578 (by decide +kernel) (by decide +kernel)
theorem k1615 : Cond.methodLink RX11 314 yX11_canMend ∈ gt := gt_in 1615 (by decide +kernel) (by decide +kernel)
theorem k1617 : Cond.instanceMethod yX11_canMend ∈ gt := gt_in 1617 (by decide +kernel) (by decide +kernel)
theorem k69 : Cond.selects RX11 yX11_canMend yX11_canMend ∈ gt := gt_in 69 (by decide +kernel) (by decide +kernel)
theorem k1618 : Cond.code yX11_canMend cX11_canMend 5 (some .boolean) ∈ gt := gt_in 1618 (by decide +kernel) (by decide +kernel)
theorem np_X11_canMend : yX11_canMend.cls ≠ "java/lang/invoke/MethodHandle" ∧ yX11_canMend.cls ≠ "java/lang/invoke/VarHandle" ∧ (parseMethodDescriptor yX11_canMend.desc).map (fun d => d.parameters.length) = some 4 := by decide +kernel
theorem k1674 : Cond.constantLong RX11 335 (-9223372036854775808) ∈ gt := gt_in 1674 (by decide +kernel) (by decide +kernel)
theorem k1679 : Cond.methodLink RX11 346 yX11_isFilled ∈ gt := gt_in 1679 (by decide +kernel) (by decide +kernel)
theorem k1681 : Cond.instanceMethod yX11_isFilled ∈ gt := gt_in 1681 (by decide +kernel) (by decide +kernel)
theorem k76 : Cond.selects RX11 yX11_isFilled yX11_isFilled ∈ gt := gt_in 76 (by decide +kernel) (by decide +kernel)
theorem k1682 : Cond.code yX11_isFilled cX11_isFilled 4 (some .boolean) ∈ gt := gt_in 1682 (by decide +kernel) (by decide +kernel)
theorem np_X11_isFilled : yX11_isFilled.cls ≠ "java/lang/invoke/MethodHandle" ∧ yX11_isFilled.cls ≠ "java/lang/invoke/VarHandle" ∧ (parseMethodDescriptor yX11_isFilled.desc).map (fun d => d.parameters.length) = some 3 := by decide +kernel
theorem dX11_alone_0 : decode cX11_alone 0 = .ok (.aload_n 0, 1) := by decide +kernel
theorem dX11_alone_1 : decode cX11_alone 1 = .ok (.iconst 0, 1) := by decide +kernel
theorem dX11_alone_2 : decode cX11_alone 2 = .ok (.putfield 70, 3) := by decide +kernel
theorem dX11_alone_5 : decode cX11_alone 5 = .ok (.aload_n 0, 1) := by decide +kernel
theorem dX11_alone_6 : decode cX11_alone 6 = .ok (.iload_n 1, 1) := by decide +kernel
theorem dX11_alone_7 : decode cX11_alone 7 = .ok (.iload_n 2, 1) := by decide +kernel
theorem dX11_alone_8 : decode cX11_alone 8 = .ok (.invokevirtual 240, 3) := by decide +kernel
theorem dX11_alone_11 : decode cX11_alone 11 = .ok (.ifCond .eq 10, 3) := by decide +kernel
theorem dX11_alone_21 : decode cX11_alone 21 = .ok (.ldc2_w 292, 3) := by decide +kernel
theorem dX11_alone_24 : decode cX11_alone 24 = .ok (.lreturn, 1) := by decide +kernel
theorem dX11_around_0 : decode cX11_around 0 = .ok (.aload_n 0, 1) := by decide +kernel
theorem dX11_around_1 : decode cX11_around 1 = .ok (.iconst 0, 1) := by decide +kernel
theorem dX11_around_2 : decode cX11_around 2 = .ok (.putfield 70, 3) := by decide +kernel
theorem dX11_around_5 : decode cX11_around 5 = .ok (.aload_n 0, 1) := by decide +kernel
theorem dX11_around_6 : decode cX11_around 6 = .ok (.iload_n 1, 1) := by decide +kernel
theorem dX11_around_7 : decode cX11_around 7 = .ok (.iload_n 2, 1) := by decide +kernel
theorem dX11_around_8 : decode cX11_around 8 = .ok (.invokevirtual 240, 3) := by decide +kernel
theorem dX11_around_11 : decode cX11_around 11 = .ok (.ifCond .ne 5, 3) := by decide +kernel
theorem dX11_around_14 : decode cX11_around 14 = .ok (.iconst (-1), 1) := by decide +kernel
theorem dX11_around_15 : decode cX11_around 15 = .ok (.ireturn, 1) := by decide +kernel
theorem dX11_best_0 : decode cX11_best 0 = .ok (.aload_n 0, 1) := by decide +kernel
theorem dX11_best_1 : decode cX11_best 1 = .ok (.iconst 0, 1) := by decide +kernel
theorem dX11_best_2 : decode cX11_best 2 = .ok (.putfield 70, 3) := by decide +kernel
theorem dX11_best_5 : decode cX11_best 5 = .ok (.aload_n 0, 1) := by decide +kernel
theorem dX11_best_6 : decode cX11_best 6 = .ok (.iload_n 1, 1) := by decide +kernel
theorem dX11_best_7 : decode cX11_best 7 = .ok (.iload_n 2, 1) := by decide +kernel
theorem dX11_best_8 : decode cX11_best 8 = .ok (.iload_n 3, 1) := by decide +kernel
theorem dX11_best_9 : decode cX11_best 9 = .ok (.iload 4, 2) := by decide +kernel
theorem dX11_best_11 : decode cX11_best 11 = .ok (.invokevirtual 314, 3) := by decide +kernel
theorem dX11_best_14 : decode cX11_best 14 = .ok (.ifCond .ne 5, 3) := by decide +kernel
theorem dX11_best_17 : decode cX11_best 17 = .ok (.iconst (-1), 1) := by decide +kernel
theorem dX11_best_18 : decode cX11_best 18 = .ok (.ireturn, 1) := by decide +kernel
theorem dX11_better_0 : decode cX11_better 0 = .ok (.aload_n 0, 1) := by decide +kernel
theorem dX11_better_1 : decode cX11_better 1 = .ok (.iconst 0, 1) := by decide +kernel
theorem dX11_better_2 : decode cX11_better 2 = .ok (.putfield 70, 3) := by decide +kernel
theorem dX11_better_5 : decode cX11_better 5 = .ok (.aload_n 0, 1) := by decide +kernel
theorem dX11_better_6 : decode cX11_better 6 = .ok (.iload_n 1, 1) := by decide +kernel
theorem dX11_better_7 : decode cX11_better 7 = .ok (.iload_n 2, 1) := by decide +kernel
theorem dX11_better_8 : decode cX11_better 8 = .ok (.invokevirtual 240, 3) := by decide +kernel
theorem dX11_better_11 : decode cX11_better 11 = .ok (.ifCond .ne 5, 3) := by decide +kernel
theorem dX11_better_14 : decode cX11_better 14 = .ok (.iconst (-1), 1) := by decide +kernel
theorem dX11_better_15 : decode cX11_better 15 = .ok (.ireturn, 1) := by decide +kernel
theorem dX11_brings_0 : decode cX11_brings 0 = .ok (.aload_n 0, 1) := by decide +kernel
theorem dX11_brings_1 : decode cX11_brings 1 = .ok (.iconst 0, 1) := by decide +kernel
theorem dX11_brings_2 : decode cX11_brings 2 = .ok (.putfield 70, 3) := by decide +kernel
theorem dX11_brings_5 : decode cX11_brings 5 = .ok (.aload_n 0, 1) := by decide +kernel
theorem dX11_brings_6 : decode cX11_brings 6 = .ok (.iload_n 1, 1) := by decide +kernel
theorem dX11_brings_7 : decode cX11_brings 7 = .ok (.iload_n 2, 1) := by decide +kernel
theorem dX11_brings_8 : decode cX11_brings 8 = .ok (.invokevirtual 240, 3) := by decide +kernel
theorem dX11_brings_11 : decode cX11_brings 11 = .ok (.ifCond .eq 20, 3) := by decide +kernel
theorem dX11_brings_31 : decode cX11_brings 31 = .ok (.iconst (-1), 1) := by decide +kernel
theorem dX11_brings_32 : decode cX11_brings 32 = .ok (.ireturn, 1) := by decide +kernel
theorem dX11_canMend_0 : decode cX11_canMend 0 = .ok (.aload_n 0, 1) := by decide +kernel
theorem dX11_canMend_1 : decode cX11_canMend 1 = .ok (.iload_n 1, 1) := by decide +kernel
theorem dX11_canMend_2 : decode cX11_canMend 2 = .ok (.iload_n 2, 1) := by decide +kernel
theorem dX11_canMend_3 : decode cX11_canMend 3 = .ok (.invokevirtual 240, 3) := by decide +kernel
theorem dX11_canMend_6 : decode cX11_canMend 6 = .ok (.ifCond .eq 31, 3) := by decide +kernel
theorem dX11_canMend_37 : decode cX11_canMend 37 = .ok (.iconst 0, 1) := by decide +kernel
theorem dX11_canMend_38 : decode cX11_canMend 38 = .ok (.ireturn, 1) := by decide +kernel
theorem dX11_deep_0 : decode cX11_deep 0 = .ok (.aload_n 0, 1) := by decide +kernel
theorem dX11_deep_1 : decode cX11_deep 1 = .ok (.iconst 0, 1) := by decide +kernel
theorem dX11_deep_2 : decode cX11_deep 2 = .ok (.putfield 70, 3) := by decide +kernel
theorem dX11_deep_5 : decode cX11_deep 5 = .ok (.aload_n 0, 1) := by decide +kernel
theorem dX11_deep_6 : decode cX11_deep 6 = .ok (.iload_n 1, 1) := by decide +kernel
theorem dX11_deep_7 : decode cX11_deep 7 = .ok (.iload_n 2, 1) := by decide +kernel
theorem dX11_deep_8 : decode cX11_deep 8 = .ok (.invokevirtual 240, 3) := by decide +kernel
theorem dX11_deep_11 : decode cX11_deep 11 = .ok (.ifCond .ne 5, 3) := by decide +kernel
theorem dX11_deep_14 : decode cX11_deep 14 = .ok (.iconst (-1), 1) := by decide +kernel
theorem dX11_deep_15 : decode cX11_deep 15 = .ok (.ireturn, 1) := by decide +kernel
theorem dX11_flood_0 : decode cX11_flood 0 = .ok (.aload_n 0, 1) := by decide +kernel
theorem dX11_flood_1 : decode cX11_flood 1 = .ok (.iconst 0, 1) := by decide +kernel
theorem dX11_flood_2 : decode cX11_flood 2 = .ok (.putfield 70, 3) := by decide +kernel
theorem dX11_flood_5 : decode cX11_flood 5 = .ok (.aload_n 0, 1) := by decide +kernel
theorem dX11_flood_6 : decode cX11_flood 6 = .ok (.iload_n 1, 1) := by decide +kernel
theorem dX11_flood_7 : decode cX11_flood 7 = .ok (.iload_n 2, 1) := by decide +kernel
theorem dX11_flood_8 : decode cX11_flood 8 = .ok (.invokevirtual 240, 3) := by decide +kernel
theorem dX11_flood_11 : decode cX11_flood 11 = .ok (.ifCond .ne 5, 3) := by decide +kernel
theorem dX11_flood_14 : decode cX11_flood 14 = .ok (.iconst (-1), 1) := by decide +kernel
theorem dX11_flood_15 : decode cX11_flood 15 = .ok (.ireturn, 1) := by decide +kernel
theorem dX11_given_0 : decode cX11_given 0 = .ok (.aload_n 0, 1) := by decide +kernel
theorem dX11_given_1 : decode cX11_given 1 = .ok (.iconst 0, 1) := by decide +kernel
theorem dX11_given_2 : decode cX11_given 2 = .ok (.putfield 70, 3) := by decide +kernel
theorem dX11_given_5 : decode cX11_given 5 = .ok (.aload_n 0, 1) := by decide +kernel
theorem dX11_given_6 : decode cX11_given 6 = .ok (.iload_n 1, 1) := by decide +kernel
theorem dX11_given_7 : decode cX11_given 7 = .ok (.iload_n 2, 1) := by decide +kernel
theorem dX11_given_8 : decode cX11_given 8 = .ok (.invokevirtual 240, 3) := by decide +kernel
theorem dX11_given_11 : decode cX11_given 11 = .ok (.ifCond .eq 20, 3) := by decide +kernel
theorem dX11_given_31 : decode cX11_given 31 = .ok (.ldc2_w 292, 3) := by decide +kernel
theorem dX11_given_34 : decode cX11_given 34 = .ok (.lreturn, 1) := by decide +kernel
theorem dX11_hear_0 : decode cX11_hear 0 = .ok (.aload_n 0, 1) := by decide +kernel
theorem dX11_hear_1 : decode cX11_hear 1 = .ok (.iconst 0, 1) := by decide +kernel
theorem dX11_hear_2 : decode cX11_hear 2 = .ok (.putfield 70, 3) := by decide +kernel
theorem dX11_hear_5 : decode cX11_hear 5 = .ok (.aload_n 0, 1) := by decide +kernel
theorem dX11_hear_6 : decode cX11_hear 6 = .ok (.iload_n 1, 1) := by decide +kernel
theorem dX11_hear_7 : decode cX11_hear 7 = .ok (.iload_n 2, 1) := by decide +kernel
theorem dX11_hear_8 : decode cX11_hear 8 = .ok (.invokevirtual 240, 3) := by decide +kernel
theorem dX11_hear_11 : decode cX11_hear 11 = .ok (.ifCond .eq 22, 3) := by decide +kernel
theorem dX11_hear_33 : decode cX11_hear 33 = .ok (.ldc2_w 335, 3) := by decide +kernel
theorem dX11_hear_36 : decode cX11_hear 36 = .ok (.lreturn, 1) := by decide +kernel
theorem dX11_helps_0 : decode cX11_helps 0 = .ok (.aload_n 0, 1) := by decide +kernel
theorem dX11_helps_1 : decode cX11_helps 1 = .ok (.iconst 0, 1) := by decide +kernel
theorem dX11_helps_2 : decode cX11_helps 2 = .ok (.putfield 70, 3) := by decide +kernel
theorem dX11_helps_5 : decode cX11_helps 5 = .ok (.aload_n 0, 1) := by decide +kernel
theorem dX11_helps_6 : decode cX11_helps 6 = .ok (.iload_n 1, 1) := by decide +kernel
theorem dX11_helps_7 : decode cX11_helps 7 = .ok (.iload_n 2, 1) := by decide +kernel
theorem dX11_helps_8 : decode cX11_helps 8 = .ok (.invokevirtual 240, 3) := by decide +kernel
theorem dX11_helps_11 : decode cX11_helps 11 = .ok (.ifCond .eq 18, 3) := by decide +kernel
theorem dX11_helps_29 : decode cX11_helps 29 = .ok (.ldc2_w 292, 3) := by decide +kernel
theorem dX11_helps_32 : decode cX11_helps 32 = .ok (.lreturn, 1) := by decide +kernel
theorem dX11_hill_0 : decode cX11_hill 0 = .ok (.aload_n 0, 1) := by decide +kernel
theorem dX11_hill_1 : decode cX11_hill 1 = .ok (.iconst 0, 1) := by decide +kernel
theorem dX11_hill_2 : decode cX11_hill 2 = .ok (.putfield 70, 3) := by decide +kernel
theorem dX11_hill_5 : decode cX11_hill 5 = .ok (.aload_n 0, 1) := by decide +kernel
theorem dX11_hill_6 : decode cX11_hill 6 = .ok (.iload_n 1, 1) := by decide +kernel
theorem dX11_hill_7 : decode cX11_hill 7 = .ok (.invokevirtual 205, 3) := by decide +kernel
theorem dX11_hill_10 : decode cX11_hill 10 = .ok (.ifCond .ne 5, 3) := by decide +kernel
theorem dX11_hill_13 : decode cX11_hill 13 = .ok (.iconst (-1), 1) := by decide +kernel
theorem dX11_hill_14 : decode cX11_hill 14 = .ok (.ireturn, 1) := by decide +kernel
theorem dX11_in_0 : decode cX11_in 0 = .ok (.iload_n 0, 1) := by decide +kernel
theorem dX11_in_1 : decode cX11_in 1 = .ok (.iload_n 1, 1) := by decide +kernel
theorem dX11_in_2 : decode cX11_in 2 = .ok (.if_icmp .lt 12, 3) := by decide +kernel
theorem dX11_in_5 : decode cX11_in 5 = .ok (.iload_n 0, 1) := by decide +kernel
theorem dX11_in_6 : decode cX11_in 6 = .ok (.iload_n 2, 1) := by decide +kernel
theorem dX11_in_7 : decode cX11_in 7 = .ok (.if_icmp .gt 7, 3) := by decide +kernel
theorem dX11_in_10 : decode cX11_in 10 = .ok (.iconst 1, 1) := by decide +kernel
theorem dX11_in_11 : decode cX11_in 11 = .ok (.goto 4, 3) := by decide +kernel
theorem dX11_in_14 : decode cX11_in 14 = .ok (.iconst 0, 1) := by decide +kernel
theorem dX11_in_15 : decode cX11_in 15 = .ok (.ireturn, 1) := by decide +kernel
theorem dX11_isFilled_0 : decode cX11_isFilled 0 = .ok (.aload_n 0, 1) := by decide +kernel
theorem dX11_isFilled_1 : decode cX11_isFilled 1 = .ok (.iload_n 1, 1) := by decide +kernel
theorem dX11_isFilled_2 : decode cX11_isFilled 2 = .ok (.iload_n 2, 1) := by decide +kernel
theorem dX11_isFilled_3 : decode cX11_isFilled 3 = .ok (.invokevirtual 240, 3) := by decide +kernel
theorem dX11_isFilled_6 : decode cX11_isFilled 6 = .ok (.ifCond .eq 27, 3) := by decide +kernel
theorem dX11_isFilled_33 : decode cX11_isFilled 33 = .ok (.iconst 0, 1) := by decide +kernel
theorem dX11_isFilled_34 : decode cX11_isFilled 34 = .ok (.ireturn, 1) := by decide +kernel
theorem dX11_isHill_0 : decode cX11_isHill 0 = .ok (.iload_n 1, 1) := by decide +kernel
theorem dX11_isHill_1 : decode cX11_isHill 1 = .ok (.iconst 0, 1) := by decide +kernel
theorem dX11_isHill_2 : decode cX11_isHill 2 = .ok (.aload_n 0, 1) := by decide +kernel
theorem dX11_isHill_3 : decode cX11_isHill 3 = .ok (.getfield 23, 3) := by decide +kernel
theorem dX11_isHill_6 : decode cX11_isHill 6 = .ok (.iconst 0, 1) := by decide +kernel
theorem dX11_isHill_7 : decode cX11_isHill 7 = .ok (.iaload, 1) := by decide +kernel
theorem dX11_isHill_8 : decode cX11_isHill 8 = .ok (.iconst 1, 1) := by decide +kernel
theorem dX11_isHill_9 : decode cX11_isHill 9 = .ok (.isub, 1) := by decide +kernel
theorem dX11_isHill_10 : decode cX11_isHill 10 = .ok (.invokestatic 78, 3) := by decide +kernel
theorem dX11_isHill_13 : decode cX11_isHill 13 = .ok (.ireturn, 1) := by decide +kernel
theorem dX11_isPlan_0 : decode cX11_isPlan 0 = .ok (.iload_n 1, 1) := by decide +kernel
theorem dX11_isPlan_1 : decode cX11_isPlan 1 = .ok (.iconst 0, 1) := by decide +kernel
theorem dX11_isPlan_2 : decode cX11_isPlan 2 = .ok (.aload_n 0, 1) := by decide +kernel
theorem dX11_isPlan_3 : decode cX11_isPlan 3 = .ok (.getfield 23, 3) := by decide +kernel
theorem dX11_isPlan_6 : decode cX11_isPlan 6 = .ok (.iconst 1, 1) := by decide +kernel
theorem dX11_isPlan_7 : decode cX11_isPlan 7 = .ok (.iaload, 1) := by decide +kernel
theorem dX11_isPlan_8 : decode cX11_isPlan 8 = .ok (.iconst 1, 1) := by decide +kernel
theorem dX11_isPlan_9 : decode cX11_isPlan 9 = .ok (.isub, 1) := by decide +kernel
theorem dX11_isPlan_10 : decode cX11_isPlan 10 = .ok (.invokestatic 78, 3) := by decide +kernel
theorem dX11_isPlan_13 : decode cX11_isPlan 13 = .ok (.ireturn, 1) := by decide +kernel
theorem dX11_joint_0 : decode cX11_joint 0 = .ok (.aload_n 0, 1) := by decide +kernel
theorem dX11_joint_1 : decode cX11_joint 1 = .ok (.iconst 0, 1) := by decide +kernel
theorem dX11_joint_2 : decode cX11_joint 2 = .ok (.putfield 70, 3) := by decide +kernel
theorem dX11_joint_5 : decode cX11_joint 5 = .ok (.aload_n 0, 1) := by decide +kernel
theorem dX11_joint_6 : decode cX11_joint 6 = .ok (.iload_n 1, 1) := by decide +kernel
theorem dX11_joint_7 : decode cX11_joint 7 = .ok (.iload_n 2, 1) := by decide +kernel
theorem dX11_joint_8 : decode cX11_joint 8 = .ok (.invokevirtual 240, 3) := by decide +kernel
theorem dX11_joint_11 : decode cX11_joint 11 = .ok (.ifCond .eq 35, 3) := by decide +kernel
theorem dX11_joint_46 : decode cX11_joint 46 = .ok (.ldc2_w 292, 3) := by decide +kernel
theorem dX11_joint_49 : decode cX11_joint 49 = .ok (.lreturn, 1) := by decide +kernel
theorem dX11_lay_0 : decode cX11_lay 0 = .ok (.aload_n 0, 1) := by decide +kernel
theorem dX11_lay_1 : decode cX11_lay 1 = .ok (.iload_n 1, 1) := by decide +kernel
theorem dX11_lay_2 : decode cX11_lay 2 = .ok (.invokevirtual 205, 3) := by decide +kernel
theorem dX11_lay_5 : decode cX11_lay 5 = .ok (.ifCond .eq 16, 3) := by decide +kernel
theorem dX11_lay_21 : decode cX11_lay 21 = .ok (.iconst 0, 1) := by decide +kernel
theorem dX11_lay_22 : decode cX11_lay 22 = .ok (.ireturn, 1) := by decide +kernel
theorem dX11_likely_0 : decode cX11_likely 0 = .ok (.aload_n 0, 1) := by decide +kernel
theorem dX11_likely_1 : decode cX11_likely 1 = .ok (.iconst 0, 1) := by decide +kernel
theorem dX11_likely_2 : decode cX11_likely 2 = .ok (.putfield 70, 3) := by decide +kernel
theorem dX11_likely_5 : decode cX11_likely 5 = .ok (.aload_n 0, 1) := by decide +kernel
theorem dX11_likely_6 : decode cX11_likely 6 = .ok (.iload_n 1, 1) := by decide +kernel
theorem dX11_likely_7 : decode cX11_likely 7 = .ok (.iload_n 2, 1) := by decide +kernel
theorem dX11_likely_8 : decode cX11_likely 8 = .ok (.invokevirtual 240, 3) := by decide +kernel
theorem dX11_likely_11 : decode cX11_likely 11 = .ok (.ifCond .eq 16, 3) := by decide +kernel
theorem dX11_likely_27 : decode cX11_likely 27 = .ok (.ldc2_w 292, 3) := by decide +kernel
theorem dX11_likely_30 : decode cX11_likely 30 = .ok (.lreturn, 1) := by decide +kernel
theorem dX11_low_0 : decode cX11_low 0 = .ok (.aload_n 0, 1) := by decide +kernel
theorem dX11_low_1 : decode cX11_low 1 = .ok (.iconst 0, 1) := by decide +kernel
theorem dX11_low_2 : decode cX11_low 2 = .ok (.putfield 70, 3) := by decide +kernel
theorem dX11_low_5 : decode cX11_low 5 = .ok (.aload_n 0, 1) := by decide +kernel
theorem dX11_low_6 : decode cX11_low 6 = .ok (.iload_n 1, 1) := by decide +kernel
theorem dX11_low_7 : decode cX11_low 7 = .ok (.iload_n 2, 1) := by decide +kernel
theorem dX11_low_8 : decode cX11_low 8 = .ok (.invokevirtual 240, 3) := by decide +kernel
theorem dX11_low_11 : decode cX11_low 11 = .ok (.ifCond .eq 11, 3) := by decide +kernel
theorem dX11_low_22 : decode cX11_low 22 = .ok (.iconst (-1), 1) := by decide +kernel
theorem dX11_low_23 : decode cX11_low 23 = .ok (.ireturn, 1) := by decide +kernel
theorem dX11_may_0 : decode cX11_may 0 = .ok (.aload_n 0, 1) := by decide +kernel
theorem dX11_may_1 : decode cX11_may 1 = .ok (.iconst 0, 1) := by decide +kernel
theorem dX11_may_2 : decode cX11_may 2 = .ok (.putfield 70, 3) := by decide +kernel
theorem dX11_may_5 : decode cX11_may 5 = .ok (.aload_n 0, 1) := by decide +kernel
theorem dX11_may_6 : decode cX11_may 6 = .ok (.iload_n 1, 1) := by decide +kernel
theorem dX11_may_7 : decode cX11_may 7 = .ok (.iload_n 2, 1) := by decide +kernel
theorem dX11_may_8 : decode cX11_may 8 = .ok (.iload_n 3, 1) := by decide +kernel
theorem dX11_may_9 : decode cX11_may 9 = .ok (.invokevirtual 346, 3) := by decide +kernel
theorem dX11_may_12 : decode cX11_may 12 = .ok (.ifCond .ne 7, 3) := by decide +kernel
theorem dX11_may_15 : decode cX11_may 15 = .ok (.ldc2_w 292, 3) := by decide +kernel
theorem dX11_may_18 : decode cX11_may 18 = .ok (.lreturn, 1) := by decide +kernel
theorem dX11_mean_0 : decode cX11_mean 0 = .ok (.aload_n 0, 1) := by decide +kernel
theorem dX11_mean_1 : decode cX11_mean 1 = .ok (.iconst 0, 1) := by decide +kernel
theorem dX11_mean_2 : decode cX11_mean 2 = .ok (.putfield 70, 3) := by decide +kernel
theorem dX11_mean_5 : decode cX11_mean 5 = .ok (.aload_n 0, 1) := by decide +kernel
theorem dX11_mean_6 : decode cX11_mean 6 = .ok (.iload_n 1, 1) := by decide +kernel
theorem dX11_mean_7 : decode cX11_mean 7 = .ok (.iload_n 2, 1) := by decide +kernel
theorem dX11_mean_8 : decode cX11_mean 8 = .ok (.invokevirtual 240, 3) := by decide +kernel
theorem dX11_mean_11 : decode cX11_mean 11 = .ok (.ifCond .eq 23, 3) := by decide +kernel
theorem dX11_mean_34 : decode cX11_mean 34 = .ok (.ldc2_w 292, 3) := by decide +kernel
theorem dX11_mean_37 : decode cX11_mean 37 = .ok (.lreturn, 1) := by decide +kernel
theorem dX11_mended_0 : decode cX11_mended 0 = .ok (.aload_n 0, 1) := by decide +kernel
theorem dX11_mended_1 : decode cX11_mended 1 = .ok (.iconst 0, 1) := by decide +kernel
theorem dX11_mended_2 : decode cX11_mended 2 = .ok (.putfield 70, 3) := by decide +kernel
theorem dX11_mended_5 : decode cX11_mended 5 = .ok (.aload_n 0, 1) := by decide +kernel
theorem dX11_mended_6 : decode cX11_mended 6 = .ok (.iload_n 1, 1) := by decide +kernel
theorem dX11_mended_7 : decode cX11_mended 7 = .ok (.iload_n 2, 1) := by decide +kernel
theorem dX11_mended_8 : decode cX11_mended 8 = .ok (.invokevirtual 240, 3) := by decide +kernel
theorem dX11_mended_11 : decode cX11_mended 11 = .ok (.ifCond .eq 11, 3) := by decide +kernel
theorem dX11_mended_22 : decode cX11_mended 22 = .ok (.ldc2_w 292, 3) := by decide +kernel
theorem dX11_mended_25 : decode cX11_mended 25 = .ok (.lreturn, 1) := by decide +kernel
theorem dX11_now_0 : decode cX11_now 0 = .ok (.aload_n 0, 1) := by decide +kernel
theorem dX11_now_1 : decode cX11_now 1 = .ok (.iconst 0, 1) := by decide +kernel
theorem dX11_now_2 : decode cX11_now 2 = .ok (.putfield 70, 3) := by decide +kernel
theorem dX11_now_5 : decode cX11_now 5 = .ok (.aload_n 0, 1) := by decide +kernel
theorem dX11_now_6 : decode cX11_now 6 = .ok (.iload_n 1, 1) := by decide +kernel
theorem dX11_now_7 : decode cX11_now 7 = .ok (.iload_n 2, 1) := by decide +kernel
theorem dX11_now_8 : decode cX11_now 8 = .ok (.invokevirtual 240, 3) := by decide +kernel
theorem dX11_now_11 : decode cX11_now 11 = .ok (.ifCond .ne 5, 3) := by decide +kernel
theorem dX11_now_14 : decode cX11_now 14 = .ok (.iconst (-1), 1) := by decide +kernel
theorem dX11_now_15 : decode cX11_now 15 = .ok (.ireturn, 1) := by decide +kernel
theorem dX11_one_0 : decode cX11_one 0 = .ok (.aload_n 0, 1) := by decide +kernel
theorem dX11_one_1 : decode cX11_one 1 = .ok (.iconst 0, 1) := by decide +kernel
theorem dX11_one_2 : decode cX11_one 2 = .ok (.putfield 70, 3) := by decide +kernel
theorem dX11_one_5 : decode cX11_one 5 = .ok (.aload_n 0, 1) := by decide +kernel
theorem dX11_one_6 : decode cX11_one 6 = .ok (.iload_n 1, 1) := by decide +kernel
theorem dX11_one_7 : decode cX11_one 7 = .ok (.iload_n 2, 1) := by decide +kernel
theorem dX11_one_8 : decode cX11_one 8 = .ok (.invokevirtual 240, 3) := by decide +kernel
theorem dX11_one_11 : decode cX11_one 11 = .ok (.ifCond .eq 10, 3) := by decide +kernel
theorem dX11_one_21 : decode cX11_one 21 = .ok (.ldc2_w 292, 3) := by decide +kernel
theorem dX11_one_24 : decode cX11_one 24 = .ok (.lreturn, 1) := by decide +kernel
theorem dX11_order_0 : decode cX11_order 0 = .ok (.aload_n 0, 1) := by decide +kernel
theorem dX11_order_1 : decode cX11_order 1 = .ok (.iconst 0, 1) := by decide +kernel
theorem dX11_order_2 : decode cX11_order 2 = .ok (.putfield 70, 3) := by decide +kernel
theorem dX11_order_5 : decode cX11_order 5 = .ok (.aload_n 0, 1) := by decide +kernel
theorem dX11_order_6 : decode cX11_order 6 = .ok (.iload_n 1, 1) := by decide +kernel
theorem dX11_order_7 : decode cX11_order 7 = .ok (.iload_n 2, 1) := by decide +kernel
theorem dX11_order_8 : decode cX11_order 8 = .ok (.iload_n 3, 1) := by decide +kernel
theorem dX11_order_9 : decode cX11_order 9 = .ok (.invokevirtual 346, 3) := by decide +kernel
theorem dX11_order_12 : decode cX11_order 12 = .ok (.ifCond .eq 18, 3) := by decide +kernel
theorem dX11_order_30 : decode cX11_order 30 = .ok (.iconst (-1), 1) := by decide +kernel
theorem dX11_order_31 : decode cX11_order 31 = .ok (.ireturn, 1) := by decide +kernel
theorem dX11_plan_0 : decode cX11_plan 0 = .ok (.aload_n 0, 1) := by decide +kernel
theorem dX11_plan_1 : decode cX11_plan 1 = .ok (.iconst 0, 1) := by decide +kernel
theorem dX11_plan_2 : decode cX11_plan 2 = .ok (.putfield 70, 3) := by decide +kernel
theorem dX11_plan_5 : decode cX11_plan 5 = .ok (.aload_n 0, 1) := by decide +kernel
theorem dX11_plan_6 : decode cX11_plan 6 = .ok (.iload_n 2, 1) := by decide +kernel
theorem dX11_plan_7 : decode cX11_plan 7 = .ok (.invokevirtual 225, 3) := by decide +kernel
theorem dX11_plan_10 : decode cX11_plan 10 = .ok (.ifCond .eq 12, 3) := by decide +kernel
theorem dX11_plan_22 : decode cX11_plan 22 = .ok (.iconst (-1), 1) := by decide +kernel
theorem dX11_plan_23 : decode cX11_plan 23 = .ok (.ireturn, 1) := by decide +kernel
theorem dX11_pond_0 : decode cX11_pond 0 = .ok (.aload_n 0, 1) := by decide +kernel
theorem dX11_pond_1 : decode cX11_pond 1 = .ok (.iconst 0, 1) := by decide +kernel
theorem dX11_pond_2 : decode cX11_pond 2 = .ok (.putfield 70, 3) := by decide +kernel
theorem dX11_pond_5 : decode cX11_pond 5 = .ok (.aload_n 0, 1) := by decide +kernel
theorem dX11_pond_6 : decode cX11_pond 6 = .ok (.iload_n 1, 1) := by decide +kernel
theorem dX11_pond_7 : decode cX11_pond 7 = .ok (.iload_n 2, 1) := by decide +kernel
theorem dX11_pond_8 : decode cX11_pond 8 = .ok (.invokevirtual 240, 3) := by decide +kernel
theorem dX11_pond_11 : decode cX11_pond 11 = .ok (.ifCond .eq 32, 3) := by decide +kernel
theorem dX11_pond_43 : decode cX11_pond 43 = .ok (.bipush (-2), 2) := by decide +kernel
theorem dX11_pond_45 : decode cX11_pond 45 = .ok (.ireturn, 1) := by decide +kernel
theorem dX11_rows_0 : decode cX11_rows 0 = .ok (.aload_n 0, 1) := by decide +kernel
theorem dX11_rows_1 : decode cX11_rows 1 = .ok (.iconst 0, 1) := by decide +kernel
theorem dX11_rows_2 : decode cX11_rows 2 = .ok (.putfield 70, 3) := by decide +kernel
theorem dX11_rows_5 : decode cX11_rows 5 = .ok (.aload_n 0, 1) := by decide +kernel
theorem dX11_rows_6 : decode cX11_rows 6 = .ok (.iload_n 1, 1) := by decide +kernel
theorem dX11_rows_7 : decode cX11_rows 7 = .ok (.iload_n 2, 1) := by decide +kernel
theorem dX11_rows_8 : decode cX11_rows 8 = .ok (.invokevirtual 240, 3) := by decide +kernel
theorem dX11_rows_11 : decode cX11_rows 11 = .ok (.ifCond .ne 7, 3) := by decide +kernel
theorem dX11_rows_14 : decode cX11_rows 14 = .ok (.ldc2_w 292, 3) := by decide +kernel
theorem dX11_rows_17 : decode cX11_rows 17 = .ok (.lreturn, 1) := by decide +kernel
theorem dX11_runs_0 : decode cX11_runs 0 = .ok (.aload_n 0, 1) := by decide +kernel
theorem dX11_runs_1 : decode cX11_runs 1 = .ok (.iconst 0, 1) := by decide +kernel
theorem dX11_runs_2 : decode cX11_runs 2 = .ok (.putfield 70, 3) := by decide +kernel
theorem dX11_runs_5 : decode cX11_runs 5 = .ok (.aload_n 0, 1) := by decide +kernel
theorem dX11_runs_6 : decode cX11_runs 6 = .ok (.iload_n 1, 1) := by decide +kernel
theorem dX11_runs_7 : decode cX11_runs 7 = .ok (.iload_n 2, 1) := by decide +kernel
theorem dX11_runs_8 : decode cX11_runs 8 = .ok (.invokevirtual 240, 3) := by decide +kernel
theorem dX11_runs_11 : decode cX11_runs 11 = .ok (.ifCond .eq 11, 3) := by decide +kernel
theorem dX11_runs_22 : decode cX11_runs 22 = .ok (.iconst (-1), 1) := by decide +kernel
theorem dX11_runs_23 : decode cX11_runs 23 = .ok (.ireturn, 1) := by decide +kernel
theorem dX11_safe_0 : decode cX11_safe 0 = .ok (.aload_n 0, 1) := by decide +kernel
theorem dX11_safe_1 : decode cX11_safe 1 = .ok (.iconst 0, 1) := by decide +kernel
theorem dX11_safe_2 : decode cX11_safe 2 = .ok (.putfield 70, 3) := by decide +kernel
theorem dX11_safe_5 : decode cX11_safe 5 = .ok (.aload_n 0, 1) := by decide +kernel
theorem dX11_safe_6 : decode cX11_safe 6 = .ok (.iload_n 1, 1) := by decide +kernel
theorem dX11_safe_7 : decode cX11_safe 7 = .ok (.iload_n 2, 1) := by decide +kernel
theorem dX11_safe_8 : decode cX11_safe 8 = .ok (.invokevirtual 240, 3) := by decide +kernel
theorem dX11_safe_11 : decode cX11_safe 11 = .ok (.ifCond .ne 5, 3) := by decide +kernel
theorem dX11_safe_14 : decode cX11_safe 14 = .ok (.iconst (-1), 1) := by decide +kernel
theorem dX11_safe_15 : decode cX11_safe 15 = .ok (.ireturn, 1) := by decide +kernel
theorem dX11_spared_0 : decode cX11_spared 0 = .ok (.aload_n 0, 1) := by decide +kernel
theorem dX11_spared_1 : decode cX11_spared 1 = .ok (.iconst 0, 1) := by decide +kernel
theorem dX11_spared_2 : decode cX11_spared 2 = .ok (.putfield 70, 3) := by decide +kernel
theorem dX11_spared_5 : decode cX11_spared 5 = .ok (.aload_n 0, 1) := by decide +kernel
theorem dX11_spared_6 : decode cX11_spared 6 = .ok (.iload_n 1, 1) := by decide +kernel
theorem dX11_spared_7 : decode cX11_spared 7 = .ok (.iload_n 2, 1) := by decide +kernel
theorem dX11_spared_8 : decode cX11_spared 8 = .ok (.invokevirtual 240, 3) := by decide +kernel
theorem dX11_spared_11 : decode cX11_spared 11 = .ok (.ifCond .eq 11, 3) := by decide +kernel
theorem dX11_spared_22 : decode cX11_spared 22 = .ok (.iconst (-1), 1) := by decide +kernel
theorem dX11_spared_23 : decode cX11_spared 23 = .ok (.ireturn, 1) := by decide +kernel
theorem dX11_spend_0 : decode cX11_spend 0 = .ok (.aload_n 0, 1) := by decide +kernel
theorem dX11_spend_1 : decode cX11_spend 1 = .ok (.iconst 0, 1) := by decide +kernel
theorem dX11_spend_2 : decode cX11_spend 2 = .ok (.putfield 70, 3) := by decide +kernel
theorem dX11_spend_5 : decode cX11_spend 5 = .ok (.aload_n 0, 1) := by decide +kernel
theorem dX11_spend_6 : decode cX11_spend 6 = .ok (.iload_n 1, 1) := by decide +kernel
theorem dX11_spend_7 : decode cX11_spend 7 = .ok (.iload_n 2, 1) := by decide +kernel
theorem dX11_spend_8 : decode cX11_spend 8 = .ok (.iload_n 3, 1) := by decide +kernel
theorem dX11_spend_9 : decode cX11_spend 9 = .ok (.iconst 0, 1) := by decide +kernel
theorem dX11_spend_10 : decode cX11_spend 10 = .ok (.invokevirtual 314, 3) := by decide +kernel
theorem dX11_spend_13 : decode cX11_spend 13 = .ok (.ifCond .eq 14, 3) := by decide +kernel
theorem dX11_spend_27 : decode cX11_spend 27 = .ok (.iconst (-1), 1) := by decide +kernel
theorem dX11_spend_28 : decode cX11_spend 28 = .ok (.ireturn, 1) := by decide +kernel
theorem dX11_steps_0 : decode cX11_steps 0 = .ok (.aload_n 0, 1) := by decide +kernel
theorem dX11_steps_1 : decode cX11_steps 1 = .ok (.iconst 0, 1) := by decide +kernel
theorem dX11_steps_2 : decode cX11_steps 2 = .ok (.putfield 70, 3) := by decide +kernel
theorem dX11_steps_5 : decode cX11_steps 5 = .ok (.aload_n 0, 1) := by decide +kernel
theorem dX11_steps_6 : decode cX11_steps 6 = .ok (.iload_n 1, 1) := by decide +kernel
theorem dX11_steps_7 : decode cX11_steps 7 = .ok (.iload_n 2, 1) := by decide +kernel
theorem dX11_steps_8 : decode cX11_steps 8 = .ok (.iload_n 3, 1) := by decide +kernel
theorem dX11_steps_9 : decode cX11_steps 9 = .ok (.iload 4, 2) := by decide +kernel
theorem dX11_steps_11 : decode cX11_steps 11 = .ok (.invokevirtual 314, 3) := by decide +kernel
theorem dX11_steps_14 : decode cX11_steps 14 = .ok (.ifCond .ne 5, 3) := by decide +kernel
theorem dX11_steps_17 : decode cX11_steps 17 = .ok (.iconst (-1), 1) := by decide +kernel
theorem dX11_steps_18 : decode cX11_steps 18 = .ok (.ireturn, 1) := by decide +kernel
theorem dX11_storm_0 : decode cX11_storm 0 = .ok (.aload_n 0, 1) := by decide +kernel
theorem dX11_storm_1 : decode cX11_storm 1 = .ok (.iconst 0, 1) := by decide +kernel
theorem dX11_storm_2 : decode cX11_storm 2 = .ok (.putfield 70, 3) := by decide +kernel
theorem dX11_storm_5 : decode cX11_storm 5 = .ok (.aload_n 0, 1) := by decide +kernel
theorem dX11_storm_6 : decode cX11_storm 6 = .ok (.iload_n 1, 1) := by decide +kernel
theorem dX11_storm_7 : decode cX11_storm 7 = .ok (.iload_n 2, 1) := by decide +kernel
theorem dX11_storm_8 : decode cX11_storm 8 = .ok (.invokevirtual 240, 3) := by decide +kernel
theorem dX11_storm_11 : decode cX11_storm 11 = .ok (.ifCond .eq 20, 3) := by decide +kernel
theorem dX11_storm_31 : decode cX11_storm 31 = .ok (.iconst (-1), 1) := by decide +kernel
theorem dX11_storm_32 : decode cX11_storm 32 = .ok (.ireturn, 1) := by decide +kernel
theorem dX11_think_0 : decode cX11_think 0 = .ok (.aload_n 0, 1) := by decide +kernel
theorem dX11_think_1 : decode cX11_think 1 = .ok (.iconst 0, 1) := by decide +kernel
theorem dX11_think_2 : decode cX11_think 2 = .ok (.putfield 70, 3) := by decide +kernel
theorem dX11_think_5 : decode cX11_think 5 = .ok (.aload_n 0, 1) := by decide +kernel
theorem dX11_think_6 : decode cX11_think 6 = .ok (.iload_n 1, 1) := by decide +kernel
theorem dX11_think_7 : decode cX11_think 7 = .ok (.iload_n 2, 1) := by decide +kernel
theorem dX11_think_8 : decode cX11_think 8 = .ok (.invokevirtual 240, 3) := by decide +kernel
theorem dX11_think_11 : decode cX11_think 11 = .ok (.ifCond .eq 11, 3) := by decide +kernel
theorem dX11_think_22 : decode cX11_think 22 = .ok (.iconst (-1), 1) := by decide +kernel
theorem dX11_think_23 : decode cX11_think 23 = .ok (.ireturn, 1) := by decide +kernel
theorem dX11_twice_0 : decode cX11_twice 0 = .ok (.aload_n 0, 1) := by decide +kernel
theorem dX11_twice_1 : decode cX11_twice 1 = .ok (.iconst 0, 1) := by decide +kernel
theorem dX11_twice_2 : decode cX11_twice 2 = .ok (.putfield 70, 3) := by decide +kernel
theorem dX11_twice_5 : decode cX11_twice 5 = .ok (.aload_n 0, 1) := by decide +kernel
theorem dX11_twice_6 : decode cX11_twice 6 = .ok (.iload_n 1, 1) := by decide +kernel
theorem dX11_twice_7 : decode cX11_twice 7 = .ok (.iload_n 2, 1) := by decide +kernel
theorem dX11_twice_8 : decode cX11_twice 8 = .ok (.invokevirtual 240, 3) := by decide +kernel
theorem dX11_twice_11 : decode cX11_twice 11 = .ok (.ifCond .eq 38, 3) := by decide +kernel
theorem dX11_twice_49 : decode cX11_twice 49 = .ok (.iconst (-1), 1) := by decide +kernel
theorem dX11_twice_50 : decode cX11_twice 50 = .ok (.ireturn, 1) := by decide +kernel
theorem dX11_upon_0 : decode cX11_upon 0 = .ok (.aload_n 0, 1) := by decide +kernel
theorem dX11_upon_1 : decode cX11_upon 1 = .ok (.iconst 0, 1) := by decide +kernel
theorem dX11_upon_2 : decode cX11_upon 2 = .ok (.putfield 70, 3) := by decide +kernel
theorem dX11_upon_5 : decode cX11_upon 5 = .ok (.aload_n 0, 1) := by decide +kernel
theorem dX11_upon_6 : decode cX11_upon 6 = .ok (.iload_n 1, 1) := by decide +kernel
theorem dX11_upon_7 : decode cX11_upon 7 = .ok (.iload_n 2, 1) := by decide +kernel
theorem dX11_upon_8 : decode cX11_upon 8 = .ok (.invokevirtual 240, 3) := by decide +kernel
theorem dX11_upon_11 : decode cX11_upon 11 = .ok (.ifCond .eq 11, 3) := by decide +kernel
theorem dX11_upon_22 : decode cX11_upon 22 = .ok (.iconst (-1), 1) := by decide +kernel
theorem dX11_upon_23 : decode cX11_upon 23 = .ok (.ireturn, 1) := by decide +kernel
theorem dX11_weighs_0 : decode cX11_weighs 0 = .ok (.aload_n 0, 1) := by decide +kernel
theorem dX11_weighs_1 : decode cX11_weighs 1 = .ok (.iconst 0, 1) := by decide +kernel
theorem dX11_weighs_2 : decode cX11_weighs 2 = .ok (.putfield 70, 3) := by decide +kernel
theorem dX11_weighs_5 : decode cX11_weighs 5 = .ok (.aload_n 0, 1) := by decide +kernel
theorem dX11_weighs_6 : decode cX11_weighs 6 = .ok (.iload_n 1, 1) := by decide +kernel
theorem dX11_weighs_7 : decode cX11_weighs 7 = .ok (.iload_n 2, 1) := by decide +kernel
theorem dX11_weighs_8 : decode cX11_weighs 8 = .ok (.invokevirtual 240, 3) := by decide +kernel
theorem dX11_weighs_11 : decode cX11_weighs 11 = .ok (.ifCond .ne 5, 3) := by decide +kernel
theorem dX11_weighs_14 : decode cX11_weighs 14 = .ok (.iconst (-1), 1) := by decide +kernel
theorem dX11_weighs_15 : decode cX11_weighs 15 = .ok (.ireturn, 1) := by decide +kernel
theorem dX11_work_0 : decode cX11_work 0 = .ok (.aload_n 0, 1) := by decide +kernel
theorem dX11_work_1 : decode cX11_work 1 = .ok (.iconst 0, 1) := by decide +kernel
theorem dX11_work_2 : decode cX11_work 2 = .ok (.putfield 70, 3) := by decide +kernel
theorem dX11_work_5 : decode cX11_work 5 = .ok (.aload_n 0, 1) := by decide +kernel
theorem dX11_work_6 : decode cX11_work 6 = .ok (.iload_n 1, 1) := by decide +kernel
theorem dX11_work_7 : decode cX11_work 7 = .ok (.invokevirtual 225, 3) := by decide +kernel
theorem dX11_work_10 : decode cX11_work 10 = .ok (.ifCond .eq 51, 3) := by decide +kernel
theorem dX11_work_61 : decode cX11_work 61 = .ok (.bipush (-2), 2) := by decide +kernel
theorem dX11_work_63 : decode cX11_work 63 = .ok (.ireturn, 1) := by decide +kernel
theorem dX11_worst_0 : decode cX11_worst 0 = .ok (.aload_n 0, 1) := by decide +kernel
theorem dX11_worst_1 : decode cX11_worst 1 = .ok (.iconst 0, 1) := by decide +kernel
theorem dX11_worst_2 : decode cX11_worst 2 = .ok (.putfield 70, 3) := by decide +kernel
theorem dX11_worst_5 : decode cX11_worst 5 = .ok (.aload_n 0, 1) := by decide +kernel
theorem dX11_worst_6 : decode cX11_worst 6 = .ok (.iload_n 1, 1) := by decide +kernel
theorem dX11_worst_7 : decode cX11_worst 7 = .ok (.iload_n 2, 1) := by decide +kernel
theorem dX11_worst_8 : decode cX11_worst 8 = .ok (.invokevirtual 240, 3) := by decide +kernel
theorem dX11_worst_11 : decode cX11_worst 11 = .ok (.ifCond .eq 12, 3) := by decide +kernel
theorem dX11_worst_23 : decode cX11_worst 23 = .ok (.ldc2_w 292, 3) := by decide +kernel
theorem dX11_worst_26 : decode cX11_worst 26 = .ok (.lreturn, 1) := by decide +kernel
theorem dX11_years_0 : decode cX11_years 0 = .ok (.aload_n 0, 1) := by decide +kernel
theorem dX11_years_1 : decode cX11_years 1 = .ok (.iconst 0, 1) := by decide +kernel
theorem dX11_years_2 : decode cX11_years 2 = .ok (.putfield 70, 3) := by decide +kernel
theorem dX11_years_5 : decode cX11_years 5 = .ok (.aload_n 0, 1) := by decide +kernel
theorem dX11_years_6 : decode cX11_years 6 = .ok (.iload_n 1, 1) := by decide +kernel
theorem dX11_years_7 : decode cX11_years 7 = .ok (.iload_n 2, 1) := by decide +kernel
theorem dX11_years_8 : decode cX11_years 8 = .ok (.invokevirtual 240, 3) := by decide +kernel
theorem dX11_years_11 : decode cX11_years 11 = .ok (.ifCond .eq 14, 3) := by decide +kernel
theorem dX11_years_25 : decode cX11_years 25 = .ok (.ldc2_w 292, 3) := by decide +kernel
theorem dX11_years_28 : decode cX11_years 28 = .ok (.lreturn, 1) := by decide +kernel
set_option maxHeartbeats 4000000 in
set_option maxRecDepth 100000 in
theorem c_X11_in {d : Nat} {h : List MC} {v lo hi : Int32} (hd : 0 ≤ d)   : CT con0 d 0 0 yX11_in cX11_in 3 (some .boolean) [.int v, .int lo, .int hi] h (fun r h2 => r = some (.int (bI (!decide (v < lo) && !decide (hi < v)))) ∧ h2 = h) := by
  refine CT_of (by decide) (Nat.le_of_ble_eq_true rfl) (fun x hq => ?_)
  show J x yX11_in cX11_in 3 (some .boolean) d 0 0 h.length 0 [(0, .int v), (1, .int lo), (2, .int hi)] [] h 0 0
  refine J_iload_n (i := 0) (j := 0) dX11_in_0 rfl rfl ?_
  refine J_iload_n (i := 1) (j := 1) dX11_in_1 rfl rfl ?_
  refine J_icmp_lt (tgt := 14) dX11_in_2 (by decide) (fun c_1 => ?_) (fun c_1 => ?_)
  · refine J_iconst (v := 0) dX11_in_14 (by decide) ?_
    exact J_zret hq dX11_in_15 rfl rfl (hkz rfl) (Nat.le_refl _) (Nat.le_refl _) ⟨by simp [bI, c_1], rfl⟩
  · refine J_iload_n (i := 0) (j := 0) dX11_in_5 rfl rfl ?_
    refine J_iload_n (i := 2) (j := 2) dX11_in_6 rfl rfl ?_
    refine J_icmp_gt (tgt := 14) dX11_in_7 (by decide) (fun c_2 => ?_) (fun c_2 => ?_)
    · refine J_iconst (v := 0) dX11_in_14 (by decide) ?_
      exact J_zret hq dX11_in_15 rfl rfl (hkz rfl) (Nat.le_refl _) (Nat.le_refl _) ⟨by simp [bI, c_1, c_2], rfl⟩
    · refine J_iconst (v := 1) dX11_in_10 (by decide) ?_
      refine J_goto (tgt := 15) dX11_in_11 (by decide) ?_
      exact J_zret hq dX11_in_15 rfl rfl (hkz rfl) (Nat.le_refl _) (Nat.le_refl _) ⟨by simp [bI, c_1, c_2], rfl⟩
set_option maxHeartbeats 4000000 in
set_option maxRecDepth 100000 in
theorem c_X11_isHill0 {d : Nat} {h : List MC} {a0 : Int32} (hd : 1 ≤ d) (hm : h[162]? = some (.inr (11, [.int 0, .ref 163, .ref 164, .ref 165, .ref 166, .ref 167, .ref 168, .ref 169, .int 0, .int 0, .int 0, .int 0, .int 0, .long 0, .int 0, .int 0, .int 0, .int 0, .int 0, .ref 170, .ref 171, .ref 172, .int 0, .int 0, .int 0, .int 0, .int 0, .int 0, .ref 173, .ref 174, .ref 175, .int 0, .int 0, .int 0, .ref 176, .ref 177, .ref 178, .ref 179, .ref 180, .int 0, .long 0, .int 0, .ref 181]))) (hy : h[167]? = some (.inl (1, 8, .inl (fun _ => 0))))  : CT con0 d 0 0 yX11_isHill cX11_isHill 2 (some .boolean) [.ref 162, .int a0] h (fun r h2 => r = some (.int 0) ∧ h2 = h) := by
  refine CT_of (by decide) (Nat.le_of_ble_eq_true rfl) (fun x hq => ?_)
  show J x yX11_isHill cX11_isHill 2 (some .boolean) d 0 0 h.length 0 [(0, .ref 162), (1, .int a0)] [] h 0 0
  refine J_iload_n (i := 1) (j := 1) dX11_isHill_0 rfl rfl ?_
  refine J_iconst (v := 0) dX11_isHill_1 (by decide) ?_
  refine J_aload_n (i := 0) (j := 0) dX11_isHill_2 rfl rfl ?_
  refine J_get (C := RX11) (T := TX11) (Z := 43) (ci := 11) (f := 5) dX11_isHill_3 inG11 rfl (by decide) k1269 hm rfl ?_
  refine J_iconst (v := 0) dX11_isHill_6 (by decide) ?_
  refine J_iald dX11_isHill_7 hy (vp_c (by decide)) ?_
  refine J_ci (v := 0) rfl ?_
  refine J_iconst (v := 1) dX11_isHill_8 (by decide) ?_
  refine J_isub dX11_isHill_9 ?_
  refine J_ci (v := (-1)) (by decide) ?_
  refine J_callS (As := [.int a0, .int 0, .int (-1)]) (rest := []) dX11_isHill_10 (c_X11_in (d := 0) (h := h) (v := a0) (lo := 0) (hi := (-1)) (by decide)) hq.n k1406 k1407 k97 k1408 np_X11_in (Nat.le_trans (by decide) hd) (by decide) (Nat.le_refl _) (Nat.le_refl _) (hkz rfl) rfl (Nat.le_of_ble_eq_true rfl) (fun r_1 h_2 p_3 => ?_)
  obtain ⟨rfl, w_4⟩ := p_3
  refine J_w w_4 ?_
  refine J_ci (v := 0) (by rw [nb1]; rfl) ?_
  exact J_zret hq dX11_isHill_13 rfl rfl (hkz rfl) (Nat.le_refl _) (Nat.le_refl _) ⟨rfl, rfl⟩
set_option maxHeartbeats 4000000 in
set_option maxRecDepth 100000 in
theorem c_X11_isPlan0 {d : Nat} {h : List MC} {a0 : Int32} (hd : 1 ≤ d) (hm : h[162]? = some (.inr (11, [.int 0, .ref 163, .ref 164, .ref 165, .ref 166, .ref 167, .ref 168, .ref 169, .int 0, .int 0, .int 0, .int 0, .int 0, .long 0, .int 0, .int 0, .int 0, .int 0, .int 0, .ref 170, .ref 171, .ref 172, .int 0, .int 0, .int 0, .int 0, .int 0, .int 0, .ref 173, .ref 174, .ref 175, .int 0, .int 0, .int 0, .ref 176, .ref 177, .ref 178, .ref 179, .ref 180, .int 0, .long 0, .int 0, .ref 181]))) (hy : h[167]? = some (.inl (1, 8, .inl (fun _ => 0))))  : CT con0 d 0 0 yX11_isPlan cX11_isPlan 2 (some .boolean) [.ref 162, .int a0] h (fun r h2 => r = some (.int 0) ∧ h2 = h) := by
  refine CT_of (by decide) (Nat.le_of_ble_eq_true rfl) (fun x hq => ?_)
  show J x yX11_isPlan cX11_isPlan 2 (some .boolean) d 0 0 h.length 0 [(0, .ref 162), (1, .int a0)] [] h 0 0
  refine J_iload_n (i := 1) (j := 1) dX11_isPlan_0 rfl rfl ?_
  refine J_iconst (v := 0) dX11_isPlan_1 (by decide) ?_
  refine J_aload_n (i := 0) (j := 0) dX11_isPlan_2 rfl rfl ?_
  refine J_get (C := RX11) (T := TX11) (Z := 43) (ci := 11) (f := 5) dX11_isPlan_3 inG11 rfl (by decide) k1269 hm rfl ?_
  refine J_iconst (v := 1) dX11_isPlan_6 (by decide) ?_
  refine J_iald dX11_isPlan_7 hy (vp_c (by decide)) ?_
  refine J_ci (v := 0) rfl ?_
  refine J_iconst (v := 1) dX11_isPlan_8 (by decide) ?_
  refine J_isub dX11_isPlan_9 ?_
  refine J_ci (v := (-1)) (by decide) ?_
  refine J_callS (As := [.int a0, .int 0, .int (-1)]) (rest := []) dX11_isPlan_10 (c_X11_in (d := 0) (h := h) (v := a0) (lo := 0) (hi := (-1)) (by decide)) hq.n k1406 k1407 k97 k1408 np_X11_in (Nat.le_trans (by decide) hd) (by decide) (Nat.le_refl _) (Nat.le_refl _) (hkz rfl) rfl (Nat.le_of_ble_eq_true rfl) (fun r_1 h_2 p_3 => ?_)
  obtain ⟨rfl, w_4⟩ := p_3
  refine J_w w_4 ?_
  refine J_ci (v := 0) (by rw [nb1]; rfl) ?_
  exact J_zret hq dX11_isPlan_13 rfl rfl (hkz rfl) (Nat.le_refl _) (Nat.le_refl _) ⟨rfl, rfl⟩
set_option maxHeartbeats 4000000 in
set_option maxRecDepth 100000 in
theorem c_X11_lay0 {d : Nat} {h : List MC} {a0 a1 : Int32} (hd : 2 ≤ d) (hm : h[162]? = some (.inr (11, [.int 0, .ref 163, .ref 164, .ref 165, .ref 166, .ref 167, .ref 168, .ref 169, .int 0, .int 0, .int 0, .int 0, .int 0, .long 0, .int 0, .int 0, .int 0, .int 0, .int 0, .ref 170, .ref 171, .ref 172, .int 0, .int 0, .int 0, .int 0, .int 0, .int 0, .ref 173, .ref 174, .ref 175, .int 0, .int 0, .int 0, .ref 176, .ref 177, .ref 178, .ref 179, .ref 180, .int 0, .long 0, .int 0, .ref 181]))) (hy : h[167]? = some (.inl (1, 8, .inl (fun _ => 0))))  : CT con0 d 0 0 yX11_lay cX11_lay 5 (some .boolean) [.ref 162, .int a0, .int a1] h (fun r h2 => r = some (.int 0) ∧ h2 = h) := by
  refine CT_of (by decide) (Nat.le_of_ble_eq_true rfl) (fun x hq => ?_)
  show J x yX11_lay cX11_lay 5 (some .boolean) d 0 0 h.length 0 [(0, .ref 162), (1, .int a0), (2, .int a1)] [] h 0 0
  refine J_aload_n (i := 0) (j := 0) dX11_lay_0 rfl rfl ?_
  refine J_iload_n (i := 1) (j := 1) dX11_lay_1 rfl rfl ?_
  refine J_callV (As := [.int a0]) (rest := []) dX11_lay_2 (c_X11_isHill0 (d := 1) (h := h)  (by decide) hm hy ) hq.n k1495 k1497 k51 hm rfl rfl k97 k1498 np_X11_isHill (Nat.le_trans (by decide) hd) (by decide) (Nat.le_refl _) (Nat.le_refl _) (hkz rfl) rfl (Nat.le_of_ble_eq_true rfl) (fun r_1 h_2 p_3 => ?_)
  obtain ⟨rfl, w_4⟩ := p_3
  refine J_w w_4 ?_
  refine J_if_eq (tgt := 21) dX11_lay_5 (by decide) (fun _ => ?_) (fun q => absurd (by decide) q)
  refine J_iconst (v := 0) dX11_lay_21 (by decide) ?_
  exact J_zret hq dX11_lay_22 rfl rfl (hkz rfl) (Nat.le_refl _) (Nat.le_refl _) ⟨rfl, rfl⟩
set_option maxHeartbeats 4000000 in
set_option maxRecDepth 100000 in
theorem c_X11_canMend0 {d : Nat} {h : List MC} {a0 a1 a2 a3 : Int32} (hd : 3 ≤ d) (hm : h[162]? = some (.inr (11, [.int 0, .ref 163, .ref 164, .ref 165, .ref 166, .ref 167, .ref 168, .ref 169, .int 0, .int 0, .int 0, .int 0, .int 0, .long 0, .int 0, .int 0, .int 0, .int 0, .int 0, .ref 170, .ref 171, .ref 172, .int 0, .int 0, .int 0, .int 0, .int 0, .int 0, .ref 173, .ref 174, .ref 175, .int 0, .int 0, .int 0, .ref 176, .ref 177, .ref 178, .ref 179, .ref 180, .int 0, .long 0, .int 0, .ref 181]))) (hy : h[167]? = some (.inl (1, 8, .inl (fun _ => 0))))  : CT con0 d 0 0 yX11_canMend cX11_canMend 5 (some .boolean) [.ref 162, .int a0, .int a1, .int a2, .int a3] h (fun r h2 => r = some (.int 0) ∧ h2 = h) := by
  refine CT_of (by decide) (Nat.le_of_ble_eq_true rfl) (fun x hq => ?_)
  show J x yX11_canMend cX11_canMend 5 (some .boolean) d 0 0 h.length 0 [(0, .ref 162), (1, .int a0), (2, .int a1), (3, .int a2), (4, .int a3)] [] h 0 0
  refine J_aload_n (i := 0) (j := 0) dX11_canMend_0 rfl rfl ?_
  refine J_iload_n (i := 1) (j := 1) dX11_canMend_1 rfl rfl ?_
  refine J_iload_n (i := 2) (j := 2) dX11_canMend_2 rfl rfl ?_
  refine J_callV (As := [.int a0, .int a1]) (rest := []) dX11_canMend_3 (c_X11_lay0 (d := 2) (h := h)  (by decide) hm hy ) hq.n k1503 k1505 k52 hm rfl rfl k97 k1506 np_X11_lay (Nat.le_trans (by decide) hd) (by decide) (Nat.le_refl _) (Nat.le_refl _) (hkz rfl) rfl (Nat.le_of_ble_eq_true rfl) (fun r_1 h_2 p_3 => ?_)
  obtain ⟨rfl, w_4⟩ := p_3
  refine J_w w_4 ?_
  refine J_if_eq (tgt := 37) dX11_canMend_6 (by decide) (fun _ => ?_) (fun q => absurd (by decide) q)
  refine J_iconst (v := 0) dX11_canMend_37 (by decide) ?_
  exact J_zret hq dX11_canMend_38 rfl rfl (hkz rfl) (Nat.le_refl _) (Nat.le_refl _) ⟨rfl, rfl⟩
set_option maxHeartbeats 4000000 in
set_option maxRecDepth 100000 in
theorem c_X11_isFilled0 {d : Nat} {h : List MC} {a0 a1 a2 : Int32} (hd : 3 ≤ d) (hm : h[162]? = some (.inr (11, [.int 0, .ref 163, .ref 164, .ref 165, .ref 166, .ref 167, .ref 168, .ref 169, .int 0, .int 0, .int 0, .int 0, .int 0, .long 0, .int 0, .int 0, .int 0, .int 0, .int 0, .ref 170, .ref 171, .ref 172, .int 0, .int 0, .int 0, .int 0, .int 0, .int 0, .ref 173, .ref 174, .ref 175, .int 0, .int 0, .int 0, .ref 176, .ref 177, .ref 178, .ref 179, .ref 180, .int 0, .long 0, .int 0, .ref 181]))) (hy : h[167]? = some (.inl (1, 8, .inl (fun _ => 0))))  : CT con0 d 0 0 yX11_isFilled cX11_isFilled 4 (some .boolean) [.ref 162, .int a0, .int a1, .int a2] h (fun r h2 => r = some (.int 0) ∧ h2 = h) := by
  refine CT_of (by decide) (Nat.le_of_ble_eq_true rfl) (fun x hq => ?_)
  show J x yX11_isFilled cX11_isFilled 4 (some .boolean) d 0 0 h.length 0 [(0, .ref 162), (1, .int a0), (2, .int a1), (3, .int a2)] [] h 0 0
  refine J_aload_n (i := 0) (j := 0) dX11_isFilled_0 rfl rfl ?_
  refine J_iload_n (i := 1) (j := 1) dX11_isFilled_1 rfl rfl ?_
  refine J_iload_n (i := 2) (j := 2) dX11_isFilled_2 rfl rfl ?_
  refine J_callV (As := [.int a0, .int a1]) (rest := []) dX11_isFilled_3 (c_X11_lay0 (d := 2) (h := h)  (by decide) hm hy ) hq.n k1503 k1505 k52 hm rfl rfl k97 k1506 np_X11_lay (Nat.le_trans (by decide) hd) (by decide) (Nat.le_refl _) (Nat.le_refl _) (hkz rfl) rfl (Nat.le_of_ble_eq_true rfl) (fun r_1 h_2 p_3 => ?_)
  obtain ⟨rfl, w_4⟩ := p_3
  refine J_w w_4 ?_
  refine J_if_eq (tgt := 33) dX11_isFilled_6 (by decide) (fun _ => ?_) (fun q => absurd (by decide) q)
  refine J_iconst (v := 0) dX11_isFilled_33 (by decide) ?_
  exact J_zret hq dX11_isFilled_34 rfl rfl (hkz rfl) (Nat.le_refl _) (Nat.le_refl _) ⟨rfl, rfl⟩
set_option maxHeartbeats 4000000 in
set_option maxRecDepth 100000 in
theorem c_X11_hill0 {d : Nat} {h : List MC} {a0 a1 : Int32} (hd : 4 ≤ d) (hm : h[162]? = some (.inr (11, [.int 0, .ref 163, .ref 164, .ref 165, .ref 166, .ref 167, .ref 168, .ref 169, .int 0, .int 0, .int 0, .int 0, .int 0, .long 0, .int 0, .int 0, .int 0, .int 0, .int 0, .ref 170, .ref 171, .ref 172, .int 0, .int 0, .int 0, .int 0, .int 0, .int 0, .ref 173, .ref 174, .ref 175, .int 0, .int 0, .int 0, .ref 176, .ref 177, .ref 178, .ref 179, .ref 180, .int 0, .long 0, .int 0, .ref 181]))) (hy : h[167]? = some (.inl (1, 8, .inl (fun _ => 0))))  : CT con0 d 0 0 yX11_hill cX11_hill 4 (some .int) [.ref 162, .int a0, .int a1] h (fun r h2 => r = some (.int (-1))) := by
  refine CT_of (by decide) (Nat.le_of_ble_eq_true rfl) (fun x hq => ?_)
  show J x yX11_hill cX11_hill 4 (some .int) d 0 0 h.length 0 [(0, .ref 162), (1, .int a0), (2, .int a1)] [] h 0 0
  refine J_aload_n (i := 0) (j := 0) dX11_hill_0 rfl rfl ?_
  refine J_iconst (v := 0) dX11_hill_1 (by decide) ?_
  obtain ⟨h_1, e_2⟩ : ∃ z, z = h.set 162 (.inr (11, [.int 0, .ref 163, .ref 164, .ref 165, .ref 166, .ref 167, .ref 168, .ref 169, .int 0, .int 0, .int 0, .int 0, .int 0, .long 0, .int 0, .int 0, .int 0, .int 0, .int 0, .ref 170, .ref 171, .ref 172, .int 0, .int 0, .int 0, .int 0, .int 0, .int 0, .ref 173, .ref 174, .ref 175, .int 0, .int 0, .int 0, .ref 176, .ref 177, .ref 178, .ref 179, .ref 180, .int 0, .long 0, .int 0, .ref 181])) := ⟨_, rfl⟩
  refine J_put (C := RX11) (T := TX11) (Z := 43) (ci := 11) (f := 0) (ty0 := tyX11) dX11_hill_2 inG11 rfl tyX11_ok nmX11 (by decide) k1264 rfl rfl hm (Nat.le_of_ble_eq_true rfl) (fun _ _ => ⟨rfl, rfl⟩) e_2.symm ?_
  have f_3 := a_set e_2 hm
  have l_4 := l_set e_2 rfl
  refine J_aload_n (i := 0) (j := 0) dX11_hill_5 rfl rfl ?_
  refine J_iload_n (i := 1) (j := 1) dX11_hill_6 rfl rfl ?_
  have f_5 : h_1[167]? = some (.inl (1, 8, .inl (fun _ => 0))) := (s_ne e_2 (by decide)).trans hy
  refine J_callV (As := [.int a0]) (rest := []) dX11_hill_7 (c_X11_isHill0 (d := 1) (h := h_1)  (by decide) f_3 f_5 ) hq.n k1495 k1497 k51 f_3 rfl rfl k97 k1498 np_X11_isHill (Nat.le_trans (by decide) hd) (by decide) (Nat.le_refl _) (Nat.le_refl _) (hkz l_4) rfl (Nat.le_of_ble_eq_true rfl) (fun r_6 h_7 p_8 => ?_)
  obtain ⟨rfl, w_9⟩ := p_8
  refine J_w w_9 ?_
  refine J_if_ne (tgt := 15) dX11_hill_10 (by decide) (fun q => absurd (by decide) q) (fun _ => ?_)
  refine J_iconst (v := (-1)) dX11_hill_13 (by decide) ?_
  exact J_iret hq dX11_hill_14 rfl (hkz l_4) (Nat.le_refl _) (Nat.le_refl _) rfl
set_option maxHeartbeats 4000000 in
set_option maxRecDepth 100000 in
theorem c_X11_pond0 {d : Nat} {h : List MC} {a0 a1 a2 a3 : Int32} (hd : 4 ≤ d) (hm : h[162]? = some (.inr (11, [.int 0, .ref 163, .ref 164, .ref 165, .ref 166, .ref 167, .ref 168, .ref 169, .int 0, .int 0, .int 0, .int 0, .int 0, .long 0, .int 0, .int 0, .int 0, .int 0, .int 0, .ref 170, .ref 171, .ref 172, .int 0, .int 0, .int 0, .int 0, .int 0, .int 0, .ref 173, .ref 174, .ref 175, .int 0, .int 0, .int 0, .ref 176, .ref 177, .ref 178, .ref 179, .ref 180, .int 0, .long 0, .int 0, .ref 181]))) (hy : h[167]? = some (.inl (1, 8, .inl (fun _ => 0))))  : CT con0 d 0 0 yX11_pond cX11_pond 5 (some .int) [.ref 162, .int a0, .int a1, .int a2, .int a3] h (fun r h2 => r = some (.int (-2))) := by
  refine CT_of (by decide) (Nat.le_of_ble_eq_true rfl) (fun x hq => ?_)
  show J x yX11_pond cX11_pond 5 (some .int) d 0 0 h.length 0 [(0, .ref 162), (1, .int a0), (2, .int a1), (3, .int a2), (4, .int a3)] [] h 0 0
  refine J_aload_n (i := 0) (j := 0) dX11_pond_0 rfl rfl ?_
  refine J_iconst (v := 0) dX11_pond_1 (by decide) ?_
  obtain ⟨h_1, e_2⟩ : ∃ z, z = h.set 162 (.inr (11, [.int 0, .ref 163, .ref 164, .ref 165, .ref 166, .ref 167, .ref 168, .ref 169, .int 0, .int 0, .int 0, .int 0, .int 0, .long 0, .int 0, .int 0, .int 0, .int 0, .int 0, .ref 170, .ref 171, .ref 172, .int 0, .int 0, .int 0, .int 0, .int 0, .int 0, .ref 173, .ref 174, .ref 175, .int 0, .int 0, .int 0, .ref 176, .ref 177, .ref 178, .ref 179, .ref 180, .int 0, .long 0, .int 0, .ref 181])) := ⟨_, rfl⟩
  refine J_put (C := RX11) (T := TX11) (Z := 43) (ci := 11) (f := 0) (ty0 := tyX11) dX11_pond_2 inG11 rfl tyX11_ok nmX11 (by decide) k1264 rfl rfl hm (Nat.le_of_ble_eq_true rfl) (fun _ _ => ⟨rfl, rfl⟩) e_2.symm ?_
  have f_3 := a_set e_2 hm
  have l_4 := l_set e_2 rfl
  refine J_aload_n (i := 0) (j := 0) dX11_pond_5 rfl rfl ?_
  refine J_iload_n (i := 1) (j := 1) dX11_pond_6 rfl rfl ?_
  refine J_iload_n (i := 2) (j := 2) dX11_pond_7 rfl rfl ?_
  have f_5 : h_1[167]? = some (.inl (1, 8, .inl (fun _ => 0))) := (s_ne e_2 (by decide)).trans hy
  refine J_callV (As := [.int a0, .int a1]) (rest := []) dX11_pond_8 (c_X11_lay0 (d := 2) (h := h_1)  (by decide) f_3 f_5 ) hq.n k1503 k1505 k52 f_3 rfl rfl k97 k1506 np_X11_lay (Nat.le_trans (by decide) hd) (by decide) (Nat.le_refl _) (Nat.le_refl _) (hkz l_4) rfl (Nat.le_of_ble_eq_true rfl) (fun r_6 h_7 p_8 => ?_)
  obtain ⟨rfl, w_9⟩ := p_8
  refine J_w w_9 ?_
  refine J_if_eq (tgt := 43) dX11_pond_11 (by decide) (fun _ => ?_) (fun q => absurd (by decide) q)
  refine J_bipush (v := (-2)) dX11_pond_43 (by decide) ?_
  exact J_iret hq dX11_pond_45 rfl (hkz l_4) (Nat.le_refl _) (Nat.le_refl _) rfl
set_option maxHeartbeats 4000000 in
set_option maxRecDepth 100000 in
theorem c_X11_work0 {d : Nat} {h : List MC} {a0 a1 a2 : Int32} (hd : 4 ≤ d) (hm : h[162]? = some (.inr (11, [.int 0, .ref 163, .ref 164, .ref 165, .ref 166, .ref 167, .ref 168, .ref 169, .int 0, .int 0, .int 0, .int 0, .int 0, .long 0, .int 0, .int 0, .int 0, .int 0, .int 0, .ref 170, .ref 171, .ref 172, .int 0, .int 0, .int 0, .int 0, .int 0, .int 0, .ref 173, .ref 174, .ref 175, .int 0, .int 0, .int 0, .ref 176, .ref 177, .ref 178, .ref 179, .ref 180, .int 0, .long 0, .int 0, .ref 181]))) (hy : h[167]? = some (.inl (1, 8, .inl (fun _ => 0))))  : CT con0 d 0 0 yX11_work cX11_work 4 (some .int) [.ref 162, .int a0, .int a1, .int a2] h (fun r h2 => r = some (.int (-2))) := by
  refine CT_of (by decide) (Nat.le_of_ble_eq_true rfl) (fun x hq => ?_)
  show J x yX11_work cX11_work 4 (some .int) d 0 0 h.length 0 [(0, .ref 162), (1, .int a0), (2, .int a1), (3, .int a2)] [] h 0 0
  refine J_aload_n (i := 0) (j := 0) dX11_work_0 rfl rfl ?_
  refine J_iconst (v := 0) dX11_work_1 (by decide) ?_
  obtain ⟨h_1, e_2⟩ : ∃ z, z = h.set 162 (.inr (11, [.int 0, .ref 163, .ref 164, .ref 165, .ref 166, .ref 167, .ref 168, .ref 169, .int 0, .int 0, .int 0, .int 0, .int 0, .long 0, .int 0, .int 0, .int 0, .int 0, .int 0, .ref 170, .ref 171, .ref 172, .int 0, .int 0, .int 0, .int 0, .int 0, .int 0, .ref 173, .ref 174, .ref 175, .int 0, .int 0, .int 0, .ref 176, .ref 177, .ref 178, .ref 179, .ref 180, .int 0, .long 0, .int 0, .ref 181])) := ⟨_, rfl⟩
  refine J_put (C := RX11) (T := TX11) (Z := 43) (ci := 11) (f := 0) (ty0 := tyX11) dX11_work_2 inG11 rfl tyX11_ok nmX11 (by decide) k1264 rfl rfl hm (Nat.le_of_ble_eq_true rfl) (fun _ _ => ⟨rfl, rfl⟩) e_2.symm ?_
  have f_3 := a_set e_2 hm
  have l_4 := l_set e_2 rfl
  refine J_aload_n (i := 0) (j := 0) dX11_work_5 rfl rfl ?_
  refine J_iload_n (i := 1) (j := 1) dX11_work_6 rfl rfl ?_
  have f_5 : h_1[167]? = some (.inl (1, 8, .inl (fun _ => 0))) := (s_ne e_2 (by decide)).trans hy
  refine J_callV (As := [.int a0]) (rest := []) dX11_work_7 (c_X11_isPlan0 (d := 1) (h := h_1)  (by decide) f_3 f_5 ) hq.n k1507 k1509 k53 f_3 rfl rfl k97 k1510 np_X11_isPlan (Nat.le_trans (by decide) hd) (by decide) (Nat.le_refl _) (Nat.le_refl _) (hkz l_4) rfl (Nat.le_of_ble_eq_true rfl) (fun r_6 h_7 p_8 => ?_)
  obtain ⟨rfl, w_9⟩ := p_8
  refine J_w w_9 ?_
  refine J_if_eq (tgt := 61) dX11_work_10 (by decide) (fun _ => ?_) (fun q => absurd (by decide) q)
  refine J_bipush (v := (-2)) dX11_work_61 (by decide) ?_
  exact J_iret hq dX11_work_63 rfl (hkz l_4) (Nat.le_refl _) (Nat.le_refl _) rfl
set_option maxHeartbeats 4000000 in
set_option maxRecDepth 100000 in
theorem c_X11_plan0 {d : Nat} {h : List MC} {a0 a1 a2 : Int32} (hd : 4 ≤ d) (hm : h[162]? = some (.inr (11, [.int 0, .ref 163, .ref 164, .ref 165, .ref 166, .ref 167, .ref 168, .ref 169, .int 0, .int 0, .int 0, .int 0, .int 0, .long 0, .int 0, .int 0, .int 0, .int 0, .int 0, .ref 170, .ref 171, .ref 172, .int 0, .int 0, .int 0, .int 0, .int 0, .int 0, .ref 173, .ref 174, .ref 175, .int 0, .int 0, .int 0, .ref 176, .ref 177, .ref 178, .ref 179, .ref 180, .int 0, .long 0, .int 0, .ref 181]))) (hy : h[167]? = some (.inl (1, 8, .inl (fun _ => 0))))  : CT con0 d 0 0 yX11_plan cX11_plan 4 (some .int) [.ref 162, .int a0, .int a1, .int a2] h (fun r h2 => r = some (.int (-1))) := by
  refine CT_of (by decide) (Nat.le_of_ble_eq_true rfl) (fun x hq => ?_)
  show J x yX11_plan cX11_plan 4 (some .int) d 0 0 h.length 0 [(0, .ref 162), (1, .int a0), (2, .int a1), (3, .int a2)] [] h 0 0
  refine J_aload_n (i := 0) (j := 0) dX11_plan_0 rfl rfl ?_
  refine J_iconst (v := 0) dX11_plan_1 (by decide) ?_
  obtain ⟨h_1, e_2⟩ : ∃ z, z = h.set 162 (.inr (11, [.int 0, .ref 163, .ref 164, .ref 165, .ref 166, .ref 167, .ref 168, .ref 169, .int 0, .int 0, .int 0, .int 0, .int 0, .long 0, .int 0, .int 0, .int 0, .int 0, .int 0, .ref 170, .ref 171, .ref 172, .int 0, .int 0, .int 0, .int 0, .int 0, .int 0, .ref 173, .ref 174, .ref 175, .int 0, .int 0, .int 0, .ref 176, .ref 177, .ref 178, .ref 179, .ref 180, .int 0, .long 0, .int 0, .ref 181])) := ⟨_, rfl⟩
  refine J_put (C := RX11) (T := TX11) (Z := 43) (ci := 11) (f := 0) (ty0 := tyX11) dX11_plan_2 inG11 rfl tyX11_ok nmX11 (by decide) k1264 rfl rfl hm (Nat.le_of_ble_eq_true rfl) (fun _ _ => ⟨rfl, rfl⟩) e_2.symm ?_
  have f_3 := a_set e_2 hm
  have l_4 := l_set e_2 rfl
  refine J_aload_n (i := 0) (j := 0) dX11_plan_5 rfl rfl ?_
  refine J_iload_n (i := 2) (j := 2) dX11_plan_6 rfl rfl ?_
  have f_5 : h_1[167]? = some (.inl (1, 8, .inl (fun _ => 0))) := (s_ne e_2 (by decide)).trans hy
  refine J_callV (As := [.int a1]) (rest := []) dX11_plan_7 (c_X11_isPlan0 (d := 1) (h := h_1)  (by decide) f_3 f_5 ) hq.n k1507 k1509 k53 f_3 rfl rfl k97 k1510 np_X11_isPlan (Nat.le_trans (by decide) hd) (by decide) (Nat.le_refl _) (Nat.le_refl _) (hkz l_4) rfl (Nat.le_of_ble_eq_true rfl) (fun r_6 h_7 p_8 => ?_)
  obtain ⟨rfl, w_9⟩ := p_8
  refine J_w w_9 ?_
  refine J_if_eq (tgt := 22) dX11_plan_10 (by decide) (fun _ => ?_) (fun q => absurd (by decide) q)
  refine J_iconst (v := (-1)) dX11_plan_22 (by decide) ?_
  exact J_iret hq dX11_plan_23 rfl (hkz l_4) (Nat.le_refl _) (Nat.le_refl _) rfl
set_option maxHeartbeats 4000000 in
set_option maxRecDepth 100000 in
theorem c_X11_storm0 {d : Nat} {h : List MC} {a0 a1 a2 a3 a4 : Int32} (hd : 4 ≤ d) (hm : h[162]? = some (.inr (11, [.int 0, .ref 163, .ref 164, .ref 165, .ref 166, .ref 167, .ref 168, .ref 169, .int 0, .int 0, .int 0, .int 0, .int 0, .long 0, .int 0, .int 0, .int 0, .int 0, .int 0, .ref 170, .ref 171, .ref 172, .int 0, .int 0, .int 0, .int 0, .int 0, .int 0, .ref 173, .ref 174, .ref 175, .int 0, .int 0, .int 0, .ref 176, .ref 177, .ref 178, .ref 179, .ref 180, .int 0, .long 0, .int 0, .ref 181]))) (hy : h[167]? = some (.inl (1, 8, .inl (fun _ => 0))))  : CT con0 d 0 0 yX11_storm cX11_storm 6 (some .int) [.ref 162, .int a0, .int a1, .int a2, .int a3, .int a4] h (fun r h2 => r = some (.int (-1))) := by
  refine CT_of (by decide) (Nat.le_of_ble_eq_true rfl) (fun x hq => ?_)
  show J x yX11_storm cX11_storm 6 (some .int) d 0 0 h.length 0 [(0, .ref 162), (1, .int a0), (2, .int a1), (3, .int a2), (4, .int a3), (5, .int a4)] [] h 0 0
  refine J_aload_n (i := 0) (j := 0) dX11_storm_0 rfl rfl ?_
  refine J_iconst (v := 0) dX11_storm_1 (by decide) ?_
  obtain ⟨h_1, e_2⟩ : ∃ z, z = h.set 162 (.inr (11, [.int 0, .ref 163, .ref 164, .ref 165, .ref 166, .ref 167, .ref 168, .ref 169, .int 0, .int 0, .int 0, .int 0, .int 0, .long 0, .int 0, .int 0, .int 0, .int 0, .int 0, .ref 170, .ref 171, .ref 172, .int 0, .int 0, .int 0, .int 0, .int 0, .int 0, .ref 173, .ref 174, .ref 175, .int 0, .int 0, .int 0, .ref 176, .ref 177, .ref 178, .ref 179, .ref 180, .int 0, .long 0, .int 0, .ref 181])) := ⟨_, rfl⟩
  refine J_put (C := RX11) (T := TX11) (Z := 43) (ci := 11) (f := 0) (ty0 := tyX11) dX11_storm_2 inG11 rfl tyX11_ok nmX11 (by decide) k1264 rfl rfl hm (Nat.le_of_ble_eq_true rfl) (fun _ _ => ⟨rfl, rfl⟩) e_2.symm ?_
  have f_3 := a_set e_2 hm
  have l_4 := l_set e_2 rfl
  refine J_aload_n (i := 0) (j := 0) dX11_storm_5 rfl rfl ?_
  refine J_iload_n (i := 1) (j := 1) dX11_storm_6 rfl rfl ?_
  refine J_iload_n (i := 2) (j := 2) dX11_storm_7 rfl rfl ?_
  have f_5 : h_1[167]? = some (.inl (1, 8, .inl (fun _ => 0))) := (s_ne e_2 (by decide)).trans hy
  refine J_callV (As := [.int a0, .int a1]) (rest := []) dX11_storm_8 (c_X11_lay0 (d := 2) (h := h_1)  (by decide) f_3 f_5 ) hq.n k1503 k1505 k52 f_3 rfl rfl k97 k1506 np_X11_lay (Nat.le_trans (by decide) hd) (by decide) (Nat.le_refl _) (Nat.le_refl _) (hkz l_4) rfl (Nat.le_of_ble_eq_true rfl) (fun r_6 h_7 p_8 => ?_)
  obtain ⟨rfl, w_9⟩ := p_8
  refine J_w w_9 ?_
  refine J_if_eq (tgt := 31) dX11_storm_11 (by decide) (fun _ => ?_) (fun q => absurd (by decide) q)
  refine J_iconst (v := (-1)) dX11_storm_31 (by decide) ?_
  exact J_iret hq dX11_storm_32 rfl (hkz l_4) (Nat.le_refl _) (Nat.le_refl _) rfl
set_option maxHeartbeats 4000000 in
set_option maxRecDepth 100000 in
theorem c_X11_likely0 {d : Nat} {h : List MC} {a0 a1 a2 : Int32} (hd : 4 ≤ d) (hm : h[162]? = some (.inr (11, [.int 0, .ref 163, .ref 164, .ref 165, .ref 166, .ref 167, .ref 168, .ref 169, .int 0, .int 0, .int 0, .int 0, .int 0, .long 0, .int 0, .int 0, .int 0, .int 0, .int 0, .ref 170, .ref 171, .ref 172, .int 0, .int 0, .int 0, .int 0, .int 0, .int 0, .ref 173, .ref 174, .ref 175, .int 0, .int 0, .int 0, .ref 176, .ref 177, .ref 178, .ref 179, .ref 180, .int 0, .long 0, .int 0, .ref 181]))) (hy : h[167]? = some (.inl (1, 8, .inl (fun _ => 0))))  : CT con0 d 0 0 yX11_likely cX11_likely 10 (some .long) [.ref 162, .int a0, .int a1, .int a2] h (fun r h2 => r = some (.long (-1))) := by
  refine CT_of (by decide) (Nat.le_of_ble_eq_true rfl) (fun x hq => ?_)
  show J x yX11_likely cX11_likely 10 (some .long) d 0 0 h.length 0 [(0, .ref 162), (1, .int a0), (2, .int a1), (3, .int a2)] [] h 0 0
  refine J_aload_n (i := 0) (j := 0) dX11_likely_0 rfl rfl ?_
  refine J_iconst (v := 0) dX11_likely_1 (by decide) ?_
  obtain ⟨h_1, e_2⟩ : ∃ z, z = h.set 162 (.inr (11, [.int 0, .ref 163, .ref 164, .ref 165, .ref 166, .ref 167, .ref 168, .ref 169, .int 0, .int 0, .int 0, .int 0, .int 0, .long 0, .int 0, .int 0, .int 0, .int 0, .int 0, .ref 170, .ref 171, .ref 172, .int 0, .int 0, .int 0, .int 0, .int 0, .int 0, .ref 173, .ref 174, .ref 175, .int 0, .int 0, .int 0, .ref 176, .ref 177, .ref 178, .ref 179, .ref 180, .int 0, .long 0, .int 0, .ref 181])) := ⟨_, rfl⟩
  refine J_put (C := RX11) (T := TX11) (Z := 43) (ci := 11) (f := 0) (ty0 := tyX11) dX11_likely_2 inG11 rfl tyX11_ok nmX11 (by decide) k1264 rfl rfl hm (Nat.le_of_ble_eq_true rfl) (fun _ _ => ⟨rfl, rfl⟩) e_2.symm ?_
  have f_3 := a_set e_2 hm
  have l_4 := l_set e_2 rfl
  refine J_aload_n (i := 0) (j := 0) dX11_likely_5 rfl rfl ?_
  refine J_iload_n (i := 1) (j := 1) dX11_likely_6 rfl rfl ?_
  refine J_iload_n (i := 2) (j := 2) dX11_likely_7 rfl rfl ?_
  have f_5 : h_1[167]? = some (.inl (1, 8, .inl (fun _ => 0))) := (s_ne e_2 (by decide)).trans hy
  refine J_callV (As := [.int a0, .int a1]) (rest := []) dX11_likely_8 (c_X11_lay0 (d := 2) (h := h_1)  (by decide) f_3 f_5 ) hq.n k1503 k1505 k52 f_3 rfl rfl k97 k1506 np_X11_lay (Nat.le_trans (by decide) hd) (by decide) (Nat.le_refl _) (Nat.le_refl _) (hkz l_4) rfl (Nat.le_of_ble_eq_true rfl) (fun r_6 h_7 p_8 => ?_)
  obtain ⟨rfl, w_9⟩ := p_8
  refine J_w w_9 ?_
  refine J_if_eq (tgt := 27) dX11_likely_11 (by decide) (fun _ => ?_) (fun q => absurd (by decide) q)
  refine J_ldc2 (v := (-1)) dX11_likely_27 k1578 ?_
  exact J_lret hq dX11_likely_30 rfl (hkz l_4) (Nat.le_refl _) (Nat.le_refl _) rfl
set_option maxHeartbeats 4000000 in
set_option maxRecDepth 100000 in
theorem c_X11_mean0 {d : Nat} {h : List MC} {a0 a1 a2 : Int32} (hd : 4 ≤ d) (hm : h[162]? = some (.inr (11, [.int 0, .ref 163, .ref 164, .ref 165, .ref 166, .ref 167, .ref 168, .ref 169, .int 0, .int 0, .int 0, .int 0, .int 0, .long 0, .int 0, .int 0, .int 0, .int 0, .int 0, .ref 170, .ref 171, .ref 172, .int 0, .int 0, .int 0, .int 0, .int 0, .int 0, .ref 173, .ref 174, .ref 175, .int 0, .int 0, .int 0, .ref 176, .ref 177, .ref 178, .ref 179, .ref 180, .int 0, .long 0, .int 0, .ref 181]))) (hy : h[167]? = some (.inl (1, 8, .inl (fun _ => 0))))  : CT con0 d 0 0 yX11_mean cX11_mean 4 (some .long) [.ref 162, .int a0, .int a1, .int a2] h (fun r h2 => r = some (.long (-1))) := by
  refine CT_of (by decide) (Nat.le_of_ble_eq_true rfl) (fun x hq => ?_)
  show J x yX11_mean cX11_mean 4 (some .long) d 0 0 h.length 0 [(0, .ref 162), (1, .int a0), (2, .int a1), (3, .int a2)] [] h 0 0
  refine J_aload_n (i := 0) (j := 0) dX11_mean_0 rfl rfl ?_
  refine J_iconst (v := 0) dX11_mean_1 (by decide) ?_
  obtain ⟨h_1, e_2⟩ : ∃ z, z = h.set 162 (.inr (11, [.int 0, .ref 163, .ref 164, .ref 165, .ref 166, .ref 167, .ref 168, .ref 169, .int 0, .int 0, .int 0, .int 0, .int 0, .long 0, .int 0, .int 0, .int 0, .int 0, .int 0, .ref 170, .ref 171, .ref 172, .int 0, .int 0, .int 0, .int 0, .int 0, .int 0, .ref 173, .ref 174, .ref 175, .int 0, .int 0, .int 0, .ref 176, .ref 177, .ref 178, .ref 179, .ref 180, .int 0, .long 0, .int 0, .ref 181])) := ⟨_, rfl⟩
  refine J_put (C := RX11) (T := TX11) (Z := 43) (ci := 11) (f := 0) (ty0 := tyX11) dX11_mean_2 inG11 rfl tyX11_ok nmX11 (by decide) k1264 rfl rfl hm (Nat.le_of_ble_eq_true rfl) (fun _ _ => ⟨rfl, rfl⟩) e_2.symm ?_
  have f_3 := a_set e_2 hm
  have l_4 := l_set e_2 rfl
  refine J_aload_n (i := 0) (j := 0) dX11_mean_5 rfl rfl ?_
  refine J_iload_n (i := 1) (j := 1) dX11_mean_6 rfl rfl ?_
  refine J_iload_n (i := 2) (j := 2) dX11_mean_7 rfl rfl ?_
  have f_5 : h_1[167]? = some (.inl (1, 8, .inl (fun _ => 0))) := (s_ne e_2 (by decide)).trans hy
  refine J_callV (As := [.int a0, .int a1]) (rest := []) dX11_mean_8 (c_X11_lay0 (d := 2) (h := h_1)  (by decide) f_3 f_5 ) hq.n k1503 k1505 k52 f_3 rfl rfl k97 k1506 np_X11_lay (Nat.le_trans (by decide) hd) (by decide) (Nat.le_refl _) (Nat.le_refl _) (hkz l_4) rfl (Nat.le_of_ble_eq_true rfl) (fun r_6 h_7 p_8 => ?_)
  obtain ⟨rfl, w_9⟩ := p_8
  refine J_w w_9 ?_
  refine J_if_eq (tgt := 34) dX11_mean_11 (by decide) (fun _ => ?_) (fun q => absurd (by decide) q)
  refine J_ldc2 (v := (-1)) dX11_mean_34 k1578 ?_
  exact J_lret hq dX11_mean_37 rfl (hkz l_4) (Nat.le_refl _) (Nat.le_refl _) rfl
set_option maxHeartbeats 4000000 in
set_option maxRecDepth 100000 in
theorem c_X11_rows0 {d : Nat} {h : List MC} {a0 a1 a2 : Int32} (hd : 4 ≤ d) (hm : h[162]? = some (.inr (11, [.int 0, .ref 163, .ref 164, .ref 165, .ref 166, .ref 167, .ref 168, .ref 169, .int 0, .int 0, .int 0, .int 0, .int 0, .long 0, .int 0, .int 0, .int 0, .int 0, .int 0, .ref 170, .ref 171, .ref 172, .int 0, .int 0, .int 0, .int 0, .int 0, .int 0, .ref 173, .ref 174, .ref 175, .int 0, .int 0, .int 0, .ref 176, .ref 177, .ref 178, .ref 179, .ref 180, .int 0, .long 0, .int 0, .ref 181]))) (hy : h[167]? = some (.inl (1, 8, .inl (fun _ => 0))))  : CT con0 d 0 0 yX11_rows cX11_rows 8 (some .long) [.ref 162, .int a0, .int a1, .int a2] h (fun r h2 => r = some (.long (-1))) := by
  refine CT_of (by decide) (Nat.le_of_ble_eq_true rfl) (fun x hq => ?_)
  show J x yX11_rows cX11_rows 8 (some .long) d 0 0 h.length 0 [(0, .ref 162), (1, .int a0), (2, .int a1), (3, .int a2)] [] h 0 0
  refine J_aload_n (i := 0) (j := 0) dX11_rows_0 rfl rfl ?_
  refine J_iconst (v := 0) dX11_rows_1 (by decide) ?_
  obtain ⟨h_1, e_2⟩ : ∃ z, z = h.set 162 (.inr (11, [.int 0, .ref 163, .ref 164, .ref 165, .ref 166, .ref 167, .ref 168, .ref 169, .int 0, .int 0, .int 0, .int 0, .int 0, .long 0, .int 0, .int 0, .int 0, .int 0, .int 0, .ref 170, .ref 171, .ref 172, .int 0, .int 0, .int 0, .int 0, .int 0, .int 0, .ref 173, .ref 174, .ref 175, .int 0, .int 0, .int 0, .ref 176, .ref 177, .ref 178, .ref 179, .ref 180, .int 0, .long 0, .int 0, .ref 181])) := ⟨_, rfl⟩
  refine J_put (C := RX11) (T := TX11) (Z := 43) (ci := 11) (f := 0) (ty0 := tyX11) dX11_rows_2 inG11 rfl tyX11_ok nmX11 (by decide) k1264 rfl rfl hm (Nat.le_of_ble_eq_true rfl) (fun _ _ => ⟨rfl, rfl⟩) e_2.symm ?_
  have f_3 := a_set e_2 hm
  have l_4 := l_set e_2 rfl
  refine J_aload_n (i := 0) (j := 0) dX11_rows_5 rfl rfl ?_
  refine J_iload_n (i := 1) (j := 1) dX11_rows_6 rfl rfl ?_
  refine J_iload_n (i := 2) (j := 2) dX11_rows_7 rfl rfl ?_
  have f_5 : h_1[167]? = some (.inl (1, 8, .inl (fun _ => 0))) := (s_ne e_2 (by decide)).trans hy
  refine J_callV (As := [.int a0, .int a1]) (rest := []) dX11_rows_8 (c_X11_lay0 (d := 2) (h := h_1)  (by decide) f_3 f_5 ) hq.n k1503 k1505 k52 f_3 rfl rfl k97 k1506 np_X11_lay (Nat.le_trans (by decide) hd) (by decide) (Nat.le_refl _) (Nat.le_refl _) (hkz l_4) rfl (Nat.le_of_ble_eq_true rfl) (fun r_6 h_7 p_8 => ?_)
  obtain ⟨rfl, w_9⟩ := p_8
  refine J_w w_9 ?_
  refine J_if_ne (tgt := 18) dX11_rows_11 (by decide) (fun q => absurd (by decide) q) (fun _ => ?_)
  refine J_ldc2 (v := (-1)) dX11_rows_14 k1578 ?_
  exact J_lret hq dX11_rows_17 rfl (hkz l_4) (Nat.le_refl _) (Nat.le_refl _) rfl
set_option maxHeartbeats 4000000 in
set_option maxRecDepth 100000 in
theorem c_X11_brings0 {d : Nat} {h : List MC} {a0 a1 a2 a3 : Int32} (hd : 4 ≤ d) (hm : h[162]? = some (.inr (11, [.int 0, .ref 163, .ref 164, .ref 165, .ref 166, .ref 167, .ref 168, .ref 169, .int 0, .int 0, .int 0, .int 0, .int 0, .long 0, .int 0, .int 0, .int 0, .int 0, .int 0, .ref 170, .ref 171, .ref 172, .int 0, .int 0, .int 0, .int 0, .int 0, .int 0, .ref 173, .ref 174, .ref 175, .int 0, .int 0, .int 0, .ref 176, .ref 177, .ref 178, .ref 179, .ref 180, .int 0, .long 0, .int 0, .ref 181]))) (hy : h[167]? = some (.inl (1, 8, .inl (fun _ => 0))))  : CT con0 d 0 0 yX11_brings cX11_brings 7 (some .int) [.ref 162, .int a0, .int a1, .int a2, .int a3] h (fun r h2 => r = some (.int (-1))) := by
  refine CT_of (by decide) (Nat.le_of_ble_eq_true rfl) (fun x hq => ?_)
  show J x yX11_brings cX11_brings 7 (some .int) d 0 0 h.length 0 [(0, .ref 162), (1, .int a0), (2, .int a1), (3, .int a2), (4, .int a3)] [] h 0 0
  refine J_aload_n (i := 0) (j := 0) dX11_brings_0 rfl rfl ?_
  refine J_iconst (v := 0) dX11_brings_1 (by decide) ?_
  obtain ⟨h_1, e_2⟩ : ∃ z, z = h.set 162 (.inr (11, [.int 0, .ref 163, .ref 164, .ref 165, .ref 166, .ref 167, .ref 168, .ref 169, .int 0, .int 0, .int 0, .int 0, .int 0, .long 0, .int 0, .int 0, .int 0, .int 0, .int 0, .ref 170, .ref 171, .ref 172, .int 0, .int 0, .int 0, .int 0, .int 0, .int 0, .ref 173, .ref 174, .ref 175, .int 0, .int 0, .int 0, .ref 176, .ref 177, .ref 178, .ref 179, .ref 180, .int 0, .long 0, .int 0, .ref 181])) := ⟨_, rfl⟩
  refine J_put (C := RX11) (T := TX11) (Z := 43) (ci := 11) (f := 0) (ty0 := tyX11) dX11_brings_2 inG11 rfl tyX11_ok nmX11 (by decide) k1264 rfl rfl hm (Nat.le_of_ble_eq_true rfl) (fun _ _ => ⟨rfl, rfl⟩) e_2.symm ?_
  have f_3 := a_set e_2 hm
  have l_4 := l_set e_2 rfl
  refine J_aload_n (i := 0) (j := 0) dX11_brings_5 rfl rfl ?_
  refine J_iload_n (i := 1) (j := 1) dX11_brings_6 rfl rfl ?_
  refine J_iload_n (i := 2) (j := 2) dX11_brings_7 rfl rfl ?_
  have f_5 : h_1[167]? = some (.inl (1, 8, .inl (fun _ => 0))) := (s_ne e_2 (by decide)).trans hy
  refine J_callV (As := [.int a0, .int a1]) (rest := []) dX11_brings_8 (c_X11_lay0 (d := 2) (h := h_1)  (by decide) f_3 f_5 ) hq.n k1503 k1505 k52 f_3 rfl rfl k97 k1506 np_X11_lay (Nat.le_trans (by decide) hd) (by decide) (Nat.le_refl _) (Nat.le_refl _) (hkz l_4) rfl (Nat.le_of_ble_eq_true rfl) (fun r_6 h_7 p_8 => ?_)
  obtain ⟨rfl, w_9⟩ := p_8
  refine J_w w_9 ?_
  refine J_if_eq (tgt := 31) dX11_brings_11 (by decide) (fun _ => ?_) (fun q => absurd (by decide) q)
  refine J_iconst (v := (-1)) dX11_brings_31 (by decide) ?_
  exact J_iret hq dX11_brings_32 rfl (hkz l_4) (Nat.le_refl _) (Nat.le_refl _) rfl
set_option maxHeartbeats 4000000 in
set_option maxRecDepth 100000 in
theorem c_X11_best0 {d : Nat} {h : List MC} {a0 a1 a2 a3 : Int32} (hd : 4 ≤ d) (hm : h[162]? = some (.inr (11, [.int 0, .ref 163, .ref 164, .ref 165, .ref 166, .ref 167, .ref 168, .ref 169, .int 0, .int 0, .int 0, .int 0, .int 0, .long 0, .int 0, .int 0, .int 0, .int 0, .int 0, .ref 170, .ref 171, .ref 172, .int 0, .int 0, .int 0, .int 0, .int 0, .int 0, .ref 173, .ref 174, .ref 175, .int 0, .int 0, .int 0, .ref 176, .ref 177, .ref 178, .ref 179, .ref 180, .int 0, .long 0, .int 0, .ref 181]))) (hy : h[167]? = some (.inl (1, 8, .inl (fun _ => 0))))  : CT con0 d 0 0 yX11_best cX11_best 11 (some .int) [.ref 162, .int a0, .int a1, .int a2, .int a3] h (fun r h2 => r = some (.int (-1))) := by
  refine CT_of (by decide) (Nat.le_of_ble_eq_true rfl) (fun x hq => ?_)
  show J x yX11_best cX11_best 11 (some .int) d 0 0 h.length 0 [(0, .ref 162), (1, .int a0), (2, .int a1), (3, .int a2), (4, .int a3)] [] h 0 0
  refine J_aload_n (i := 0) (j := 0) dX11_best_0 rfl rfl ?_
  refine J_iconst (v := 0) dX11_best_1 (by decide) ?_
  obtain ⟨h_1, e_2⟩ : ∃ z, z = h.set 162 (.inr (11, [.int 0, .ref 163, .ref 164, .ref 165, .ref 166, .ref 167, .ref 168, .ref 169, .int 0, .int 0, .int 0, .int 0, .int 0, .long 0, .int 0, .int 0, .int 0, .int 0, .int 0, .ref 170, .ref 171, .ref 172, .int 0, .int 0, .int 0, .int 0, .int 0, .int 0, .ref 173, .ref 174, .ref 175, .int 0, .int 0, .int 0, .ref 176, .ref 177, .ref 178, .ref 179, .ref 180, .int 0, .long 0, .int 0, .ref 181])) := ⟨_, rfl⟩
  refine J_put (C := RX11) (T := TX11) (Z := 43) (ci := 11) (f := 0) (ty0 := tyX11) dX11_best_2 inG11 rfl tyX11_ok nmX11 (by decide) k1264 rfl rfl hm (Nat.le_of_ble_eq_true rfl) (fun _ _ => ⟨rfl, rfl⟩) e_2.symm ?_
  have f_3 := a_set e_2 hm
  have l_4 := l_set e_2 rfl
  refine J_aload_n (i := 0) (j := 0) dX11_best_5 rfl rfl ?_
  refine J_iload_n (i := 1) (j := 1) dX11_best_6 rfl rfl ?_
  refine J_iload_n (i := 2) (j := 2) dX11_best_7 rfl rfl ?_
  refine J_iload_n (i := 3) (j := 3) dX11_best_8 rfl rfl ?_
  refine J_iload (i := 4) (j := 4) dX11_best_9 rfl ?_
  have f_5 : h_1[167]? = some (.inl (1, 8, .inl (fun _ => 0))) := (s_ne e_2 (by decide)).trans hy
  refine J_callV (As := [.int a0, .int a1, .int a2, .int a3]) (rest := []) dX11_best_11 (c_X11_canMend0 (d := 3) (h := h_1)  (by decide) f_3 f_5 ) hq.n k1615 k1617 k69 f_3 rfl rfl k97 k1618 np_X11_canMend (Nat.le_trans (by decide) hd) (by decide) (Nat.le_refl _) (Nat.le_refl _) (hkz l_4) rfl (Nat.le_of_ble_eq_true rfl) (fun r_6 h_7 p_8 => ?_)
  obtain ⟨rfl, w_9⟩ := p_8
  refine J_w w_9 ?_
  refine J_if_ne (tgt := 19) dX11_best_14 (by decide) (fun q => absurd (by decide) q) (fun _ => ?_)
  refine J_iconst (v := (-1)) dX11_best_17 (by decide) ?_
  exact J_iret hq dX11_best_18 rfl (hkz l_4) (Nat.le_refl _) (Nat.le_refl _) rfl
set_option maxHeartbeats 4000000 in
set_option maxRecDepth 100000 in
theorem c_X11_steps0 {d : Nat} {h : List MC} {a0 a1 a2 a3 : Int32} (hd : 4 ≤ d) (hm : h[162]? = some (.inr (11, [.int 0, .ref 163, .ref 164, .ref 165, .ref 166, .ref 167, .ref 168, .ref 169, .int 0, .int 0, .int 0, .int 0, .int 0, .long 0, .int 0, .int 0, .int 0, .int 0, .int 0, .ref 170, .ref 171, .ref 172, .int 0, .int 0, .int 0, .int 0, .int 0, .int 0, .ref 173, .ref 174, .ref 175, .int 0, .int 0, .int 0, .ref 176, .ref 177, .ref 178, .ref 179, .ref 180, .int 0, .long 0, .int 0, .ref 181]))) (hy : h[167]? = some (.inl (1, 8, .inl (fun _ => 0))))  : CT con0 d 0 0 yX11_steps cX11_steps 8 (some .int) [.ref 162, .int a0, .int a1, .int a2, .int a3] h (fun r h2 => r = some (.int (-1))) := by
  refine CT_of (by decide) (Nat.le_of_ble_eq_true rfl) (fun x hq => ?_)
  show J x yX11_steps cX11_steps 8 (some .int) d 0 0 h.length 0 [(0, .ref 162), (1, .int a0), (2, .int a1), (3, .int a2), (4, .int a3)] [] h 0 0
  refine J_aload_n (i := 0) (j := 0) dX11_steps_0 rfl rfl ?_
  refine J_iconst (v := 0) dX11_steps_1 (by decide) ?_
  obtain ⟨h_1, e_2⟩ : ∃ z, z = h.set 162 (.inr (11, [.int 0, .ref 163, .ref 164, .ref 165, .ref 166, .ref 167, .ref 168, .ref 169, .int 0, .int 0, .int 0, .int 0, .int 0, .long 0, .int 0, .int 0, .int 0, .int 0, .int 0, .ref 170, .ref 171, .ref 172, .int 0, .int 0, .int 0, .int 0, .int 0, .int 0, .ref 173, .ref 174, .ref 175, .int 0, .int 0, .int 0, .ref 176, .ref 177, .ref 178, .ref 179, .ref 180, .int 0, .long 0, .int 0, .ref 181])) := ⟨_, rfl⟩
  refine J_put (C := RX11) (T := TX11) (Z := 43) (ci := 11) (f := 0) (ty0 := tyX11) dX11_steps_2 inG11 rfl tyX11_ok nmX11 (by decide) k1264 rfl rfl hm (Nat.le_of_ble_eq_true rfl) (fun _ _ => ⟨rfl, rfl⟩) e_2.symm ?_
  have f_3 := a_set e_2 hm
  have l_4 := l_set e_2 rfl
  refine J_aload_n (i := 0) (j := 0) dX11_steps_5 rfl rfl ?_
  refine J_iload_n (i := 1) (j := 1) dX11_steps_6 rfl rfl ?_
  refine J_iload_n (i := 2) (j := 2) dX11_steps_7 rfl rfl ?_
  refine J_iload_n (i := 3) (j := 3) dX11_steps_8 rfl rfl ?_
  refine J_iload (i := 4) (j := 4) dX11_steps_9 rfl ?_
  have f_5 : h_1[167]? = some (.inl (1, 8, .inl (fun _ => 0))) := (s_ne e_2 (by decide)).trans hy
  refine J_callV (As := [.int a0, .int a1, .int a2, .int a3]) (rest := []) dX11_steps_11 (c_X11_canMend0 (d := 3) (h := h_1)  (by decide) f_3 f_5 ) hq.n k1615 k1617 k69 f_3 rfl rfl k97 k1618 np_X11_canMend (Nat.le_trans (by decide) hd) (by decide) (Nat.le_refl _) (Nat.le_refl _) (hkz l_4) rfl (Nat.le_of_ble_eq_true rfl) (fun r_6 h_7 p_8 => ?_)
  obtain ⟨rfl, w_9⟩ := p_8
  refine J_w w_9 ?_
  refine J_if_ne (tgt := 19) dX11_steps_14 (by decide) (fun q => absurd (by decide) q) (fun _ => ?_)
  refine J_iconst (v := (-1)) dX11_steps_17 (by decide) ?_
  exact J_iret hq dX11_steps_18 rfl (hkz l_4) (Nat.le_refl _) (Nat.le_refl _) rfl
set_option maxHeartbeats 4000000 in
set_option maxRecDepth 100000 in
theorem c_X11_mended0 {d : Nat} {h : List MC} {a0 a1 a2 : Int32} (hd : 4 ≤ d) (hm : h[162]? = some (.inr (11, [.int 0, .ref 163, .ref 164, .ref 165, .ref 166, .ref 167, .ref 168, .ref 169, .int 0, .int 0, .int 0, .int 0, .int 0, .long 0, .int 0, .int 0, .int 0, .int 0, .int 0, .ref 170, .ref 171, .ref 172, .int 0, .int 0, .int 0, .int 0, .int 0, .int 0, .ref 173, .ref 174, .ref 175, .int 0, .int 0, .int 0, .ref 176, .ref 177, .ref 178, .ref 179, .ref 180, .int 0, .long 0, .int 0, .ref 181]))) (hy : h[167]? = some (.inl (1, 8, .inl (fun _ => 0))))  : CT con0 d 0 0 yX11_mended cX11_mended 4 (some .long) [.ref 162, .int a0, .int a1, .int a2] h (fun r h2 => r = some (.long (-1))) := by
  refine CT_of (by decide) (Nat.le_of_ble_eq_true rfl) (fun x hq => ?_)
  show J x yX11_mended cX11_mended 4 (some .long) d 0 0 h.length 0 [(0, .ref 162), (1, .int a0), (2, .int a1), (3, .int a2)] [] h 0 0
  refine J_aload_n (i := 0) (j := 0) dX11_mended_0 rfl rfl ?_
  refine J_iconst (v := 0) dX11_mended_1 (by decide) ?_
  obtain ⟨h_1, e_2⟩ : ∃ z, z = h.set 162 (.inr (11, [.int 0, .ref 163, .ref 164, .ref 165, .ref 166, .ref 167, .ref 168, .ref 169, .int 0, .int 0, .int 0, .int 0, .int 0, .long 0, .int 0, .int 0, .int 0, .int 0, .int 0, .ref 170, .ref 171, .ref 172, .int 0, .int 0, .int 0, .int 0, .int 0, .int 0, .ref 173, .ref 174, .ref 175, .int 0, .int 0, .int 0, .ref 176, .ref 177, .ref 178, .ref 179, .ref 180, .int 0, .long 0, .int 0, .ref 181])) := ⟨_, rfl⟩
  refine J_put (C := RX11) (T := TX11) (Z := 43) (ci := 11) (f := 0) (ty0 := tyX11) dX11_mended_2 inG11 rfl tyX11_ok nmX11 (by decide) k1264 rfl rfl hm (Nat.le_of_ble_eq_true rfl) (fun _ _ => ⟨rfl, rfl⟩) e_2.symm ?_
  have f_3 := a_set e_2 hm
  have l_4 := l_set e_2 rfl
  refine J_aload_n (i := 0) (j := 0) dX11_mended_5 rfl rfl ?_
  refine J_iload_n (i := 1) (j := 1) dX11_mended_6 rfl rfl ?_
  refine J_iload_n (i := 2) (j := 2) dX11_mended_7 rfl rfl ?_
  have f_5 : h_1[167]? = some (.inl (1, 8, .inl (fun _ => 0))) := (s_ne e_2 (by decide)).trans hy
  refine J_callV (As := [.int a0, .int a1]) (rest := []) dX11_mended_8 (c_X11_lay0 (d := 2) (h := h_1)  (by decide) f_3 f_5 ) hq.n k1503 k1505 k52 f_3 rfl rfl k97 k1506 np_X11_lay (Nat.le_trans (by decide) hd) (by decide) (Nat.le_refl _) (Nat.le_refl _) (hkz l_4) rfl (Nat.le_of_ble_eq_true rfl) (fun r_6 h_7 p_8 => ?_)
  obtain ⟨rfl, w_9⟩ := p_8
  refine J_w w_9 ?_
  refine J_if_eq (tgt := 22) dX11_mended_11 (by decide) (fun _ => ?_) (fun q => absurd (by decide) q)
  refine J_ldc2 (v := (-1)) dX11_mended_22 k1578 ?_
  exact J_lret hq dX11_mended_25 rfl (hkz l_4) (Nat.le_refl _) (Nat.le_refl _) rfl
set_option maxHeartbeats 4000000 in
set_option maxRecDepth 100000 in
theorem c_X11_one0 {d : Nat} {h : List MC} {a0 a1 a2 : Int32} (hd : 4 ≤ d) (hm : h[162]? = some (.inr (11, [.int 0, .ref 163, .ref 164, .ref 165, .ref 166, .ref 167, .ref 168, .ref 169, .int 0, .int 0, .int 0, .int 0, .int 0, .long 0, .int 0, .int 0, .int 0, .int 0, .int 0, .ref 170, .ref 171, .ref 172, .int 0, .int 0, .int 0, .int 0, .int 0, .int 0, .ref 173, .ref 174, .ref 175, .int 0, .int 0, .int 0, .ref 176, .ref 177, .ref 178, .ref 179, .ref 180, .int 0, .long 0, .int 0, .ref 181]))) (hy : h[167]? = some (.inl (1, 8, .inl (fun _ => 0))))  : CT con0 d 0 0 yX11_one cX11_one 10 (some .long) [.ref 162, .int a0, .int a1, .int a2] h (fun r h2 => r = some (.long (-1))) := by
  refine CT_of (by decide) (Nat.le_of_ble_eq_true rfl) (fun x hq => ?_)
  show J x yX11_one cX11_one 10 (some .long) d 0 0 h.length 0 [(0, .ref 162), (1, .int a0), (2, .int a1), (3, .int a2)] [] h 0 0
  refine J_aload_n (i := 0) (j := 0) dX11_one_0 rfl rfl ?_
  refine J_iconst (v := 0) dX11_one_1 (by decide) ?_
  obtain ⟨h_1, e_2⟩ : ∃ z, z = h.set 162 (.inr (11, [.int 0, .ref 163, .ref 164, .ref 165, .ref 166, .ref 167, .ref 168, .ref 169, .int 0, .int 0, .int 0, .int 0, .int 0, .long 0, .int 0, .int 0, .int 0, .int 0, .int 0, .ref 170, .ref 171, .ref 172, .int 0, .int 0, .int 0, .int 0, .int 0, .int 0, .ref 173, .ref 174, .ref 175, .int 0, .int 0, .int 0, .ref 176, .ref 177, .ref 178, .ref 179, .ref 180, .int 0, .long 0, .int 0, .ref 181])) := ⟨_, rfl⟩
  refine J_put (C := RX11) (T := TX11) (Z := 43) (ci := 11) (f := 0) (ty0 := tyX11) dX11_one_2 inG11 rfl tyX11_ok nmX11 (by decide) k1264 rfl rfl hm (Nat.le_of_ble_eq_true rfl) (fun _ _ => ⟨rfl, rfl⟩) e_2.symm ?_
  have f_3 := a_set e_2 hm
  have l_4 := l_set e_2 rfl
  refine J_aload_n (i := 0) (j := 0) dX11_one_5 rfl rfl ?_
  refine J_iload_n (i := 1) (j := 1) dX11_one_6 rfl rfl ?_
  refine J_iload_n (i := 2) (j := 2) dX11_one_7 rfl rfl ?_
  have f_5 : h_1[167]? = some (.inl (1, 8, .inl (fun _ => 0))) := (s_ne e_2 (by decide)).trans hy
  refine J_callV (As := [.int a0, .int a1]) (rest := []) dX11_one_8 (c_X11_lay0 (d := 2) (h := h_1)  (by decide) f_3 f_5 ) hq.n k1503 k1505 k52 f_3 rfl rfl k97 k1506 np_X11_lay (Nat.le_trans (by decide) hd) (by decide) (Nat.le_refl _) (Nat.le_refl _) (hkz l_4) rfl (Nat.le_of_ble_eq_true rfl) (fun r_6 h_7 p_8 => ?_)
  obtain ⟨rfl, w_9⟩ := p_8
  refine J_w w_9 ?_
  refine J_if_eq (tgt := 21) dX11_one_11 (by decide) (fun _ => ?_) (fun q => absurd (by decide) q)
  refine J_ldc2 (v := (-1)) dX11_one_21 k1578 ?_
  exact J_lret hq dX11_one_24 rfl (hkz l_4) (Nat.le_refl _) (Nat.le_refl _) rfl
set_option maxHeartbeats 4000000 in
set_option maxRecDepth 100000 in
theorem c_X11_low0 {d : Nat} {h : List MC} {a0 a1 a2 : Int32} (hd : 4 ≤ d) (hm : h[162]? = some (.inr (11, [.int 0, .ref 163, .ref 164, .ref 165, .ref 166, .ref 167, .ref 168, .ref 169, .int 0, .int 0, .int 0, .int 0, .int 0, .long 0, .int 0, .int 0, .int 0, .int 0, .int 0, .ref 170, .ref 171, .ref 172, .int 0, .int 0, .int 0, .int 0, .int 0, .int 0, .ref 173, .ref 174, .ref 175, .int 0, .int 0, .int 0, .ref 176, .ref 177, .ref 178, .ref 179, .ref 180, .int 0, .long 0, .int 0, .ref 181]))) (hy : h[167]? = some (.inl (1, 8, .inl (fun _ => 0))))  : CT con0 d 0 0 yX11_low cX11_low 11 (some .int) [.ref 162, .int a0, .int a1, .int a2] h (fun r h2 => r = some (.int (-1))) := by
  refine CT_of (by decide) (Nat.le_of_ble_eq_true rfl) (fun x hq => ?_)
  show J x yX11_low cX11_low 11 (some .int) d 0 0 h.length 0 [(0, .ref 162), (1, .int a0), (2, .int a1), (3, .int a2)] [] h 0 0
  refine J_aload_n (i := 0) (j := 0) dX11_low_0 rfl rfl ?_
  refine J_iconst (v := 0) dX11_low_1 (by decide) ?_
  obtain ⟨h_1, e_2⟩ : ∃ z, z = h.set 162 (.inr (11, [.int 0, .ref 163, .ref 164, .ref 165, .ref 166, .ref 167, .ref 168, .ref 169, .int 0, .int 0, .int 0, .int 0, .int 0, .long 0, .int 0, .int 0, .int 0, .int 0, .int 0, .ref 170, .ref 171, .ref 172, .int 0, .int 0, .int 0, .int 0, .int 0, .int 0, .ref 173, .ref 174, .ref 175, .int 0, .int 0, .int 0, .ref 176, .ref 177, .ref 178, .ref 179, .ref 180, .int 0, .long 0, .int 0, .ref 181])) := ⟨_, rfl⟩
  refine J_put (C := RX11) (T := TX11) (Z := 43) (ci := 11) (f := 0) (ty0 := tyX11) dX11_low_2 inG11 rfl tyX11_ok nmX11 (by decide) k1264 rfl rfl hm (Nat.le_of_ble_eq_true rfl) (fun _ _ => ⟨rfl, rfl⟩) e_2.symm ?_
  have f_3 := a_set e_2 hm
  have l_4 := l_set e_2 rfl
  refine J_aload_n (i := 0) (j := 0) dX11_low_5 rfl rfl ?_
  refine J_iload_n (i := 1) (j := 1) dX11_low_6 rfl rfl ?_
  refine J_iload_n (i := 2) (j := 2) dX11_low_7 rfl rfl ?_
  have f_5 : h_1[167]? = some (.inl (1, 8, .inl (fun _ => 0))) := (s_ne e_2 (by decide)).trans hy
  refine J_callV (As := [.int a0, .int a1]) (rest := []) dX11_low_8 (c_X11_lay0 (d := 2) (h := h_1)  (by decide) f_3 f_5 ) hq.n k1503 k1505 k52 f_3 rfl rfl k97 k1506 np_X11_lay (Nat.le_trans (by decide) hd) (by decide) (Nat.le_refl _) (Nat.le_refl _) (hkz l_4) rfl (Nat.le_of_ble_eq_true rfl) (fun r_6 h_7 p_8 => ?_)
  obtain ⟨rfl, w_9⟩ := p_8
  refine J_w w_9 ?_
  refine J_if_eq (tgt := 22) dX11_low_11 (by decide) (fun _ => ?_) (fun q => absurd (by decide) q)
  refine J_iconst (v := (-1)) dX11_low_22 (by decide) ?_
  exact J_iret hq dX11_low_23 rfl (hkz l_4) (Nat.le_refl _) (Nat.le_refl _) rfl
set_option maxHeartbeats 4000000 in
set_option maxRecDepth 100000 in
theorem c_X11_helps0 {d : Nat} {h : List MC} {a0 a1 a2 a3 : Int32} (hd : 4 ≤ d) (hm : h[162]? = some (.inr (11, [.int 0, .ref 163, .ref 164, .ref 165, .ref 166, .ref 167, .ref 168, .ref 169, .int 0, .int 0, .int 0, .int 0, .int 0, .long 0, .int 0, .int 0, .int 0, .int 0, .int 0, .ref 170, .ref 171, .ref 172, .int 0, .int 0, .int 0, .int 0, .int 0, .int 0, .ref 173, .ref 174, .ref 175, .int 0, .int 0, .int 0, .ref 176, .ref 177, .ref 178, .ref 179, .ref 180, .int 0, .long 0, .int 0, .ref 181]))) (hy : h[167]? = some (.inl (1, 8, .inl (fun _ => 0))))  : CT con0 d 0 0 yX11_helps cX11_helps 5 (some .long) [.ref 162, .int a0, .int a1, .int a2, .int a3] h (fun r h2 => r = some (.long (-1))) := by
  refine CT_of (by decide) (Nat.le_of_ble_eq_true rfl) (fun x hq => ?_)
  show J x yX11_helps cX11_helps 5 (some .long) d 0 0 h.length 0 [(0, .ref 162), (1, .int a0), (2, .int a1), (3, .int a2), (4, .int a3)] [] h 0 0
  refine J_aload_n (i := 0) (j := 0) dX11_helps_0 rfl rfl ?_
  refine J_iconst (v := 0) dX11_helps_1 (by decide) ?_
  obtain ⟨h_1, e_2⟩ : ∃ z, z = h.set 162 (.inr (11, [.int 0, .ref 163, .ref 164, .ref 165, .ref 166, .ref 167, .ref 168, .ref 169, .int 0, .int 0, .int 0, .int 0, .int 0, .long 0, .int 0, .int 0, .int 0, .int 0, .int 0, .ref 170, .ref 171, .ref 172, .int 0, .int 0, .int 0, .int 0, .int 0, .int 0, .ref 173, .ref 174, .ref 175, .int 0, .int 0, .int 0, .ref 176, .ref 177, .ref 178, .ref 179, .ref 180, .int 0, .long 0, .int 0, .ref 181])) := ⟨_, rfl⟩
  refine J_put (C := RX11) (T := TX11) (Z := 43) (ci := 11) (f := 0) (ty0 := tyX11) dX11_helps_2 inG11 rfl tyX11_ok nmX11 (by decide) k1264 rfl rfl hm (Nat.le_of_ble_eq_true rfl) (fun _ _ => ⟨rfl, rfl⟩) e_2.symm ?_
  have f_3 := a_set e_2 hm
  have l_4 := l_set e_2 rfl
  refine J_aload_n (i := 0) (j := 0) dX11_helps_5 rfl rfl ?_
  refine J_iload_n (i := 1) (j := 1) dX11_helps_6 rfl rfl ?_
  refine J_iload_n (i := 2) (j := 2) dX11_helps_7 rfl rfl ?_
  have f_5 : h_1[167]? = some (.inl (1, 8, .inl (fun _ => 0))) := (s_ne e_2 (by decide)).trans hy
  refine J_callV (As := [.int a0, .int a1]) (rest := []) dX11_helps_8 (c_X11_lay0 (d := 2) (h := h_1)  (by decide) f_3 f_5 ) hq.n k1503 k1505 k52 f_3 rfl rfl k97 k1506 np_X11_lay (Nat.le_trans (by decide) hd) (by decide) (Nat.le_refl _) (Nat.le_refl _) (hkz l_4) rfl (Nat.le_of_ble_eq_true rfl) (fun r_6 h_7 p_8 => ?_)
  obtain ⟨rfl, w_9⟩ := p_8
  refine J_w w_9 ?_
  refine J_if_eq (tgt := 29) dX11_helps_11 (by decide) (fun _ => ?_) (fun q => absurd (by decide) q)
  refine J_ldc2 (v := (-1)) dX11_helps_29 k1578 ?_
  exact J_lret hq dX11_helps_32 rfl (hkz l_4) (Nat.le_refl _) (Nat.le_refl _) rfl
set_option maxHeartbeats 4000000 in
set_option maxRecDepth 100000 in
theorem c_X11_alone0 {d : Nat} {h : List MC} {a0 a1 a2 : Int32} (hd : 4 ≤ d) (hm : h[162]? = some (.inr (11, [.int 0, .ref 163, .ref 164, .ref 165, .ref 166, .ref 167, .ref 168, .ref 169, .int 0, .int 0, .int 0, .int 0, .int 0, .long 0, .int 0, .int 0, .int 0, .int 0, .int 0, .ref 170, .ref 171, .ref 172, .int 0, .int 0, .int 0, .int 0, .int 0, .int 0, .ref 173, .ref 174, .ref 175, .int 0, .int 0, .int 0, .ref 176, .ref 177, .ref 178, .ref 179, .ref 180, .int 0, .long 0, .int 0, .ref 181]))) (hy : h[167]? = some (.inl (1, 8, .inl (fun _ => 0))))  : CT con0 d 0 0 yX11_alone cX11_alone 4 (some .long) [.ref 162, .int a0, .int a1, .int a2] h (fun r h2 => r = some (.long (-1))) := by
  refine CT_of (by decide) (Nat.le_of_ble_eq_true rfl) (fun x hq => ?_)
  show J x yX11_alone cX11_alone 4 (some .long) d 0 0 h.length 0 [(0, .ref 162), (1, .int a0), (2, .int a1), (3, .int a2)] [] h 0 0
  refine J_aload_n (i := 0) (j := 0) dX11_alone_0 rfl rfl ?_
  refine J_iconst (v := 0) dX11_alone_1 (by decide) ?_
  obtain ⟨h_1, e_2⟩ : ∃ z, z = h.set 162 (.inr (11, [.int 0, .ref 163, .ref 164, .ref 165, .ref 166, .ref 167, .ref 168, .ref 169, .int 0, .int 0, .int 0, .int 0, .int 0, .long 0, .int 0, .int 0, .int 0, .int 0, .int 0, .ref 170, .ref 171, .ref 172, .int 0, .int 0, .int 0, .int 0, .int 0, .int 0, .ref 173, .ref 174, .ref 175, .int 0, .int 0, .int 0, .ref 176, .ref 177, .ref 178, .ref 179, .ref 180, .int 0, .long 0, .int 0, .ref 181])) := ⟨_, rfl⟩
  refine J_put (C := RX11) (T := TX11) (Z := 43) (ci := 11) (f := 0) (ty0 := tyX11) dX11_alone_2 inG11 rfl tyX11_ok nmX11 (by decide) k1264 rfl rfl hm (Nat.le_of_ble_eq_true rfl) (fun _ _ => ⟨rfl, rfl⟩) e_2.symm ?_
  have f_3 := a_set e_2 hm
  have l_4 := l_set e_2 rfl
  refine J_aload_n (i := 0) (j := 0) dX11_alone_5 rfl rfl ?_
  refine J_iload_n (i := 1) (j := 1) dX11_alone_6 rfl rfl ?_
  refine J_iload_n (i := 2) (j := 2) dX11_alone_7 rfl rfl ?_
  have f_5 : h_1[167]? = some (.inl (1, 8, .inl (fun _ => 0))) := (s_ne e_2 (by decide)).trans hy
  refine J_callV (As := [.int a0, .int a1]) (rest := []) dX11_alone_8 (c_X11_lay0 (d := 2) (h := h_1)  (by decide) f_3 f_5 ) hq.n k1503 k1505 k52 f_3 rfl rfl k97 k1506 np_X11_lay (Nat.le_trans (by decide) hd) (by decide) (Nat.le_refl _) (Nat.le_refl _) (hkz l_4) rfl (Nat.le_of_ble_eq_true rfl) (fun r_6 h_7 p_8 => ?_)
  obtain ⟨rfl, w_9⟩ := p_8
  refine J_w w_9 ?_
  refine J_if_eq (tgt := 21) dX11_alone_11 (by decide) (fun _ => ?_) (fun q => absurd (by decide) q)
  refine J_ldc2 (v := (-1)) dX11_alone_21 k1578 ?_
  exact J_lret hq dX11_alone_24 rfl (hkz l_4) (Nat.le_refl _) (Nat.le_refl _) rfl
set_option maxHeartbeats 4000000 in
set_option maxRecDepth 100000 in
theorem c_X11_hear0 {d : Nat} {h : List MC} {a0 a1 a2 a3 : Int32} (hd : 4 ≤ d) (hm : h[162]? = some (.inr (11, [.int 0, .ref 163, .ref 164, .ref 165, .ref 166, .ref 167, .ref 168, .ref 169, .int 0, .int 0, .int 0, .int 0, .int 0, .long 0, .int 0, .int 0, .int 0, .int 0, .int 0, .ref 170, .ref 171, .ref 172, .int 0, .int 0, .int 0, .int 0, .int 0, .int 0, .ref 173, .ref 174, .ref 175, .int 0, .int 0, .int 0, .ref 176, .ref 177, .ref 178, .ref 179, .ref 180, .int 0, .long 0, .int 0, .ref 181]))) (hy : h[167]? = some (.inl (1, 8, .inl (fun _ => 0))))  : CT con0 d 0 0 yX11_hear cX11_hear 7 (some .long) [.ref 162, .int a0, .int a1, .int a2, .int a3] h (fun r h2 => r = some (.long (-9223372036854775808))) := by
  refine CT_of (by decide) (Nat.le_of_ble_eq_true rfl) (fun x hq => ?_)
  show J x yX11_hear cX11_hear 7 (some .long) d 0 0 h.length 0 [(0, .ref 162), (1, .int a0), (2, .int a1), (3, .int a2), (4, .int a3)] [] h 0 0
  refine J_aload_n (i := 0) (j := 0) dX11_hear_0 rfl rfl ?_
  refine J_iconst (v := 0) dX11_hear_1 (by decide) ?_
  obtain ⟨h_1, e_2⟩ : ∃ z, z = h.set 162 (.inr (11, [.int 0, .ref 163, .ref 164, .ref 165, .ref 166, .ref 167, .ref 168, .ref 169, .int 0, .int 0, .int 0, .int 0, .int 0, .long 0, .int 0, .int 0, .int 0, .int 0, .int 0, .ref 170, .ref 171, .ref 172, .int 0, .int 0, .int 0, .int 0, .int 0, .int 0, .ref 173, .ref 174, .ref 175, .int 0, .int 0, .int 0, .ref 176, .ref 177, .ref 178, .ref 179, .ref 180, .int 0, .long 0, .int 0, .ref 181])) := ⟨_, rfl⟩
  refine J_put (C := RX11) (T := TX11) (Z := 43) (ci := 11) (f := 0) (ty0 := tyX11) dX11_hear_2 inG11 rfl tyX11_ok nmX11 (by decide) k1264 rfl rfl hm (Nat.le_of_ble_eq_true rfl) (fun _ _ => ⟨rfl, rfl⟩) e_2.symm ?_
  have f_3 := a_set e_2 hm
  have l_4 := l_set e_2 rfl
  refine J_aload_n (i := 0) (j := 0) dX11_hear_5 rfl rfl ?_
  refine J_iload_n (i := 1) (j := 1) dX11_hear_6 rfl rfl ?_
  refine J_iload_n (i := 2) (j := 2) dX11_hear_7 rfl rfl ?_
  have f_5 : h_1[167]? = some (.inl (1, 8, .inl (fun _ => 0))) := (s_ne e_2 (by decide)).trans hy
  refine J_callV (As := [.int a0, .int a1]) (rest := []) dX11_hear_8 (c_X11_lay0 (d := 2) (h := h_1)  (by decide) f_3 f_5 ) hq.n k1503 k1505 k52 f_3 rfl rfl k97 k1506 np_X11_lay (Nat.le_trans (by decide) hd) (by decide) (Nat.le_refl _) (Nat.le_refl _) (hkz l_4) rfl (Nat.le_of_ble_eq_true rfl) (fun r_6 h_7 p_8 => ?_)
  obtain ⟨rfl, w_9⟩ := p_8
  refine J_w w_9 ?_
  refine J_if_eq (tgt := 33) dX11_hear_11 (by decide) (fun _ => ?_) (fun q => absurd (by decide) q)
  refine J_ldc2 (v := (-9223372036854775808)) dX11_hear_33 k1674 ?_
  exact J_lret hq dX11_hear_36 rfl (hkz l_4) (Nat.le_refl _) (Nat.le_refl _) rfl
set_option maxHeartbeats 4000000 in
set_option maxRecDepth 100000 in
theorem c_X11_may0 {d : Nat} {h : List MC} {a0 a1 a2 a3 : Int32} (hd : 4 ≤ d) (hm : h[162]? = some (.inr (11, [.int 0, .ref 163, .ref 164, .ref 165, .ref 166, .ref 167, .ref 168, .ref 169, .int 0, .int 0, .int 0, .int 0, .int 0, .long 0, .int 0, .int 0, .int 0, .int 0, .int 0, .ref 170, .ref 171, .ref 172, .int 0, .int 0, .int 0, .int 0, .int 0, .int 0, .ref 173, .ref 174, .ref 175, .int 0, .int 0, .int 0, .ref 176, .ref 177, .ref 178, .ref 179, .ref 180, .int 0, .long 0, .int 0, .ref 181]))) (hy : h[167]? = some (.inl (1, 8, .inl (fun _ => 0))))  : CT con0 d 0 0 yX11_may cX11_may 7 (some .long) [.ref 162, .int a0, .int a1, .int a2, .int a3] h (fun r h2 => r = some (.long (-1))) := by
  refine CT_of (by decide) (Nat.le_of_ble_eq_true rfl) (fun x hq => ?_)
  show J x yX11_may cX11_may 7 (some .long) d 0 0 h.length 0 [(0, .ref 162), (1, .int a0), (2, .int a1), (3, .int a2), (4, .int a3)] [] h 0 0
  refine J_aload_n (i := 0) (j := 0) dX11_may_0 rfl rfl ?_
  refine J_iconst (v := 0) dX11_may_1 (by decide) ?_
  obtain ⟨h_1, e_2⟩ : ∃ z, z = h.set 162 (.inr (11, [.int 0, .ref 163, .ref 164, .ref 165, .ref 166, .ref 167, .ref 168, .ref 169, .int 0, .int 0, .int 0, .int 0, .int 0, .long 0, .int 0, .int 0, .int 0, .int 0, .int 0, .ref 170, .ref 171, .ref 172, .int 0, .int 0, .int 0, .int 0, .int 0, .int 0, .ref 173, .ref 174, .ref 175, .int 0, .int 0, .int 0, .ref 176, .ref 177, .ref 178, .ref 179, .ref 180, .int 0, .long 0, .int 0, .ref 181])) := ⟨_, rfl⟩
  refine J_put (C := RX11) (T := TX11) (Z := 43) (ci := 11) (f := 0) (ty0 := tyX11) dX11_may_2 inG11 rfl tyX11_ok nmX11 (by decide) k1264 rfl rfl hm (Nat.le_of_ble_eq_true rfl) (fun _ _ => ⟨rfl, rfl⟩) e_2.symm ?_
  have f_3 := a_set e_2 hm
  have l_4 := l_set e_2 rfl
  refine J_aload_n (i := 0) (j := 0) dX11_may_5 rfl rfl ?_
  refine J_iload_n (i := 1) (j := 1) dX11_may_6 rfl rfl ?_
  refine J_iload_n (i := 2) (j := 2) dX11_may_7 rfl rfl ?_
  refine J_iload_n (i := 3) (j := 3) dX11_may_8 rfl rfl ?_
  have f_5 : h_1[167]? = some (.inl (1, 8, .inl (fun _ => 0))) := (s_ne e_2 (by decide)).trans hy
  refine J_callV (As := [.int a0, .int a1, .int a2]) (rest := []) dX11_may_9 (c_X11_isFilled0 (d := 3) (h := h_1)  (by decide) f_3 f_5 ) hq.n k1679 k1681 k76 f_3 rfl rfl k97 k1682 np_X11_isFilled (Nat.le_trans (by decide) hd) (by decide) (Nat.le_refl _) (Nat.le_refl _) (hkz l_4) rfl (Nat.le_of_ble_eq_true rfl) (fun r_6 h_7 p_8 => ?_)
  obtain ⟨rfl, w_9⟩ := p_8
  refine J_w w_9 ?_
  refine J_if_ne (tgt := 19) dX11_may_12 (by decide) (fun q => absurd (by decide) q) (fun _ => ?_)
  refine J_ldc2 (v := (-1)) dX11_may_15 k1578 ?_
  exact J_lret hq dX11_may_18 rfl (hkz l_4) (Nat.le_refl _) (Nat.le_refl _) rfl
set_option maxHeartbeats 4000000 in
set_option maxRecDepth 100000 in
theorem c_X11_order0 {d : Nat} {h : List MC} {a0 a1 a2 a3 : Int32} (hd : 4 ≤ d) (hm : h[162]? = some (.inr (11, [.int 0, .ref 163, .ref 164, .ref 165, .ref 166, .ref 167, .ref 168, .ref 169, .int 0, .int 0, .int 0, .int 0, .int 0, .long 0, .int 0, .int 0, .int 0, .int 0, .int 0, .ref 170, .ref 171, .ref 172, .int 0, .int 0, .int 0, .int 0, .int 0, .int 0, .ref 173, .ref 174, .ref 175, .int 0, .int 0, .int 0, .ref 176, .ref 177, .ref 178, .ref 179, .ref 180, .int 0, .long 0, .int 0, .ref 181]))) (hy : h[167]? = some (.inl (1, 8, .inl (fun _ => 0))))  : CT con0 d 0 0 yX11_order cX11_order 5 (some .int) [.ref 162, .int a0, .int a1, .int a2, .int a3] h (fun r h2 => r = some (.int (-1))) := by
  refine CT_of (by decide) (Nat.le_of_ble_eq_true rfl) (fun x hq => ?_)
  show J x yX11_order cX11_order 5 (some .int) d 0 0 h.length 0 [(0, .ref 162), (1, .int a0), (2, .int a1), (3, .int a2), (4, .int a3)] [] h 0 0
  refine J_aload_n (i := 0) (j := 0) dX11_order_0 rfl rfl ?_
  refine J_iconst (v := 0) dX11_order_1 (by decide) ?_
  obtain ⟨h_1, e_2⟩ : ∃ z, z = h.set 162 (.inr (11, [.int 0, .ref 163, .ref 164, .ref 165, .ref 166, .ref 167, .ref 168, .ref 169, .int 0, .int 0, .int 0, .int 0, .int 0, .long 0, .int 0, .int 0, .int 0, .int 0, .int 0, .ref 170, .ref 171, .ref 172, .int 0, .int 0, .int 0, .int 0, .int 0, .int 0, .ref 173, .ref 174, .ref 175, .int 0, .int 0, .int 0, .ref 176, .ref 177, .ref 178, .ref 179, .ref 180, .int 0, .long 0, .int 0, .ref 181])) := ⟨_, rfl⟩
  refine J_put (C := RX11) (T := TX11) (Z := 43) (ci := 11) (f := 0) (ty0 := tyX11) dX11_order_2 inG11 rfl tyX11_ok nmX11 (by decide) k1264 rfl rfl hm (Nat.le_of_ble_eq_true rfl) (fun _ _ => ⟨rfl, rfl⟩) e_2.symm ?_
  have f_3 := a_set e_2 hm
  have l_4 := l_set e_2 rfl
  refine J_aload_n (i := 0) (j := 0) dX11_order_5 rfl rfl ?_
  refine J_iload_n (i := 1) (j := 1) dX11_order_6 rfl rfl ?_
  refine J_iload_n (i := 2) (j := 2) dX11_order_7 rfl rfl ?_
  refine J_iload_n (i := 3) (j := 3) dX11_order_8 rfl rfl ?_
  have f_5 : h_1[167]? = some (.inl (1, 8, .inl (fun _ => 0))) := (s_ne e_2 (by decide)).trans hy
  refine J_callV (As := [.int a0, .int a1, .int a2]) (rest := []) dX11_order_9 (c_X11_isFilled0 (d := 3) (h := h_1)  (by decide) f_3 f_5 ) hq.n k1679 k1681 k76 f_3 rfl rfl k97 k1682 np_X11_isFilled (Nat.le_trans (by decide) hd) (by decide) (Nat.le_refl _) (Nat.le_refl _) (hkz l_4) rfl (Nat.le_of_ble_eq_true rfl) (fun r_6 h_7 p_8 => ?_)
  obtain ⟨rfl, w_9⟩ := p_8
  refine J_w w_9 ?_
  refine J_if_eq (tgt := 30) dX11_order_12 (by decide) (fun _ => ?_) (fun q => absurd (by decide) q)
  refine J_iconst (v := (-1)) dX11_order_30 (by decide) ?_
  exact J_iret hq dX11_order_31 rfl (hkz l_4) (Nat.le_refl _) (Nat.le_refl _) rfl
set_option maxHeartbeats 4000000 in
set_option maxRecDepth 100000 in
theorem c_X11_think0 {d : Nat} {h : List MC} {a0 a1 a2 a3 : Int32} (hd : 4 ≤ d) (hm : h[162]? = some (.inr (11, [.int 0, .ref 163, .ref 164, .ref 165, .ref 166, .ref 167, .ref 168, .ref 169, .int 0, .int 0, .int 0, .int 0, .int 0, .long 0, .int 0, .int 0, .int 0, .int 0, .int 0, .ref 170, .ref 171, .ref 172, .int 0, .int 0, .int 0, .int 0, .int 0, .int 0, .ref 173, .ref 174, .ref 175, .int 0, .int 0, .int 0, .ref 176, .ref 177, .ref 178, .ref 179, .ref 180, .int 0, .long 0, .int 0, .ref 181]))) (hy : h[167]? = some (.inl (1, 8, .inl (fun _ => 0))))  : CT con0 d 0 0 yX11_think cX11_think 7 (some .int) [.ref 162, .int a0, .int a1, .int a2, .int a3] h (fun r h2 => r = some (.int (-1))) := by
  refine CT_of (by decide) (Nat.le_of_ble_eq_true rfl) (fun x hq => ?_)
  show J x yX11_think cX11_think 7 (some .int) d 0 0 h.length 0 [(0, .ref 162), (1, .int a0), (2, .int a1), (3, .int a2), (4, .int a3)] [] h 0 0
  refine J_aload_n (i := 0) (j := 0) dX11_think_0 rfl rfl ?_
  refine J_iconst (v := 0) dX11_think_1 (by decide) ?_
  obtain ⟨h_1, e_2⟩ : ∃ z, z = h.set 162 (.inr (11, [.int 0, .ref 163, .ref 164, .ref 165, .ref 166, .ref 167, .ref 168, .ref 169, .int 0, .int 0, .int 0, .int 0, .int 0, .long 0, .int 0, .int 0, .int 0, .int 0, .int 0, .ref 170, .ref 171, .ref 172, .int 0, .int 0, .int 0, .int 0, .int 0, .int 0, .ref 173, .ref 174, .ref 175, .int 0, .int 0, .int 0, .ref 176, .ref 177, .ref 178, .ref 179, .ref 180, .int 0, .long 0, .int 0, .ref 181])) := ⟨_, rfl⟩
  refine J_put (C := RX11) (T := TX11) (Z := 43) (ci := 11) (f := 0) (ty0 := tyX11) dX11_think_2 inG11 rfl tyX11_ok nmX11 (by decide) k1264 rfl rfl hm (Nat.le_of_ble_eq_true rfl) (fun _ _ => ⟨rfl, rfl⟩) e_2.symm ?_
  have f_3 := a_set e_2 hm
  have l_4 := l_set e_2 rfl
  refine J_aload_n (i := 0) (j := 0) dX11_think_5 rfl rfl ?_
  refine J_iload_n (i := 1) (j := 1) dX11_think_6 rfl rfl ?_
  refine J_iload_n (i := 2) (j := 2) dX11_think_7 rfl rfl ?_
  have f_5 : h_1[167]? = some (.inl (1, 8, .inl (fun _ => 0))) := (s_ne e_2 (by decide)).trans hy
  refine J_callV (As := [.int a0, .int a1]) (rest := []) dX11_think_8 (c_X11_lay0 (d := 2) (h := h_1)  (by decide) f_3 f_5 ) hq.n k1503 k1505 k52 f_3 rfl rfl k97 k1506 np_X11_lay (Nat.le_trans (by decide) hd) (by decide) (Nat.le_refl _) (Nat.le_refl _) (hkz l_4) rfl (Nat.le_of_ble_eq_true rfl) (fun r_6 h_7 p_8 => ?_)
  obtain ⟨rfl, w_9⟩ := p_8
  refine J_w w_9 ?_
  refine J_if_eq (tgt := 22) dX11_think_11 (by decide) (fun _ => ?_) (fun q => absurd (by decide) q)
  refine J_iconst (v := (-1)) dX11_think_22 (by decide) ?_
  exact J_iret hq dX11_think_23 rfl (hkz l_4) (Nat.le_refl _) (Nat.le_refl _) rfl
set_option maxHeartbeats 4000000 in
set_option maxRecDepth 100000 in
theorem c_X11_now0 {d : Nat} {h : List MC} {a0 a1 : Int32} (hd : 4 ≤ d) (hm : h[162]? = some (.inr (11, [.int 0, .ref 163, .ref 164, .ref 165, .ref 166, .ref 167, .ref 168, .ref 169, .int 0, .int 0, .int 0, .int 0, .int 0, .long 0, .int 0, .int 0, .int 0, .int 0, .int 0, .ref 170, .ref 171, .ref 172, .int 0, .int 0, .int 0, .int 0, .int 0, .int 0, .ref 173, .ref 174, .ref 175, .int 0, .int 0, .int 0, .ref 176, .ref 177, .ref 178, .ref 179, .ref 180, .int 0, .long 0, .int 0, .ref 181]))) (hy : h[167]? = some (.inl (1, 8, .inl (fun _ => 0))))  : CT con0 d 0 0 yX11_now cX11_now 11 (some .int) [.ref 162, .int a0, .int a1] h (fun r h2 => r = some (.int (-1))) := by
  refine CT_of (by decide) (Nat.le_of_ble_eq_true rfl) (fun x hq => ?_)
  show J x yX11_now cX11_now 11 (some .int) d 0 0 h.length 0 [(0, .ref 162), (1, .int a0), (2, .int a1)] [] h 0 0
  refine J_aload_n (i := 0) (j := 0) dX11_now_0 rfl rfl ?_
  refine J_iconst (v := 0) dX11_now_1 (by decide) ?_
  obtain ⟨h_1, e_2⟩ : ∃ z, z = h.set 162 (.inr (11, [.int 0, .ref 163, .ref 164, .ref 165, .ref 166, .ref 167, .ref 168, .ref 169, .int 0, .int 0, .int 0, .int 0, .int 0, .long 0, .int 0, .int 0, .int 0, .int 0, .int 0, .ref 170, .ref 171, .ref 172, .int 0, .int 0, .int 0, .int 0, .int 0, .int 0, .ref 173, .ref 174, .ref 175, .int 0, .int 0, .int 0, .ref 176, .ref 177, .ref 178, .ref 179, .ref 180, .int 0, .long 0, .int 0, .ref 181])) := ⟨_, rfl⟩
  refine J_put (C := RX11) (T := TX11) (Z := 43) (ci := 11) (f := 0) (ty0 := tyX11) dX11_now_2 inG11 rfl tyX11_ok nmX11 (by decide) k1264 rfl rfl hm (Nat.le_of_ble_eq_true rfl) (fun _ _ => ⟨rfl, rfl⟩) e_2.symm ?_
  have f_3 := a_set e_2 hm
  have l_4 := l_set e_2 rfl
  refine J_aload_n (i := 0) (j := 0) dX11_now_5 rfl rfl ?_
  refine J_iload_n (i := 1) (j := 1) dX11_now_6 rfl rfl ?_
  refine J_iload_n (i := 2) (j := 2) dX11_now_7 rfl rfl ?_
  have f_5 : h_1[167]? = some (.inl (1, 8, .inl (fun _ => 0))) := (s_ne e_2 (by decide)).trans hy
  refine J_callV (As := [.int a0, .int a1]) (rest := []) dX11_now_8 (c_X11_lay0 (d := 2) (h := h_1)  (by decide) f_3 f_5 ) hq.n k1503 k1505 k52 f_3 rfl rfl k97 k1506 np_X11_lay (Nat.le_trans (by decide) hd) (by decide) (Nat.le_refl _) (Nat.le_refl _) (hkz l_4) rfl (Nat.le_of_ble_eq_true rfl) (fun r_6 h_7 p_8 => ?_)
  obtain ⟨rfl, w_9⟩ := p_8
  refine J_w w_9 ?_
  refine J_if_ne (tgt := 16) dX11_now_11 (by decide) (fun q => absurd (by decide) q) (fun _ => ?_)
  refine J_iconst (v := (-1)) dX11_now_14 (by decide) ?_
  exact J_iret hq dX11_now_15 rfl (hkz l_4) (Nat.le_refl _) (Nat.le_refl _) rfl
set_option maxHeartbeats 4000000 in
set_option maxRecDepth 100000 in
theorem c_X11_years0 {d : Nat} {h : List MC} {a0 a1 a2 a3 a4 : Int32} (hd : 4 ≤ d) (hm : h[162]? = some (.inr (11, [.int 0, .ref 163, .ref 164, .ref 165, .ref 166, .ref 167, .ref 168, .ref 169, .int 0, .int 0, .int 0, .int 0, .int 0, .long 0, .int 0, .int 0, .int 0, .int 0, .int 0, .ref 170, .ref 171, .ref 172, .int 0, .int 0, .int 0, .int 0, .int 0, .int 0, .ref 173, .ref 174, .ref 175, .int 0, .int 0, .int 0, .ref 176, .ref 177, .ref 178, .ref 179, .ref 180, .int 0, .long 0, .int 0, .ref 181]))) (hy : h[167]? = some (.inl (1, 8, .inl (fun _ => 0))))  : CT con0 d 0 0 yX11_years cX11_years 12 (some .long) [.ref 162, .int a0, .int a1, .int a2, .int a3, .int a4] h (fun r h2 => r = some (.long (-1))) := by
  refine CT_of (by decide) (Nat.le_of_ble_eq_true rfl) (fun x hq => ?_)
  show J x yX11_years cX11_years 12 (some .long) d 0 0 h.length 0 [(0, .ref 162), (1, .int a0), (2, .int a1), (3, .int a2), (4, .int a3), (5, .int a4)] [] h 0 0
  refine J_aload_n (i := 0) (j := 0) dX11_years_0 rfl rfl ?_
  refine J_iconst (v := 0) dX11_years_1 (by decide) ?_
  obtain ⟨h_1, e_2⟩ : ∃ z, z = h.set 162 (.inr (11, [.int 0, .ref 163, .ref 164, .ref 165, .ref 166, .ref 167, .ref 168, .ref 169, .int 0, .int 0, .int 0, .int 0, .int 0, .long 0, .int 0, .int 0, .int 0, .int 0, .int 0, .ref 170, .ref 171, .ref 172, .int 0, .int 0, .int 0, .int 0, .int 0, .int 0, .ref 173, .ref 174, .ref 175, .int 0, .int 0, .int 0, .ref 176, .ref 177, .ref 178, .ref 179, .ref 180, .int 0, .long 0, .int 0, .ref 181])) := ⟨_, rfl⟩
  refine J_put (C := RX11) (T := TX11) (Z := 43) (ci := 11) (f := 0) (ty0 := tyX11) dX11_years_2 inG11 rfl tyX11_ok nmX11 (by decide) k1264 rfl rfl hm (Nat.le_of_ble_eq_true rfl) (fun _ _ => ⟨rfl, rfl⟩) e_2.symm ?_
  have f_3 := a_set e_2 hm
  have l_4 := l_set e_2 rfl
  refine J_aload_n (i := 0) (j := 0) dX11_years_5 rfl rfl ?_
  refine J_iload_n (i := 1) (j := 1) dX11_years_6 rfl rfl ?_
  refine J_iload_n (i := 2) (j := 2) dX11_years_7 rfl rfl ?_
  have f_5 : h_1[167]? = some (.inl (1, 8, .inl (fun _ => 0))) := (s_ne e_2 (by decide)).trans hy
  refine J_callV (As := [.int a0, .int a1]) (rest := []) dX11_years_8 (c_X11_lay0 (d := 2) (h := h_1)  (by decide) f_3 f_5 ) hq.n k1503 k1505 k52 f_3 rfl rfl k97 k1506 np_X11_lay (Nat.le_trans (by decide) hd) (by decide) (Nat.le_refl _) (Nat.le_refl _) (hkz l_4) rfl (Nat.le_of_ble_eq_true rfl) (fun r_6 h_7 p_8 => ?_)
  obtain ⟨rfl, w_9⟩ := p_8
  refine J_w w_9 ?_
  refine J_if_eq (tgt := 25) dX11_years_11 (by decide) (fun _ => ?_) (fun q => absurd (by decide) q)
  refine J_ldc2 (v := (-1)) dX11_years_25 k1578 ?_
  exact J_lret hq dX11_years_28 rfl (hkz l_4) (Nat.le_refl _) (Nat.le_refl _) rfl
set_option maxHeartbeats 4000000 in
set_option maxRecDepth 100000 in
theorem c_X11_spared0 {d : Nat} {h : List MC} {a0 a1 a2 : Int32} (hd : 4 ≤ d) (hm : h[162]? = some (.inr (11, [.int 0, .ref 163, .ref 164, .ref 165, .ref 166, .ref 167, .ref 168, .ref 169, .int 0, .int 0, .int 0, .int 0, .int 0, .long 0, .int 0, .int 0, .int 0, .int 0, .int 0, .ref 170, .ref 171, .ref 172, .int 0, .int 0, .int 0, .int 0, .int 0, .int 0, .ref 173, .ref 174, .ref 175, .int 0, .int 0, .int 0, .ref 176, .ref 177, .ref 178, .ref 179, .ref 180, .int 0, .long 0, .int 0, .ref 181]))) (hy : h[167]? = some (.inl (1, 8, .inl (fun _ => 0))))  : CT con0 d 0 0 yX11_spared cX11_spared 6 (some .int) [.ref 162, .int a0, .int a1, .int a2] h (fun r h2 => r = some (.int (-1))) := by
  refine CT_of (by decide) (Nat.le_of_ble_eq_true rfl) (fun x hq => ?_)
  show J x yX11_spared cX11_spared 6 (some .int) d 0 0 h.length 0 [(0, .ref 162), (1, .int a0), (2, .int a1), (3, .int a2)] [] h 0 0
  refine J_aload_n (i := 0) (j := 0) dX11_spared_0 rfl rfl ?_
  refine J_iconst (v := 0) dX11_spared_1 (by decide) ?_
  obtain ⟨h_1, e_2⟩ : ∃ z, z = h.set 162 (.inr (11, [.int 0, .ref 163, .ref 164, .ref 165, .ref 166, .ref 167, .ref 168, .ref 169, .int 0, .int 0, .int 0, .int 0, .int 0, .long 0, .int 0, .int 0, .int 0, .int 0, .int 0, .ref 170, .ref 171, .ref 172, .int 0, .int 0, .int 0, .int 0, .int 0, .int 0, .ref 173, .ref 174, .ref 175, .int 0, .int 0, .int 0, .ref 176, .ref 177, .ref 178, .ref 179, .ref 180, .int 0, .long 0, .int 0, .ref 181])) := ⟨_, rfl⟩
  refine J_put (C := RX11) (T := TX11) (Z := 43) (ci := 11) (f := 0) (ty0 := tyX11) dX11_spared_2 inG11 rfl tyX11_ok nmX11 (by decide) k1264 rfl rfl hm (Nat.le_of_ble_eq_true rfl) (fun _ _ => ⟨rfl, rfl⟩) e_2.symm ?_
  have f_3 := a_set e_2 hm
  have l_4 := l_set e_2 rfl
  refine J_aload_n (i := 0) (j := 0) dX11_spared_5 rfl rfl ?_
  refine J_iload_n (i := 1) (j := 1) dX11_spared_6 rfl rfl ?_
  refine J_iload_n (i := 2) (j := 2) dX11_spared_7 rfl rfl ?_
  have f_5 : h_1[167]? = some (.inl (1, 8, .inl (fun _ => 0))) := (s_ne e_2 (by decide)).trans hy
  refine J_callV (As := [.int a0, .int a1]) (rest := []) dX11_spared_8 (c_X11_lay0 (d := 2) (h := h_1)  (by decide) f_3 f_5 ) hq.n k1503 k1505 k52 f_3 rfl rfl k97 k1506 np_X11_lay (Nat.le_trans (by decide) hd) (by decide) (Nat.le_refl _) (Nat.le_refl _) (hkz l_4) rfl (Nat.le_of_ble_eq_true rfl) (fun r_6 h_7 p_8 => ?_)
  obtain ⟨rfl, w_9⟩ := p_8
  refine J_w w_9 ?_
  refine J_if_eq (tgt := 22) dX11_spared_11 (by decide) (fun _ => ?_) (fun q => absurd (by decide) q)
  refine J_iconst (v := (-1)) dX11_spared_22 (by decide) ?_
  exact J_iret hq dX11_spared_23 rfl (hkz l_4) (Nat.le_refl _) (Nat.le_refl _) rfl
set_option maxHeartbeats 4000000 in
set_option maxRecDepth 100000 in
theorem c_X11_deep0 {d : Nat} {h : List MC} {a0 a1 : Int32} (hd : 4 ≤ d) (hm : h[162]? = some (.inr (11, [.int 0, .ref 163, .ref 164, .ref 165, .ref 166, .ref 167, .ref 168, .ref 169, .int 0, .int 0, .int 0, .int 0, .int 0, .long 0, .int 0, .int 0, .int 0, .int 0, .int 0, .ref 170, .ref 171, .ref 172, .int 0, .int 0, .int 0, .int 0, .int 0, .int 0, .ref 173, .ref 174, .ref 175, .int 0, .int 0, .int 0, .ref 176, .ref 177, .ref 178, .ref 179, .ref 180, .int 0, .long 0, .int 0, .ref 181]))) (hy : h[167]? = some (.inl (1, 8, .inl (fun _ => 0))))  : CT con0 d 0 0 yX11_deep cX11_deep 7 (some .int) [.ref 162, .int a0, .int a1] h (fun r h2 => r = some (.int (-1))) := by
  refine CT_of (by decide) (Nat.le_of_ble_eq_true rfl) (fun x hq => ?_)
  show J x yX11_deep cX11_deep 7 (some .int) d 0 0 h.length 0 [(0, .ref 162), (1, .int a0), (2, .int a1)] [] h 0 0
  refine J_aload_n (i := 0) (j := 0) dX11_deep_0 rfl rfl ?_
  refine J_iconst (v := 0) dX11_deep_1 (by decide) ?_
  obtain ⟨h_1, e_2⟩ : ∃ z, z = h.set 162 (.inr (11, [.int 0, .ref 163, .ref 164, .ref 165, .ref 166, .ref 167, .ref 168, .ref 169, .int 0, .int 0, .int 0, .int 0, .int 0, .long 0, .int 0, .int 0, .int 0, .int 0, .int 0, .ref 170, .ref 171, .ref 172, .int 0, .int 0, .int 0, .int 0, .int 0, .int 0, .ref 173, .ref 174, .ref 175, .int 0, .int 0, .int 0, .ref 176, .ref 177, .ref 178, .ref 179, .ref 180, .int 0, .long 0, .int 0, .ref 181])) := ⟨_, rfl⟩
  refine J_put (C := RX11) (T := TX11) (Z := 43) (ci := 11) (f := 0) (ty0 := tyX11) dX11_deep_2 inG11 rfl tyX11_ok nmX11 (by decide) k1264 rfl rfl hm (Nat.le_of_ble_eq_true rfl) (fun _ _ => ⟨rfl, rfl⟩) e_2.symm ?_
  have f_3 := a_set e_2 hm
  have l_4 := l_set e_2 rfl
  refine J_aload_n (i := 0) (j := 0) dX11_deep_5 rfl rfl ?_
  refine J_iload_n (i := 1) (j := 1) dX11_deep_6 rfl rfl ?_
  refine J_iload_n (i := 2) (j := 2) dX11_deep_7 rfl rfl ?_
  have f_5 : h_1[167]? = some (.inl (1, 8, .inl (fun _ => 0))) := (s_ne e_2 (by decide)).trans hy
  refine J_callV (As := [.int a0, .int a1]) (rest := []) dX11_deep_8 (c_X11_lay0 (d := 2) (h := h_1)  (by decide) f_3 f_5 ) hq.n k1503 k1505 k52 f_3 rfl rfl k97 k1506 np_X11_lay (Nat.le_trans (by decide) hd) (by decide) (Nat.le_refl _) (Nat.le_refl _) (hkz l_4) rfl (Nat.le_of_ble_eq_true rfl) (fun r_6 h_7 p_8 => ?_)
  obtain ⟨rfl, w_9⟩ := p_8
  refine J_w w_9 ?_
  refine J_if_ne (tgt := 16) dX11_deep_11 (by decide) (fun q => absurd (by decide) q) (fun _ => ?_)
  refine J_iconst (v := (-1)) dX11_deep_14 (by decide) ?_
  exact J_iret hq dX11_deep_15 rfl (hkz l_4) (Nat.le_refl _) (Nat.le_refl _) rfl
set_option maxHeartbeats 4000000 in
set_option maxRecDepth 100000 in
theorem c_X11_safe0 {d : Nat} {h : List MC} {a0 a1 : Int32} (hd : 4 ≤ d) (hm : h[162]? = some (.inr (11, [.int 0, .ref 163, .ref 164, .ref 165, .ref 166, .ref 167, .ref 168, .ref 169, .int 0, .int 0, .int 0, .int 0, .int 0, .long 0, .int 0, .int 0, .int 0, .int 0, .int 0, .ref 170, .ref 171, .ref 172, .int 0, .int 0, .int 0, .int 0, .int 0, .int 0, .ref 173, .ref 174, .ref 175, .int 0, .int 0, .int 0, .ref 176, .ref 177, .ref 178, .ref 179, .ref 180, .int 0, .long 0, .int 0, .ref 181]))) (hy : h[167]? = some (.inl (1, 8, .inl (fun _ => 0))))  : CT con0 d 0 0 yX11_safe cX11_safe 5 (some .int) [.ref 162, .int a0, .int a1] h (fun r h2 => r = some (.int (-1))) := by
  refine CT_of (by decide) (Nat.le_of_ble_eq_true rfl) (fun x hq => ?_)
  show J x yX11_safe cX11_safe 5 (some .int) d 0 0 h.length 0 [(0, .ref 162), (1, .int a0), (2, .int a1)] [] h 0 0
  refine J_aload_n (i := 0) (j := 0) dX11_safe_0 rfl rfl ?_
  refine J_iconst (v := 0) dX11_safe_1 (by decide) ?_
  obtain ⟨h_1, e_2⟩ : ∃ z, z = h.set 162 (.inr (11, [.int 0, .ref 163, .ref 164, .ref 165, .ref 166, .ref 167, .ref 168, .ref 169, .int 0, .int 0, .int 0, .int 0, .int 0, .long 0, .int 0, .int 0, .int 0, .int 0, .int 0, .ref 170, .ref 171, .ref 172, .int 0, .int 0, .int 0, .int 0, .int 0, .int 0, .ref 173, .ref 174, .ref 175, .int 0, .int 0, .int 0, .ref 176, .ref 177, .ref 178, .ref 179, .ref 180, .int 0, .long 0, .int 0, .ref 181])) := ⟨_, rfl⟩
  refine J_put (C := RX11) (T := TX11) (Z := 43) (ci := 11) (f := 0) (ty0 := tyX11) dX11_safe_2 inG11 rfl tyX11_ok nmX11 (by decide) k1264 rfl rfl hm (Nat.le_of_ble_eq_true rfl) (fun _ _ => ⟨rfl, rfl⟩) e_2.symm ?_
  have f_3 := a_set e_2 hm
  have l_4 := l_set e_2 rfl
  refine J_aload_n (i := 0) (j := 0) dX11_safe_5 rfl rfl ?_
  refine J_iload_n (i := 1) (j := 1) dX11_safe_6 rfl rfl ?_
  refine J_iload_n (i := 2) (j := 2) dX11_safe_7 rfl rfl ?_
  have f_5 : h_1[167]? = some (.inl (1, 8, .inl (fun _ => 0))) := (s_ne e_2 (by decide)).trans hy
  refine J_callV (As := [.int a0, .int a1]) (rest := []) dX11_safe_8 (c_X11_lay0 (d := 2) (h := h_1)  (by decide) f_3 f_5 ) hq.n k1503 k1505 k52 f_3 rfl rfl k97 k1506 np_X11_lay (Nat.le_trans (by decide) hd) (by decide) (Nat.le_refl _) (Nat.le_refl _) (hkz l_4) rfl (Nat.le_of_ble_eq_true rfl) (fun r_6 h_7 p_8 => ?_)
  obtain ⟨rfl, w_9⟩ := p_8
  refine J_w w_9 ?_
  refine J_if_ne (tgt := 16) dX11_safe_11 (by decide) (fun q => absurd (by decide) q) (fun _ => ?_)
  refine J_iconst (v := (-1)) dX11_safe_14 (by decide) ?_
  exact J_iret hq dX11_safe_15 rfl (hkz l_4) (Nat.le_refl _) (Nat.le_refl _) rfl
set_option maxHeartbeats 4000000 in
set_option maxRecDepth 100000 in
theorem c_X11_weighs0 {d : Nat} {h : List MC} {a0 a1 : Int32} (hd : 4 ≤ d) (hm : h[162]? = some (.inr (11, [.int 0, .ref 163, .ref 164, .ref 165, .ref 166, .ref 167, .ref 168, .ref 169, .int 0, .int 0, .int 0, .int 0, .int 0, .long 0, .int 0, .int 0, .int 0, .int 0, .int 0, .ref 170, .ref 171, .ref 172, .int 0, .int 0, .int 0, .int 0, .int 0, .int 0, .ref 173, .ref 174, .ref 175, .int 0, .int 0, .int 0, .ref 176, .ref 177, .ref 178, .ref 179, .ref 180, .int 0, .long 0, .int 0, .ref 181]))) (hy : h[167]? = some (.inl (1, 8, .inl (fun _ => 0))))  : CT con0 d 0 0 yX11_weighs cX11_weighs 12 (some .int) [.ref 162, .int a0, .int a1] h (fun r h2 => r = some (.int (-1))) := by
  refine CT_of (by decide) (Nat.le_of_ble_eq_true rfl) (fun x hq => ?_)
  show J x yX11_weighs cX11_weighs 12 (some .int) d 0 0 h.length 0 [(0, .ref 162), (1, .int a0), (2, .int a1)] [] h 0 0
  refine J_aload_n (i := 0) (j := 0) dX11_weighs_0 rfl rfl ?_
  refine J_iconst (v := 0) dX11_weighs_1 (by decide) ?_
  obtain ⟨h_1, e_2⟩ : ∃ z, z = h.set 162 (.inr (11, [.int 0, .ref 163, .ref 164, .ref 165, .ref 166, .ref 167, .ref 168, .ref 169, .int 0, .int 0, .int 0, .int 0, .int 0, .long 0, .int 0, .int 0, .int 0, .int 0, .int 0, .ref 170, .ref 171, .ref 172, .int 0, .int 0, .int 0, .int 0, .int 0, .int 0, .ref 173, .ref 174, .ref 175, .int 0, .int 0, .int 0, .ref 176, .ref 177, .ref 178, .ref 179, .ref 180, .int 0, .long 0, .int 0, .ref 181])) := ⟨_, rfl⟩
  refine J_put (C := RX11) (T := TX11) (Z := 43) (ci := 11) (f := 0) (ty0 := tyX11) dX11_weighs_2 inG11 rfl tyX11_ok nmX11 (by decide) k1264 rfl rfl hm (Nat.le_of_ble_eq_true rfl) (fun _ _ => ⟨rfl, rfl⟩) e_2.symm ?_
  have f_3 := a_set e_2 hm
  have l_4 := l_set e_2 rfl
  refine J_aload_n (i := 0) (j := 0) dX11_weighs_5 rfl rfl ?_
  refine J_iload_n (i := 1) (j := 1) dX11_weighs_6 rfl rfl ?_
  refine J_iload_n (i := 2) (j := 2) dX11_weighs_7 rfl rfl ?_
  have f_5 : h_1[167]? = some (.inl (1, 8, .inl (fun _ => 0))) := (s_ne e_2 (by decide)).trans hy
  refine J_callV (As := [.int a0, .int a1]) (rest := []) dX11_weighs_8 (c_X11_lay0 (d := 2) (h := h_1)  (by decide) f_3 f_5 ) hq.n k1503 k1505 k52 f_3 rfl rfl k97 k1506 np_X11_lay (Nat.le_trans (by decide) hd) (by decide) (Nat.le_refl _) (Nat.le_refl _) (hkz l_4) rfl (Nat.le_of_ble_eq_true rfl) (fun r_6 h_7 p_8 => ?_)
  obtain ⟨rfl, w_9⟩ := p_8
  refine J_w w_9 ?_
  refine J_if_ne (tgt := 16) dX11_weighs_11 (by decide) (fun q => absurd (by decide) q) (fun _ => ?_)
  refine J_iconst (v := (-1)) dX11_weighs_14 (by decide) ?_
  exact J_iret hq dX11_weighs_15 rfl (hkz l_4) (Nat.le_refl _) (Nat.le_refl _) rfl
set_option maxHeartbeats 4000000 in
set_option maxRecDepth 100000 in
theorem c_X11_upon0 {d : Nat} {h : List MC} {a0 a1 a2 a3 : Int32} (hd : 4 ≤ d) (hm : h[162]? = some (.inr (11, [.int 0, .ref 163, .ref 164, .ref 165, .ref 166, .ref 167, .ref 168, .ref 169, .int 0, .int 0, .int 0, .int 0, .int 0, .long 0, .int 0, .int 0, .int 0, .int 0, .int 0, .ref 170, .ref 171, .ref 172, .int 0, .int 0, .int 0, .int 0, .int 0, .int 0, .ref 173, .ref 174, .ref 175, .int 0, .int 0, .int 0, .ref 176, .ref 177, .ref 178, .ref 179, .ref 180, .int 0, .long 0, .int 0, .ref 181]))) (hy : h[167]? = some (.inl (1, 8, .inl (fun _ => 0))))  : CT con0 d 0 0 yX11_upon cX11_upon 9 (some .int) [.ref 162, .int a0, .int a1, .int a2, .int a3] h (fun r h2 => r = some (.int (-1))) := by
  refine CT_of (by decide) (Nat.le_of_ble_eq_true rfl) (fun x hq => ?_)
  show J x yX11_upon cX11_upon 9 (some .int) d 0 0 h.length 0 [(0, .ref 162), (1, .int a0), (2, .int a1), (3, .int a2), (4, .int a3)] [] h 0 0
  refine J_aload_n (i := 0) (j := 0) dX11_upon_0 rfl rfl ?_
  refine J_iconst (v := 0) dX11_upon_1 (by decide) ?_
  obtain ⟨h_1, e_2⟩ : ∃ z, z = h.set 162 (.inr (11, [.int 0, .ref 163, .ref 164, .ref 165, .ref 166, .ref 167, .ref 168, .ref 169, .int 0, .int 0, .int 0, .int 0, .int 0, .long 0, .int 0, .int 0, .int 0, .int 0, .int 0, .ref 170, .ref 171, .ref 172, .int 0, .int 0, .int 0, .int 0, .int 0, .int 0, .ref 173, .ref 174, .ref 175, .int 0, .int 0, .int 0, .ref 176, .ref 177, .ref 178, .ref 179, .ref 180, .int 0, .long 0, .int 0, .ref 181])) := ⟨_, rfl⟩
  refine J_put (C := RX11) (T := TX11) (Z := 43) (ci := 11) (f := 0) (ty0 := tyX11) dX11_upon_2 inG11 rfl tyX11_ok nmX11 (by decide) k1264 rfl rfl hm (Nat.le_of_ble_eq_true rfl) (fun _ _ => ⟨rfl, rfl⟩) e_2.symm ?_
  have f_3 := a_set e_2 hm
  have l_4 := l_set e_2 rfl
  refine J_aload_n (i := 0) (j := 0) dX11_upon_5 rfl rfl ?_
  refine J_iload_n (i := 1) (j := 1) dX11_upon_6 rfl rfl ?_
  refine J_iload_n (i := 2) (j := 2) dX11_upon_7 rfl rfl ?_
  have f_5 : h_1[167]? = some (.inl (1, 8, .inl (fun _ => 0))) := (s_ne e_2 (by decide)).trans hy
  refine J_callV (As := [.int a0, .int a1]) (rest := []) dX11_upon_8 (c_X11_lay0 (d := 2) (h := h_1)  (by decide) f_3 f_5 ) hq.n k1503 k1505 k52 f_3 rfl rfl k97 k1506 np_X11_lay (Nat.le_trans (by decide) hd) (by decide) (Nat.le_refl _) (Nat.le_refl _) (hkz l_4) rfl (Nat.le_of_ble_eq_true rfl) (fun r_6 h_7 p_8 => ?_)
  obtain ⟨rfl, w_9⟩ := p_8
  refine J_w w_9 ?_
  refine J_if_eq (tgt := 22) dX11_upon_11 (by decide) (fun _ => ?_) (fun q => absurd (by decide) q)
  refine J_iconst (v := (-1)) dX11_upon_22 (by decide) ?_
  exact J_iret hq dX11_upon_23 rfl (hkz l_4) (Nat.le_refl _) (Nat.le_refl _) rfl
set_option maxHeartbeats 4000000 in
set_option maxRecDepth 100000 in
theorem c_X11_runs0 {d : Nat} {h : List MC} {a0 a1 a2 : Int32} (hd : 4 ≤ d) (hm : h[162]? = some (.inr (11, [.int 0, .ref 163, .ref 164, .ref 165, .ref 166, .ref 167, .ref 168, .ref 169, .int 0, .int 0, .int 0, .int 0, .int 0, .long 0, .int 0, .int 0, .int 0, .int 0, .int 0, .ref 170, .ref 171, .ref 172, .int 0, .int 0, .int 0, .int 0, .int 0, .int 0, .ref 173, .ref 174, .ref 175, .int 0, .int 0, .int 0, .ref 176, .ref 177, .ref 178, .ref 179, .ref 180, .int 0, .long 0, .int 0, .ref 181]))) (hy : h[167]? = some (.inl (1, 8, .inl (fun _ => 0))))  : CT con0 d 0 0 yX11_runs cX11_runs 5 (some .int) [.ref 162, .int a0, .int a1, .int a2] h (fun r h2 => r = some (.int (-1))) := by
  refine CT_of (by decide) (Nat.le_of_ble_eq_true rfl) (fun x hq => ?_)
  show J x yX11_runs cX11_runs 5 (some .int) d 0 0 h.length 0 [(0, .ref 162), (1, .int a0), (2, .int a1), (3, .int a2)] [] h 0 0
  refine J_aload_n (i := 0) (j := 0) dX11_runs_0 rfl rfl ?_
  refine J_iconst (v := 0) dX11_runs_1 (by decide) ?_
  obtain ⟨h_1, e_2⟩ : ∃ z, z = h.set 162 (.inr (11, [.int 0, .ref 163, .ref 164, .ref 165, .ref 166, .ref 167, .ref 168, .ref 169, .int 0, .int 0, .int 0, .int 0, .int 0, .long 0, .int 0, .int 0, .int 0, .int 0, .int 0, .ref 170, .ref 171, .ref 172, .int 0, .int 0, .int 0, .int 0, .int 0, .int 0, .ref 173, .ref 174, .ref 175, .int 0, .int 0, .int 0, .ref 176, .ref 177, .ref 178, .ref 179, .ref 180, .int 0, .long 0, .int 0, .ref 181])) := ⟨_, rfl⟩
  refine J_put (C := RX11) (T := TX11) (Z := 43) (ci := 11) (f := 0) (ty0 := tyX11) dX11_runs_2 inG11 rfl tyX11_ok nmX11 (by decide) k1264 rfl rfl hm (Nat.le_of_ble_eq_true rfl) (fun _ _ => ⟨rfl, rfl⟩) e_2.symm ?_
  have f_3 := a_set e_2 hm
  have l_4 := l_set e_2 rfl
  refine J_aload_n (i := 0) (j := 0) dX11_runs_5 rfl rfl ?_
  refine J_iload_n (i := 1) (j := 1) dX11_runs_6 rfl rfl ?_
  refine J_iload_n (i := 2) (j := 2) dX11_runs_7 rfl rfl ?_
  have f_5 : h_1[167]? = some (.inl (1, 8, .inl (fun _ => 0))) := (s_ne e_2 (by decide)).trans hy
  refine J_callV (As := [.int a0, .int a1]) (rest := []) dX11_runs_8 (c_X11_lay0 (d := 2) (h := h_1)  (by decide) f_3 f_5 ) hq.n k1503 k1505 k52 f_3 rfl rfl k97 k1506 np_X11_lay (Nat.le_trans (by decide) hd) (by decide) (Nat.le_refl _) (Nat.le_refl _) (hkz l_4) rfl (Nat.le_of_ble_eq_true rfl) (fun r_6 h_7 p_8 => ?_)
  obtain ⟨rfl, w_9⟩ := p_8
  refine J_w w_9 ?_
  refine J_if_eq (tgt := 22) dX11_runs_11 (by decide) (fun _ => ?_) (fun q => absurd (by decide) q)
  refine J_iconst (v := (-1)) dX11_runs_22 (by decide) ?_
  exact J_iret hq dX11_runs_23 rfl (hkz l_4) (Nat.le_refl _) (Nat.le_refl _) rfl
set_option maxHeartbeats 4000000 in
set_option maxRecDepth 100000 in
theorem c_X11_joint0 {d : Nat} {h : List MC} {a0 a1 a2 a3 : Int32} (hd : 4 ≤ d) (hm : h[162]? = some (.inr (11, [.int 0, .ref 163, .ref 164, .ref 165, .ref 166, .ref 167, .ref 168, .ref 169, .int 0, .int 0, .int 0, .int 0, .int 0, .long 0, .int 0, .int 0, .int 0, .int 0, .int 0, .ref 170, .ref 171, .ref 172, .int 0, .int 0, .int 0, .int 0, .int 0, .int 0, .ref 173, .ref 174, .ref 175, .int 0, .int 0, .int 0, .ref 176, .ref 177, .ref 178, .ref 179, .ref 180, .int 0, .long 0, .int 0, .ref 181]))) (hy : h[167]? = some (.inl (1, 8, .inl (fun _ => 0))))  : CT con0 d 0 0 yX11_joint cX11_joint 5 (some .long) [.ref 162, .int a0, .int a1, .int a2, .int a3] h (fun r h2 => r = some (.long (-1))) := by
  refine CT_of (by decide) (Nat.le_of_ble_eq_true rfl) (fun x hq => ?_)
  show J x yX11_joint cX11_joint 5 (some .long) d 0 0 h.length 0 [(0, .ref 162), (1, .int a0), (2, .int a1), (3, .int a2), (4, .int a3)] [] h 0 0
  refine J_aload_n (i := 0) (j := 0) dX11_joint_0 rfl rfl ?_
  refine J_iconst (v := 0) dX11_joint_1 (by decide) ?_
  obtain ⟨h_1, e_2⟩ : ∃ z, z = h.set 162 (.inr (11, [.int 0, .ref 163, .ref 164, .ref 165, .ref 166, .ref 167, .ref 168, .ref 169, .int 0, .int 0, .int 0, .int 0, .int 0, .long 0, .int 0, .int 0, .int 0, .int 0, .int 0, .ref 170, .ref 171, .ref 172, .int 0, .int 0, .int 0, .int 0, .int 0, .int 0, .ref 173, .ref 174, .ref 175, .int 0, .int 0, .int 0, .ref 176, .ref 177, .ref 178, .ref 179, .ref 180, .int 0, .long 0, .int 0, .ref 181])) := ⟨_, rfl⟩
  refine J_put (C := RX11) (T := TX11) (Z := 43) (ci := 11) (f := 0) (ty0 := tyX11) dX11_joint_2 inG11 rfl tyX11_ok nmX11 (by decide) k1264 rfl rfl hm (Nat.le_of_ble_eq_true rfl) (fun _ _ => ⟨rfl, rfl⟩) e_2.symm ?_
  have f_3 := a_set e_2 hm
  have l_4 := l_set e_2 rfl
  refine J_aload_n (i := 0) (j := 0) dX11_joint_5 rfl rfl ?_
  refine J_iload_n (i := 1) (j := 1) dX11_joint_6 rfl rfl ?_
  refine J_iload_n (i := 2) (j := 2) dX11_joint_7 rfl rfl ?_
  have f_5 : h_1[167]? = some (.inl (1, 8, .inl (fun _ => 0))) := (s_ne e_2 (by decide)).trans hy
  refine J_callV (As := [.int a0, .int a1]) (rest := []) dX11_joint_8 (c_X11_lay0 (d := 2) (h := h_1)  (by decide) f_3 f_5 ) hq.n k1503 k1505 k52 f_3 rfl rfl k97 k1506 np_X11_lay (Nat.le_trans (by decide) hd) (by decide) (Nat.le_refl _) (Nat.le_refl _) (hkz l_4) rfl (Nat.le_of_ble_eq_true rfl) (fun r_6 h_7 p_8 => ?_)
  obtain ⟨rfl, w_9⟩ := p_8
  refine J_w w_9 ?_
  refine J_if_eq (tgt := 46) dX11_joint_11 (by decide) (fun _ => ?_) (fun q => absurd (by decide) q)
  refine J_ldc2 (v := (-1)) dX11_joint_46 k1578 ?_
  exact J_lret hq dX11_joint_49 rfl (hkz l_4) (Nat.le_refl _) (Nat.le_refl _) rfl
set_option maxHeartbeats 4000000 in
set_option maxRecDepth 100000 in
theorem c_X11_given0 {d : Nat} {h : List MC} {a0 a1 a2 a3 a4 : Int32} (hd : 4 ≤ d) (hm : h[162]? = some (.inr (11, [.int 0, .ref 163, .ref 164, .ref 165, .ref 166, .ref 167, .ref 168, .ref 169, .int 0, .int 0, .int 0, .int 0, .int 0, .long 0, .int 0, .int 0, .int 0, .int 0, .int 0, .ref 170, .ref 171, .ref 172, .int 0, .int 0, .int 0, .int 0, .int 0, .int 0, .ref 173, .ref 174, .ref 175, .int 0, .int 0, .int 0, .ref 176, .ref 177, .ref 178, .ref 179, .ref 180, .int 0, .long 0, .int 0, .ref 181]))) (hy : h[167]? = some (.inl (1, 8, .inl (fun _ => 0))))  : CT con0 d 0 0 yX11_given cX11_given 10 (some .long) [.ref 162, .int a0, .int a1, .int a2, .int a3, .int a4] h (fun r h2 => r = some (.long (-1))) := by
  refine CT_of (by decide) (Nat.le_of_ble_eq_true rfl) (fun x hq => ?_)
  show J x yX11_given cX11_given 10 (some .long) d 0 0 h.length 0 [(0, .ref 162), (1, .int a0), (2, .int a1), (3, .int a2), (4, .int a3), (5, .int a4)] [] h 0 0
  refine J_aload_n (i := 0) (j := 0) dX11_given_0 rfl rfl ?_
  refine J_iconst (v := 0) dX11_given_1 (by decide) ?_
  obtain ⟨h_1, e_2⟩ : ∃ z, z = h.set 162 (.inr (11, [.int 0, .ref 163, .ref 164, .ref 165, .ref 166, .ref 167, .ref 168, .ref 169, .int 0, .int 0, .int 0, .int 0, .int 0, .long 0, .int 0, .int 0, .int 0, .int 0, .int 0, .ref 170, .ref 171, .ref 172, .int 0, .int 0, .int 0, .int 0, .int 0, .int 0, .ref 173, .ref 174, .ref 175, .int 0, .int 0, .int 0, .ref 176, .ref 177, .ref 178, .ref 179, .ref 180, .int 0, .long 0, .int 0, .ref 181])) := ⟨_, rfl⟩
  refine J_put (C := RX11) (T := TX11) (Z := 43) (ci := 11) (f := 0) (ty0 := tyX11) dX11_given_2 inG11 rfl tyX11_ok nmX11 (by decide) k1264 rfl rfl hm (Nat.le_of_ble_eq_true rfl) (fun _ _ => ⟨rfl, rfl⟩) e_2.symm ?_
  have f_3 := a_set e_2 hm
  have l_4 := l_set e_2 rfl
  refine J_aload_n (i := 0) (j := 0) dX11_given_5 rfl rfl ?_
  refine J_iload_n (i := 1) (j := 1) dX11_given_6 rfl rfl ?_
  refine J_iload_n (i := 2) (j := 2) dX11_given_7 rfl rfl ?_
  have f_5 : h_1[167]? = some (.inl (1, 8, .inl (fun _ => 0))) := (s_ne e_2 (by decide)).trans hy
  refine J_callV (As := [.int a0, .int a1]) (rest := []) dX11_given_8 (c_X11_lay0 (d := 2) (h := h_1)  (by decide) f_3 f_5 ) hq.n k1503 k1505 k52 f_3 rfl rfl k97 k1506 np_X11_lay (Nat.le_trans (by decide) hd) (by decide) (Nat.le_refl _) (Nat.le_refl _) (hkz l_4) rfl (Nat.le_of_ble_eq_true rfl) (fun r_6 h_7 p_8 => ?_)
  obtain ⟨rfl, w_9⟩ := p_8
  refine J_w w_9 ?_
  refine J_if_eq (tgt := 31) dX11_given_11 (by decide) (fun _ => ?_) (fun q => absurd (by decide) q)
  refine J_ldc2 (v := (-1)) dX11_given_31 k1578 ?_
  exact J_lret hq dX11_given_34 rfl (hkz l_4) (Nat.le_refl _) (Nat.le_refl _) rfl
set_option maxHeartbeats 4000000 in
set_option maxRecDepth 100000 in
theorem c_X11_worst0 {d : Nat} {h : List MC} {a0 a1 a2 : Int32} (hd : 4 ≤ d) (hm : h[162]? = some (.inr (11, [.int 0, .ref 163, .ref 164, .ref 165, .ref 166, .ref 167, .ref 168, .ref 169, .int 0, .int 0, .int 0, .int 0, .int 0, .long 0, .int 0, .int 0, .int 0, .int 0, .int 0, .ref 170, .ref 171, .ref 172, .int 0, .int 0, .int 0, .int 0, .int 0, .int 0, .ref 173, .ref 174, .ref 175, .int 0, .int 0, .int 0, .ref 176, .ref 177, .ref 178, .ref 179, .ref 180, .int 0, .long 0, .int 0, .ref 181]))) (hy : h[167]? = some (.inl (1, 8, .inl (fun _ => 0))))  : CT con0 d 0 0 yX11_worst cX11_worst 9 (some .long) [.ref 162, .int a0, .int a1, .int a2] h (fun r h2 => r = some (.long (-1))) := by
  refine CT_of (by decide) (Nat.le_of_ble_eq_true rfl) (fun x hq => ?_)
  show J x yX11_worst cX11_worst 9 (some .long) d 0 0 h.length 0 [(0, .ref 162), (1, .int a0), (2, .int a1), (3, .int a2)] [] h 0 0
  refine J_aload_n (i := 0) (j := 0) dX11_worst_0 rfl rfl ?_
  refine J_iconst (v := 0) dX11_worst_1 (by decide) ?_
  obtain ⟨h_1, e_2⟩ : ∃ z, z = h.set 162 (.inr (11, [.int 0, .ref 163, .ref 164, .ref 165, .ref 166, .ref 167, .ref 168, .ref 169, .int 0, .int 0, .int 0, .int 0, .int 0, .long 0, .int 0, .int 0, .int 0, .int 0, .int 0, .ref 170, .ref 171, .ref 172, .int 0, .int 0, .int 0, .int 0, .int 0, .int 0, .ref 173, .ref 174, .ref 175, .int 0, .int 0, .int 0, .ref 176, .ref 177, .ref 178, .ref 179, .ref 180, .int 0, .long 0, .int 0, .ref 181])) := ⟨_, rfl⟩
  refine J_put (C := RX11) (T := TX11) (Z := 43) (ci := 11) (f := 0) (ty0 := tyX11) dX11_worst_2 inG11 rfl tyX11_ok nmX11 (by decide) k1264 rfl rfl hm (Nat.le_of_ble_eq_true rfl) (fun _ _ => ⟨rfl, rfl⟩) e_2.symm ?_
  have f_3 := a_set e_2 hm
  have l_4 := l_set e_2 rfl
  refine J_aload_n (i := 0) (j := 0) dX11_worst_5 rfl rfl ?_
  refine J_iload_n (i := 1) (j := 1) dX11_worst_6 rfl rfl ?_
  refine J_iload_n (i := 2) (j := 2) dX11_worst_7 rfl rfl ?_
  have f_5 : h_1[167]? = some (.inl (1, 8, .inl (fun _ => 0))) := (s_ne e_2 (by decide)).trans hy
  refine J_callV (As := [.int a0, .int a1]) (rest := []) dX11_worst_8 (c_X11_lay0 (d := 2) (h := h_1)  (by decide) f_3 f_5 ) hq.n k1503 k1505 k52 f_3 rfl rfl k97 k1506 np_X11_lay (Nat.le_trans (by decide) hd) (by decide) (Nat.le_refl _) (Nat.le_refl _) (hkz l_4) rfl (Nat.le_of_ble_eq_true rfl) (fun r_6 h_7 p_8 => ?_)
  obtain ⟨rfl, w_9⟩ := p_8
  refine J_w w_9 ?_
  refine J_if_eq (tgt := 23) dX11_worst_11 (by decide) (fun _ => ?_) (fun q => absurd (by decide) q)
  refine J_ldc2 (v := (-1)) dX11_worst_23 k1578 ?_
  exact J_lret hq dX11_worst_26 rfl (hkz l_4) (Nat.le_refl _) (Nat.le_refl _) rfl
set_option maxHeartbeats 4000000 in
set_option maxRecDepth 100000 in
theorem c_X11_flood0 {d : Nat} {h : List MC} {a0 a1 : Int32} (hd : 4 ≤ d) (hm : h[162]? = some (.inr (11, [.int 0, .ref 163, .ref 164, .ref 165, .ref 166, .ref 167, .ref 168, .ref 169, .int 0, .int 0, .int 0, .int 0, .int 0, .long 0, .int 0, .int 0, .int 0, .int 0, .int 0, .ref 170, .ref 171, .ref 172, .int 0, .int 0, .int 0, .int 0, .int 0, .int 0, .ref 173, .ref 174, .ref 175, .int 0, .int 0, .int 0, .ref 176, .ref 177, .ref 178, .ref 179, .ref 180, .int 0, .long 0, .int 0, .ref 181]))) (hy : h[167]? = some (.inl (1, 8, .inl (fun _ => 0))))  : CT con0 d 0 0 yX11_flood cX11_flood 6 (some .int) [.ref 162, .int a0, .int a1] h (fun r h2 => r = some (.int (-1))) := by
  refine CT_of (by decide) (Nat.le_of_ble_eq_true rfl) (fun x hq => ?_)
  show J x yX11_flood cX11_flood 6 (some .int) d 0 0 h.length 0 [(0, .ref 162), (1, .int a0), (2, .int a1)] [] h 0 0
  refine J_aload_n (i := 0) (j := 0) dX11_flood_0 rfl rfl ?_
  refine J_iconst (v := 0) dX11_flood_1 (by decide) ?_
  obtain ⟨h_1, e_2⟩ : ∃ z, z = h.set 162 (.inr (11, [.int 0, .ref 163, .ref 164, .ref 165, .ref 166, .ref 167, .ref 168, .ref 169, .int 0, .int 0, .int 0, .int 0, .int 0, .long 0, .int 0, .int 0, .int 0, .int 0, .int 0, .ref 170, .ref 171, .ref 172, .int 0, .int 0, .int 0, .int 0, .int 0, .int 0, .ref 173, .ref 174, .ref 175, .int 0, .int 0, .int 0, .ref 176, .ref 177, .ref 178, .ref 179, .ref 180, .int 0, .long 0, .int 0, .ref 181])) := ⟨_, rfl⟩
  refine J_put (C := RX11) (T := TX11) (Z := 43) (ci := 11) (f := 0) (ty0 := tyX11) dX11_flood_2 inG11 rfl tyX11_ok nmX11 (by decide) k1264 rfl rfl hm (Nat.le_of_ble_eq_true rfl) (fun _ _ => ⟨rfl, rfl⟩) e_2.symm ?_
  have f_3 := a_set e_2 hm
  have l_4 := l_set e_2 rfl
  refine J_aload_n (i := 0) (j := 0) dX11_flood_5 rfl rfl ?_
  refine J_iload_n (i := 1) (j := 1) dX11_flood_6 rfl rfl ?_
  refine J_iload_n (i := 2) (j := 2) dX11_flood_7 rfl rfl ?_
  have f_5 : h_1[167]? = some (.inl (1, 8, .inl (fun _ => 0))) := (s_ne e_2 (by decide)).trans hy
  refine J_callV (As := [.int a0, .int a1]) (rest := []) dX11_flood_8 (c_X11_lay0 (d := 2) (h := h_1)  (by decide) f_3 f_5 ) hq.n k1503 k1505 k52 f_3 rfl rfl k97 k1506 np_X11_lay (Nat.le_trans (by decide) hd) (by decide) (Nat.le_refl _) (Nat.le_refl _) (hkz l_4) rfl (Nat.le_of_ble_eq_true rfl) (fun r_6 h_7 p_8 => ?_)
  obtain ⟨rfl, w_9⟩ := p_8
  refine J_w w_9 ?_
  refine J_if_ne (tgt := 16) dX11_flood_11 (by decide) (fun q => absurd (by decide) q) (fun _ => ?_)
  refine J_iconst (v := (-1)) dX11_flood_14 (by decide) ?_
  exact J_iret hq dX11_flood_15 rfl (hkz l_4) (Nat.le_refl _) (Nat.le_refl _) rfl
set_option maxHeartbeats 4000000 in
set_option maxRecDepth 100000 in
theorem c_X11_around0 {d : Nat} {h : List MC} {a0 a1 a2 : Int32} (hd : 4 ≤ d) (hm : h[162]? = some (.inr (11, [.int 0, .ref 163, .ref 164, .ref 165, .ref 166, .ref 167, .ref 168, .ref 169, .int 0, .int 0, .int 0, .int 0, .int 0, .long 0, .int 0, .int 0, .int 0, .int 0, .int 0, .ref 170, .ref 171, .ref 172, .int 0, .int 0, .int 0, .int 0, .int 0, .int 0, .ref 173, .ref 174, .ref 175, .int 0, .int 0, .int 0, .ref 176, .ref 177, .ref 178, .ref 179, .ref 180, .int 0, .long 0, .int 0, .ref 181]))) (hy : h[167]? = some (.inl (1, 8, .inl (fun _ => 0))))  : CT con0 d 0 0 yX11_around cX11_around 13 (some .int) [.ref 162, .int a0, .int a1, .int a2] h (fun r h2 => r = some (.int (-1))) := by
  refine CT_of (by decide) (Nat.le_of_ble_eq_true rfl) (fun x hq => ?_)
  show J x yX11_around cX11_around 13 (some .int) d 0 0 h.length 0 [(0, .ref 162), (1, .int a0), (2, .int a1), (3, .int a2)] [] h 0 0
  refine J_aload_n (i := 0) (j := 0) dX11_around_0 rfl rfl ?_
  refine J_iconst (v := 0) dX11_around_1 (by decide) ?_
  obtain ⟨h_1, e_2⟩ : ∃ z, z = h.set 162 (.inr (11, [.int 0, .ref 163, .ref 164, .ref 165, .ref 166, .ref 167, .ref 168, .ref 169, .int 0, .int 0, .int 0, .int 0, .int 0, .long 0, .int 0, .int 0, .int 0, .int 0, .int 0, .ref 170, .ref 171, .ref 172, .int 0, .int 0, .int 0, .int 0, .int 0, .int 0, .ref 173, .ref 174, .ref 175, .int 0, .int 0, .int 0, .ref 176, .ref 177, .ref 178, .ref 179, .ref 180, .int 0, .long 0, .int 0, .ref 181])) := ⟨_, rfl⟩
  refine J_put (C := RX11) (T := TX11) (Z := 43) (ci := 11) (f := 0) (ty0 := tyX11) dX11_around_2 inG11 rfl tyX11_ok nmX11 (by decide) k1264 rfl rfl hm (Nat.le_of_ble_eq_true rfl) (fun _ _ => ⟨rfl, rfl⟩) e_2.symm ?_
  have f_3 := a_set e_2 hm
  have l_4 := l_set e_2 rfl
  refine J_aload_n (i := 0) (j := 0) dX11_around_5 rfl rfl ?_
  refine J_iload_n (i := 1) (j := 1) dX11_around_6 rfl rfl ?_
  refine J_iload_n (i := 2) (j := 2) dX11_around_7 rfl rfl ?_
  have f_5 : h_1[167]? = some (.inl (1, 8, .inl (fun _ => 0))) := (s_ne e_2 (by decide)).trans hy
  refine J_callV (As := [.int a0, .int a1]) (rest := []) dX11_around_8 (c_X11_lay0 (d := 2) (h := h_1)  (by decide) f_3 f_5 ) hq.n k1503 k1505 k52 f_3 rfl rfl k97 k1506 np_X11_lay (Nat.le_trans (by decide) hd) (by decide) (Nat.le_refl _) (Nat.le_refl _) (hkz l_4) rfl (Nat.le_of_ble_eq_true rfl) (fun r_6 h_7 p_8 => ?_)
  obtain ⟨rfl, w_9⟩ := p_8
  refine J_w w_9 ?_
  refine J_if_ne (tgt := 16) dX11_around_11 (by decide) (fun q => absurd (by decide) q) (fun _ => ?_)
  refine J_iconst (v := (-1)) dX11_around_14 (by decide) ?_
  exact J_iret hq dX11_around_15 rfl (hkz l_4) (Nat.le_refl _) (Nat.le_refl _) rfl
set_option maxHeartbeats 4000000 in
set_option maxRecDepth 100000 in
theorem c_X11_twice0 {d : Nat} {h : List MC} {a0 a1 a2 a3 a4 a5 a6 : Int32} (hd : 4 ≤ d) (hm : h[162]? = some (.inr (11, [.int 0, .ref 163, .ref 164, .ref 165, .ref 166, .ref 167, .ref 168, .ref 169, .int 0, .int 0, .int 0, .int 0, .int 0, .long 0, .int 0, .int 0, .int 0, .int 0, .int 0, .ref 170, .ref 171, .ref 172, .int 0, .int 0, .int 0, .int 0, .int 0, .int 0, .ref 173, .ref 174, .ref 175, .int 0, .int 0, .int 0, .ref 176, .ref 177, .ref 178, .ref 179, .ref 180, .int 0, .long 0, .int 0, .ref 181]))) (hy : h[167]? = some (.inl (1, 8, .inl (fun _ => 0))))  : CT con0 d 0 0 yX11_twice cX11_twice 9 (some .int) [.ref 162, .int a0, .int a1, .int a2, .int a3, .int a4, .int a5, .int a6] h (fun r h2 => r = some (.int (-1))) := by
  refine CT_of (by decide) (Nat.le_of_ble_eq_true rfl) (fun x hq => ?_)
  show J x yX11_twice cX11_twice 9 (some .int) d 0 0 h.length 0 [(0, .ref 162), (1, .int a0), (2, .int a1), (3, .int a2), (4, .int a3), (5, .int a4), (6, .int a5), (7, .int a6)] [] h 0 0
  refine J_aload_n (i := 0) (j := 0) dX11_twice_0 rfl rfl ?_
  refine J_iconst (v := 0) dX11_twice_1 (by decide) ?_
  obtain ⟨h_1, e_2⟩ : ∃ z, z = h.set 162 (.inr (11, [.int 0, .ref 163, .ref 164, .ref 165, .ref 166, .ref 167, .ref 168, .ref 169, .int 0, .int 0, .int 0, .int 0, .int 0, .long 0, .int 0, .int 0, .int 0, .int 0, .int 0, .ref 170, .ref 171, .ref 172, .int 0, .int 0, .int 0, .int 0, .int 0, .int 0, .ref 173, .ref 174, .ref 175, .int 0, .int 0, .int 0, .ref 176, .ref 177, .ref 178, .ref 179, .ref 180, .int 0, .long 0, .int 0, .ref 181])) := ⟨_, rfl⟩
  refine J_put (C := RX11) (T := TX11) (Z := 43) (ci := 11) (f := 0) (ty0 := tyX11) dX11_twice_2 inG11 rfl tyX11_ok nmX11 (by decide) k1264 rfl rfl hm (Nat.le_of_ble_eq_true rfl) (fun _ _ => ⟨rfl, rfl⟩) e_2.symm ?_
  have f_3 := a_set e_2 hm
  have l_4 := l_set e_2 rfl
  refine J_aload_n (i := 0) (j := 0) dX11_twice_5 rfl rfl ?_
  refine J_iload_n (i := 1) (j := 1) dX11_twice_6 rfl rfl ?_
  refine J_iload_n (i := 2) (j := 2) dX11_twice_7 rfl rfl ?_
  have f_5 : h_1[167]? = some (.inl (1, 8, .inl (fun _ => 0))) := (s_ne e_2 (by decide)).trans hy
  refine J_callV (As := [.int a0, .int a1]) (rest := []) dX11_twice_8 (c_X11_lay0 (d := 2) (h := h_1)  (by decide) f_3 f_5 ) hq.n k1503 k1505 k52 f_3 rfl rfl k97 k1506 np_X11_lay (Nat.le_trans (by decide) hd) (by decide) (Nat.le_refl _) (Nat.le_refl _) (hkz l_4) rfl (Nat.le_of_ble_eq_true rfl) (fun r_6 h_7 p_8 => ?_)
  obtain ⟨rfl, w_9⟩ := p_8
  refine J_w w_9 ?_
  refine J_if_eq (tgt := 49) dX11_twice_11 (by decide) (fun _ => ?_) (fun q => absurd (by decide) q)
  refine J_iconst (v := (-1)) dX11_twice_49 (by decide) ?_
  exact J_iret hq dX11_twice_50 rfl (hkz l_4) (Nat.le_refl _) (Nat.le_refl _) rfl
set_option maxHeartbeats 4000000 in
set_option maxRecDepth 100000 in
theorem c_X11_better0 {d : Nat} {h : List MC} {a0 a1 a2 : Int32} (hd : 4 ≤ d) (hm : h[162]? = some (.inr (11, [.int 0, .ref 163, .ref 164, .ref 165, .ref 166, .ref 167, .ref 168, .ref 169, .int 0, .int 0, .int 0, .int 0, .int 0, .long 0, .int 0, .int 0, .int 0, .int 0, .int 0, .ref 170, .ref 171, .ref 172, .int 0, .int 0, .int 0, .int 0, .int 0, .int 0, .ref 173, .ref 174, .ref 175, .int 0, .int 0, .int 0, .ref 176, .ref 177, .ref 178, .ref 179, .ref 180, .int 0, .long 0, .int 0, .ref 181]))) (hy : h[167]? = some (.inl (1, 8, .inl (fun _ => 0))))  : CT con0 d 0 0 yX11_better cX11_better 8 (some .int) [.ref 162, .int a0, .int a1, .int a2] h (fun r h2 => r = some (.int (-1))) := by
  refine CT_of (by decide) (Nat.le_of_ble_eq_true rfl) (fun x hq => ?_)
  show J x yX11_better cX11_better 8 (some .int) d 0 0 h.length 0 [(0, .ref 162), (1, .int a0), (2, .int a1), (3, .int a2)] [] h 0 0
  refine J_aload_n (i := 0) (j := 0) dX11_better_0 rfl rfl ?_
  refine J_iconst (v := 0) dX11_better_1 (by decide) ?_
  obtain ⟨h_1, e_2⟩ : ∃ z, z = h.set 162 (.inr (11, [.int 0, .ref 163, .ref 164, .ref 165, .ref 166, .ref 167, .ref 168, .ref 169, .int 0, .int 0, .int 0, .int 0, .int 0, .long 0, .int 0, .int 0, .int 0, .int 0, .int 0, .ref 170, .ref 171, .ref 172, .int 0, .int 0, .int 0, .int 0, .int 0, .int 0, .ref 173, .ref 174, .ref 175, .int 0, .int 0, .int 0, .ref 176, .ref 177, .ref 178, .ref 179, .ref 180, .int 0, .long 0, .int 0, .ref 181])) := ⟨_, rfl⟩
  refine J_put (C := RX11) (T := TX11) (Z := 43) (ci := 11) (f := 0) (ty0 := tyX11) dX11_better_2 inG11 rfl tyX11_ok nmX11 (by decide) k1264 rfl rfl hm (Nat.le_of_ble_eq_true rfl) (fun _ _ => ⟨rfl, rfl⟩) e_2.symm ?_
  have f_3 := a_set e_2 hm
  have l_4 := l_set e_2 rfl
  refine J_aload_n (i := 0) (j := 0) dX11_better_5 rfl rfl ?_
  refine J_iload_n (i := 1) (j := 1) dX11_better_6 rfl rfl ?_
  refine J_iload_n (i := 2) (j := 2) dX11_better_7 rfl rfl ?_
  have f_5 : h_1[167]? = some (.inl (1, 8, .inl (fun _ => 0))) := (s_ne e_2 (by decide)).trans hy
  refine J_callV (As := [.int a0, .int a1]) (rest := []) dX11_better_8 (c_X11_lay0 (d := 2) (h := h_1)  (by decide) f_3 f_5 ) hq.n k1503 k1505 k52 f_3 rfl rfl k97 k1506 np_X11_lay (Nat.le_trans (by decide) hd) (by decide) (Nat.le_refl _) (Nat.le_refl _) (hkz l_4) rfl (Nat.le_of_ble_eq_true rfl) (fun r_6 h_7 p_8 => ?_)
  obtain ⟨rfl, w_9⟩ := p_8
  refine J_w w_9 ?_
  refine J_if_ne (tgt := 16) dX11_better_11 (by decide) (fun q => absurd (by decide) q) (fun _ => ?_)
  refine J_iconst (v := (-1)) dX11_better_14 (by decide) ?_
  exact J_iret hq dX11_better_15 rfl (hkz l_4) (Nat.le_refl _) (Nat.le_refl _) rfl
set_option maxHeartbeats 4000000 in
set_option maxRecDepth 100000 in
theorem c_X11_spend0 {d : Nat} {h : List MC} {a0 a1 a2 a3 : Int32} (hd : 4 ≤ d) (hm : h[162]? = some (.inr (11, [.int 0, .ref 163, .ref 164, .ref 165, .ref 166, .ref 167, .ref 168, .ref 169, .int 0, .int 0, .int 0, .int 0, .int 0, .long 0, .int 0, .int 0, .int 0, .int 0, .int 0, .ref 170, .ref 171, .ref 172, .int 0, .int 0, .int 0, .int 0, .int 0, .int 0, .ref 173, .ref 174, .ref 175, .int 0, .int 0, .int 0, .ref 176, .ref 177, .ref 178, .ref 179, .ref 180, .int 0, .long 0, .int 0, .ref 181]))) (hy : h[167]? = some (.inl (1, 8, .inl (fun _ => 0))))  : CT con0 d 0 0 yX11_spend cX11_spend 9 (some .int) [.ref 162, .int a0, .int a1, .int a2, .int a3] h (fun r h2 => r = some (.int (-1))) := by
  refine CT_of (by decide) (Nat.le_of_ble_eq_true rfl) (fun x hq => ?_)
  show J x yX11_spend cX11_spend 9 (some .int) d 0 0 h.length 0 [(0, .ref 162), (1, .int a0), (2, .int a1), (3, .int a2), (4, .int a3)] [] h 0 0
  refine J_aload_n (i := 0) (j := 0) dX11_spend_0 rfl rfl ?_
  refine J_iconst (v := 0) dX11_spend_1 (by decide) ?_
  obtain ⟨h_1, e_2⟩ : ∃ z, z = h.set 162 (.inr (11, [.int 0, .ref 163, .ref 164, .ref 165, .ref 166, .ref 167, .ref 168, .ref 169, .int 0, .int 0, .int 0, .int 0, .int 0, .long 0, .int 0, .int 0, .int 0, .int 0, .int 0, .ref 170, .ref 171, .ref 172, .int 0, .int 0, .int 0, .int 0, .int 0, .int 0, .ref 173, .ref 174, .ref 175, .int 0, .int 0, .int 0, .ref 176, .ref 177, .ref 178, .ref 179, .ref 180, .int 0, .long 0, .int 0, .ref 181])) := ⟨_, rfl⟩
  refine J_put (C := RX11) (T := TX11) (Z := 43) (ci := 11) (f := 0) (ty0 := tyX11) dX11_spend_2 inG11 rfl tyX11_ok nmX11 (by decide) k1264 rfl rfl hm (Nat.le_of_ble_eq_true rfl) (fun _ _ => ⟨rfl, rfl⟩) e_2.symm ?_
  have f_3 := a_set e_2 hm
  have l_4 := l_set e_2 rfl
  refine J_aload_n (i := 0) (j := 0) dX11_spend_5 rfl rfl ?_
  refine J_iload_n (i := 1) (j := 1) dX11_spend_6 rfl rfl ?_
  refine J_iload_n (i := 2) (j := 2) dX11_spend_7 rfl rfl ?_
  refine J_iload_n (i := 3) (j := 3) dX11_spend_8 rfl rfl ?_
  refine J_iconst (v := 0) dX11_spend_9 (by decide) ?_
  have f_5 : h_1[167]? = some (.inl (1, 8, .inl (fun _ => 0))) := (s_ne e_2 (by decide)).trans hy
  refine J_callV (As := [.int a0, .int a1, .int a2, .int 0]) (rest := []) dX11_spend_10 (c_X11_canMend0 (d := 3) (h := h_1)  (by decide) f_3 f_5 ) hq.n k1615 k1617 k69 f_3 rfl rfl k97 k1618 np_X11_canMend (Nat.le_trans (by decide) hd) (by decide) (Nat.le_refl _) (Nat.le_refl _) (hkz l_4) rfl (Nat.le_of_ble_eq_true rfl) (fun r_6 h_7 p_8 => ?_)
  obtain ⟨rfl, w_9⟩ := p_8
  refine J_w w_9 ?_
  refine J_if_eq (tgt := 27) dX11_spend_13 (by decide) (fun _ => ?_) (fun q => absurd (by decide) q)
  refine J_iconst (v := (-1)) dX11_spend_27 (by decide) ?_
  exact J_iret hq dX11_spend_28 rfl (hkz l_4) (Nat.le_refl _) (Nat.le_refl _) rfl
