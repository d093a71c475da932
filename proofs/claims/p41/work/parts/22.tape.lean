section
theorem k1806 : Cond.methodLink RX11 74 yX11_move ∈ gt := gt_8_1 (i := 16) rfl rfl
theorem k1807 : Cond.static yX11_move ∈ gt := gt_8_1 (i := 17) rfl rfl
theorem k1808 : Cond.code yX11_move cX11_move 5 none ∈ gt := gt_8_1 (i := 18) rfl rfl
theorem np_X11_move : yX11_move.cls ≠ "java/lang/invoke/MethodHandle" ∧ yX11_move.cls ≠ "java/lang/invoke/VarHandle" ∧ (parseMethodDescriptor yX11_move.desc).map (fun d => d.parameters.length) = some 4 := ⟨cq_RX11.1, cq_RX11.2, pd_63⟩
theorem k1802 : Cond.methodLink RX11 381 yX11_copy ∈ gt := gt_8_1 (i := 12) rfl rfl
theorem k1804 : Cond.instanceMethod yX11_copy ∈ gt := gt_8_1 (i := 14) rfl rfl
theorem k85 : Cond.selects RX11 yX11_copy yX11_copy ∈ gt := gs_6 (i := 5) rfl rfl
theorem k1805 : Cond.code yX11_copy cX11_copy 4 none ∈ gt := gt_8_1 (i := 15) rfl rfl
theorem np_X11_copy : yX11_copy.cls ≠ "java/lang/invoke/MethodHandle" ∧ yX11_copy.cls ≠ "java/lang/invoke/VarHandle" ∧ (parseMethodDescriptor yX11_copy.desc).map (fun d => d.parameters.length) = some 2 := ⟨cq_RX11.1, cq_RX11.2, pd_13⟩
theorem k1398 : Cond.methodLink RX11 82 yX11_four ∈ gt := gt_6_4 (i := 16) rfl rfl
theorem k1400 : Cond.instanceMethod yX11_four ∈ gt := gt_6_4 (i := 18) rfl rfl
theorem k36 : Cond.selects RX11 yX11_four yX11_four ∈ gt := gs_3 (i := 4) rfl rfl
theorem k1401 : Cond.code yX11_four cX11_four 3 none ∈ gt := gt_6_4 (i := 19) rfl rfl
theorem np_X11_four : yX11_four.cls ≠ "java/lang/invoke/MethodHandle" ∧ yX11_four.cls ≠ "java/lang/invoke/VarHandle" ∧ (parseMethodDescriptor yX11_four.desc).map (fun d => d.parameters.length) = some 1 := ⟨cq_RX11.1, cq_RX11.2, pd_9⟩
theorem dX11_move_0 : decode cX11_move 0 = .ok (.iconst 0, 1) := dqn_3 (k := 31) qh_cX11_move rfl rfl
theorem dX11_move_1 : decode cX11_move 1 = .ok (.istore 4, 2) := dqn_54 (k := 29) qh_cX11_move rfl rfl rfl
theorem dX11_move_3 : decode cX11_move 3 = .ok (.iload 4, 2) := dqn_21 (k := 27) qh_cX11_move rfl rfl rfl
theorem dX11_move_5 : decode cX11_move 5 = .ok (.iload_n 1, 1) := dqn_27 (k := 26) qh_cX11_move rfl rfl
theorem dX11_move_6 : decode cX11_move 6 = .ok (.if_icmp .ge 25, 3) := dqn_162 (k := 23) (u := 25) qh_cX11_move rfl rfl rfl (sg_p rfl rfl)
theorem dX11_move_9 : decode cX11_move 9 = .ok (.aload_n 0, 1) := dqn_42 (k := 22) qh_cX11_move rfl rfl
theorem dX11_move_10 : decode cX11_move 10 = .ok (.iload_n 1, 1) := dqn_27 (k := 21) qh_cX11_move rfl rfl
theorem dX11_move_11 : decode cX11_move 11 = .ok (.iload_n 3, 1) := dqn_29 (k := 20) qh_cX11_move rfl rfl
theorem dX11_move_12 : decode cX11_move 12 = .ok (.imul, 1) := dqn_104 (k := 19) qh_cX11_move rfl rfl
theorem dX11_move_13 : decode cX11_move 13 = .ok (.iload 4, 2) := dqn_21 (k := 17) qh_cX11_move rfl rfl rfl
theorem dX11_move_15 : decode cX11_move 15 = .ok (.iadd, 1) := dqn_96 (k := 16) qh_cX11_move rfl rfl
theorem dX11_move_16 : decode cX11_move 16 = .ok (.aload_n 0, 1) := dqn_42 (k := 15) qh_cX11_move rfl rfl
theorem dX11_move_17 : decode cX11_move 17 = .ok (.iload_n 1, 1) := dqn_27 (k := 14) qh_cX11_move rfl rfl
theorem dX11_move_18 : decode cX11_move 18 = .ok (.iload_n 2, 1) := dqn_28 (k := 13) qh_cX11_move rfl rfl
theorem dX11_move_19 : decode cX11_move 19 = .ok (.imul, 1) := dqn_104 (k := 12) qh_cX11_move rfl rfl
theorem dX11_move_20 : decode cX11_move 20 = .ok (.iload 4, 2) := dqn_21 (k := 10) qh_cX11_move rfl rfl rfl
theorem dX11_move_22 : decode cX11_move 22 = .ok (.iadd, 1) := dqn_96 (k := 9) qh_cX11_move rfl rfl
theorem dX11_move_23 : decode cX11_move 23 = .ok (.iaload, 1) := dqn_46 (k := 8) qh_cX11_move rfl rfl
theorem dX11_move_24 : decode cX11_move 24 = .ok (.iastore, 1) := dqn_79 (k := 7) qh_cX11_move rfl rfl
theorem dX11_move_25 : decode cX11_move 25 = .ok (.iinc 4 1, 3) := dqn_132 (k := 4) (u := 1) qh_cX11_move rfl rfl rfl rfl (by decide)
theorem dX11_move_28 : decode cX11_move 28 = .ok (.goto (-25), 3) := dqn_167 (k := 1) (u := 65511) qh_cX11_move rfl rfl rfl (sg_n (k := 25) rfl rfl rfl)
theorem dX11_move_31 : decode cX11_move 31 = .ok (.return_, 1) := dqn_177 (k := 0) qh_cX11_move rfl rfl
theorem dX11_copy_0 : decode cX11_copy 0 = .ok (.iconst 0, 1) := dqn_3 (k := 102) qh_cX11_copy rfl rfl
theorem dX11_copy_1 : decode cX11_copy 1 = .ok (.istore_n 3, 1) := dqn_62 (k := 101) qh_cX11_copy rfl rfl
theorem dX11_copy_2 : decode cX11_copy 2 = .ok (.iload_n 3, 1) := dqn_29 (k := 100) qh_cX11_copy rfl rfl
theorem dX11_copy_3 : decode cX11_copy 3 = .ok (.sipush 600, 3) := dqn_17 (k := 97) (u := 600) qh_cX11_copy rfl rfl rfl (sg_p rfl rfl)
theorem dX11_copy_6 : decode cX11_copy 6 = .ok (.if_icmp .ge 33, 3) := dqn_162 (k := 94) (u := 33) qh_cX11_copy rfl rfl rfl (sg_p rfl rfl)
theorem dX11_copy_9 : decode cX11_copy 9 = .ok (.aload_n 0, 1) := dqn_42 (k := 93) qh_cX11_copy rfl rfl
theorem dX11_copy_10 : decode cX11_copy 10 = .ok (.getfield 7, 3) := dqn_180 (k := 90) qh_cX11_copy rfl rfl rfl
theorem dX11_copy_13 : decode cX11_copy 13 = .ok (.sipush 600, 3) := dqn_17 (k := 87) (u := 600) qh_cX11_copy rfl rfl rfl (sg_p rfl rfl)
theorem dX11_copy_16 : decode cX11_copy 16 = .ok (.iload_n 2, 1) := dqn_28 (k := 86) qh_cX11_copy rfl rfl
theorem dX11_copy_17 : decode cX11_copy 17 = .ok (.imul, 1) := dqn_104 (k := 85) qh_cX11_copy rfl rfl
theorem dX11_copy_18 : decode cX11_copy 18 = .ok (.iload_n 3, 1) := dqn_29 (k := 84) qh_cX11_copy rfl rfl
theorem dX11_copy_19 : decode cX11_copy 19 = .ok (.iadd, 1) := dqn_96 (k := 83) qh_cX11_copy rfl rfl
theorem dX11_copy_20 : decode cX11_copy 20 = .ok (.aload_n 0, 1) := dqn_42 (k := 82) qh_cX11_copy rfl rfl
theorem dX11_copy_21 : decode cX11_copy 21 = .ok (.getfield 7, 3) := dqn_180 (k := 79) qh_cX11_copy rfl rfl rfl
theorem dX11_copy_24 : decode cX11_copy 24 = .ok (.sipush 600, 3) := dqn_17 (k := 76) (u := 600) qh_cX11_copy rfl rfl rfl (sg_p rfl rfl)
theorem dX11_copy_27 : decode cX11_copy 27 = .ok (.iload_n 1, 1) := dqn_27 (k := 75) qh_cX11_copy rfl rfl
theorem dX11_copy_28 : decode cX11_copy 28 = .ok (.imul, 1) := dqn_104 (k := 74) qh_cX11_copy rfl rfl
theorem dX11_copy_29 : decode cX11_copy 29 = .ok (.iload_n 3, 1) := dqn_29 (k := 73) qh_cX11_copy rfl rfl
theorem dX11_copy_30 : decode cX11_copy 30 = .ok (.iadd, 1) := dqn_96 (k := 72) qh_cX11_copy rfl rfl
theorem dX11_copy_31 : decode cX11_copy 31 = .ok (.baload, 1) := dqn_51 (k := 71) qh_cX11_copy rfl rfl
theorem dX11_copy_32 : decode cX11_copy 32 = .ok (.bastore, 1) := dqn_84 (k := 70) qh_cX11_copy rfl rfl
theorem dX11_copy_33 : decode cX11_copy 33 = .ok (.iinc 3 1, 3) := dqn_132 (k := 67) (u := 1) qh_cX11_copy rfl rfl rfl rfl (by decide)
theorem dX11_copy_36 : decode cX11_copy 36 = .ok (.goto (-34), 3) := dqn_167 (k := 64) (u := 65502) qh_cX11_copy rfl rfl rfl (sg_n (k := 34) rfl rfl rfl)
theorem dX11_copy_39 : decode cX11_copy 39 = .ok (.aload_n 0, 1) := dqn_42 (k := 63) qh_cX11_copy rfl rfl
theorem dX11_copy_40 : decode cX11_copy 40 = .ok (.getfield 13, 3) := dqn_180 (k := 60) qh_cX11_copy rfl rfl rfl
theorem dX11_copy_43 : decode cX11_copy 43 = .ok (.iconst 1, 1) := dqn_4 (k := 59) qh_cX11_copy rfl rfl
theorem dX11_copy_44 : decode cX11_copy 44 = .ok (.iload_n 1, 1) := dqn_27 (k := 58) qh_cX11_copy rfl rfl
theorem dX11_copy_45 : decode cX11_copy 45 = .ok (.iload_n 2, 1) := dqn_28 (k := 57) qh_cX11_copy rfl rfl
theorem dX11_copy_46 : decode cX11_copy 46 = .ok (.invokestatic 74, 3) := dqn_184 (k := 54) qh_cX11_copy rfl rfl rfl
theorem dX11_copy_49 : decode cX11_copy 49 = .ok (.aload_n 0, 1) := dqn_42 (k := 53) qh_cX11_copy rfl rfl
theorem dX11_copy_50 : decode cX11_copy 50 = .ok (.getfield 17, 3) := dqn_180 (k := 50) qh_cX11_copy rfl rfl rfl
theorem dX11_copy_53 : decode cX11_copy 53 = .ok (.iconst 1, 1) := dqn_4 (k := 49) qh_cX11_copy rfl rfl
theorem dX11_copy_54 : decode cX11_copy 54 = .ok (.iload_n 1, 1) := dqn_27 (k := 48) qh_cX11_copy rfl rfl
theorem dX11_copy_55 : decode cX11_copy 55 = .ok (.iload_n 2, 1) := dqn_28 (k := 47) qh_cX11_copy rfl rfl
theorem dX11_copy_56 : decode cX11_copy 56 = .ok (.invokestatic 74, 3) := dqn_184 (k := 44) qh_cX11_copy rfl rfl rfl
theorem dX11_copy_59 : decode cX11_copy 59 = .ok (.aload_n 0, 1) := dqn_42 (k := 43) qh_cX11_copy rfl rfl
theorem dX11_copy_60 : decode cX11_copy 60 = .ok (.getfield 20, 3) := dqn_180 (k := 40) qh_cX11_copy rfl rfl rfl
theorem dX11_copy_63 : decode cX11_copy 63 = .ok (.iconst 1, 1) := dqn_4 (k := 39) qh_cX11_copy rfl rfl
theorem dX11_copy_64 : decode cX11_copy 64 = .ok (.iload_n 1, 1) := dqn_27 (k := 38) qh_cX11_copy rfl rfl
theorem dX11_copy_65 : decode cX11_copy 65 = .ok (.iload_n 2, 1) := dqn_28 (k := 37) qh_cX11_copy rfl rfl
theorem dX11_copy_66 : decode cX11_copy 66 = .ok (.invokestatic 74, 3) := dqn_184 (k := 34) qh_cX11_copy rfl rfl rfl
theorem dX11_copy_69 : decode cX11_copy 69 = .ok (.aload_n 0, 1) := dqn_42 (k := 33) qh_cX11_copy rfl rfl
theorem dX11_copy_70 : decode cX11_copy 70 = .ok (.getfield 23, 3) := dqn_180 (k := 30) qh_cX11_copy rfl rfl rfl
theorem dX11_copy_73 : decode cX11_copy 73 = .ok (.iconst 2, 1) := dqn_5 (k := 29) qh_cX11_copy rfl rfl
theorem dX11_copy_74 : decode cX11_copy 74 = .ok (.iload_n 1, 1) := dqn_27 (k := 28) qh_cX11_copy rfl rfl
theorem dX11_copy_75 : decode cX11_copy 75 = .ok (.iload_n 2, 1) := dqn_28 (k := 27) qh_cX11_copy rfl rfl
theorem dX11_copy_76 : decode cX11_copy 76 = .ok (.invokestatic 74, 3) := dqn_184 (k := 24) qh_cX11_copy rfl rfl rfl
theorem dX11_copy_79 : decode cX11_copy 79 = .ok (.aload_n 0, 1) := dqn_42 (k := 23) qh_cX11_copy rfl rfl
theorem dX11_copy_80 : decode cX11_copy 80 = .ok (.getfield 26, 3) := dqn_180 (k := 20) qh_cX11_copy rfl rfl rfl
theorem dX11_copy_83 : decode cX11_copy 83 = .ok (.sipush 314, 3) := dqn_17 (k := 17) (u := 314) qh_cX11_copy rfl rfl rfl (sg_p rfl rfl)
theorem dX11_copy_86 : decode cX11_copy 86 = .ok (.iload_n 1, 1) := dqn_27 (k := 16) qh_cX11_copy rfl rfl
theorem dX11_copy_87 : decode cX11_copy 87 = .ok (.iload_n 2, 1) := dqn_28 (k := 15) qh_cX11_copy rfl rfl
theorem dX11_copy_88 : decode cX11_copy 88 = .ok (.invokestatic 74, 3) := dqn_184 (k := 12) qh_cX11_copy rfl rfl rfl
theorem dX11_copy_91 : decode cX11_copy 91 = .ok (.aload_n 0, 1) := dqn_42 (k := 11) qh_cX11_copy rfl rfl
theorem dX11_copy_92 : decode cX11_copy 92 = .ok (.getfield 29, 3) := dqn_180 (k := 8) qh_cX11_copy rfl rfl rfl
theorem dX11_copy_95 : decode cX11_copy 95 = .ok (.bipush 111, 2) := dqn_16 (k := 6) (u := 111) qh_cX11_copy rfl rfl rfl (by decide)
theorem dX11_copy_97 : decode cX11_copy 97 = .ok (.iload_n 1, 1) := dqn_27 (k := 5) qh_cX11_copy rfl rfl
theorem dX11_copy_98 : decode cX11_copy 98 = .ok (.iload_n 2, 1) := dqn_28 (k := 4) qh_cX11_copy rfl rfl
theorem dX11_copy_99 : decode cX11_copy 99 = .ok (.invokestatic 74, 3) := dqn_184 (k := 1) qh_cX11_copy rfl rfl rfl
theorem dX11_copy_102 : decode cX11_copy 102 = .ok (.return_, 1) := dqn_177 (k := 0) qh_cX11_copy rfl rfl
theorem dX11_image_0 : decode cX11_image 0 = .ok (.aload_n 0, 1) := dqn_42 (k := 32) qh_cX11_image rfl rfl
theorem dX11_image_1 : decode cX11_image 1 = .ok (.iconst 0, 1) := dqn_3 (k := 31) qh_cX11_image rfl rfl
theorem dX11_image_2 : decode cX11_image 2 = .ok (.putfield 70, 3) := dqn_181 (k := 28) qh_cX11_image rfl rfl rfl
theorem dX11_image_5 : decode cX11_image 5 = .ok (.iload_n 1, 1) := dqn_27 (k := 27) qh_cX11_image rfl rfl
theorem dX11_image_6 : decode cX11_image 6 = .ok (.iconst 0, 1) := dqn_3 (k := 26) qh_cX11_image rfl rfl
theorem dX11_image_7 : decode cX11_image 7 = .ok (.iconst 2, 1) := dqn_5 (k := 25) qh_cX11_image rfl rfl
theorem dX11_image_8 : decode cX11_image 8 = .ok (.invokestatic 78, 3) := dqn_184 (k := 22) qh_cX11_image rfl rfl rfl
theorem dX11_image_11 : decode cX11_image 11 = .ok (.ifCond .ne 5, 3) := dqn_154 (k := 19) (u := 5) qh_cX11_image rfl rfl rfl (sg_p rfl rfl)
theorem dX11_image_14 : decode cX11_image 14 = .ok (.iconst 0, 1) := dqn_3 (k := 18) qh_cX11_image rfl rfl
theorem dX11_image_15 : decode cX11_image 15 = .ok (.ireturn, 1) := dqn_172 (k := 17) qh_cX11_image rfl rfl
theorem dX11_image_16 : decode cX11_image 16 = .ok (.aload_n 0, 1) := dqn_42 (k := 16) qh_cX11_image rfl rfl
theorem dX11_image_17 : decode cX11_image 17 = .ok (.iconst 0, 1) := dqn_3 (k := 15) qh_cX11_image rfl rfl
theorem dX11_image_18 : decode cX11_image 18 = .ok (.iload_n 1, 1) := dqn_27 (k := 14) qh_cX11_image rfl rfl
theorem dX11_image_19 : decode cX11_image 19 = .ok (.iconst 1, 1) := dqn_4 (k := 13) qh_cX11_image rfl rfl
theorem dX11_image_20 : decode cX11_image 20 = .ok (.iadd, 1) := dqn_96 (k := 12) qh_cX11_image rfl rfl
theorem dX11_image_21 : decode cX11_image 21 = .ok (.invokevirtual 381, 3) := dqn_182 (k := 9) qh_cX11_image rfl rfl rfl
theorem dX11_image_24 : decode cX11_image 24 = .ok (.aload_n 0, 1) := dqn_42 (k := 8) qh_cX11_image rfl rfl
theorem dX11_image_25 : decode cX11_image 25 = .ok (.getfield 66, 3) := dqn_180 (k := 5) qh_cX11_image rfl rfl rfl
theorem dX11_image_28 : decode cX11_image 28 = .ok (.iload_n 1, 1) := dqn_27 (k := 4) qh_cX11_image rfl rfl
theorem dX11_image_29 : decode cX11_image 29 = .ok (.iconst 1, 1) := dqn_4 (k := 3) qh_cX11_image rfl rfl
theorem dX11_image_30 : decode cX11_image 30 = .ok (.bastore, 1) := dqn_84 (k := 2) qh_cX11_image rfl rfl
theorem dX11_image_31 : decode cX11_image 31 = .ok (.iconst 1, 1) := dqn_4 (k := 1) qh_cX11_image rfl rfl
theorem dX11_image_32 : decode cX11_image 32 = .ok (.ireturn, 1) := dqn_172 (k := 0) qh_cX11_image rfl rfl
theorem dX11_again_0 : decode cX11_again 0 = .ok (.aload_n 0, 1) := dqn_42 (k := 34) qh_cX11_again rfl rfl
theorem dX11_again_1 : decode cX11_again 1 = .ok (.iconst 0, 1) := dqn_3 (k := 33) qh_cX11_again rfl rfl
theorem dX11_again_2 : decode cX11_again 2 = .ok (.putfield 70, 3) := dqn_181 (k := 30) qh_cX11_again rfl rfl rfl
theorem dX11_again_5 : decode cX11_again 5 = .ok (.iload_n 1, 1) := dqn_27 (k := 29) qh_cX11_again rfl rfl
theorem dX11_again_6 : decode cX11_again 6 = .ok (.iconst 0, 1) := dqn_3 (k := 28) qh_cX11_again rfl rfl
theorem dX11_again_7 : decode cX11_again 7 = .ok (.iconst 2, 1) := dqn_5 (k := 27) qh_cX11_again rfl rfl
theorem dX11_again_8 : decode cX11_again 8 = .ok (.invokestatic 78, 3) := dqn_184 (k := 24) qh_cX11_again rfl rfl rfl
theorem dX11_again_11 : decode cX11_again 11 = .ok (.ifCond .eq 12, 3) := dqn_153 (k := 21) (u := 12) qh_cX11_again rfl rfl rfl (sg_p rfl rfl)
theorem dX11_again_14 : decode cX11_again 14 = .ok (.aload_n 0, 1) := dqn_42 (k := 20) qh_cX11_again rfl rfl
theorem dX11_again_15 : decode cX11_again 15 = .ok (.getfield 66, 3) := dqn_180 (k := 17) qh_cX11_again rfl rfl rfl
theorem dX11_again_18 : decode cX11_again 18 = .ok (.iload_n 1, 1) := dqn_27 (k := 16) qh_cX11_again rfl rfl
theorem dX11_again_19 : decode cX11_again 19 = .ok (.baload, 1) := dqn_51 (k := 15) qh_cX11_again rfl rfl
theorem dX11_again_20 : decode cX11_again 20 = .ok (.ifCond .ne 5, 3) := dqn_154 (k := 12) (u := 5) qh_cX11_again rfl rfl rfl (sg_p rfl rfl)
theorem dX11_again_23 : decode cX11_again 23 = .ok (.iconst 0, 1) := dqn_3 (k := 11) qh_cX11_again rfl rfl
theorem dX11_again_24 : decode cX11_again 24 = .ok (.ireturn, 1) := dqn_172 (k := 10) qh_cX11_again rfl rfl
theorem dX11_again_25 : decode cX11_again 25 = .ok (.aload_n 0, 1) := dqn_42 (k := 9) qh_cX11_again rfl rfl
theorem dX11_again_26 : decode cX11_again 26 = .ok (.iload_n 1, 1) := dqn_27 (k := 8) qh_cX11_again rfl rfl
theorem dX11_again_27 : decode cX11_again 27 = .ok (.iconst 1, 1) := dqn_4 (k := 7) qh_cX11_again rfl rfl
theorem dX11_again_28 : decode cX11_again 28 = .ok (.iadd, 1) := dqn_96 (k := 6) qh_cX11_again rfl rfl
theorem dX11_again_29 : decode cX11_again 29 = .ok (.iconst 0, 1) := dqn_3 (k := 5) qh_cX11_again rfl rfl
theorem dX11_again_30 : decode cX11_again 30 = .ok (.invokevirtual 381, 3) := dqn_182 (k := 2) qh_cX11_again rfl rfl rfl
theorem dX11_again_33 : decode cX11_again 33 = .ok (.iconst 1, 1) := dqn_4 (k := 1) qh_cX11_again rfl rfl
theorem dX11_again_34 : decode cX11_again 34 = .ok (.ireturn, 1) := dqn_172 (k := 0) qh_cX11_again rfl rfl
theorem dX11_four_0 : decode cX11_four 0 = .ok (.bipush 24, 2) := dqn_16 (k := 37) (u := 24) qh_cX11_four rfl rfl rfl (by decide)
theorem dX11_four_2 : decode cX11_four 2 = .ok (.istore_n 2, 1) := dqn_61 (k := 36) qh_cX11_four rfl rfl
theorem dX11_four_3 : decode cX11_four 3 = .ok (.iload_n 2, 1) := dqn_28 (k := 35) qh_cX11_four rfl rfl
theorem dX11_four_4 : decode cX11_four 4 = .ok (.ifCond .lt 34, 3) := dqn_155 (k := 32) (u := 34) qh_cX11_four rfl rfl rfl (sg_p rfl rfl)
theorem dX11_four_7 : decode cX11_four 7 = .ok (.aload_n 0, 1) := dqn_42 (k := 31) qh_cX11_four rfl rfl
theorem dX11_four_8 : decode cX11_four 8 = .ok (.getfield 7, 3) := dqn_180 (k := 28) qh_cX11_four rfl rfl rfl
theorem dX11_four_11 : decode cX11_four 11 = .ok (.aload_n 0, 1) := dqn_42 (k := 27) qh_cX11_four rfl rfl
theorem dX11_four_12 : decode cX11_four 12 = .ok (.getfield 13, 3) := dqn_180 (k := 24) qh_cX11_four rfl rfl rfl
theorem dX11_four_15 : decode cX11_four 15 = .ok (.iconst 0, 1) := dqn_3 (k := 23) qh_cX11_four rfl rfl
theorem dX11_four_16 : decode cX11_four 16 = .ok (.iaload, 1) := dqn_46 (k := 22) qh_cX11_four rfl rfl
theorem dX11_four_17 : decode cX11_four 17 = .ok (.iload_n 1, 1) := dqn_27 (k := 21) qh_cX11_four rfl rfl
theorem dX11_four_18 : decode cX11_four 18 = .ok (.iload_n 2, 1) := dqn_28 (k := 20) qh_cX11_four rfl rfl
theorem dX11_four_19 : decode cX11_four 19 = .ok (.ishr, 1) := dqn_122 (k := 19) qh_cX11_four rfl rfl
theorem dX11_four_20 : decode cX11_four 20 = .ok (.i2b, 1) := dqn_145 (k := 18) qh_cX11_four rfl rfl
theorem dX11_four_21 : decode cX11_four 21 = .ok (.bastore, 1) := dqn_84 (k := 17) qh_cX11_four rfl rfl
theorem dX11_four_22 : decode cX11_four 22 = .ok (.aload_n 0, 1) := dqn_42 (k := 16) qh_cX11_four rfl rfl
theorem dX11_four_23 : decode cX11_four 23 = .ok (.getfield 13, 3) := dqn_180 (k := 13) qh_cX11_four rfl rfl rfl
theorem dX11_four_26 : decode cX11_four 26 = .ok (.iconst 0, 1) := dqn_3 (k := 12) qh_cX11_four rfl rfl
theorem dX11_four_27 : decode cX11_four 27 = .ok (.dup2, 1) := dqn_92 (k := 11) qh_cX11_four rfl rfl
theorem dX11_four_28 : decode cX11_four 28 = .ok (.iaload, 1) := dqn_46 (k := 10) qh_cX11_four rfl rfl
theorem dX11_four_29 : decode cX11_four 29 = .ok (.iconst 1, 1) := dqn_4 (k := 9) qh_cX11_four rfl rfl
theorem dX11_four_30 : decode cX11_four 30 = .ok (.iadd, 1) := dqn_96 (k := 8) qh_cX11_four rfl rfl
theorem dX11_four_31 : decode cX11_four 31 = .ok (.iastore, 1) := dqn_79 (k := 7) qh_cX11_four rfl rfl
theorem dX11_four_32 : decode cX11_four 32 = .ok (.iinc 2 (-8), 3) := dqn_132 (k := 4) (u := 248) qh_cX11_four rfl rfl rfl rfl (by decide)
theorem dX11_four_35 : decode cX11_four 35 = .ok (.goto (-32), 3) := dqn_167 (k := 1) (u := 65504) qh_cX11_four rfl rfl rfl (sg_n (k := 32) rfl rfl rfl)
theorem dX11_four_38 : decode cX11_four 38 = .ok (.return_, 1) := dqn_177 (k := 0) qh_cX11_four rfl rfl
theorem dX11_feed_0 : decode cX11_feed 0 = .ok (.aload_n 0, 1) := dqn_42 (k := 55) qh_cX11_feed rfl rfl
theorem dX11_feed_1 : decode cX11_feed 1 = .ok (.iconst 0, 1) := dqn_3 (k := 54) qh_cX11_feed rfl rfl
theorem dX11_feed_2 : decode cX11_feed 2 = .ok (.putfield 70, 3) := dqn_181 (k := 51) qh_cX11_feed rfl rfl rfl
theorem dX11_feed_5 : decode cX11_feed 5 = .ok (.aload_n 0, 1) := dqn_42 (k := 50) qh_cX11_feed rfl rfl
theorem dX11_feed_6 : decode cX11_feed 6 = .ok (.getfield 13, 3) := dqn_180 (k := 47) qh_cX11_feed rfl rfl rfl
theorem dX11_feed_9 : decode cX11_feed 9 = .ok (.iconst 0, 1) := dqn_3 (k := 46) qh_cX11_feed rfl rfl
theorem dX11_feed_10 : decode cX11_feed 10 = .ok (.iaload, 1) := dqn_46 (k := 45) qh_cX11_feed rfl rfl
theorem dX11_feed_11 : decode cX11_feed 11 = .ok (.bipush 20, 2) := dqn_16 (k := 43) (u := 20) qh_cX11_feed rfl rfl rfl (by decide)
theorem dX11_feed_13 : decode cX11_feed 13 = .ok (.iadd, 1) := dqn_96 (k := 42) qh_cX11_feed rfl rfl
theorem dX11_feed_14 : decode cX11_feed 14 = .ok (.sipush 600, 3) := dqn_17 (k := 39) (u := 600) qh_cX11_feed rfl rfl rfl (sg_p rfl rfl)
theorem dX11_feed_17 : decode cX11_feed 17 = .ok (.if_icmp .le 5, 3) := dqn_164 (k := 36) (u := 5) qh_cX11_feed rfl rfl rfl (sg_p rfl rfl)
theorem dX11_feed_20 : decode cX11_feed 20 = .ok (.iconst (-1), 1) := dqn_2 (k := 35) qh_cX11_feed rfl rfl
theorem dX11_feed_21 : decode cX11_feed 21 = .ok (.ireturn, 1) := dqn_172 (k := 34) qh_cX11_feed rfl rfl
theorem dX11_feed_22 : decode cX11_feed 22 = .ok (.aload_n 0, 1) := dqn_42 (k := 33) qh_cX11_feed rfl rfl
theorem dX11_feed_23 : decode cX11_feed 23 = .ok (.iload_n 1, 1) := dqn_27 (k := 32) qh_cX11_feed rfl rfl
theorem dX11_feed_24 : decode cX11_feed 24 = .ok (.invokevirtual 82, 3) := dqn_182 (k := 29) qh_cX11_feed rfl rfl rfl
theorem dX11_feed_27 : decode cX11_feed 27 = .ok (.aload_n 0, 1) := dqn_42 (k := 28) qh_cX11_feed rfl rfl
theorem dX11_feed_28 : decode cX11_feed 28 = .ok (.iload_n 2, 1) := dqn_28 (k := 27) qh_cX11_feed rfl rfl
theorem dX11_feed_29 : decode cX11_feed 29 = .ok (.invokevirtual 82, 3) := dqn_182 (k := 24) qh_cX11_feed rfl rfl rfl
theorem dX11_feed_32 : decode cX11_feed 32 = .ok (.aload_n 0, 1) := dqn_42 (k := 23) qh_cX11_feed rfl rfl
theorem dX11_feed_33 : decode cX11_feed 33 = .ok (.iload_n 3, 1) := dqn_29 (k := 22) qh_cX11_feed rfl rfl
theorem dX11_feed_34 : decode cX11_feed 34 = .ok (.invokevirtual 82, 3) := dqn_182 (k := 19) qh_cX11_feed rfl rfl rfl
theorem dX11_feed_37 : decode cX11_feed 37 = .ok (.aload_n 0, 1) := dqn_42 (k := 18) qh_cX11_feed rfl rfl
theorem dX11_feed_38 : decode cX11_feed 38 = .ok (.iload 4, 2) := dqn_21 (k := 16) qh_cX11_feed rfl rfl rfl
theorem dX11_feed_40 : decode cX11_feed 40 = .ok (.invokevirtual 82, 3) := dqn_182 (k := 13) qh_cX11_feed rfl rfl rfl
theorem dX11_feed_43 : decode cX11_feed 43 = .ok (.aload_n 0, 1) := dqn_42 (k := 12) qh_cX11_feed rfl rfl
theorem dX11_feed_44 : decode cX11_feed 44 = .ok (.iload 5, 2) := dqn_21 (k := 10) qh_cX11_feed rfl rfl rfl
theorem dX11_feed_46 : decode cX11_feed 46 = .ok (.invokevirtual 82, 3) := dqn_182 (k := 7) qh_cX11_feed rfl rfl rfl
theorem dX11_feed_49 : decode cX11_feed 49 = .ok (.aload_n 0, 1) := dqn_42 (k := 6) qh_cX11_feed rfl rfl
theorem dX11_feed_50 : decode cX11_feed 50 = .ok (.getfield 13, 3) := dqn_180 (k := 3) qh_cX11_feed rfl rfl rfl
theorem dX11_feed_53 : decode cX11_feed 53 = .ok (.iconst 0, 1) := dqn_3 (k := 2) qh_cX11_feed rfl rfl
theorem dX11_feed_54 : decode cX11_feed 54 = .ok (.iaload, 1) := dqn_46 (k := 1) qh_cX11_feed rfl rfl
theorem dX11_feed_55 : decode cX11_feed 55 = .ok (.ireturn, 1) := dqn_172 (k := 0) qh_cX11_feed rfl rfl
theorem dX11_end_0 : decode cX11_end 0 = .ok (.aload_n 0, 1) := dqn_42 (k := 29) qh_cX11_end rfl rfl
theorem dX11_end_1 : decode cX11_end 1 = .ok (.iconst 0, 1) := dqn_3 (k := 28) qh_cX11_end rfl rfl
theorem dX11_end_2 : decode cX11_end 2 = .ok (.putfield 70, 3) := dqn_181 (k := 25) qh_cX11_end rfl rfl rfl
theorem dX11_end_5 : decode cX11_end 5 = .ok (.iload_n 1, 1) := dqn_27 (k := 24) qh_cX11_end rfl rfl
theorem dX11_end_6 : decode cX11_end 6 = .ok (.iconst 0, 1) := dqn_3 (k := 23) qh_cX11_end rfl rfl
theorem dX11_end_7 : decode cX11_end 7 = .ok (.aload_n 0, 1) := dqn_42 (k := 22) qh_cX11_end rfl rfl
theorem dX11_end_8 : decode cX11_end 8 = .ok (.getfield 13, 3) := dqn_180 (k := 19) qh_cX11_end rfl rfl rfl
theorem dX11_end_11 : decode cX11_end 11 = .ok (.iconst 0, 1) := dqn_3 (k := 18) qh_cX11_end rfl rfl
theorem dX11_end_12 : decode cX11_end 12 = .ok (.iaload, 1) := dqn_46 (k := 17) qh_cX11_end rfl rfl
theorem dX11_end_13 : decode cX11_end 13 = .ok (.invokestatic 78, 3) := dqn_184 (k := 14) qh_cX11_end rfl rfl rfl
theorem dX11_end_16 : decode cX11_end 16 = .ok (.ifCond .ne 5, 3) := dqn_154 (k := 11) (u := 5) qh_cX11_end rfl rfl rfl (sg_p rfl rfl)
theorem dX11_end_19 : decode cX11_end 19 = .ok (.iconst (-1), 1) := dqn_2 (k := 10) qh_cX11_end rfl rfl
theorem dX11_end_20 : decode cX11_end 20 = .ok (.ireturn, 1) := dqn_172 (k := 9) qh_cX11_end rfl rfl
theorem dX11_end_21 : decode cX11_end 21 = .ok (.aload_n 0, 1) := dqn_42 (k := 8) qh_cX11_end rfl rfl
theorem dX11_end_22 : decode cX11_end 22 = .ok (.getfield 13, 3) := dqn_180 (k := 5) qh_cX11_end rfl rfl rfl
theorem dX11_end_25 : decode cX11_end 25 = .ok (.iconst 0, 1) := dqn_3 (k := 4) qh_cX11_end rfl rfl
theorem dX11_end_26 : decode cX11_end 26 = .ok (.iload_n 1, 1) := dqn_27 (k := 3) qh_cX11_end rfl rfl
theorem dX11_end_27 : decode cX11_end 27 = .ok (.iastore, 1) := dqn_79 (k := 2) qh_cX11_end rfl rfl
theorem dX11_end_28 : decode cX11_end 28 = .ok (.iload_n 1, 1) := dqn_27 (k := 1) qh_cX11_end rfl rfl
theorem dX11_end_29 : decode cX11_end 29 = .ok (.ireturn, 1) := dqn_172 (k := 0) qh_cX11_end rfl rfl
theorem dX11_fault_0 : decode cX11_fault 0 = .ok (.aload_n 0, 1) := dqn_42 (k := 33) qh_cX11_fault rfl rfl
theorem dX11_fault_1 : decode cX11_fault 1 = .ok (.iconst 0, 1) := dqn_3 (k := 32) qh_cX11_fault rfl rfl
theorem dX11_fault_2 : decode cX11_fault 2 = .ok (.putfield 70, 3) := dqn_181 (k := 29) qh_cX11_fault rfl rfl rfl
theorem dX11_fault_5 : decode cX11_fault 5 = .ok (.iload_n 1, 1) := dqn_27 (k := 28) qh_cX11_fault rfl rfl
theorem dX11_fault_6 : decode cX11_fault 6 = .ok (.ifCond .ne 12, 3) := dqn_154 (k := 25) (u := 12) qh_cX11_fault rfl rfl rfl (sg_p rfl rfl)
theorem dX11_fault_9 : decode cX11_fault 9 = .ok (.aload_n 0, 1) := dqn_42 (k := 24) qh_cX11_fault rfl rfl
theorem dX11_fault_10 : decode cX11_fault 10 = .ok (.getfield 17, 3) := dqn_180 (k := 21) qh_cX11_fault rfl rfl rfl
theorem dX11_fault_13 : decode cX11_fault 13 = .ok (.iconst 0, 1) := dqn_3 (k := 20) qh_cX11_fault rfl rfl
theorem dX11_fault_14 : decode cX11_fault 14 = .ok (.iaload, 1) := dqn_46 (k := 19) qh_cX11_fault rfl rfl
theorem dX11_fault_15 : decode cX11_fault 15 = .ok (.goto 18, 3) := dqn_167 (k := 16) (u := 18) qh_cX11_fault rfl rfl rfl (sg_p rfl rfl)
theorem dX11_fault_18 : decode cX11_fault 18 = .ok (.iload_n 1, 1) := dqn_27 (k := 15) qh_cX11_fault rfl rfl
theorem dX11_fault_19 : decode cX11_fault 19 = .ok (.iconst 1, 1) := dqn_4 (k := 14) qh_cX11_fault rfl rfl
theorem dX11_fault_20 : decode cX11_fault 20 = .ok (.if_icmp .ne 12, 3) := dqn_160 (k := 11) (u := 12) qh_cX11_fault rfl rfl rfl (sg_p rfl rfl)
theorem dX11_fault_23 : decode cX11_fault 23 = .ok (.aload_n 0, 1) := dqn_42 (k := 10) qh_cX11_fault rfl rfl
theorem dX11_fault_24 : decode cX11_fault 24 = .ok (.getfield 20, 3) := dqn_180 (k := 7) qh_cX11_fault rfl rfl rfl
theorem dX11_fault_27 : decode cX11_fault 27 = .ok (.iconst 0, 1) := dqn_3 (k := 6) qh_cX11_fault rfl rfl
theorem dX11_fault_28 : decode cX11_fault 28 = .ok (.iaload, 1) := dqn_46 (k := 5) qh_cX11_fault rfl rfl
theorem dX11_fault_29 : decode cX11_fault 29 = .ok (.goto 4, 3) := dqn_167 (k := 2) (u := 4) qh_cX11_fault rfl rfl rfl (sg_p rfl rfl)
theorem dX11_fault_32 : decode cX11_fault 32 = .ok (.iconst (-1), 1) := dqn_2 (k := 1) qh_cX11_fault rfl rfl
theorem dX11_fault_33 : decode cX11_fault 33 = .ok (.ireturn, 1) := dqn_172 (k := 0) qh_cX11_fault rfl rfl
theorem dX11_count_0 : decode cX11_count 0 = .ok (.aload_n 0, 1) := dqn_42 (k := 25) qh_cX11_count rfl rfl
theorem dX11_count_1 : decode cX11_count 1 = .ok (.iconst 0, 1) := dqn_3 (k := 24) qh_cX11_count rfl rfl
theorem dX11_count_2 : decode cX11_count 2 = .ok (.putfield 70, 3) := dqn_181 (k := 21) qh_cX11_count rfl rfl rfl
theorem dX11_count_5 : decode cX11_count 5 = .ok (.iload_n 1, 1) := dqn_27 (k := 20) qh_cX11_count rfl rfl
theorem dX11_count_6 : decode cX11_count 6 = .ok (.iconst 0, 1) := dqn_3 (k := 19) qh_cX11_count rfl rfl
theorem dX11_count_7 : decode cX11_count 7 = .ok (.iconst 1, 1) := dqn_4 (k := 18) qh_cX11_count rfl rfl
theorem dX11_count_8 : decode cX11_count 8 = .ok (.invokestatic 78, 3) := dqn_184 (k := 15) qh_cX11_count rfl rfl rfl
theorem dX11_count_11 : decode cX11_count 11 = .ok (.ifCond .eq 12, 3) := dqn_153 (k := 12) (u := 12) qh_cX11_count rfl rfl rfl (sg_p rfl rfl)
theorem dX11_count_14 : decode cX11_count 14 = .ok (.aload_n 0, 1) := dqn_42 (k := 11) qh_cX11_count rfl rfl
theorem dX11_count_15 : decode cX11_count 15 = .ok (.getfield 23, 3) := dqn_180 (k := 8) qh_cX11_count rfl rfl rfl
theorem dX11_count_18 : decode cX11_count 18 = .ok (.iload_n 1, 1) := dqn_27 (k := 7) qh_cX11_count rfl rfl
theorem dX11_count_19 : decode cX11_count 19 = .ok (.iaload, 1) := dqn_46 (k := 6) qh_cX11_count rfl rfl
theorem dX11_count_20 : decode cX11_count 20 = .ok (.goto 5, 3) := dqn_167 (k := 3) (u := 5) qh_cX11_count rfl rfl rfl (sg_p rfl rfl)
theorem dX11_count_23 : decode cX11_count 23 = .ok (.bipush (-2), 2) := dqn_16 (k := 1) (u := 254) qh_cX11_count rfl rfl rfl (by decide)
theorem dX11_count_25 : decode cX11_count 25 = .ok (.ireturn, 1) := dqn_172 (k := 0) qh_cX11_count rfl rfl
theorem dX11_hill_0 : decode cX11_hill 0 = .ok (.aload_n 0, 1) := dqn_42 (k := 123) qh_cX11_hill rfl rfl
theorem dX11_hill_1 : decode cX11_hill 1 = .ok (.iconst 0, 1) := dqn_3 (k := 122) qh_cX11_hill rfl rfl
theorem dX11_hill_2 : decode cX11_hill 2 = .ok (.putfield 70, 3) := dqn_181 (k := 119) qh_cX11_hill rfl rfl rfl
theorem dX11_hill_5 : decode cX11_hill 5 = .ok (.aload_n 0, 1) := dqn_42 (k := 118) qh_cX11_hill rfl rfl
theorem dX11_hill_6 : decode cX11_hill 6 = .ok (.iload_n 1, 1) := dqn_27 (k := 117) qh_cX11_hill rfl rfl
theorem dX11_hill_7 : decode cX11_hill 7 = .ok (.invokevirtual 205, 3) := dqn_182 (k := 114) qh_cX11_hill rfl rfl rfl
theorem dX11_hill_10 : decode cX11_hill 10 = .ok (.ifCond .ne 5, 3) := dqn_154 (k := 111) (u := 5) qh_cX11_hill rfl rfl rfl (sg_p rfl rfl)
theorem dX11_hill_13 : decode cX11_hill 13 = .ok (.iconst (-1), 1) := dqn_2 (k := 110) qh_cX11_hill rfl rfl
theorem dX11_hill_14 : decode cX11_hill 14 = .ok (.ireturn, 1) := dqn_172 (k := 109) qh_cX11_hill rfl rfl
theorem dX11_hill_15 : decode cX11_hill 15 = .ok (.aload_n 0, 1) := dqn_42 (k := 108) qh_cX11_hill rfl rfl
theorem dX11_hill_16 : decode cX11_hill 16 = .ok (.getfield 26, 3) := dqn_180 (k := 105) qh_cX11_hill rfl rfl rfl
theorem dX11_hill_19 : decode cX11_hill 19 = .ok (.sipush 157, 3) := dqn_17 (k := 102) (u := 157) qh_cX11_hill rfl rfl rfl (sg_p rfl rfl)
theorem dX11_hill_22 : decode cX11_hill 22 = .ok (.iload_n 1, 1) := dqn_27 (k := 101) qh_cX11_hill rfl rfl
theorem dX11_hill_23 : decode cX11_hill 23 = .ok (.imul, 1) := dqn_104 (k := 100) qh_cX11_hill rfl rfl
theorem dX11_hill_24 : decode cX11_hill 24 = .ok (.iconst 1, 1) := dqn_4 (k := 99) qh_cX11_hill rfl rfl
theorem dX11_hill_25 : decode cX11_hill 25 = .ok (.iadd, 1) := dqn_96 (k := 98) qh_cX11_hill rfl rfl
theorem dX11_hill_26 : decode cX11_hill 26 = .ok (.iaload, 1) := dqn_46 (k := 97) qh_cX11_hill rfl rfl
theorem dX11_hill_27 : decode cX11_hill 27 = .ok (.istore_n 3, 1) := dqn_62 (k := 96) qh_cX11_hill rfl rfl
theorem dX11_hill_28 : decode cX11_hill 28 = .ok (.iload_n 2, 1) := dqn_28 (k := 95) qh_cX11_hill rfl rfl
theorem dX11_hill_29 : decode cX11_hill 29 = .ok (.iconst 0, 1) := dqn_3 (k := 94) qh_cX11_hill rfl rfl
theorem dX11_hill_30 : decode cX11_hill 30 = .ok (.iconst 4, 1) := dqn_7 (k := 93) qh_cX11_hill rfl rfl
theorem dX11_hill_31 : decode cX11_hill 31 = .ok (.invokestatic 78, 3) := dqn_184 (k := 90) qh_cX11_hill rfl rfl rfl
theorem dX11_hill_34 : decode cX11_hill 34 = .ok (.ifCond .eq 16, 3) := dqn_153 (k := 87) (u := 16) qh_cX11_hill rfl rfl rfl (sg_p rfl rfl)
theorem dX11_hill_37 : decode cX11_hill 37 = .ok (.aload_n 0, 1) := dqn_42 (k := 86) qh_cX11_hill rfl rfl
theorem dX11_hill_38 : decode cX11_hill 38 = .ok (.getfield 26, 3) := dqn_180 (k := 83) qh_cX11_hill rfl rfl rfl
theorem dX11_hill_41 : decode cX11_hill 41 = .ok (.sipush 157, 3) := dqn_17 (k := 80) (u := 157) qh_cX11_hill rfl rfl rfl (sg_p rfl rfl)
theorem dX11_hill_44 : decode cX11_hill 44 = .ok (.iload_n 1, 1) := dqn_27 (k := 79) qh_cX11_hill rfl rfl
theorem dX11_hill_45 : decode cX11_hill 45 = .ok (.imul, 1) := dqn_104 (k := 78) qh_cX11_hill rfl rfl
theorem dX11_hill_46 : decode cX11_hill 46 = .ok (.iload_n 2, 1) := dqn_28 (k := 77) qh_cX11_hill rfl rfl
theorem dX11_hill_47 : decode cX11_hill 47 = .ok (.iadd, 1) := dqn_96 (k := 76) qh_cX11_hill rfl rfl
theorem dX11_hill_48 : decode cX11_hill 48 = .ok (.iaload, 1) := dqn_46 (k := 75) qh_cX11_hill rfl rfl
theorem dX11_hill_49 : decode cX11_hill 49 = .ok (.ireturn, 1) := dqn_172 (k := 74) qh_cX11_hill rfl rfl
theorem dX11_hill_50 : decode cX11_hill 50 = .ok (.iload_n 2, 1) := dqn_28 (k := 73) qh_cX11_hill rfl rfl
theorem dX11_hill_51 : decode cX11_hill 51 = .ok (.bipush 10, 2) := dqn_16 (k := 71) (u := 10) qh_cX11_hill rfl rfl rfl (by decide)
theorem dX11_hill_53 : decode cX11_hill 53 = .ok (.bipush 9, 2) := dqn_16 (k := 69) (u := 9) qh_cX11_hill rfl rfl rfl (by decide)
theorem dX11_hill_55 : decode cX11_hill 55 = .ok (.iload_n 3, 1) := dqn_29 (k := 68) qh_cX11_hill rfl rfl
theorem dX11_hill_56 : decode cX11_hill 56 = .ok (.iadd, 1) := dqn_96 (k := 67) qh_cX11_hill rfl rfl
theorem dX11_hill_57 : decode cX11_hill 57 = .ok (.invokestatic 78, 3) := dqn_184 (k := 64) qh_cX11_hill rfl rfl rfl
theorem dX11_hill_60 : decode cX11_hill 60 = .ok (.ifCond .eq 25, 3) := dqn_153 (k := 61) (u := 25) qh_cX11_hill rfl rfl rfl (sg_p rfl rfl)
theorem dX11_hill_63 : decode cX11_hill 63 = .ok (.aload_n 0, 1) := dqn_42 (k := 60) qh_cX11_hill rfl rfl
theorem dX11_hill_64 : decode cX11_hill 64 = .ok (.getfield 26, 3) := dqn_180 (k := 57) qh_cX11_hill rfl rfl rfl
theorem dX11_hill_67 : decode cX11_hill 67 = .ok (.sipush 157, 3) := dqn_17 (k := 54) (u := 157) qh_cX11_hill rfl rfl rfl (sg_p rfl rfl)
theorem dX11_hill_70 : decode cX11_hill 70 = .ok (.iload_n 1, 1) := dqn_27 (k := 53) qh_cX11_hill rfl rfl
theorem dX11_hill_71 : decode cX11_hill 71 = .ok (.imul, 1) := dqn_104 (k := 52) qh_cX11_hill rfl rfl
theorem dX11_hill_72 : decode cX11_hill 72 = .ok (.iconst 5, 1) := dqn_8 (k := 51) qh_cX11_hill rfl rfl
theorem dX11_hill_73 : decode cX11_hill 73 = .ok (.iadd, 1) := dqn_96 (k := 50) qh_cX11_hill rfl rfl
theorem dX11_hill_74 : decode cX11_hill 74 = .ok (.iconst 2, 1) := dqn_5 (k := 49) qh_cX11_hill rfl rfl
theorem dX11_hill_75 : decode cX11_hill 75 = .ok (.iload_n 2, 1) := dqn_28 (k := 48) qh_cX11_hill rfl rfl
theorem dX11_hill_76 : decode cX11_hill 76 = .ok (.bipush 10, 2) := dqn_16 (k := 46) (u := 10) qh_cX11_hill rfl rfl rfl (by decide)
theorem dX11_hill_78 : decode cX11_hill 78 = .ok (.isub, 1) := dqn_100 (k := 45) qh_cX11_hill rfl rfl
theorem dX11_hill_79 : decode cX11_hill 79 = .ok (.imul, 1) := dqn_104 (k := 44) qh_cX11_hill rfl rfl
theorem dX11_hill_80 : decode cX11_hill 80 = .ok (.iadd, 1) := dqn_96 (k := 43) qh_cX11_hill rfl rfl
theorem dX11_hill_81 : decode cX11_hill 81 = .ok (.iaload, 1) := dqn_46 (k := 42) qh_cX11_hill rfl rfl
theorem dX11_hill_82 : decode cX11_hill 82 = .ok (.goto 41, 3) := dqn_167 (k := 39) (u := 41) qh_cX11_hill rfl rfl rfl (sg_p rfl rfl)
theorem dX11_hill_85 : decode cX11_hill 85 = .ok (.iload_n 2, 1) := dqn_28 (k := 38) qh_cX11_hill rfl rfl
theorem dX11_hill_86 : decode cX11_hill 86 = .ok (.bipush 20, 2) := dqn_16 (k := 36) (u := 20) qh_cX11_hill rfl rfl rfl (by decide)
theorem dX11_hill_88 : decode cX11_hill 88 = .ok (.bipush 19, 2) := dqn_16 (k := 34) (u := 19) qh_cX11_hill rfl rfl rfl (by decide)
theorem dX11_hill_90 : decode cX11_hill 90 = .ok (.iload_n 3, 1) := dqn_29 (k := 33) qh_cX11_hill rfl rfl
theorem dX11_hill_91 : decode cX11_hill 91 = .ok (.iadd, 1) := dqn_96 (k := 32) qh_cX11_hill rfl rfl
theorem dX11_hill_92 : decode cX11_hill 92 = .ok (.invokestatic 78, 3) := dqn_184 (k := 29) qh_cX11_hill rfl rfl rfl
theorem dX11_hill_95 : decode cX11_hill 95 = .ok (.ifCond .eq 27, 3) := dqn_153 (k := 26) (u := 27) qh_cX11_hill rfl rfl rfl (sg_p rfl rfl)
theorem dX11_hill_98 : decode cX11_hill 98 = .ok (.aload_n 0, 1) := dqn_42 (k := 25) qh_cX11_hill rfl rfl
theorem dX11_hill_99 : decode cX11_hill 99 = .ok (.getfield 26, 3) := dqn_180 (k := 22) qh_cX11_hill rfl rfl rfl
theorem dX11_hill_102 : decode cX11_hill 102 = .ok (.sipush 157, 3) := dqn_17 (k := 19) (u := 157) qh_cX11_hill rfl rfl rfl (sg_p rfl rfl)
theorem dX11_hill_105 : decode cX11_hill 105 = .ok (.iload_n 1, 1) := dqn_27 (k := 18) qh_cX11_hill rfl rfl
theorem dX11_hill_106 : decode cX11_hill 106 = .ok (.imul, 1) := dqn_104 (k := 17) qh_cX11_hill rfl rfl
theorem dX11_hill_107 : decode cX11_hill 107 = .ok (.iconst 5, 1) := dqn_8 (k := 16) qh_cX11_hill rfl rfl
theorem dX11_hill_108 : decode cX11_hill 108 = .ok (.iadd, 1) := dqn_96 (k := 15) qh_cX11_hill rfl rfl
theorem dX11_hill_109 : decode cX11_hill 109 = .ok (.iconst 2, 1) := dqn_5 (k := 14) qh_cX11_hill rfl rfl
theorem dX11_hill_110 : decode cX11_hill 110 = .ok (.iload_n 2, 1) := dqn_28 (k := 13) qh_cX11_hill rfl rfl
theorem dX11_hill_111 : decode cX11_hill 111 = .ok (.bipush 20, 2) := dqn_16 (k := 11) (u := 20) qh_cX11_hill rfl rfl rfl (by decide)
theorem dX11_hill_113 : decode cX11_hill 113 = .ok (.isub, 1) := dqn_100 (k := 10) qh_cX11_hill rfl rfl
theorem dX11_hill_114 : decode cX11_hill 114 = .ok (.imul, 1) := dqn_104 (k := 9) qh_cX11_hill rfl rfl
theorem dX11_hill_115 : decode cX11_hill 115 = .ok (.iadd, 1) := dqn_96 (k := 8) qh_cX11_hill rfl rfl
theorem dX11_hill_116 : decode cX11_hill 116 = .ok (.iconst 1, 1) := dqn_4 (k := 7) qh_cX11_hill rfl rfl
theorem dX11_hill_117 : decode cX11_hill 117 = .ok (.iadd, 1) := dqn_96 (k := 6) qh_cX11_hill rfl rfl
theorem dX11_hill_118 : decode cX11_hill 118 = .ok (.iaload, 1) := dqn_46 (k := 5) qh_cX11_hill rfl rfl
theorem dX11_hill_119 : decode cX11_hill 119 = .ok (.goto 4, 3) := dqn_167 (k := 2) (u := 4) qh_cX11_hill rfl rfl rfl (sg_p rfl rfl)
theorem dX11_hill_122 : decode cX11_hill 122 = .ok (.iconst (-1), 1) := dqn_2 (k := 1) qh_cX11_hill rfl rfl
theorem dX11_hill_123 : decode cX11_hill 123 = .ok (.ireturn, 1) := dqn_172 (k := 0) qh_cX11_hill rfl rfl
theorem dX11_work_0 : decode cX11_work 0 = .ok (.aload_n 0, 1) := dqn_42 (k := 63) qh_cX11_work rfl rfl
theorem dX11_work_1 : decode cX11_work 1 = .ok (.iconst 0, 1) := dqn_3 (k := 62) qh_cX11_work rfl rfl
theorem dX11_work_2 : decode cX11_work 2 = .ok (.putfield 70, 3) := dqn_181 (k := 59) qh_cX11_work rfl rfl rfl
theorem dX11_work_5 : decode cX11_work 5 = .ok (.aload_n 0, 1) := dqn_42 (k := 58) qh_cX11_work rfl rfl
theorem dX11_work_6 : decode cX11_work 6 = .ok (.iload_n 1, 1) := dqn_27 (k := 57) qh_cX11_work rfl rfl
theorem dX11_work_7 : decode cX11_work 7 = .ok (.invokevirtual 225, 3) := dqn_182 (k := 54) qh_cX11_work rfl rfl rfl
theorem dX11_work_10 : decode cX11_work 10 = .ok (.ifCond .eq 51, 3) := dqn_153 (k := 51) (u := 51) qh_cX11_work rfl rfl rfl (sg_p rfl rfl)
theorem dX11_work_13 : decode cX11_work 13 = .ok (.iload_n 2, 1) := dqn_28 (k := 50) qh_cX11_work rfl rfl
theorem dX11_work_14 : decode cX11_work 14 = .ok (.iconst 0, 1) := dqn_3 (k := 49) qh_cX11_work rfl rfl
theorem dX11_work_15 : decode cX11_work 15 = .ok (.aload_n 0, 1) := dqn_42 (k := 48) qh_cX11_work rfl rfl
theorem dX11_work_16 : decode cX11_work 16 = .ok (.getfield 29, 3) := dqn_180 (k := 45) qh_cX11_work rfl rfl rfl
theorem dX11_work_19 : decode cX11_work 19 = .ok (.bipush 37, 2) := dqn_16 (k := 43) (u := 37) qh_cX11_work rfl rfl rfl (by decide)
theorem dX11_work_21 : decode cX11_work 21 = .ok (.iload_n 1, 1) := dqn_27 (k := 42) qh_cX11_work rfl rfl
theorem dX11_work_22 : decode cX11_work 22 = .ok (.imul, 1) := dqn_104 (k := 41) qh_cX11_work rfl rfl
theorem dX11_work_23 : decode cX11_work 23 = .ok (.iaload, 1) := dqn_46 (k := 40) qh_cX11_work rfl rfl
theorem dX11_work_24 : decode cX11_work 24 = .ok (.iconst 1, 1) := dqn_4 (k := 39) qh_cX11_work rfl rfl
theorem dX11_work_25 : decode cX11_work 25 = .ok (.isub, 1) := dqn_100 (k := 38) qh_cX11_work rfl rfl
theorem dX11_work_26 : decode cX11_work 26 = .ok (.invokestatic 78, 3) := dqn_184 (k := 35) qh_cX11_work rfl rfl rfl
theorem dX11_work_29 : decode cX11_work 29 = .ok (.ifCond .eq 32, 3) := dqn_153 (k := 32) (u := 32) qh_cX11_work rfl rfl rfl (sg_p rfl rfl)
theorem dX11_work_32 : decode cX11_work 32 = .ok (.iload_n 3, 1) := dqn_29 (k := 31) qh_cX11_work rfl rfl
theorem dX11_work_33 : decode cX11_work 33 = .ok (.iconst 0, 1) := dqn_3 (k := 30) qh_cX11_work rfl rfl
theorem dX11_work_34 : decode cX11_work 34 = .ok (.iconst 2, 1) := dqn_5 (k := 29) qh_cX11_work rfl rfl
theorem dX11_work_35 : decode cX11_work 35 = .ok (.invokestatic 78, 3) := dqn_184 (k := 26) qh_cX11_work rfl rfl rfl
theorem dX11_work_38 : decode cX11_work 38 = .ok (.ifCond .eq 23, 3) := dqn_153 (k := 23) (u := 23) qh_cX11_work rfl rfl rfl (sg_p rfl rfl)
theorem dX11_work_41 : decode cX11_work 41 = .ok (.aload_n 0, 1) := dqn_42 (k := 22) qh_cX11_work rfl rfl
theorem dX11_work_42 : decode cX11_work 42 = .ok (.getfield 29, 3) := dqn_180 (k := 19) qh_cX11_work rfl rfl rfl
theorem dX11_work_45 : decode cX11_work 45 = .ok (.bipush 37, 2) := dqn_16 (k := 17) (u := 37) qh_cX11_work rfl rfl rfl (by decide)
theorem dX11_work_47 : decode cX11_work 47 = .ok (.iload_n 1, 1) := dqn_27 (k := 16) qh_cX11_work rfl rfl
theorem dX11_work_48 : decode cX11_work 48 = .ok (.imul, 1) := dqn_104 (k := 15) qh_cX11_work rfl rfl
theorem dX11_work_49 : decode cX11_work 49 = .ok (.iconst 1, 1) := dqn_4 (k := 14) qh_cX11_work rfl rfl
theorem dX11_work_50 : decode cX11_work 50 = .ok (.iadd, 1) := dqn_96 (k := 13) qh_cX11_work rfl rfl
theorem dX11_work_51 : decode cX11_work 51 = .ok (.iconst 3, 1) := dqn_6 (k := 12) qh_cX11_work rfl rfl
theorem dX11_work_52 : decode cX11_work 52 = .ok (.iload_n 2, 1) := dqn_28 (k := 11) qh_cX11_work rfl rfl
theorem dX11_work_53 : decode cX11_work 53 = .ok (.imul, 1) := dqn_104 (k := 10) qh_cX11_work rfl rfl
theorem dX11_work_54 : decode cX11_work 54 = .ok (.iadd, 1) := dqn_96 (k := 9) qh_cX11_work rfl rfl
theorem dX11_work_55 : decode cX11_work 55 = .ok (.iload_n 3, 1) := dqn_29 (k := 8) qh_cX11_work rfl rfl
theorem dX11_work_56 : decode cX11_work 56 = .ok (.iadd, 1) := dqn_96 (k := 7) qh_cX11_work rfl rfl
theorem dX11_work_57 : decode cX11_work 57 = .ok (.iaload, 1) := dqn_46 (k := 6) qh_cX11_work rfl rfl
theorem dX11_work_58 : decode cX11_work 58 = .ok (.goto 5, 3) := dqn_167 (k := 3) (u := 5) qh_cX11_work rfl rfl rfl (sg_p rfl rfl)
theorem dX11_work_61 : decode cX11_work 61 = .ok (.bipush (-2), 2) := dqn_16 (k := 1) (u := 254) qh_cX11_work rfl rfl rfl (by decide)
theorem dX11_work_63 : decode cX11_work 63 = .ok (.ireturn, 1) := dqn_172 (k := 0) qh_cX11_work rfl rfl
/-! the reference: its tape, images, and what it tells of its rows -/
theorem hd_r {u : Nat → Nat → Int32} {h v : Int32} (hd : HD u) (bh : Bd 0 7 h) (e : v = u 168 (157 * h + 1).toNatClampNeg) : Bd 0 4 v := by
  rw [e, hix bh (by decide)]
  exact (hd h.toInt.toNat (by have := bh.1; have := bh.2; omega)).2.2
/-- an array of four rows of n: row 'to' is now what row 'fr' was -/
def MVD (u2 u : Nat → Nat → Int32) (a n fr to : Nat) : Prop := ∀ j, u2 a j = if n * to ≤ j ∧ j < n * to + n then u a (n * fr + (j - n * to)) else u a j
def MVI (u2 u : Nat → Nat → Int32) (a n fr to k : Nat) : Prop := ∀ j, u2 a j = if n * to ≤ j ∧ j < n * to + k then u a (n * fr + (j - n * to)) else u a j
theorem mvi_0 {u2 u : Nat → Nat → Int32} {a n fr to : Nat} (e : u2 a = u a) : MVI u2 u a n fr to 0 := by
  intro j
  rw [if_neg (by omega), e]
theorem mvi_s {u3 u2 u : Nat → Nat → Int32} {a n fr to k : Nat} {v : Int32} (h : MVI u2 u a n fr to k) (hk : k < n) (e : u3 = ms u2 a (n * to + k) v) (ev : v = u2 a (n * fr + k)) : MVI u3 u a n fr to (k + 1) := by
  intro j
  by_cases q : j = n * to + k
  · subst q
    have hL : u2 a (n * fr + k) = u a (n * fr + k) := by
      rw [h (n * fr + k)]
      refine if_neg ?_
      intro hc
      rcases Nat.lt_trichotomy fr to with h1 | h1 | h1
      · have : n * (fr + 1) ≤ n * to := Nat.mul_le_mul_left n h1
        rw [Nat.mul_add] at this
        omega
      · subst h1; omega
      · have : n * (to + 1) ≤ n * fr := Nat.mul_le_mul_left n h1
        rw [Nat.mul_add] at this
        omega
    rw [ms_e e, ev, hL, if_pos (by omega), Nat.add_sub_cancel_left]
  · rw [ms_i e q, h]
    by_cases q2 : n * to ≤ j ∧ j < n * to + k
    · rw [if_pos q2, if_pos (by omega)]
    · rw [if_neg q2, if_neg (by omega)]
theorem mv_ix {N t k : Int32} {n : Nat} (hN : N.toInt = n) (hn : n ≤ 600) (bt : Bd 0 3 t) (bk : 0 ≤ k.toInt ∧ k.toInt ≤ 600) : (N * t + k).toNatClampNeg = n * t.toInt.toNat + k.toInt.toNat := by
  obtain ⟨t1, t2⟩ := bt
  obtain ⟨m, hm⟩ : ∃ m : Nat, (m : Int) = t.toInt := ⟨t.toInt.toNat, by omega⟩
  have hm3 : m ≤ 3 := by omega
  have h0 : n * m ≤ 600 * 3 := Nat.mul_le_mul hn hm3
  have h1 : N.toInt * t.toInt = ((n * m : Nat) : Int) := by rw [hN, ← hm, Int.natCast_mul]
  have h2 : (N * t).toInt = ((n * m : Nat) : Int) := by rw [Int32.toInt_mul, h1, bmod (by omega) (by omega)]
  have h3 : (N * t + k).toInt = ((n * m : Nat) : Int) + k.toInt := by rw [ti_add (by omega) (by omega), h2]
  have h4 : (N * t + k).toNatClampNeg = (N * t + k).toInt.toNat := rfl
  have h5 : t.toInt.toNat = m := by omega
  rw [h4, h3, h5]
  omega
theorem mvi_st {u3 u2 u : Nat → Nat → Int32} {a n : Nat} {N f t k v : Int32} (h : MVI u2 u a n f.toInt.toNat t.toInt.toNat k.toInt.toNat) (hN : N.toInt = n) (hn : n ≤ 600) (bf : Bd 0 3 f) (bt : Bd 0 3 t) (bk : Bd 0 600 k) (hk : k < N) (e : u3 = ms u2 a (N * t + k).toNatClampNeg v) (ev : v = u2 a (N * f + k).toNatClampNeg) : MVI u3 u a n f.toInt.toNat t.toInt.toNat (k + 1).toInt.toNat := by
  have h1 := Int32.lt_iff_toInt_lt.mp hk
  rw [mv_ix hN hn bt bk] at e
  rw [mv_ix hN hn bf bk] at ev
  have e1 : (1 : Int32).toInt = 1 := rfl
  have h2 : (k + 1).toInt.toNat = k.toInt.toNat + 1 := by
    rw [ti_add (by have := bk.1; have := bk.2; omega) (by have := bk.1; have := bk.2; omega), e1]
    have := bk.1
    omega
  rw [h2]
  exact mvi_s h (by have := bk.1; omega) e ev
theorem mvi_e {u2 u : Nat → Nat → Int32} {a n : Nat} {N f t k : Int32} (h : MVI u2 u a n f.toInt.toNat t.toInt.toNat k.toInt.toNat) (hN : N.toInt = n) (bk : Bd 0 n k) (hk : N ≤ k) : MVD u2 u a n f.toInt.toNat t.toInt.toNat := by
  have h1 := Int32.le_iff_toInt_le.mp hk
  have h2 : k.toInt.toNat = n := by have := bk.2; omega
  rw [h2] at h
  exact h
theorem mvd_c {u3 u2 u u1 : Nat → Nat → Int32} {a n f t : Nat} (e2 : u3 a = u2 a) (e1 : u a = u1 a) (h : MVD u2 u a n f t) : MVD u3 u1 a n f t := by
  intro j
  rw [e2, h j, e1]
theorem my_m {u2 u : Nat → Nat → Int32} {f t : Nat} (hf : f < 4) (h : MVD u2 u 167 2 f t) (m : MY u) : MY u2 := by
  intro j hj
  rw [h (2 * j), h (2 * j + 1)]
  by_cases q : j = t
  · subst q
    rw [if_pos (by omega), if_pos (by omega)]
    have e1 : 2 * f + (2 * j - 2 * j) = 2 * f := by omega
    have e2 : 2 * f + (2 * j + 1 - 2 * j) = 2 * f + 1 := by omega
    rw [e1, e2]
    exact m f hf
  · rw [if_neg (by omega), if_neg (by omega)]
    exact m j hj
/-- a row of 157 of the hills, behind a move -/
theorem hm_at {u2 u : Nat → Nat → Int32} {f t : Nat} (h : MVD u2 u 168 314 f t) {j i k : Nat} (hi : i < 2) (hk : k < 157) : u2 168 (157 * (2 * j + i) + k) = u 168 (157 * (2 * (if j = t then f else j) + i) + k) := by
  rw [h]
  by_cases q : j = t
  · subst q
    rw [if_pos (by omega), if_pos rfl]
    congr 1
    omega
  · rw [if_neg (by omega), if_neg q]
theorem hd_m {u2 u : Nat → Nat → Int32} {f t : Nat} (hf : f < 4) (h : MVD u2 u 168 314 f t) (m : HD u) : HD u2 := by
  intro s hs
  obtain ⟨j, i, hi, hsi⟩ : ∃ j i, i < 2 ∧ s = 2 * j + i := ⟨s / 2, s % 2, by omega, by omega⟩
  subst hsi
  have hj : j < 4 := by omega
  have q := m (2 * (if j = t then f else j) + i) (by split <;> omega)
  have z0 := hm_at h (j := j) (k := 0) hi (by omega)
  have z1 := hm_at h (j := j) (k := 1) hi (by omega)
  rw [Nat.add_zero, Nat.add_zero] at z0
  refine ⟨by rw [z0]; exact q.1, fun p hp => ?_, by rw [z1]; exact q.2.2⟩
  rw [hm_at h hi (by omega), hm_at h hi (by omega)]
  exact q.2.1 p hp
theorem rcf_e {f g : Nat → Int32} (h1 : f 1 = g 1) (h6 : f 6 = g 6) (h8 : f 8 = g 8) (h10 : f 10 = g 10) (h12 : f 12 = g 12) (h : RCf g) : RCf f := by
  unfold RCf
  rw [h1, h6, h8, h10, h12]
  exact h
theorem hc_m {u2 u : Nat → Nat → Int32} {f t : Nat} (hf : f < 4) (h1 : MVD u2 u 167 2 f t) (h : MVD u2 u 168 314 f t) (m : HC u) : HC u2 := by
  intro j hj i hi hl
  have e : u2 167 (2 * j) = u 167 (2 * (if j = t then f else j)) := by
    rw [h1]
    by_cases q : j = t
    · subst q
      rw [if_pos (by omega), if_pos rfl]
      congr 1
      omega
    · rw [if_neg (by omega), if_neg q]
  rw [e] at hl
  have q := m (if j = t then f else j) (by split <;> omega) i hi hl
  exact rcf_e (hm_at h hi (by decide)) (hm_at h hi (by decide)) (hm_at h hi (by decide)) (hm_at h hi (by decide)) (hm_at h hi (by decide)) q
theorem pl_at3 {u2 u : Nat → Nat → Int32} {f t : Nat} (h : MVD u2 u 169 111 f t) {j i k : Nat} (hi : i < 3) (hk : k < 37) : u2 169 (37 * (3 * j + i) + k) = u 169 (37 * (3 * (if j = t then f else j) + i) + k) := by
  rw [h]
  by_cases q : j = t
  · subst q
    rw [if_pos (by omega), if_pos rfl]
    congr 1
    omega
  · rw [if_neg (by omega), if_neg q]
theorem pl_m {u2 u : Nat → Nat → Int32} {f t : Nat} (hf : f < 4) (h : MVD u2 u 169 111 f t) (m : PL u) : PL u2 := by
  intro s hs
  obtain ⟨j, i, hi, hsi⟩ : ∃ j i, i < 3 ∧ s = 3 * j + i := ⟨s / 3, s % 3, by omega, by omega⟩
  subst hsi
  have hj : j < 4 := by omega
  have q := m (3 * (if j = t then f else j) + i) (by split <;> omega)
  have z0 := pl_at3 h (j := j) (k := 0) hi (by omega)
  rw [Nat.add_zero, Nat.add_zero] at z0
  refine ⟨by rw [z0]; exact q.1, fun k hk => ?_⟩
  rw [pl_at3 h hi (by omega), pl_at3 h hi (by omega), pl_at3 h hi (by omega)]
  exact q.2 k hk
set_option maxHeartbeats 4000000 in
set_option maxRecDepth 100000 in
theorem c_M_fault {d : Nat} {u : Nat → Nat → Int32} {g : Nat → Nat → Int64} {ex : List MC} {what : Int32} (hd : 0 ≤ d)  : CT con0 d 0 0 yX11_fault cX11_fault 2 (some .int) [.ref 162, .int what] (Wd u g ex) (fun r h2 => ∃ (z : Int32) (u2 : Nat → Nat → Int32), r = some (.int z) ∧ h2 = Wd u2 g ex ∧ (∀ c, c ≠ 162 → u2 c = u c) ∧ (∀ j, j ≠ 0 → u2 162 j = u 162 j)) := by
  refine CT_of (by decide) (Nat.le_of_ble_eq_true rfl) (fun x hq => ?_)
  show J x yX11_fault cX11_fault 2 (some .int) d 0 0 (Wd u g ex).length 0 [(0, .ref 162), (1, .int what)] [] (Wd u g ex) 0 0
  refine J_aload_n (i := 0) (j := 0) dX11_fault_0 rfl rfl ?_
  refine J_iconst (v := 0) dX11_fault_1 (by decide) ?_
  obtain ⟨u1, e2⟩ : ∃ z, z = ms u 162 0 0 := ⟨_, rfl⟩
  refine J_put (C := RX11) (T := TX11) (Z := 43) (ci := 11) (f := 0) (ty0 := tyX11) dX11_fault_2 inG11 rfl tyX11_ok nmX11 (by decide) k1264 rfl rfl wc_162 (Nat.le_of_ble_eq_true rfl) (fun _ _ => ⟨rfl, rfl⟩) (ws e2 wk_162 rfl) ?_
  refine J_iload_n (i := 1) (j := 1) dX11_fault_5 rfl rfl ?_
  refine J_if_ne (tgt := 18) dX11_fault_6 (by decide) (fun c3 => ?_) (fun c3 => ?_)
  · refine J_iload_n (i := 1) (j := 1) dX11_fault_18 rfl rfl ?_
    refine J_iconst (v := 1) dX11_fault_19 (by decide) ?_
    refine J_icmp_ne (tgt := 32) dX11_fault_20 (by decide) (fun c4 => ?_) (fun c4 => ?_)
    · refine J_iconst (v := (-1)) dX11_fault_32 (by decide) ?_
      exact J_iret hq dX11_fault_33 rfl wlen (Nat.le_refl _) (Nat.le_refl _) ⟨((-1) : Int32), u1, rfl, rfl, (fun c k0_ => (ms_c e2 k0_)), (fun j k0_ => (ms_i e2 k0_))⟩
    · refine J_aload_n (i := 0) (j := 0) dX11_fault_23 rfl rfl ?_
      refine J_get (C := RX11) (T := TX11) (Z := 43) (ci := 11) (f := 4) dX11_fault_24 inG11 rfl (by decide) k1268 wc_162 rfl ?_
      refine J_iconst (v := 0) dX11_fault_27 (by decide) ?_
      refine J_iald dX11_fault_28 wc_166 (vin (bd_c (v := 0) (lo := 0) (hi := 0) (by decide)) (by decide)) ?_
      refine J_ci (v := u 166 0) (congrFun (ms_c e2 (Nat.ne_of_beq_eq_false rfl)) 0) ?_
      refine J_goto (tgt := 33) dX11_fault_29 (by decide) ?_
      exact J_iret hq dX11_fault_33 rfl wlen (Nat.le_refl _) (Nat.le_refl _) ⟨(u 166 0), u1, rfl, rfl, (fun c k0_ => (ms_c e2 k0_)), (fun j k0_ => (ms_i e2 k0_))⟩
  · refine J_aload_n (i := 0) (j := 0) dX11_fault_9 rfl rfl ?_
    refine J_get (C := RX11) (T := TX11) (Z := 43) (ci := 11) (f := 3) dX11_fault_10 inG11 rfl (by decide) k1267 wc_162 rfl ?_
    refine J_iconst (v := 0) dX11_fault_13 (by decide) ?_
    refine J_iald dX11_fault_14 wc_165 (vin (bd_c (v := 0) (lo := 0) (hi := 0) (by decide)) (by decide)) ?_
    refine J_ci (v := u 165 0) (congrFun (ms_c e2 (Nat.ne_of_beq_eq_false rfl)) 0) ?_
    refine J_goto (tgt := 33) dX11_fault_15 (by decide) ?_
    exact J_iret hq dX11_fault_33 rfl wlen (Nat.le_refl _) (Nat.le_refl _) ⟨(u 165 0), u1, rfl, rfl, (fun c k0_ => (ms_c e2 k0_)), (fun j k0_ => (ms_i e2 k0_))⟩
set_option maxHeartbeats 4000000 in
set_option maxRecDepth 100000 in
theorem c_M_count {d : Nat} {u : Nat → Nat → Int32} {g : Nat → Nat → Int64} {ex : List MC} {what : Int32} (hd : 1 ≤ d)  : CT con0 d 0 0 yX11_count cX11_count 2 (some .int) [.ref 162, .int what] (Wd u g ex) (fun r h2 => ∃ (z : Int32) (u2 : Nat → Nat → Int32), r = some (.int z) ∧ h2 = Wd u2 g ex ∧ (∀ c, c ≠ 162 → u2 c = u c) ∧ (∀ j, j ≠ 0 → u2 162 j = u 162 j)) := by
  refine CT_of (by decide) (Nat.le_of_ble_eq_true rfl) (fun x hq => ?_)
  show J x yX11_count cX11_count 2 (some .int) d 0 0 (Wd u g ex).length 0 [(0, .ref 162), (1, .int what)] [] (Wd u g ex) 0 0
  refine J_aload_n (i := 0) (j := 0) dX11_count_0 rfl rfl ?_
  refine J_iconst (v := 0) dX11_count_1 (by decide) ?_
  obtain ⟨u1, e2⟩ : ∃ z, z = ms u 162 0 0 := ⟨_, rfl⟩
  refine J_put (C := RX11) (T := TX11) (Z := 43) (ci := 11) (f := 0) (ty0 := tyX11) dX11_count_2 inG11 rfl tyX11_ok nmX11 (by decide) k1264 rfl rfl wc_162 (Nat.le_of_ble_eq_true rfl) (fun _ _ => ⟨rfl, rfl⟩) (ws e2 wk_162 rfl) ?_
  refine J_iload_n (i := 1) (j := 1) dX11_count_5 rfl rfl ?_
  refine J_iconst (v := 0) dX11_count_6 (by decide) ?_
  refine J_iconst (v := 1) dX11_count_7 (by decide) ?_
  refine J_callS (As := [.int what, .int 0, .int 1]) (rest := []) dX11_count_8 (c_M_in (d := 0) (u := u1) (g := g) (ex := ex) (v := what) (low := 0) (high := 1)  (by decide) ) hq.n k1406 k1407 k97 k1408 np_X11_in (Nat.le_trans (by decide) hd) (by decide) (Nat.le_refl _) (Nat.le_refl _) wlen rfl (Nat.le_of_ble_eq_true rfl) (fun r_ h_ p3 => ?_)
  obtain ⟨t4, rfl, rfl, h5, h6⟩ := p3
  refine J_ifB_eq (tgt := 23) dX11_count_11 (by decide) (fun c7 => ?_) (fun c7 => ?_)
  · refine J_bipush (v := (-2)) dX11_count_23 (by decide) ?_
    exact J_iret hq dX11_count_25 rfl wlen (Nat.le_refl _) (Nat.le_refl _) ⟨((-2) : Int32), u1, rfl, rfl, (fun c k0_ => (ms_c e2 k0_)), (fun j k0_ => (ms_i e2 k0_))⟩
  · refine J_aload_n (i := 0) (j := 0) dX11_count_14 rfl rfl ?_
    refine J_get (C := RX11) (T := TX11) (Z := 43) (ci := 11) (f := 5) dX11_count_15 inG11 rfl (by decide) k1269 wc_162 rfl ?_
    refine J_iload_n (i := 1) (j := 1) dX11_count_18 rfl rfl ?_
    refine J_iald dX11_count_19 wc_167 (vin (bd_le_hi (bd_le_lo (bd_any what) (h5 c7) (bd_c (v := 0) (lo := 0) (hi := 0) (by decide))) (h6 c7) (bd_c (v := 1) (lo := 1) (hi := 1) (by decide))) (by decide)) ?_
    refine J_topi (fun v8 qv8 => ?_)
    refine J_goto (tgt := 25) dX11_count_20 (by decide) ?_
    exact J_iret hq dX11_count_25 rfl wlen (Nat.le_refl _) (Nat.le_refl _) ⟨v8, u1, rfl, rfl, (fun c k0_ => (ms_c e2 k0_)), (fun j k0_ => (ms_i e2 k0_))⟩
set_option maxHeartbeats 4000000 in
set_option maxRecDepth 100000 in
theorem c_M_hill {d : Nat} {u : Nat → Nat → Int32} {g : Nat → Nat → Int64} {ex : List MC} {hill : Int32} {what : Int32} (hd : 2 ≤ d) (hp0 : (MY u)) (hp1 : (HD u)) : CT con0 d 0 0 yX11_hill cX11_hill 4 (some .int) [.ref 162, .int hill, .int what] (Wd u g ex) (fun r h2 => ∃ (z : Int32) (u2 : Nat → Nat → Int32), r = some (.int z) ∧ h2 = Wd u2 g ex ∧ (∀ c, c ≠ 162 → u2 c = u c) ∧ (∀ j, j ≠ 0 → u2 162 j = u 162 j)) := by
  refine CT_of (by decide) (Nat.le_of_ble_eq_true rfl) (fun x hq => ?_)
  show J x yX11_hill cX11_hill 4 (some .int) d 0 0 (Wd u g ex).length 0 [(0, .ref 162), (1, .int hill), (2, .int what)] [] (Wd u g ex) 0 0
  refine J_aload_n (i := 0) (j := 0) dX11_hill_0 rfl rfl ?_
  refine J_iconst (v := 0) dX11_hill_1 (by decide) ?_
  obtain ⟨u1, e2⟩ : ∃ z, z = ms u 162 0 0 := ⟨_, rfl⟩
  refine J_put (C := RX11) (T := TX11) (Z := 43) (ci := 11) (f := 0) (ty0 := tyX11) dX11_hill_2 inG11 rfl tyX11_ok nmX11 (by decide) k1264 rfl rfl wc_162 (Nat.le_of_ble_eq_true rfl) (fun _ _ => ⟨rfl, rfl⟩) (ws e2 wk_162 rfl) ?_
  refine J_aload_n (i := 0) (j := 0) dX11_hill_5 rfl rfl ?_
  refine J_iload_n (i := 1) (j := 1) dX11_hill_6 rfl rfl ?_
  refine J_callV (As := [.int hill]) (rest := []) dX11_hill_7 (c_M_isHill (d := 1) (u := u1) (g := g) (ex := ex) (h := hill)  (by decide) (bd_r (congrFun (ms_c e2 (Nat.ne_of_beq_eq_false rfl)) 0) (hp0 0 (by decide)).1)) hq.n k1495 k1497 k51 wc_162 rfl rfl k97 k1498 np_X11_isHill (Nat.le_trans (by decide) hd) (by decide) (Nat.le_refl _) (Nat.le_refl _) wlen rfl (Nat.le_of_ble_eq_true rfl) (fun r_ h_ p3 => ?_)
  obtain ⟨t4, rfl, rfl, h5, h6⟩ := p3
  refine J_ifB_ne (tgt := 15) dX11_hill_10 (by decide) (fun c7 => ?_) (fun c7 => ?_)
  · refine J_aload_n (i := 0) (j := 0) dX11_hill_15 rfl rfl ?_
    refine J_get (C := RX11) (T := TX11) (Z := 43) (ci := 11) (f := 6) dX11_hill_16 inG11 rfl (by decide) k1270 wc_162 rfl ?_
    refine J_sipush (v := 157) dX11_hill_19 (by decide) ?_
    refine J_iload_n (i := 1) (j := 1) dX11_hill_22 rfl rfl ?_
    refine J_imul dX11_hill_23 ?_
    refine J_iconst (v := 1) dX11_hill_24 (by decide) ?_
    refine J_iadd dX11_hill_25 ?_
    refine J_iald dX11_hill_26 wc_168 (vin (bd_add (l := 1) (h := 158) (bd_mul (l := 0) (h := 157) (bd_c (v := 157) (lo := 157) (hi := 157) (by decide)) (h5 c7) (by decide)) (bd_c (v := 1) (lo := 1) (hi := 1) (by decide)) (by decide)) (by decide)) ?_
    refine J_topi (fun v8 qv8 => ?_)
    refine J_istore_n (i := 3) (lw := [(3, .int v8), (0, .ref 162), (1, .int hill), (2, .int what)]) dX11_hill_27 rfl (by decide) rfl ?_
    refine J_iload_n (i := 2) (j := 3) dX11_hill_28 rfl rfl ?_
    refine J_iconst (v := 0) dX11_hill_29 (by decide) ?_
    refine J_iconst (v := 4) dX11_hill_30 (by decide) ?_
    refine J_callS (As := [.int what, .int 0, .int 4]) (rest := []) dX11_hill_31 (c_M_in (d := 0) (u := u1) (g := g) (ex := ex) (v := what) (low := 0) (high := 4)  (by decide) ) hq.n k1406 k1407 k97 k1408 np_X11_in (Nat.le_trans (by decide) hd) (by decide) (Nat.le_refl _) (Nat.le_refl _) wlen rfl (Nat.le_of_ble_eq_true rfl) (fun r_ h_ p9 => ?_)
    obtain ⟨t10, rfl, rfl, h11, h12⟩ := p9
    refine J_ifB_eq (tgt := 50) dX11_hill_34 (by decide) (fun c13 => ?_) (fun c13 => ?_)
    · refine J_iload_n (i := 2) (j := 3) dX11_hill_50 rfl rfl ?_
      refine J_bipush (v := 10) dX11_hill_51 (by decide) ?_
      refine J_bipush (v := 9) dX11_hill_53 (by decide) ?_
      refine J_iload_n (i := 3) (j := 0) dX11_hill_55 rfl rfl ?_
      refine J_iadd dX11_hill_56 ?_
      refine J_callS (As := [.int what, .int 10, .int ((9 : Int32) + v8)]) (rest := []) dX11_hill_57 (c_M_in (d := 0) (u := u1) (g := g) (ex := ex) (v := what) (low := 10) (high := ((9 : Int32) + v8))  (by decide) ) hq.n k1406 k1407 k97 k1408 np_X11_in (Nat.le_trans (by decide) hd) (by decide) (Nat.le_refl _) (Nat.le_refl _) wlen rfl (Nat.le_of_ble_eq_true rfl) (fun r_ h_ p14 => ?_)
      obtain ⟨t15, rfl, rfl, h16, h17⟩ := p14
      refine J_ifB_eq (tgt := 85) dX11_hill_60 (by decide) (fun c18 => ?_) (fun c18 => ?_)
      · refine J_iload_n (i := 2) (j := 3) dX11_hill_85 rfl rfl ?_
        refine J_bipush (v := 20) dX11_hill_86 (by decide) ?_
        refine J_bipush (v := 19) dX11_hill_88 (by decide) ?_
        refine J_iload_n (i := 3) (j := 0) dX11_hill_90 rfl rfl ?_
        refine J_iadd dX11_hill_91 ?_
        refine J_callS (As := [.int what, .int 20, .int ((19 : Int32) + v8)]) (rest := []) dX11_hill_92 (c_M_in (d := 0) (u := u1) (g := g) (ex := ex) (v := what) (low := 20) (high := ((19 : Int32) + v8))  (by decide) ) hq.n k1406 k1407 k97 k1408 np_X11_in (Nat.le_trans (by decide) hd) (by decide) (Nat.le_refl _) (Nat.le_refl _) wlen rfl (Nat.le_of_ble_eq_true rfl) (fun r_ h_ p19 => ?_)
        obtain ⟨t20, rfl, rfl, h21, h22⟩ := p19
        refine J_ifB_eq (tgt := 122) dX11_hill_95 (by decide) (fun c23 => ?_) (fun c23 => ?_)
        · refine J_iconst (v := (-1)) dX11_hill_122 (by decide) ?_
          exact J_iret hq dX11_hill_123 rfl wlen (Nat.le_refl _) (Nat.le_refl _) ⟨((-1) : Int32), u1, rfl, rfl, (fun c k0_ => (ms_c e2 k0_)), (fun j k0_ => (ms_i e2 k0_))⟩
        · refine J_aload_n (i := 0) (j := 1) dX11_hill_98 rfl rfl ?_
          refine J_get (C := RX11) (T := TX11) (Z := 43) (ci := 11) (f := 6) dX11_hill_99 inG11 rfl (by decide) k1270 wc_162 rfl ?_
          refine J_sipush (v := 157) dX11_hill_102 (by decide) ?_
          refine J_iload_n (i := 1) (j := 2) dX11_hill_105 rfl rfl ?_
          refine J_imul dX11_hill_106 ?_
          refine J_iconst (v := 5) dX11_hill_107 (by decide) ?_
          refine J_iadd dX11_hill_108 ?_
          refine J_iconst (v := 2) dX11_hill_109 (by decide) ?_
          refine J_iload_n (i := 2) (j := 3) dX11_hill_110 rfl rfl ?_
          refine J_bipush (v := 20) dX11_hill_111 (by decide) ?_
          refine J_isub dX11_hill_113 ?_
          refine J_imul dX11_hill_114 ?_
          refine J_iadd dX11_hill_115 ?_
          refine J_iconst (v := 1) dX11_hill_116 (by decide) ?_
          refine J_iadd dX11_hill_117 ?_
          refine J_iald dX11_hill_118 wc_168 (vin (bd_add (l := 6) (h := 169) (bd_add (l := 5) (h := 168) (bd_add (l := 5) (h := 162) (bd_mul (l := 0) (h := 157) (bd_c (v := 157) (lo := 157) (hi := 157) (by decide)) (h5 c7) (by decide)) (bd_c (v := 5) (lo := 5) (hi := 5) (by decide)) (by decide)) (bd_mul (l := 0) (h := 6) (bd_c (v := 2) (lo := 2) (hi := 2) (by decide)) (bd_sub (l := 0) (h := 3) (bd_le_hi (bd_le_lo (bd_any what) (h21 c23) (bd_c (v := 20) (lo := 20) (hi := 20) (by decide))) (h22 c23) (bd_add (l := 19) (h := 23) (bd_c (v := 19) (lo := 19) (hi := 19) (by decide)) (hd_r (hd_c (ms_c e2 (Nat.ne_of_beq_eq_false rfl)) hp1) (bd_w (l := 0) (h := 7) (h5 c7) (by decide)) qv8) (by decide))) (bd_c (v := 20) (lo := 20) (hi := 20) (by decide)) (by decide)) (by decide)) (by decide)) (bd_c (v := 1) (lo := 1) (hi := 1) (by decide)) (by decide)) (by decide)) ?_
          refine J_topi (fun v24 qv24 => ?_)
          refine J_goto (tgt := 123) dX11_hill_119 (by decide) ?_
          exact J_iret hq dX11_hill_123 rfl wlen (Nat.le_refl _) (Nat.le_refl _) ⟨v24, u1, rfl, rfl, (fun c k0_ => (ms_c e2 k0_)), (fun j k0_ => (ms_i e2 k0_))⟩
      · refine J_aload_n (i := 0) (j := 1) dX11_hill_63 rfl rfl ?_
        refine J_get (C := RX11) (T := TX11) (Z := 43) (ci := 11) (f := 6) dX11_hill_64 inG11 rfl (by decide) k1270 wc_162 rfl ?_
        refine J_sipush (v := 157) dX11_hill_67 (by decide) ?_
        refine J_iload_n (i := 1) (j := 2) dX11_hill_70 rfl rfl ?_
        refine J_imul dX11_hill_71 ?_
        refine J_iconst (v := 5) dX11_hill_72 (by decide) ?_
        refine J_iadd dX11_hill_73 ?_
        refine J_iconst (v := 2) dX11_hill_74 (by decide) ?_
        refine J_iload_n (i := 2) (j := 3) dX11_hill_75 rfl rfl ?_
        refine J_bipush (v := 10) dX11_hill_76 (by decide) ?_
        refine J_isub dX11_hill_78 ?_
        refine J_imul dX11_hill_79 ?_
        refine J_iadd dX11_hill_80 ?_
        refine J_iald dX11_hill_81 wc_168 (vin (bd_add (l := 5) (h := 168) (bd_add (l := 5) (h := 162) (bd_mul (l := 0) (h := 157) (bd_c (v := 157) (lo := 157) (hi := 157) (by decide)) (h5 c7) (by decide)) (bd_c (v := 5) (lo := 5) (hi := 5) (by decide)) (by decide)) (bd_mul (l := 0) (h := 6) (bd_c (v := 2) (lo := 2) (hi := 2) (by decide)) (bd_sub (l := 0) (h := 3) (bd_le_hi (bd_le_lo (bd_any what) (h16 c18) (bd_c (v := 10) (lo := 10) (hi := 10) (by decide))) (h17 c18) (bd_add (l := 9) (h := 13) (bd_c (v := 9) (lo := 9) (hi := 9) (by decide)) (hd_r (hd_c (ms_c e2 (Nat.ne_of_beq_eq_false rfl)) hp1) (bd_w (l := 0) (h := 7) (h5 c7) (by decide)) qv8) (by decide))) (bd_c (v := 10) (lo := 10) (hi := 10) (by decide)) (by decide)) (by decide)) (by decide)) (by decide)) ?_
        refine J_topi (fun v25 qv25 => ?_)
        refine J_goto (tgt := 123) dX11_hill_82 (by decide) ?_
        exact J_iret hq dX11_hill_123 rfl wlen (Nat.le_refl _) (Nat.le_refl _) ⟨v25, u1, rfl, rfl, (fun c k0_ => (ms_c e2 k0_)), (fun j k0_ => (ms_i e2 k0_))⟩
    · refine J_aload_n (i := 0) (j := 1) dX11_hill_37 rfl rfl ?_
      refine J_get (C := RX11) (T := TX11) (Z := 43) (ci := 11) (f := 6) dX11_hill_38 inG11 rfl (by decide) k1270 wc_162 rfl ?_
      refine J_sipush (v := 157) dX11_hill_41 (by decide) ?_
      refine J_iload_n (i := 1) (j := 2) dX11_hill_44 rfl rfl ?_
      refine J_imul dX11_hill_45 ?_
      refine J_iload_n (i := 2) (j := 3) dX11_hill_46 rfl rfl ?_
      refine J_iadd dX11_hill_47 ?_
      refine J_iald dX11_hill_48 wc_168 (vin (bd_add (l := 0) (h := 161) (bd_mul (l := 0) (h := 157) (bd_c (v := 157) (lo := 157) (hi := 157) (by decide)) (h5 c7) (by decide)) (bd_le_hi (bd_le_lo (bd_any what) (h11 c13) (bd_c (v := 0) (lo := 0) (hi := 0) (by decide))) (h12 c13) (bd_c (v := 4) (lo := 4) (hi := 4) (by decide))) (by decide)) (by decide)) ?_
      refine J_topi (fun v26 qv26 => ?_)
      exact J_iret hq dX11_hill_49 rfl wlen (Nat.le_refl _) (Nat.le_refl _) ⟨v26, u1, rfl, rfl, (fun c k0_ => (ms_c e2 k0_)), (fun j k0_ => (ms_i e2 k0_))⟩
  · refine J_iconst (v := (-1)) dX11_hill_13 (by decide) ?_
    exact J_iret hq dX11_hill_14 rfl wlen (Nat.le_refl _) (Nat.le_refl _) ⟨((-1) : Int32), u1, rfl, rfl, (fun c k0_ => (ms_c e2 k0_)), (fun j k0_ => (ms_i e2 k0_))⟩
set_option maxHeartbeats 4000000 in
set_option maxRecDepth 100000 in
theorem c_M_work {d : Nat} {u : Nat → Nat → Int32} {g : Nat → Nat → Int64} {ex : List MC} {plan : Int32} {work : Int32} {what : Int32} (hd : 2 ≤ d) (hp0 : (MY u)) (hp1 : (PL u)) : CT con0 d 0 0 yX11_work cX11_work 4 (some .int) [.ref 162, .int plan, .int work, .int what] (Wd u g ex) (fun r h2 => ∃ (z : Int32) (u2 : Nat → Nat → Int32), r = some (.int z) ∧ h2 = Wd u2 g ex ∧ (∀ c, c ≠ 162 → u2 c = u c) ∧ (∀ j, j ≠ 0 → u2 162 j = u 162 j)) := by
  refine CT_of (by decide) (Nat.le_of_ble_eq_true rfl) (fun x hq => ?_)
  show J x yX11_work cX11_work 4 (some .int) d 0 0 (Wd u g ex).length 0 [(0, .ref 162), (1, .int plan), (2, .int work), (3, .int what)] [] (Wd u g ex) 0 0
  refine J_aload_n (i := 0) (j := 0) dX11_work_0 rfl rfl ?_
  refine J_iconst (v := 0) dX11_work_1 (by decide) ?_
  obtain ⟨u1, e2⟩ : ∃ z, z = ms u 162 0 0 := ⟨_, rfl⟩
  refine J_put (C := RX11) (T := TX11) (Z := 43) (ci := 11) (f := 0) (ty0 := tyX11) dX11_work_2 inG11 rfl tyX11_ok nmX11 (by decide) k1264 rfl rfl wc_162 (Nat.le_of_ble_eq_true rfl) (fun _ _ => ⟨rfl, rfl⟩) (ws e2 wk_162 rfl) ?_
  refine J_aload_n (i := 0) (j := 0) dX11_work_5 rfl rfl ?_
  refine J_iload_n (i := 1) (j := 1) dX11_work_6 rfl rfl ?_
  refine J_callV (As := [.int plan]) (rest := []) dX11_work_7 (c_M_isPlan (d := 1) (u := u1) (g := g) (ex := ex) (p := plan)  (by decide) (bd_r (congrFun (ms_c e2 (Nat.ne_of_beq_eq_false rfl)) 1) (hp0 0 (by decide)).2)) hq.n k1507 k1509 k53 wc_162 rfl rfl k97 k1510 np_X11_isPlan (Nat.le_trans (by decide) hd) (by decide) (Nat.le_refl _) (Nat.le_refl _) wlen rfl (Nat.le_of_ble_eq_true rfl) (fun r_ h_ p3 => ?_)
  obtain ⟨t4, rfl, rfl, h5⟩ := p3
  refine J_ifB_eq (tgt := 61) dX11_work_10 (by decide) (fun c6 => ?_) (fun c6 => ?_)
  · refine J_bipush (v := (-2)) dX11_work_61 (by decide) ?_
    exact J_iret hq dX11_work_63 rfl wlen (Nat.le_refl _) (Nat.le_refl _) ⟨((-2) : Int32), u1, rfl, rfl, (fun c k0_ => (ms_c e2 k0_)), (fun j k0_ => (ms_i e2 k0_))⟩
  · refine J_iload_n (i := 2) (j := 2) dX11_work_13 rfl rfl ?_
    refine J_iconst (v := 0) dX11_work_14 (by decide) ?_
    refine J_aload_n (i := 0) (j := 0) dX11_work_15 rfl rfl ?_
    refine J_get (C := RX11) (T := TX11) (Z := 43) (ci := 11) (f := 7) dX11_work_16 inG11 rfl (by decide) k1271 wc_162 rfl ?_
    refine J_bipush (v := 37) dX11_work_19 (by decide) ?_
    refine J_iload_n (i := 1) (j := 1) dX11_work_21 rfl rfl ?_
    refine J_imul dX11_work_22 ?_
    refine J_iald dX11_work_23 wc_169 (vin (bd_mul (l := 0) (h := 74) (bd_c (v := 37) (lo := 37) (hi := 37) (by decide)) (h5 c6) (by decide)) (by decide)) ?_
    refine J_topi (fun v7 qv7 => ?_)
    refine J_iconst (v := 1) dX11_work_24 (by decide) ?_
    refine J_isub dX11_work_25 ?_
    refine J_callS (As := [.int work, .int 0, .int (v7 - 1)]) (rest := []) dX11_work_26 (c_M_in (d := 0) (u := u1) (g := g) (ex := ex) (v := work) (low := 0) (high := (v7 - 1))  (by decide) ) hq.n k1406 k1407 k97 k1408 np_X11_in (Nat.le_trans (by decide) hd) (by decide) (Nat.le_refl _) (Nat.le_refl _) wlen rfl (Nat.le_of_ble_eq_true rfl) (fun r_ h_ p8 => ?_)
    obtain ⟨t9, rfl, rfl, h10, h11⟩ := p8
    refine J_ifB_eq (tgt := 61) dX11_work_29 (by decide) (fun c12 => ?_) (fun c12 => ?_)
    · refine J_bipush (v := (-2)) dX11_work_61 (by decide) ?_
      exact J_iret hq dX11_work_63 rfl wlen (Nat.le_refl _) (Nat.le_refl _) ⟨((-2) : Int32), u1, rfl, rfl, (fun c k0_ => (ms_c e2 k0_)), (fun j k0_ => (ms_i e2 k0_))⟩
    · refine J_iload_n (i := 3) (j := 3) dX11_work_32 rfl rfl ?_
      refine J_iconst (v := 0) dX11_work_33 (by decide) ?_
      refine J_iconst (v := 2) dX11_work_34 (by decide) ?_
      refine J_callS (As := [.int what, .int 0, .int 2]) (rest := []) dX11_work_35 (c_M_in (d := 0) (u := u1) (g := g) (ex := ex) (v := what) (low := 0) (high := 2)  (by decide) ) hq.n k1406 k1407 k97 k1408 np_X11_in (Nat.le_trans (by decide) hd) (by decide) (Nat.le_refl _) (Nat.le_refl _) wlen rfl (Nat.le_of_ble_eq_true rfl) (fun r_ h_ p13 => ?_)
      obtain ⟨t14, rfl, rfl, h15, h16⟩ := p13
      refine J_ifB_eq (tgt := 61) dX11_work_38 (by decide) (fun c17 => ?_) (fun c17 => ?_)
      · refine J_bipush (v := (-2)) dX11_work_61 (by decide) ?_
        exact J_iret hq dX11_work_63 rfl wlen (Nat.le_refl _) (Nat.le_refl _) ⟨((-2) : Int32), u1, rfl, rfl, (fun c k0_ => (ms_c e2 k0_)), (fun j k0_ => (ms_i e2 k0_))⟩
      · refine J_aload_n (i := 0) (j := 0) dX11_work_41 rfl rfl ?_
        refine J_get (C := RX11) (T := TX11) (Z := 43) (ci := 11) (f := 7) dX11_work_42 inG11 rfl (by decide) k1271 wc_162 rfl ?_
        refine J_bipush (v := 37) dX11_work_45 (by decide) ?_
        refine J_iload_n (i := 1) (j := 1) dX11_work_47 rfl rfl ?_
        refine J_imul dX11_work_48 ?_
        refine J_iconst (v := 1) dX11_work_49 (by decide) ?_
        refine J_iadd dX11_work_50 ?_
        refine J_iconst (v := 3) dX11_work_51 (by decide) ?_
        refine J_iload_n (i := 2) (j := 2) dX11_work_52 rfl rfl ?_
        refine J_imul dX11_work_53 ?_
        refine J_iadd dX11_work_54 ?_
        refine J_iload_n (i := 3) (j := 3) dX11_work_55 rfl rfl ?_
        refine J_iadd dX11_work_56 ?_
        refine J_iald dX11_work_57 wc_169 (vin (bd_add (l := 1) (h := 110) (bd_add (l := 1) (h := 108) (bd_add (l := 1) (h := 75) (bd_mul (l := 0) (h := 74) (bd_c (v := 37) (lo := 37) (hi := 37) (by decide)) (h5 c6) (by decide)) (bd_c (v := 1) (lo := 1) (hi := 1) (by decide)) (by decide)) (bd_mul (l := 0) (h := 33) (bd_c (v := 3) (lo := 3) (hi := 3) (by decide)) (bd_le_hi (bd_le_lo (bd_any work) (h10 c12) (bd_c (v := 0) (lo := 0) (hi := 0) (by decide))) (h11 c12) (bd_sub (l := (-1)) (h := 11) (pl_cnt (pl_c (ms_c e2 (Nat.ne_of_beq_eq_false rfl)) hp1) (bd_w (l := 0) (h := 11) (h5 c6) (by decide)) qv7) (bd_c (v := 1) (lo := 1) (hi := 1) (by decide)) (by decide))) (by decide)) (by decide)) (bd_le_hi (bd_le_lo (bd_any what) (h15 c17) (bd_c (v := 0) (lo := 0) (hi := 0) (by decide))) (h16 c17) (bd_c (v := 2) (lo := 2) (hi := 2) (by decide))) (by decide)) (by decide)) ?_
        refine J_topi (fun v18 qv18 => ?_)
        refine J_goto (tgt := 63) dX11_work_58 (by decide) ?_
        exact J_iret hq dX11_work_63 rfl wlen (Nat.le_refl _) (Nat.le_refl _) ⟨v18, u1, rfl, rfl, (fun c k0_ => (ms_c e2 k0_)), (fun j k0_ => (ms_i e2 k0_))⟩
end
section
/-! the reference's reader -/
def mse (u : Nat → Nat → Int32) (a l : Int32) : Int32 := if a < l then (u 163 a.toNatClampNeg) &&& 255 else -1
theorem mse_1 {u : Nat → Nat → Int32} {a l v : Int32} (h : a < l) (e : v = u 163 a.toNatClampNeg) : v &&& 255 = mse u a l := by rw [e]; exact (if_pos h).symm
theorem mse_2 {u : Nat → Nat → Int32} {a l : Int32} (h : l ≤ a) : -1 = mse u a l := (if_neg (fun q => lt_le_no q h)).symm
theorem mse_c {u u2 : Nat → Nat → Int32} {a a2 l l2 : Int32} (e : u2 163 = u 163) (ea : a2 = a) (el : l2 = l) : mse u2 a2 l2 = mse u a l := by subst ea; subst el; unfold mse; rw [e]
theorem mse_b (v : Int32) {u : Nat → Nat → Int32} {a l : Int32} (e : v = mse u a l := by rfl) : Bd (-1) 255 v := by
  rw [e]
  unfold mse
  split
  · exact bd_w (bd_andr (a := 255) (b := 255) (v := 255) (by decide) (by decide)) (by decide)
  · decide
theorem mse_lt {u : Nat → Nat → Int32} {a l : Int32} {lo hi : Int} (b : Bd lo hi (mse u a l)) (h : 0 ≤ lo) : a < l := by
  by_cases q : a < l
  · exact q
  · exfalso
    have : mse u a l = -1 := if_neg q
    rw [this] at b
    have := b.1
    have e : (-1 : Int32).toInt = -1 := rfl
    omega
theorem c_le {lo hi : Int} {v c : Int32} (b : Bd lo hi v) (h : c.toInt ≤ lo) : c ≤ v := by rw [Int32.le_iff_toInt_le]; have := b.1; omega
theorem le_cc {lo hi : Int} {v c : Int32} (b : Bd lo hi v) (h : hi ≤ c.toInt) : v ≤ c := by rw [Int32.le_iff_toInt_le]; have := b.2; omega
/-- a token read: from place a to place b; s is its sort, 0 at the end -/
def GV (a b s : Int32) : Prop := a ≤ b ∧ (a < b ∨ s = 0)
theorem gv_t {a b c s t : Int32} (h1 : GV a b s) (h2 : GV b c t) : GV a c t := by
  have x1 := Int32.le_iff_toInt_le.mp h1.1
  have x2 := Int32.le_iff_toInt_le.mp h2.1
  refine ⟨by rw [Int32.le_iff_toInt_le]; omega, ?_⟩
  rcases h2.2 with h | h
  · have x3 := Int32.lt_iff_toInt_lt.mp h
    exact Or.inl (by rw [Int32.lt_iff_toInt_lt]; omega)
  · exact Or.inr h
theorem gv_r {a b c a2 b2 c2 : Int32} (e1 : a2 = a) (e2 : b2 = b) (e3 : c2 = c) (h : GV a b c) : GV a2 b2 c2 := by subst e1; subst e2; subst e3; exact h
theorem gv_end {a b s : Int32} (h : a ≤ b) (e : s = 0) : GV a b s := ⟨h, Or.inr e⟩
theorem gv_go {a b c s : Int32} (h : a ≤ b) (q : b < c) : GV a c s := by
  have x1 := Int32.le_iff_toInt_le.mp h
  have x2 := Int32.lt_iff_toInt_lt.mp q
  exact ⟨by rw [Int32.le_iff_toInt_le]; omega, Or.inl (by rw [Int32.lt_iff_toInt_lt]; omega)⟩
def VI (n v : Int32) : Prop := (n.toInt = 0 ∧ Bd 0 0 v) ∨ (n.toInt = 1 ∧ Bd 0 9 v) ∨ (n.toInt = 2 ∧ Bd 0 99 v) ∨ (3 ≤ n.toInt ∧ Bd 0 999 v)
theorem vi_b {n v : Int32} (h : VI n v) : Bd 0 999 v := by
  rcases h with ⟨_, h⟩ | ⟨_, h⟩ | ⟨_, h⟩ | ⟨_, h⟩
  · exact bd_w h (by decide)
  · exact bd_w h (by decide)
  · exact bd_w h (by decide)
  · exact h
theorem vi_s {n v d : Int32} (h : VI n v) (bn : Bd 0 600 n) (hn : n < 3) (bd : Bd 48 57 d) : VI (n + 1) (10 * v + d - 48) := by
  have e1 : (1 : Int32).toInt = 1 := rfl
  have h0 := Int32.lt_iff_toInt_lt.mp hn
  have e3 : (3 : Int32).toInt = 3 := rfl
  have h1 : (n + 1).toInt = n.toInt + 1 := by rw [ti_add (by have := bn.1; have := bn.2; omega) (by have := bn.1; have := bn.2; omega), e1]
  have t10 : Bd 10 10 (10 : Int32) := by decide
  have t48 : Bd 48 48 (48 : Int32) := by decide
  unfold VI at h ⊢
  rw [h1]
  rcases h with ⟨h2, h3⟩ | ⟨h2, h3⟩ | ⟨h2, h3⟩ | ⟨h2, h3⟩
  · exact Or.inr (Or.inl ⟨by omega, bd_sub (l := 0) (h := 9) (bd_add (l := 48) (h := 57) (bd_mul (l := 0) (h := 0) t10 h3 (by decide)) bd (by decide)) t48 (by decide)⟩)
  · exact Or.inr (Or.inr (Or.inl ⟨by omega, bd_sub (l := 0) (h := 99) (bd_add (l := 48) (h := 147) (bd_mul (l := 0) (h := 90) t10 h3 (by decide)) bd (by decide)) t48 (by decide)⟩))
  · exact Or.inr (Or.inr (Or.inr ⟨by omega, bd_sub (l := 0) (h := 999) (bd_add (l := 48) (h := 1047) (bd_mul (l := 0) (h := 990) t10 h3 (by decide)) bd (by decide)) t48 (by decide)⟩))
  · omega
theorem vi_k {n v : Int32} (h : VI n v) (bn : Bd 0 600 n) (hn : 3 ≤ n) : VI (n + 1) v := by
  have e1 : (1 : Int32).toInt = 1 := rfl
  have e3 : (3 : Int32).toInt = 3 := rfl
  have h0 := Int32.le_iff_toInt_le.mp hn
  have h1 : (n + 1).toInt = n.toInt + 1 := by rw [ti_add (by have := bn.1; have := bn.2; omega) (by have := bn.1; have := bn.2; omega), e1]
  exact Or.inr (Or.inr (Or.inr ⟨by omega, vi_b h⟩))
theorem lt_s1 {a b : Int32} {lo hi : Int} (bb : Bd lo hi b) (r : hi ≤ 599 ∧ -1000 ≤ lo) (h : a ≤ b) : a < b + 1 := by
  have e1 : (1 : Int32).toInt = 1 := rfl
  have x := Int32.le_iff_toInt_le.mp h
  rw [Int32.lt_iff_toInt_lt, ti_add (by have := bb.1; have := bb.2; omega) (by have := bb.1; have := bb.2; omega), e1]
  omega
theorem vi_1 {d : Int32} (bd : Bd 48 57 d) : VI 1 (0 + d - 48) := by
  have t48 : Bd 48 48 (48 : Int32) := by decide
  have t0 : Bd 0 0 (0 : Int32) := by decide
  exact Or.inr (Or.inl ⟨by decide, bd_sub (l := 0) (h := 9) (bd_add (l := 48) (h := 57) t0 bd (by decide)) t48 (by decide)⟩)
theorem vi_r {n v w : Int32} (e : w = v) (h : VI n v) : VI n w := e ▸ h
theorem one_le {a : Int32} {lo hi : Int} (b : Bd lo hi a) (r : 0 ≤ lo ∧ hi ≤ 599) : 1 ≤ a + 1 := by
  have e1 : (1 : Int32).toInt = 1 := rfl
  obtain ⟨b1, b2⟩ := b
  rw [Int32.le_iff_toInt_le, ti_add (by omega) (by omega), e1]
  omega
theorem le_eq {a b c : Int32} (h : a ≤ b) (e : b = c) : a ≤ c := e ▸ h
theorem lt_eq {a b c : Int32} (h : a < b) (e : b = c) : a < c := e ▸ h
theorem vi_n {n v a : Int32} (h : VI n v) (hn : n ≤ a) (ba : Bd 0 600 a) : Bd 0 600 n := by
  have x := Int32.le_iff_toInt_le.mp hn
  have := ba.2
  unfold VI at h
  exact ⟨by omega, by omega⟩
theorem le_s1 {n a : Int32} {lo hi : Int} (bn : Bd 0 600 n) (ba : Bd lo hi a) (r : hi ≤ 600 ∧ 0 ≤ lo) (h : n ≤ a) : n + 1 ≤ a + 1 := by
  have e1 : (1 : Int32).toInt = 1 := rfl
  have x := Int32.le_iff_toInt_le.mp h
  obtain ⟨n1, n2⟩ := bn; obtain ⟨a1, a2⟩ := ba
  rw [Int32.le_iff_toInt_le, ti_add (by omega) (by omega), ti_add (by omega) (by omega)]
  omega
end
section
theorem k1272 : Cond.fieldLink RX11 86 "PondStairModel" "ahead" "I" ∈ gt := gt_5_9 (i := 10) rfl rfl
theorem k1273 : Cond.fieldLink RX11 89 "PondStairModel" "length" "I" ∈ gt := gt_5_9 (i := 11) rfl rfl
theorem k1421 : Cond.methodLink RX11 92 yX11_see ∈ gt := gt_6_5 (i := 15) rfl rfl
theorem k1423 : Cond.instanceMethod yX11_see ∈ gt := gt_6_5 (i := 17) rfl rfl
theorem k39 : Cond.selects RX11 yX11_see yX11_see ∈ gt := gs_3 (i := 7) rfl rfl
theorem k1424 : Cond.code yX11_see cX11_see 1 (some .int) ∈ gt := gt_6_5 (i := 18) rfl rfl
theorem np_X11_see : yX11_see.cls ≠ "java/lang/invoke/MethodHandle" ∧ yX11_see.cls ≠ "java/lang/invoke/VarHandle" ∧ (parseMethodDescriptor yX11_see.desc).map (fun d => d.parameters.length) = some 0 := ⟨cq_RX11.1, cq_RX11.2, pd_1⟩
theorem k1274 : Cond.fieldLink RX11 96 "PondStairModel" "begins" "I" ∈ gt := gt_5_9 (i := 12) rfl rfl
theorem k1277 : Cond.fieldLink RX11 99 "PondStairModel" "word" "J" ∈ gt := gt_5_9 (i := 15) rfl rfl
theorem k1275 : Cond.fieldLink RX11 103 "PondStairModel" "sort" "I" ∈ gt := gt_5_9 (i := 13) rfl rfl
theorem k1276 : Cond.fieldLink RX11 106 "PondStairModel" "value" "I" ∈ gt := gt_5_9 (i := 14) rfl rfl
theorem dX11_see_0 : decode cX11_see 0 = .ok (.aload_n 0, 1) := dqn_42 (k := 28) qh_cX11_see rfl rfl
theorem dX11_see_1 : decode cX11_see 1 = .ok (.getfield 86, 3) := dqn_180 (k := 25) qh_cX11_see rfl rfl rfl
theorem dX11_see_4 : decode cX11_see 4 = .ok (.aload_n 0, 1) := dqn_42 (k := 24) qh_cX11_see rfl rfl
theorem dX11_see_5 : decode cX11_see 5 = .ok (.getfield 89, 3) := dqn_180 (k := 21) qh_cX11_see rfl rfl rfl
theorem dX11_see_8 : decode cX11_see 8 = .ok (.if_icmp .ge 19, 3) := dqn_162 (k := 18) (u := 19) qh_cX11_see rfl rfl rfl (sg_p rfl rfl)
theorem dX11_see_11 : decode cX11_see 11 = .ok (.aload_n 0, 1) := dqn_42 (k := 17) qh_cX11_see rfl rfl
theorem dX11_see_12 : decode cX11_see 12 = .ok (.getfield 7, 3) := dqn_180 (k := 14) qh_cX11_see rfl rfl rfl
theorem dX11_see_15 : decode cX11_see 15 = .ok (.aload_n 0, 1) := dqn_42 (k := 13) qh_cX11_see rfl rfl
theorem dX11_see_16 : decode cX11_see 16 = .ok (.getfield 86, 3) := dqn_180 (k := 10) qh_cX11_see rfl rfl rfl
theorem dX11_see_19 : decode cX11_see 19 = .ok (.baload, 1) := dqn_51 (k := 9) qh_cX11_see rfl rfl
theorem dX11_see_20 : decode cX11_see 20 = .ok (.sipush 255, 3) := dqn_17 (k := 6) (u := 255) qh_cX11_see rfl rfl rfl (sg_p rfl rfl)
theorem dX11_see_23 : decode cX11_see 23 = .ok (.iand, 1) := dqn_126 (k := 5) qh_cX11_see rfl rfl
theorem dX11_see_24 : decode cX11_see 24 = .ok (.goto 4, 3) := dqn_167 (k := 2) (u := 4) qh_cX11_see rfl rfl rfl (sg_p rfl rfl)
theorem dX11_see_27 : decode cX11_see 27 = .ok (.iconst (-1), 1) := dqn_2 (k := 1) qh_cX11_see rfl rfl
theorem dX11_see_28 : decode cX11_see 28 = .ok (.ireturn, 1) := dqn_172 (k := 0) qh_cX11_see rfl rfl
theorem dX11_token_0 : decode cX11_token 0 = .ok (.aload_n 0, 1) := dqn_42 (k := 266) qh_cX11_token rfl rfl
theorem dX11_token_1 : decode cX11_token 1 = .ok (.invokevirtual 92, 3) := dqn_182 (k := 263) qh_cX11_token rfl rfl rfl
theorem dX11_token_4 : decode cX11_token 4 = .ok (.bipush 10, 2) := dqn_16 (k := 261) (u := 10) qh_cX11_token rfl rfl rfl (by decide)
theorem dX11_token_6 : decode cX11_token 6 = .ok (.if_icmp .eq 12, 3) := dqn_159 (k := 258) (u := 12) qh_cX11_token rfl rfl rfl (sg_p rfl rfl)
theorem dX11_token_9 : decode cX11_token 9 = .ok (.aload_n 0, 1) := dqn_42 (k := 257) qh_cX11_token rfl rfl
theorem dX11_token_10 : decode cX11_token 10 = .ok (.invokevirtual 92, 3) := dqn_182 (k := 254) qh_cX11_token rfl rfl rfl
theorem dX11_token_13 : decode cX11_token 13 = .ok (.bipush 32, 2) := dqn_16 (k := 252) (u := 32) qh_cX11_token rfl rfl rfl (by decide)
theorem dX11_token_15 : decode cX11_token 15 = .ok (.if_icmp .ne 16, 3) := dqn_160 (k := 249) (u := 16) qh_cX11_token rfl rfl rfl (sg_p rfl rfl)
theorem dX11_token_18 : decode cX11_token 18 = .ok (.aload_n 0, 1) := dqn_42 (k := 248) qh_cX11_token rfl rfl
theorem dX11_token_19 : decode cX11_token 19 = .ok (.dup, 1) := dqn_89 (k := 247) qh_cX11_token rfl rfl
theorem dX11_token_20 : decode cX11_token 20 = .ok (.getfield 86, 3) := dqn_180 (k := 244) qh_cX11_token rfl rfl rfl
theorem dX11_token_23 : decode cX11_token 23 = .ok (.iconst 1, 1) := dqn_4 (k := 243) qh_cX11_token rfl rfl
theorem dX11_token_24 : decode cX11_token 24 = .ok (.iadd, 1) := dqn_96 (k := 242) qh_cX11_token rfl rfl
theorem dX11_token_25 : decode cX11_token 25 = .ok (.putfield 86, 3) := dqn_181 (k := 239) qh_cX11_token rfl rfl rfl
theorem dX11_token_28 : decode cX11_token 28 = .ok (.goto (-28), 3) := dqn_167 (k := 236) (u := 65508) qh_cX11_token rfl rfl rfl (sg_n (k := 28) rfl rfl rfl)
theorem dX11_token_31 : decode cX11_token 31 = .ok (.aload_n 0, 1) := dqn_42 (k := 235) qh_cX11_token rfl rfl
theorem dX11_token_32 : decode cX11_token 32 = .ok (.aload_n 0, 1) := dqn_42 (k := 234) qh_cX11_token rfl rfl
theorem dX11_token_33 : decode cX11_token 33 = .ok (.getfield 86, 3) := dqn_180 (k := 231) qh_cX11_token rfl rfl rfl
theorem dX11_token_36 : decode cX11_token 36 = .ok (.putfield 96, 3) := dqn_181 (k := 228) qh_cX11_token rfl rfl rfl
theorem dX11_token_39 : decode cX11_token 39 = .ok (.aload_n 0, 1) := dqn_42 (k := 227) qh_cX11_token rfl rfl
theorem dX11_token_40 : decode cX11_token 40 = .ok (.invokevirtual 92, 3) := dqn_182 (k := 224) qh_cX11_token rfl rfl rfl
theorem dX11_token_43 : decode cX11_token 43 = .ok (.istore_n 1, 1) := dqn_60 (k := 223) qh_cX11_token rfl rfl
theorem dX11_token_44 : decode cX11_token 44 = .ok (.aload_n 0, 1) := dqn_42 (k := 222) qh_cX11_token rfl rfl
theorem dX11_token_45 : decode cX11_token 45 = .ok (.lconst 0, 1) := dqn_9 (k := 221) qh_cX11_token rfl rfl
theorem dX11_token_46 : decode cX11_token 46 = .ok (.putfield 99, 3) := dqn_181 (k := 218) qh_cX11_token rfl rfl rfl
theorem dX11_token_49 : decode cX11_token 49 = .ok (.iconst 0, 1) := dqn_3 (k := 217) qh_cX11_token rfl rfl
theorem dX11_token_50 : decode cX11_token 50 = .ok (.istore_n 2, 1) := dqn_61 (k := 216) qh_cX11_token rfl rfl
theorem dX11_token_51 : decode cX11_token 51 = .ok (.iload_n 1, 1) := dqn_27 (k := 215) qh_cX11_token rfl rfl
theorem dX11_token_52 : decode cX11_token 52 = .ok (.ifCond .ge 11, 3) := dqn_156 (k := 212) (u := 11) qh_cX11_token rfl rfl rfl (sg_p rfl rfl)
theorem dX11_token_55 : decode cX11_token 55 = .ok (.aload_n 0, 1) := dqn_42 (k := 211) qh_cX11_token rfl rfl
theorem dX11_token_56 : decode cX11_token 56 = .ok (.iconst 0, 1) := dqn_3 (k := 210) qh_cX11_token rfl rfl
theorem dX11_token_57 : decode cX11_token 57 = .ok (.putfield 103, 3) := dqn_181 (k := 207) qh_cX11_token rfl rfl rfl
theorem dX11_token_60 : decode cX11_token 60 = .ok (.goto 206, 3) := dqn_167 (k := 204) (u := 206) qh_cX11_token rfl rfl rfl (sg_p rfl rfl)
theorem dX11_token_63 : decode cX11_token 63 = .ok (.iload_n 1, 1) := dqn_27 (k := 203) qh_cX11_token rfl rfl
theorem dX11_token_64 : decode cX11_token 64 = .ok (.bipush 97, 2) := dqn_16 (k := 201) (u := 97) qh_cX11_token rfl rfl rfl (by decide)
theorem dX11_token_66 : decode cX11_token 66 = .ok (.bipush 122, 2) := dqn_16 (k := 199) (u := 122) qh_cX11_token rfl rfl rfl (by decide)
theorem dX11_token_68 : decode cX11_token 68 = .ok (.invokestatic 78, 3) := dqn_184 (k := 196) qh_cX11_token rfl rfl rfl
theorem dX11_token_71 : decode cX11_token 71 = .ok (.ifCond .eq 76, 3) := dqn_153 (k := 193) (u := 76) qh_cX11_token rfl rfl rfl (sg_p rfl rfl)
theorem dX11_token_74 : decode cX11_token 74 = .ok (.aload_n 0, 1) := dqn_42 (k := 192) qh_cX11_token rfl rfl
theorem dX11_token_75 : decode cX11_token 75 = .ok (.invokevirtual 92, 3) := dqn_182 (k := 189) qh_cX11_token rfl rfl rfl
theorem dX11_token_78 : decode cX11_token 78 = .ok (.bipush 97, 2) := dqn_16 (k := 187) (u := 97) qh_cX11_token rfl rfl rfl (by decide)
theorem dX11_token_80 : decode cX11_token 80 = .ok (.bipush 122, 2) := dqn_16 (k := 185) (u := 122) qh_cX11_token rfl rfl rfl (by decide)
theorem dX11_token_82 : decode cX11_token 82 = .ok (.invokestatic 78, 3) := dqn_184 (k := 182) qh_cX11_token rfl rfl rfl
theorem dX11_token_85 : decode cX11_token 85 = .ok (.ifCond .eq 36, 3) := dqn_153 (k := 179) (u := 36) qh_cX11_token rfl rfl rfl (sg_p rfl rfl)
theorem dX11_token_88 : decode cX11_token 88 = .ok (.aload_n 0, 1) := dqn_42 (k := 178) qh_cX11_token rfl rfl
theorem dX11_token_89 : decode cX11_token 89 = .ok (.aload_n 0, 1) := dqn_42 (k := 177) qh_cX11_token rfl rfl
theorem dX11_token_90 : decode cX11_token 90 = .ok (.getfield 99, 3) := dqn_180 (k := 174) qh_cX11_token rfl rfl rfl
theorem dX11_token_93 : decode cX11_token 93 = .ok (.bipush 8, 2) := dqn_16 (k := 172) (u := 8) qh_cX11_token rfl rfl rfl (by decide)
theorem dX11_token_95 : decode cX11_token 95 = .ok (.lshl, 1) := dqn_121 (k := 171) qh_cX11_token rfl rfl
theorem dX11_token_96 : decode cX11_token 96 = .ok (.aload_n 0, 1) := dqn_42 (k := 170) qh_cX11_token rfl rfl
theorem dX11_token_97 : decode cX11_token 97 = .ok (.invokevirtual 92, 3) := dqn_182 (k := 167) qh_cX11_token rfl rfl rfl
theorem dX11_token_100 : decode cX11_token 100 = .ok (.i2l, 1) := dqn_133 (k := 166) qh_cX11_token rfl rfl
theorem dX11_token_101 : decode cX11_token 101 = .ok (.lor, 1) := dqn_129 (k := 165) qh_cX11_token rfl rfl
theorem dX11_token_102 : decode cX11_token 102 = .ok (.putfield 99, 3) := dqn_181 (k := 162) qh_cX11_token rfl rfl rfl
theorem dX11_token_105 : decode cX11_token 105 = .ok (.aload_n 0, 1) := dqn_42 (k := 161) qh_cX11_token rfl rfl
theorem dX11_token_106 : decode cX11_token 106 = .ok (.dup, 1) := dqn_89 (k := 160) qh_cX11_token rfl rfl
theorem dX11_token_107 : decode cX11_token 107 = .ok (.getfield 86, 3) := dqn_180 (k := 157) qh_cX11_token rfl rfl rfl
theorem dX11_token_110 : decode cX11_token 110 = .ok (.iconst 1, 1) := dqn_4 (k := 156) qh_cX11_token rfl rfl
theorem dX11_token_111 : decode cX11_token 111 = .ok (.iadd, 1) := dqn_96 (k := 155) qh_cX11_token rfl rfl
theorem dX11_token_112 : decode cX11_token 112 = .ok (.putfield 86, 3) := dqn_181 (k := 152) qh_cX11_token rfl rfl rfl
theorem dX11_token_115 : decode cX11_token 115 = .ok (.iinc 2 1, 3) := dqn_132 (k := 149) (u := 1) qh_cX11_token rfl rfl rfl rfl (by decide)
theorem dX11_token_118 : decode cX11_token 118 = .ok (.goto (-44), 3) := dqn_167 (k := 146) (u := 65492) qh_cX11_token rfl rfl rfl (sg_n (k := 44) rfl rfl rfl)
theorem dX11_token_121 : decode cX11_token 121 = .ok (.aload_n 0, 1) := dqn_42 (k := 145) qh_cX11_token rfl rfl
theorem dX11_token_122 : decode cX11_token 122 = .ok (.iload_n 2, 1) := dqn_28 (k := 144) qh_cX11_token rfl rfl
theorem dX11_token_123 : decode cX11_token 123 = .ok (.bipush 8, 2) := dqn_16 (k := 142) (u := 8) qh_cX11_token rfl rfl rfl (by decide)
theorem dX11_token_125 : decode cX11_token 125 = .ok (.if_icmp .le 7, 3) := dqn_164 (k := 139) (u := 7) qh_cX11_token rfl rfl rfl (sg_p rfl rfl)
theorem dX11_token_128 : decode cX11_token 128 = .ok (.lconst 0, 1) := dqn_9 (k := 138) qh_cX11_token rfl rfl
theorem dX11_token_129 : decode cX11_token 129 = .ok (.goto 7, 3) := dqn_167 (k := 135) (u := 7) qh_cX11_token rfl rfl rfl (sg_p rfl rfl)
theorem dX11_token_132 : decode cX11_token 132 = .ok (.aload_n 0, 1) := dqn_42 (k := 134) qh_cX11_token rfl rfl
theorem dX11_token_133 : decode cX11_token 133 = .ok (.getfield 99, 3) := dqn_180 (k := 131) qh_cX11_token rfl rfl rfl
theorem dX11_token_136 : decode cX11_token 136 = .ok (.putfield 99, 3) := dqn_181 (k := 128) qh_cX11_token rfl rfl rfl
theorem dX11_token_139 : decode cX11_token 139 = .ok (.aload_n 0, 1) := dqn_42 (k := 127) qh_cX11_token rfl rfl
theorem dX11_token_140 : decode cX11_token 140 = .ok (.iconst 2, 1) := dqn_5 (k := 126) qh_cX11_token rfl rfl
theorem dX11_token_141 : decode cX11_token 141 = .ok (.putfield 103, 3) := dqn_181 (k := 123) qh_cX11_token rfl rfl rfl
theorem dX11_token_144 : decode cX11_token 144 = .ok (.goto 122, 3) := dqn_167 (k := 120) (u := 122) qh_cX11_token rfl rfl rfl (sg_p rfl rfl)
theorem dX11_token_147 : decode cX11_token 147 = .ok (.iload_n 1, 1) := dqn_27 (k := 119) qh_cX11_token rfl rfl
theorem dX11_token_148 : decode cX11_token 148 = .ok (.bipush 48, 2) := dqn_16 (k := 117) (u := 48) qh_cX11_token rfl rfl rfl (by decide)
theorem dX11_token_150 : decode cX11_token 150 = .ok (.bipush 57, 2) := dqn_16 (k := 115) (u := 57) qh_cX11_token rfl rfl rfl (by decide)
theorem dX11_token_152 : decode cX11_token 152 = .ok (.invokestatic 78, 3) := dqn_184 (k := 112) qh_cX11_token rfl rfl rfl
theorem dX11_token_155 : decode cX11_token 155 = .ok (.ifCond .eq 86, 3) := dqn_153 (k := 109) (u := 86) qh_cX11_token rfl rfl rfl (sg_p rfl rfl)
theorem dX11_token_158 : decode cX11_token 158 = .ok (.aload_n 0, 1) := dqn_42 (k := 108) qh_cX11_token rfl rfl
theorem dX11_token_159 : decode cX11_token 159 = .ok (.iconst 0, 1) := dqn_3 (k := 107) qh_cX11_token rfl rfl
theorem dX11_token_160 : decode cX11_token 160 = .ok (.putfield 106, 3) := dqn_181 (k := 104) qh_cX11_token rfl rfl rfl
theorem dX11_token_163 : decode cX11_token 163 = .ok (.aload_n 0, 1) := dqn_42 (k := 103) qh_cX11_token rfl rfl
theorem dX11_token_164 : decode cX11_token 164 = .ok (.invokevirtual 92, 3) := dqn_182 (k := 100) qh_cX11_token rfl rfl rfl
theorem dX11_token_167 : decode cX11_token 167 = .ok (.bipush 48, 2) := dqn_16 (k := 98) (u := 48) qh_cX11_token rfl rfl rfl (by decide)
theorem dX11_token_169 : decode cX11_token 169 = .ok (.bipush 57, 2) := dqn_16 (k := 96) (u := 57) qh_cX11_token rfl rfl rfl (by decide)
theorem dX11_token_171 : decode cX11_token 171 = .ok (.invokestatic 78, 3) := dqn_184 (k := 93) qh_cX11_token rfl rfl rfl
theorem dX11_token_174 : decode cX11_token 174 = .ok (.ifCond .eq 50, 3) := dqn_153 (k := 90) (u := 50) qh_cX11_token rfl rfl rfl (sg_p rfl rfl)
theorem dX11_token_177 : decode cX11_token 177 = .ok (.aload_n 0, 1) := dqn_42 (k := 89) qh_cX11_token rfl rfl
theorem dX11_token_178 : decode cX11_token 178 = .ok (.iload_n 2, 1) := dqn_28 (k := 88) qh_cX11_token rfl rfl
theorem dX11_token_179 : decode cX11_token 179 = .ok (.iconst 3, 1) := dqn_6 (k := 87) qh_cX11_token rfl rfl
theorem dX11_token_180 : decode cX11_token 180 = .ok (.if_icmp .ge 21, 3) := dqn_162 (k := 84) (u := 21) qh_cX11_token rfl rfl rfl (sg_p rfl rfl)
theorem dX11_token_183 : decode cX11_token 183 = .ok (.bipush 10, 2) := dqn_16 (k := 82) (u := 10) qh_cX11_token rfl rfl rfl (by decide)
theorem dX11_token_185 : decode cX11_token 185 = .ok (.aload_n 0, 1) := dqn_42 (k := 81) qh_cX11_token rfl rfl
theorem dX11_token_186 : decode cX11_token 186 = .ok (.getfield 106, 3) := dqn_180 (k := 78) qh_cX11_token rfl rfl rfl
theorem dX11_token_189 : decode cX11_token 189 = .ok (.imul, 1) := dqn_104 (k := 77) qh_cX11_token rfl rfl
theorem dX11_token_190 : decode cX11_token 190 = .ok (.aload_n 0, 1) := dqn_42 (k := 76) qh_cX11_token rfl rfl
theorem dX11_token_191 : decode cX11_token 191 = .ok (.invokevirtual 92, 3) := dqn_182 (k := 73) qh_cX11_token rfl rfl rfl
theorem dX11_token_194 : decode cX11_token 194 = .ok (.iadd, 1) := dqn_96 (k := 72) qh_cX11_token rfl rfl
theorem dX11_token_195 : decode cX11_token 195 = .ok (.bipush 48, 2) := dqn_16 (k := 70) (u := 48) qh_cX11_token rfl rfl rfl (by decide)
theorem dX11_token_197 : decode cX11_token 197 = .ok (.isub, 1) := dqn_100 (k := 69) qh_cX11_token rfl rfl
theorem dX11_token_198 : decode cX11_token 198 = .ok (.goto 7, 3) := dqn_167 (k := 66) (u := 7) qh_cX11_token rfl rfl rfl (sg_p rfl rfl)
theorem dX11_token_201 : decode cX11_token 201 = .ok (.aload_n 0, 1) := dqn_42 (k := 65) qh_cX11_token rfl rfl
theorem dX11_token_202 : decode cX11_token 202 = .ok (.getfield 106, 3) := dqn_180 (k := 62) qh_cX11_token rfl rfl rfl
theorem dX11_token_205 : decode cX11_token 205 = .ok (.putfield 106, 3) := dqn_181 (k := 59) qh_cX11_token rfl rfl rfl
theorem dX11_token_208 : decode cX11_token 208 = .ok (.aload_n 0, 1) := dqn_42 (k := 58) qh_cX11_token rfl rfl
theorem dX11_token_209 : decode cX11_token 209 = .ok (.dup, 1) := dqn_89 (k := 57) qh_cX11_token rfl rfl
theorem dX11_token_210 : decode cX11_token 210 = .ok (.getfield 86, 3) := dqn_180 (k := 54) qh_cX11_token rfl rfl rfl
theorem dX11_token_213 : decode cX11_token 213 = .ok (.iconst 1, 1) := dqn_4 (k := 53) qh_cX11_token rfl rfl
theorem dX11_token_214 : decode cX11_token 214 = .ok (.iadd, 1) := dqn_96 (k := 52) qh_cX11_token rfl rfl
theorem dX11_token_215 : decode cX11_token 215 = .ok (.putfield 86, 3) := dqn_181 (k := 49) qh_cX11_token rfl rfl rfl
theorem dX11_token_218 : decode cX11_token 218 = .ok (.iinc 2 1, 3) := dqn_132 (k := 46) (u := 1) qh_cX11_token rfl rfl rfl rfl (by decide)
theorem dX11_token_221 : decode cX11_token 221 = .ok (.goto (-58), 3) := dqn_167 (k := 43) (u := 65478) qh_cX11_token rfl rfl rfl (sg_n (k := 58) rfl rfl rfl)
theorem dX11_token_224 : decode cX11_token 224 = .ok (.aload_n 0, 1) := dqn_42 (k := 42) qh_cX11_token rfl rfl
theorem dX11_token_225 : decode cX11_token 225 = .ok (.iload_n 2, 1) := dqn_28 (k := 41) qh_cX11_token rfl rfl
theorem dX11_token_226 : decode cX11_token 226 = .ok (.iconst 3, 1) := dqn_6 (k := 40) qh_cX11_token rfl rfl
theorem dX11_token_227 : decode cX11_token 227 = .ok (.if_icmp .le 7, 3) := dqn_164 (k := 37) (u := 7) qh_cX11_token rfl rfl rfl (sg_p rfl rfl)
theorem dX11_token_230 : decode cX11_token 230 = .ok (.iconst 1, 1) := dqn_4 (k := 36) qh_cX11_token rfl rfl
theorem dX11_token_231 : decode cX11_token 231 = .ok (.goto 4, 3) := dqn_167 (k := 33) (u := 4) qh_cX11_token rfl rfl rfl (sg_p rfl rfl)
theorem dX11_token_234 : decode cX11_token 234 = .ok (.iconst 3, 1) := dqn_6 (k := 32) qh_cX11_token rfl rfl
theorem dX11_token_235 : decode cX11_token 235 = .ok (.putfield 103, 3) := dqn_181 (k := 29) qh_cX11_token rfl rfl rfl
theorem dX11_token_238 : decode cX11_token 238 = .ok (.goto 28, 3) := dqn_167 (k := 26) (u := 28) qh_cX11_token rfl rfl rfl (sg_p rfl rfl)
theorem dX11_token_241 : decode cX11_token 241 = .ok (.aload_n 0, 1) := dqn_42 (k := 25) qh_cX11_token rfl rfl
theorem dX11_token_242 : decode cX11_token 242 = .ok (.dup, 1) := dqn_89 (k := 24) qh_cX11_token rfl rfl
theorem dX11_token_243 : decode cX11_token 243 = .ok (.getfield 86, 3) := dqn_180 (k := 21) qh_cX11_token rfl rfl rfl
theorem dX11_token_246 : decode cX11_token 246 = .ok (.iconst 1, 1) := dqn_4 (k := 20) qh_cX11_token rfl rfl
theorem dX11_token_247 : decode cX11_token 247 = .ok (.iadd, 1) := dqn_96 (k := 19) qh_cX11_token rfl rfl
theorem dX11_token_248 : decode cX11_token 248 = .ok (.putfield 86, 3) := dqn_181 (k := 16) qh_cX11_token rfl rfl rfl
theorem dX11_token_251 : decode cX11_token 251 = .ok (.aload_n 0, 1) := dqn_42 (k := 15) qh_cX11_token rfl rfl
theorem dX11_token_252 : decode cX11_token 252 = .ok (.iload_n 1, 1) := dqn_27 (k := 14) qh_cX11_token rfl rfl
theorem dX11_token_253 : decode cX11_token 253 = .ok (.bipush 59, 2) := dqn_16 (k := 12) (u := 59) qh_cX11_token rfl rfl rfl (by decide)
theorem dX11_token_255 : decode cX11_token 255 = .ok (.if_icmp .ne 7, 3) := dqn_160 (k := 9) (u := 7) qh_cX11_token rfl rfl rfl (sg_p rfl rfl)
theorem dX11_token_258 : decode cX11_token 258 = .ok (.iconst 4, 1) := dqn_7 (k := 8) qh_cX11_token rfl rfl
theorem dX11_token_259 : decode cX11_token 259 = .ok (.goto 4, 3) := dqn_167 (k := 5) (u := 4) qh_cX11_token rfl rfl rfl (sg_p rfl rfl)
theorem dX11_token_262 : decode cX11_token 262 = .ok (.iconst 1, 1) := dqn_4 (k := 4) qh_cX11_token rfl rfl
theorem dX11_token_263 : decode cX11_token 263 = .ok (.putfield 103, 3) := dqn_181 (k := 1) qh_cX11_token rfl rfl rfl
theorem dX11_token_266 : decode cX11_token 266 = .ok (.return_, 1) := dqn_177 (k := 0) qh_cX11_token rfl rfl
set_option maxHeartbeats 4000000 in
set_option maxRecDepth 100000 in
theorem c_M_see {d : Nat} {u : Nat → Nat → Int32} {g : Nat → Nat → Int64} {ex : List MC}  (hd : 0 ≤ d) (hp0 : Bd 0 600 (u 162 8)) (hp1 : Bd 0 600 (u 162 9)) : CT con0 d 0 0 yX11_see cX11_see 1 (some .int) [.ref 162] (Wd u g ex) (fun r h2 => r = some (.int (mse u (u 162 8) (u 162 9))) ∧ h2 = Wd u g ex) := by
  refine CT_of (by decide) (Nat.le_of_ble_eq_true rfl) (fun x hq => ?_)
  show J x yX11_see cX11_see 1 (some .int) d 0 0 (Wd u g ex).length 0 [(0, .ref 162)] [] (Wd u g ex) 0 0
  refine J_aload_n (i := 0) (j := 0) dX11_see_0 rfl rfl ?_
  refine J_get (C := RX11) (T := TX11) (Z := 43) (ci := 11) (f := 8) dX11_see_1 inG11 rfl (by decide) k1272 wc_162 rfl ?_
  refine J_aload_n (i := 0) (j := 0) dX11_see_4 rfl rfl ?_
  refine J_get (C := RX11) (T := TX11) (Z := 43) (ci := 11) (f := 9) dX11_see_5 inG11 rfl (by decide) k1273 wc_162 rfl ?_
  refine J_icmp_ge (tgt := 27) dX11_see_8 (by decide) (fun c1 => ?_) (fun c1 => ?_)
  · refine J_iconst (v := (-1)) dX11_see_27 (by decide) ?_
    exact J_iret hq dX11_see_28 rfl wlen (Nat.le_refl _) (Nat.le_refl _) ⟨(congrArg (fun z => some (Value.int z)) (mse_2 c1)), rfl⟩
  · refine J_aload_n (i := 0) (j := 0) dX11_see_11 rfl rfl ?_
    refine J_get (C := RX11) (T := TX11) (Z := 43) (ci := 11) (f := 1) dX11_see_12 inG11 rfl (by decide) k1265 wc_162 rfl ?_
    refine J_aload_n (i := 0) (j := 0) dX11_see_15 rfl rfl ?_
    refine J_get (C := RX11) (T := TX11) (Z := 43) (ci := 11) (f := 8) dX11_see_16 inG11 rfl (by decide) k1272 wc_162 rfl ?_
    refine J_bald dX11_see_19 wc_163 (vin (bd_lt_hi hp0 (i_nle c1) hp1) (by decide)) ?_
    refine J_topi (fun v2 qv2 => ?_)
    refine J_sipush (v := 255) dX11_see_20 (by decide) ?_
    refine J_iand dX11_see_23 ?_
    refine J_goto (tgt := 28) dX11_see_24 (by decide) ?_
    exact J_iret hq dX11_see_28 rfl wlen (Nat.le_refl _) (Nat.le_refl _) ⟨(congrArg (fun z => some (Value.int z)) (mse_1 (i_nle c1) qv2)), rfl⟩
end
section
/-! the reference's reader: the row that is read -/
theorem ixne {i : Int32} {lo hi : Int} {c : Nat} (b : Bd lo hi i) (h : (c : Int) < lo ∨ (0 ≤ lo ∧ hi < c)) : c ≠ i.toNatClampNeg := by
  have e : i.toNatClampNeg = i.toInt.toNat := rfl
  obtain ⟨b1, b2⟩ := b
  rw [e]
  omega
def RH (u : Nat → Nat → Int32) : Prop := AB u 170 (-1) 999 ∧ Bd 0 9 (u 170 0) ∧ Bd 0 4 (u 170 1) ∧ (∀ p, p < 9 → Bd (-1) 8 (u 170 (21 + 16 * p)) ∧ Bd (-1) 8 (u 170 (22 + 16 * p))) ∧ Bd 0 999 (u 170 6) ∧ Bd 0 999 (u 170 8) ∧ Bd 0 999 (u 170 10) ∧ Bd 0 999 (u 170 12)
theorem rh_c {u u2 : Nat → Nat → Int32} (e : u2 170 = u 170) (h : RH u) : RH u2 := by
  obtain ⟨h0, h1⟩ := h
  refine ⟨ab_c e h0, ?_⟩
  rw [e]
  exact h1
theorem rh_g {u u2 : Nat → Nat → Int32} {k : Nat} {v : Int32} (e : u2 = ms u 170 k v) (bv : Bd (-1) 999 v) (h0 : k = 0 → Bd 0 9 v) (h1 : k = 1 → Bd 0 4 v) (hd : ∀ p, p < 9 → (k = 21 + 16 * p ∨ k = 22 + 16 * p) → Bd (-1) 8 v) (hr : (k = 6 ∨ k = 8 ∨ k = 10 ∨ k = 12) → Bd 0 999 v) (h : RH u) : RH u2 := by
  obtain ⟨a0, a1, a2, a3, a6, a8, a10, a12⟩ := h
  have R : ∀ j, u2 170 j = if j = k then v else u 170 j := fun j => by rw [ms_a e]; rfl
  refine ⟨ab_s e a0 bv, ?_, ?_, fun p hp => ⟨?_, ?_⟩, ?_, ?_, ?_, ?_⟩ <;> rw [R] <;> split
  · rename_i q; exact h0 q.symm
  · exact a1
  · rename_i q; exact h1 q.symm
  · exact a2
  · rename_i q; exact hd p hp (Or.inl q.symm)
  · exact (a3 p hp).1
  · rename_i q; exact hd p hp (Or.inr q.symm)
  · exact (a3 p hp).2
  · rename_i q; exact hr (by omega)
  · exact a6
  · rename_i q; exact hr (by omega)
  · exact a8
  · rename_i q; exact hr (by omega)
  · exact a10
  · rename_i q; exact hr (by omega)
  · exact a12
theorem rh_0 {u u2 : Nat → Nat → Int32} {v : Int32} (e : u2 = ms u 170 0 v) (b : Bd 0 9 v) (h : RH u) : RH u2 :=
  rh_g e (bd_w b (by decide)) (fun _ => b) (fun q => by omega) (fun p _ q => by omega) (fun q => by omega) h
theorem rh_1 {u u2 : Nat → Nat → Int32} {v : Int32} (e : u2 = ms u 170 1 v) (b : Bd 0 4 v) (h : RH u) : RH u2 :=
  rh_g e (bd_w b (by decide)) (fun q => by omega) (fun _ => b) (fun p _ q => by omega) (fun q => by omega) h
theorem rh_rc {u u2 : Nat → Nat → Int32} {k : Nat} {v : Int32} (e : u2 = ms u 170 k v) (hk : 5 ≤ k ∧ k ≤ 12) (b : Bd 0 999 v) (h : RH u) : RH u2 :=
  rh_g e (bd_w b (by decide)) (fun q => by omega) (fun q => by omega) (fun p _ q => by omega) (fun _ => b) h
theorem nk {k : Int32} {lo hi : Int} (b : Bd lo hi k) (h : 0 ≤ lo) : lo ≤ (k.toNatClampNeg : Int) ∧ (k.toNatClampNeg : Int) ≤ hi := by
  have e : k.toNatClampNeg = k.toInt.toNat := rfl
  obtain ⟨b1, b2⟩ := b
  rw [e]
  omega
theorem rh_d {u u2 : Nat → Nat → Int32} {k v : Int32} (e : u2 = ms u 170 k.toNatClampNeg v) (bk : Bd 2 4 k) (b : Bd (-1) 999 v) (h : RH u) : RH u2 := by
  have q := nk bk (by decide)
  exact rh_g e b (fun _ => by omega) (fun _ => by omega) (fun p _ _ => by omega) (fun _ => by omega) h
theorem rh_r {u u2 : Nat → Nat → Int32} {k v : Int32} (e : u2 = ms u 170 k.toNatClampNeg v) (bk : Bd 5 12 k) (b : Bd 0 999 v) (h : RH u) : RH u2 := by
  have q := nk bk (by decide)
  exact rh_rc e (by omega) b h
theorem rh_p {u u2 : Nat → Nat → Int32} {p c v : Int32} (e : u2 = ms u 170 (13 + 16 * p + c).toNatClampNeg v) (bp : Bd 0 8 p) (bc : Bd 0 15 c) (b : Bd (-1) 999 v) (h8 : (c.toInt = 8 ∨ c.toInt = 9) → Bd (-1) 8 v) (h : RH u) : RH u2 := by
  rw [mix bp bc] at e
  obtain ⟨p1, p2⟩ := bp; obtain ⟨c1, c2⟩ := bc
  exact rh_g e b (fun _ => by omega) (fun _ => by omega) (fun q _ hq => h8 (by omega)) (fun _ => by omega) h
theorem rh_p1 {u u2 : Nat → Nat → Int32} {p c v : Int32} (e : u2 = ms u 170 (13 + 16 * p + c + 1).toNatClampNeg v) (bp : Bd 0 8 p) (bc : Bd 0 15 (c + 1)) (b : Bd (-1) 999 v) (h8 : ((c + 1).toInt = 8 ∨ (c + 1).toInt = 9) → Bd (-1) 8 v) (h : RH u) : RH u2 := by
  rw [Int32.add_assoc] at e
  exact rh_p e bp bc b h8 h
theorem bd_n89 {c : Int32} {lo hi : Int} {P : Prop} (b : Bd lo hi c) (r : hi < 8 ∨ 9 < lo) : (c.toInt = 8 ∨ c.toInt = 9) → P := by
  obtain ⟨b1, b2⟩ := b
  intro h
  exfalso
  omega
theorem ne_n89 {c : Int32} {P : Prop} (h8 : ¬ c = 8) (h9 : ¬ c = 9) : (c.toInt = 8 ∨ c.toInt = 9) → P := by
  intro h
  rcases h with h | h
  · exact absurd (Int32.toInt_inj.mp h) h8
  · exact absurd (Int32.toInt_inj.mp h) h9
def RP (u : Nat → Nat → Int32) : Prop := AB u 170 (-1) 999 ∧ Bd 0 12 (u 170 0) ∧ ∀ i, i < 12 → (u 170 (1 + 3 * i) = 4 ∨ Bd 0 999 (u 170 (3 + 3 * i))) ∧ Bd 0 999 (u 170 (2 + 3 * i))
theorem rp_c {u u2 : Nat → Nat → Int32} (e : u2 170 = u 170) (h : RP u) : RP u2 := by
  obtain ⟨h0, h1⟩ := h
  refine ⟨ab_c e h0, ?_⟩
  rw [e]
  exact h1
theorem ix3 {k c : Int32} {C : Nat} (bk : Bd 0 11 k) (hc : c.toInt = C) (hC : C ≤ 3) : (c + 3 * k).toNatClampNeg = C + 3 * k.toInt.toNat := by
  have e3 : (3 : Int32).toInt = 3 := rfl
  obtain ⟨k1, k2⟩ := bk
  have h2 : (3 * k).toInt = 3 * k.toInt := by rw [Int32.toInt_mul, e3, bmod (by omega) (by omega)]
  have h3 : (c + 3 * k).toInt = C + 3 * k.toInt := by rw [ti_add (by omega) (by omega), h2, hc]
  have h4 : (c + 3 * k).toNatClampNeg = (c + 3 * k).toInt.toNat := rfl
  rw [h4, h3]
  omega
theorem rp_add {u u1 u2 u3 u4 : Nat → Nat → Int32} {k w a b n : Int32} (e1 : u1 = ms u 170 (1 + 3 * k).toNatClampNeg w) (e2 : u2 = ms u1 170 (2 + 3 * k).toNatClampNeg a) (e3 : u3 = ms u2 170 (3 + 3 * k).toNatClampNeg b) (e4 : u4 = ms u3 170 0 n) (bk : Bd 0 11 k) (bw : Bd (-1) 999 w) (ba : Bd 0 999 a) (bb : Bd (-1) 999 b) (hw : w = 4 ∨ Bd 0 999 b) (bn : Bd 0 12 n) (h : RP u) : RP u4 := by
  rw [ix3 (C := 1) bk rfl (by decide)] at e1
  rw [ix3 (C := 2) bk rfl (by decide)] at e2
  rw [ix3 (C := 3) bk rfl (by decide)] at e3
  obtain ⟨k1, k2⟩ := bk
  obtain ⟨a0, a1, a2⟩ := h
  have R4 : ∀ j, u4 170 j = if j = 0 then n else u3 170 j := fun j => by rw [ms_a e4]; rfl
  have R3 : ∀ j, u3 170 j = if j = 3 + 3 * k.toInt.toNat then b else u2 170 j := fun j => by rw [ms_a e3]; rfl
  have R2 : ∀ j, u2 170 j = if j = 2 + 3 * k.toInt.toNat then a else u1 170 j := fun j => by rw [ms_a e2]; rfl
  have R1 : ∀ j, u1 170 j = if j = 1 + 3 * k.toInt.toNat then w else u 170 j := fun j => by rw [ms_a e1]; rfl
  refine ⟨ab_s e4 (ab_s e3 (ab_s e2 (ab_s e1 a0 bw) (bd_w ba (by decide))) bb) (bd_w bn (by decide)), by rw [R4, if_pos rfl]; exact bn, fun i hi => ?_⟩
  by_cases q : i = k.toInt.toNat
  · subst q
    have x1 : u4 170 (1 + 3 * k.toInt.toNat) = w := by rw [R4, if_neg (by omega), R3, if_neg (by omega), R2, if_neg (by omega), R1, if_pos rfl]
    have x2 : u4 170 (2 + 3 * k.toInt.toNat) = a := by rw [R4, if_neg (by omega), R3, if_neg (by omega), R2, if_pos rfl]
    have x3 : u4 170 (3 + 3 * k.toInt.toNat) = b := by rw [R4, if_neg (by omega), R3, if_pos rfl]
    rw [x1, x2, x3]
    exact ⟨hw, ba⟩
  · have x1 : u4 170 (1 + 3 * i) = u 170 (1 + 3 * i) := by rw [R4, if_neg (by omega), R3, if_neg (by omega), R2, if_neg (by omega), R1, if_neg (by omega)]
    have x2 : u4 170 (2 + 3 * i) = u 170 (2 + 3 * i) := by rw [R4, if_neg (by omega), R3, if_neg (by omega), R2, if_neg (by omega), R1, if_neg (by omega)]
    have x3 : u4 170 (3 + 3 * i) = u 170 (3 + 3 * i) := by rw [R4, if_neg (by omega), R3, if_neg (by omega), R2, if_neg (by omega), R1, if_neg (by omega)]
    rw [x1, x2, x3]
    exact a2 i hi
def RZ (u : Nat → Nat → Int32) : Prop := AB u 170 (-1) 999 ∧ ∀ j, j < 157 → Bd 0 1 (u 170 j)
theorem rz_h {u : Nat → Nat → Int32} (h : RZ u) : RH u := by
  obtain ⟨h0, h1⟩ := h
  exact ⟨h0, bd_w (h1 0 (by decide)) (by decide), bd_w (h1 1 (by decide)) (by decide), fun p hp => ⟨bd_w (h1 _ (by omega)) (by decide), bd_w (h1 _ (by omega)) (by decide)⟩, bd_w (h1 6 (by decide)) (by decide), bd_w (h1 8 (by decide)) (by decide), bd_w (h1 10 (by decide)) (by decide), bd_w (h1 12 (by decide)) (by decide)⟩
theorem rz_p {u : Nat → Nat → Int32} (h : RZ u) : RP u := by
  obtain ⟨h0, h1⟩ := h
  exact ⟨h0, bd_w (h1 0 (by decide)) (by decide), fun i hi => ⟨Or.inr (bd_w (h1 _ (by omega)) (by decide)), bd_w (h1 _ (by omega)) (by decide)⟩⟩
def ZI (u : Nat → Nat → Int32) (k : Int32) : Prop := ∀ j : Nat, (j : Int) < k.toInt → Bd 0 1 (u 170 j)
theorem zi_0 {u : Nat → Nat → Int32} : ZI u 0 := by
  intro j hj
  have : (0 : Int32).toInt = 0 := rfl
  omega
theorem zi_s {u u2 : Nat → Nat → Int32} {k v : Int32} (e : u2 = ms u 170 k.toNatClampNeg v) (bk : Bd 0 156 k) (bv : Bd 0 1 v) (h : ZI u k) : ZI u2 (k + 1) := by
  intro j hj
  have e1 : (1 : Int32).toInt = 1 := rfl
  have h1 : (k + 1).toInt = k.toInt + 1 := by rw [ti_add (by have := bk.1; have := bk.2; omega) (by have := bk.1; have := bk.2; omega), e1]
  have h2 : k.toNatClampNeg = k.toInt.toNat := rfl
  by_cases q : j = k.toNatClampNeg
  · rw [q, ms_e e]; exact bv
  · rw [ms_i e q]
    refine h j ?_
    have := bk.1
    omega
theorem zi_e {u : Nat → Nat → Int32} {k : Int32} (h : ZI u k) (bk : Bd 157 157 k) (ha : AB u 170 (-1) 999) : RZ u := ⟨ha, fun j hj => h j (by have := bk.1; omega)⟩
theorem rcf_t {u u2 : Nat → Nat → Int32} (e : u2 170 = u 170) (h : RCf (u 170)) : RCf (u2 170) := by rw [e]; exact h
theorem rcf_0 {f : Nat → Int32} (e1 : f 1 = 1) (e6 : f 6 = 100) (b8 : Bd 0 999 (f 8)) (b10 : Bd 0 999 (f 10)) (b12 : Bd 0 999 (f 12)) : RCf f := by
  unfold RCf
  rw [e1, e6]
  exact ⟨by decide, by decide, b8, b10, b12, Or.inl (by decide)⟩
theorem s100 : (100 : Int32).toInt = 100 := rfl
theorem rcf_1 {f : Nat → Int32} (b1 : Bd 1 1 (f 1)) (b6 : Bd 0 999 (f 6)) (b8 : Bd 0 999 (f 8)) (b10 : Bd 0 999 (f 10)) (b12 : Bd 0 999 (f 12)) (e : 0 + f 6 = 100) : RCf f := by
  rw [Int32.zero_add] at e
  have := s100
  have := congrArg Int32.toInt e
  exact ⟨bd_w b1 (by decide), b6, b8, b10, b12, Or.inl ⟨by have := b1.1; have := b1.2; omega, by omega⟩⟩
theorem rcf_2 {f : Nat → Int32} (b1 : Bd 2 2 (f 1)) (b6 : Bd 0 999 (f 6)) (b8 : Bd 0 999 (f 8)) (b10 : Bd 0 999 (f 10)) (b12 : Bd 0 999 (f 12)) (e : 0 + f 6 + f 8 = 100) : RCf f := by
  rw [Int32.zero_add] at e
  have := s100
  have q := congrArg Int32.toInt e
  rw [ti_add (by have := b6.1; have := b6.2; have := b8.1; have := b8.2; omega) (by have := b6.1; have := b6.2; have := b8.1; have := b8.2; omega)] at q
  exact ⟨bd_w b1 (by decide), b6, b8, b10, b12, Or.inr (Or.inl ⟨by have := b1.1; have := b1.2; omega, by omega⟩)⟩
theorem rcf_3 {f : Nat → Int32} (b1 : Bd 3 3 (f 1)) (b6 : Bd 0 999 (f 6)) (b8 : Bd 0 999 (f 8)) (b10 : Bd 0 999 (f 10)) (b12 : Bd 0 999 (f 12)) (e : 0 + f 6 + f 8 + f 10 = 100) : RCf f := by
  rw [Int32.zero_add] at e
  have := s100
  have q := congrArg Int32.toInt e
  have x := b6.1; have x2 := b6.2; have x3 := b8.1; have x4 := b8.2; have x5 := b10.1; have x6 := b10.2
  have y1 : (f 6 + f 8).toInt = (f 6).toInt + (f 8).toInt := ti_add (by omega) (by omega)
  rw [ti_add (by omega) (by omega), y1] at q
  exact ⟨bd_w b1 (by decide), b6, b8, b10, b12, Or.inr (Or.inr (Or.inl ⟨by have := b1.1; have := b1.2; omega, by omega⟩))⟩
theorem rcf_4 {f : Nat → Int32} (b1 : Bd 4 4 (f 1)) (b6 : Bd 0 999 (f 6)) (b8 : Bd 0 999 (f 8)) (b10 : Bd 0 999 (f 10)) (b12 : Bd 0 999 (f 12)) (e : 0 + f 6 + f 8 + f 10 + f 12 = 100) : RCf f := by
  rw [Int32.zero_add] at e
  have := s100
  have q := congrArg Int32.toInt e
  have x := b6.1; have x2 := b6.2; have x3 := b8.1; have x4 := b8.2; have x5 := b10.1; have x6 := b10.2; have x7 := b12.1; have x8 := b12.2
  have y1 : (f 6 + f 8).toInt = (f 6).toInt + (f 8).toInt := ti_add (by omega) (by omega)
  have y2 : (f 6 + f 8 + f 10).toInt = (f 6).toInt + (f 8).toInt + (f 10).toInt := by rw [ti_add (by omega) (by omega), y1]
  rw [ti_add (by omega) (by omega), y2] at q
  exact ⟨bd_w b1 (by decide), b6, b8, b10, b12, Or.inr (Or.inr (Or.inr ⟨by have := b1.1; have := b1.2; omega, by omega⟩))⟩
theorem nr_t {g1 g2 r1 r2 low high : Int32} (e1 : g2 = g1) (e2 : r2 = r1) (h : g1 = 0 ∨ (low ≤ r1 ∧ r1 ≤ high)) : g2 = 0 ∨ (low ≤ r2 ∧ r2 ≤ high) := by subst e1; subst e2; exact h
theorem nf_t {g1 g2 g3 : Int32} (e1 : g2 = g1) (h : g1 = 0 ∨ g1 = g3) : g2 = 0 ∨ g2 = g3 := by subst e1; exact h
theorem mu_gv {a b s c t : Int32} {n : Nat} (h1 : GV a b s) (e : s = 4) (h2 : GV b c t) (bc : Bd 0 600 c) (m : (600 - a.toInt).toNat < n + 1) : (600 - c.toInt).toNat < n := by
  have x2 := Int32.le_iff_toInt_le.mp h2.1
  have := bc.2
  rcases h1.2 with h | h
  · have x1 := Int32.lt_iff_toInt_lt.mp h
    omega
  · rw [e] at h
    exact absurd h (by decide)
/-- a row copied into an array of rows of n -/
def CRI (u2 u : Nat → Nat → Int32) (a n K i : Nat) : Prop := ∀ j, u2 a j = if n * K ≤ j ∧ j < n * K + i then u 170 (j - n * K) else u a j
theorem cri_0 {u2 u : Nat → Nat → Int32} {a n K : Nat} (e : u2 a = u a) : CRI u2 u a n K 0 := by
  intro j
  rw [if_neg (by omega), e]
theorem cri_s {u3 u2 u : Nat → Nat → Int32} {a n : Nat} {N t k v : Int32} (h : CRI u2 u a n t.toInt.toNat k.toInt.toNat) (hN : N.toInt = n) (hn : n ≤ 600) (bt : Bd 0 3 t) (bk : Bd 0 600 k) (e : u3 = ms u2 a (N * t + k).toNatClampNeg v) (ev : v = u 170 k.toNatClampNeg) : CRI u3 u a n t.toInt.toNat (k + 1).toInt.toNat := by
  rw [mv_ix hN hn bt bk] at e
  have e1 : (1 : Int32).toInt = 1 := rfl
  have h3 : k.toNatClampNeg = k.toInt.toNat := rfl
  have h2 : (k + 1).toInt.toNat = k.toInt.toNat + 1 := by
    rw [ti_add (by have := bk.1; have := bk.2; omega) (by have := bk.1; have := bk.2; omega), e1]
    have := bk.1
    omega
  rw [h2]
  intro j
  by_cases q : j = n * t.toInt.toNat + k.toInt.toNat
  · rw [q, ms_e e, ev, if_pos (by omega), h3, Nat.add_sub_cancel_left]
  · rw [ms_i e q, h]
    by_cases q2 : n * t.toInt.toNat ≤ j ∧ j < n * t.toInt.toNat + k.toInt.toNat
    · rw [if_pos q2, if_pos (by omega)]
    · rw [if_neg q2, if_neg (by omega)]
theorem cri_e {u2 u : Nat → Nat → Int32} {a n K : Nat} {k : Int32} {lo hi : Int} (h : CRI u2 u a n K k.toInt.toNat) (bk : Bd lo hi k) (r : lo = n ∧ hi = n) : CRI u2 u a n K n := by
  have h2 : k.toInt.toNat = n := by have := bk.1; have := bk.2; omega
  rw [h2] at h
  exact h
theorem hr_at {u2 u : Nat → Nat → Int32} {K : Nat} (h : CRI u2 u 168 157 K 157) {s k : Nat} (hk : k < 157) : u2 168 (157 * s + k) = if s = K then u 170 k else u 168 (157 * s + k) := by
  rw [h]
  by_cases q : s = K
  · subst q
    rw [if_pos (by omega), if_pos rfl, Nat.add_sub_cancel_left]
  · rw [if_neg (by omega), if_neg q]
theorem hd_cr {u2 u : Nat → Nat → Int32} {K : Nat} (h : CRI u2 u 168 157 K 157) (r : RH u) (d : HD u) : HD u2 := by
  intro s hs
  have z0 := hr_at h (s := s) (k := 0) (by decide)
  rw [Nat.add_zero] at z0
  have z1 := hr_at h (s := s) (k := 1) (by decide)
  rw [z0, z1]
  obtain ⟨-, r0, r1, r2, -⟩ := r
  obtain ⟨d0, d1, d2⟩ := d s hs
  by_cases q : s = K
  · rw [if_pos q, if_pos q]
    refine ⟨r0, fun p hp => ?_, r1⟩
    rw [hr_at h (by omega), hr_at h (by omega), if_pos q, if_pos q]
    exact r2 p hp
  · rw [if_neg q, if_neg q]
    refine ⟨d0, fun p hp => ?_, d2⟩
    rw [hr_at h (by omega), hr_at h (by omega), if_neg q, if_neg q]
    exact d1 p hp
theorem hc_cr {u2 u v : Nat → Nat → Int32} {K : Nat} (h : CRI u2 u 168 157 K 157) (hK : K < 2) (e : u2 167 = u 167) (e8 : u 168 = v 168) (rc : RCf (u 170)) (hc : HC v) (h7 : ∀ j, j ≠ 0 → u 167 j = v 167 j) (hm : ∀ i : Nat, (i : Int) < (u 167 0).toInt → i ≠ K → (i : Int) < (v 167 0).toInt) : HC u2 := by
  intro j hj i hi hl
  rw [e] at hl
  by_cases q : 2 * j + i = K
  · refine rcf_e ?_ ?_ ?_ ?_ ?_ rc <;> (show u2 168 (157 * (2 * j + i) + _) = _) <;> rw [hr_at h (by decide), if_pos q]
  · have hc2 := hc j hj i hi (by
      by_cases q0 : j = 0
      · subst q0
        exact hm i hl (by omega)
      · rw [h7 (2 * j) (by omega)] at hl
        exact hl)
    refine rcf_e ?_ ?_ ?_ ?_ ?_ hc2 <;> (show u2 168 (157 * (2 * j + i) + _) = v 168 (157 * (2 * j + i) + _)) <;> rw [hr_at h (by decide), if_neg q, e8]
theorem hm_new {v n : Int32} (e : v = n + 1) (bn : Bd 0 2 n) : ∀ i : Nat, (i : Int) < v.toInt → i ≠ n.toInt.toNat → (i : Int) < n.toInt := by
  intro i h1 h2
  have e1 : (1 : Int32).toInt = 1 := rfl
  have := bn.1; have := bn.2
  rw [e, ti_add (by omega) (by omega), e1] at h1
  omega
theorem hm_old {v n : Int32} {K : Nat} (e : v = n + 0) : ∀ i : Nat, (i : Int) < v.toInt → i ≠ K → (i : Int) < n.toInt := by
  intro i h1 h2
  rw [e, Int32.add_zero] at h1
  exact h1
theorem pr_at {u2 u : Nat → Nat → Int32} {K : Nat} (h : CRI u2 u 169 37 K 37) {s k : Nat} (hk : k < 37) : u2 169 (37 * s + k) = if s = K then u 170 k else u 169 (37 * s + k) := by
  rw [h]
  by_cases q : s = K
  · subst q
    rw [if_pos (by omega), if_pos rfl, Nat.add_sub_cancel_left]
  · rw [if_neg (by omega), if_neg q]
theorem pl_cr {u2 u : Nat → Nat → Int32} {K : Nat} (h : CRI u2 u 169 37 K 37) (r : RP u) (d : PL u) : PL u2 := by
  intro s hs
  have z0 := pr_at h (s := s) (k := 0) (by decide)
  rw [Nat.add_zero] at z0
  rw [z0]
  obtain ⟨-, r0, r1⟩ := r
  obtain ⟨d0, d1⟩ := d s hs
  by_cases q : s = K
  · rw [if_pos q]
    refine ⟨r0, fun i hi => ?_⟩
    rw [pr_at h (by omega), pr_at h (by omega), pr_at h (by omega), if_pos q, if_pos q, if_pos q]
    exact r1 i hi
  · rw [if_neg q]
    refine ⟨d0, fun i hi => ?_⟩
    rw [pr_at h (by omega), pr_at h (by omega), pr_at h (by omega), if_neg q, if_neg q, if_neg q]
    exact d1 i hi
theorem my_s0 {u u2 : Nat → Nat → Int32} {v : Int32} (e : u2 = ms u 167 0 v) (b : Bd 0 2 v) (h : MY u) : MY u2 := by
  intro j hj
  have R : ∀ i, u2 167 i = if i = 0 then v else u 167 i := fun i => by rw [ms_a e]; rfl
  refine ⟨?_, ?_⟩ <;> rw [R] <;> split
  · exact b
  · exact (h j hj).1
  · omega
  · exact (h j hj).2
theorem my_s1 {u u2 : Nat → Nat → Int32} {v : Int32} (e : u2 = ms u 167 1 v) (b : Bd 0 3 v) (h : MY u) : MY u2 := by
  intro j hj
  have R : ∀ i, u2 167 i = if i = 1 then v else u 167 i := fun i => by rw [ms_a e]; rfl
  refine ⟨?_, ?_⟩ <;> rw [R] <;> split
  · omega
  · exact (h j hj).1
  · exact b
  · exact (h j hj).2
theorem hc_s1 {u u2 : Nat → Nat → Int32} {v : Int32} (e : u2 = ms u 167 1 v) (h : HC u) : HC u2 := by
  have R : ∀ i, u2 167 i = if i = 1 then v else u 167 i := fun i => by rw [ms_a e]; rfl
  have e8 : u2 168 = u 168 := ms_c e (by decide)
  intro j hj i hi hl
  rw [R, if_neg (by omega)] at hl
  rw [e8]
  exact h j hj i hi hl
end
