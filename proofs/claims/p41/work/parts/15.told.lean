section
theorem k1253 : Cond.methodLink RX7 66 arraycopyName ∈ gt := gt_5_8 (i := 15) rfl rfl
theorem k680 : Cond.methodLink RX7 50 yX1_copy ∈ gt := gt_3_4 (i := 18) rfl rfl
theorem k690 : Cond.methodLink RX7 63 yX8_copy ∈ gt := gt_3_5 (i := 4) rfl rfl
theorem k691 : Cond.instanceMethod yX8_copy ∈ gt := gt_3_5 (i := 5) rfl rfl
theorem k692 : Cond.selects RX8 yX8_copy yX8_copy ∈ gt := gt_3_5 (i := 6) rfl rfl
theorem k693 : Cond.code yX8_copy cX8_copy 2 none ∈ gt := gt_3_5 (i := 7) rfl rfl
theorem np_X8_copy : yX8_copy.cls ≠ "java/lang/invoke/MethodHandle" ∧ yX8_copy.cls ≠ "java/lang/invoke/VarHandle" ∧ (parseMethodDescriptor yX8_copy.desc).map (fun d => d.parameters.length) = some 1 := ⟨cq_RX8.1, cq_RX8.2, pd_55⟩
theorem k189 : Cond.fieldLinkNest RX10 71 "PondStair$Told" "length" "I" "PondStair" ∈ nt := nt_1_4 (i := 7) rfl rfl
theorem k458 : Cond.methodLink RX10 75 yX7_append ∈ gt := gt_2_5 (i := 12) rfl rfl
theorem k459 : Cond.instanceMethod yX7_append ∈ gt := gt_2_5 (i := 13) rfl rfl
theorem k460 : Cond.selects RX7 yX7_append yX7_append ∈ gt := gt_2_5 (i := 14) rfl rfl
theorem k461 : Cond.code yX7_append cX7_append 3 none ∈ gt := gt_2_5 (i := 15) rfl rfl
theorem np_X7_append : yX7_append.cls ≠ "java/lang/invoke/MethodHandle" ∧ yX7_append.cls ≠ "java/lang/invoke/VarHandle" ∧ (parseMethodDescriptor yX7_append.desc).map (fun d => d.parameters.length) = some 1 := ⟨cq_RX7.1, cq_RX7.2, pd_9⟩
theorem k1249 : Cond.methodLink RX10 334 yX7_copy ∈ gt := gt_5_8 (i := 11) rfl rfl
theorem k1250 : Cond.instanceMethod yX7_copy ∈ gt := gt_5_8 (i := 12) rfl rfl
theorem k1251 : Cond.selects RX7 yX7_copy yX7_copy ∈ gt := gt_5_8 (i := 13) rfl rfl
theorem k1252 : Cond.code yX7_copy cX7_copy 3 none ∈ gt := gt_5_8 (i := 14) rfl rfl
theorem np_X7_copy : yX7_copy.cls ≠ "java/lang/invoke/MethodHandle" ∧ yX7_copy.cls ≠ "java/lang/invoke/VarHandle" ∧ (parseMethodDescriptor yX7_copy.desc).map (fun d => d.parameters.length) = some 1 := ⟨cq_RX7.1, cq_RX7.2, pd_54⟩
theorem dX7_copy_0 : decode cX7_copy 0 = .ok (.aload_n 1, 1) := dqn_43 (k := 112) qh_cX7_copy rfl rfl
theorem dX7_copy_1 : decode cX7_copy 1 = .ok (.getfield 9, 3) := dqn_180 (k := 109) qh_cX7_copy rfl rfl rfl
theorem dX7_copy_4 : decode cX7_copy 4 = .ok (.iconst 0, 1) := dqn_3 (k := 108) qh_cX7_copy rfl rfl
theorem dX7_copy_5 : decode cX7_copy 5 = .ok (.aload_n 0, 1) := dqn_42 (k := 107) qh_cX7_copy rfl rfl
theorem dX7_copy_6 : decode cX7_copy 6 = .ok (.getfield 9, 3) := dqn_180 (k := 104) qh_cX7_copy rfl rfl rfl
theorem dX7_copy_9 : decode cX7_copy 9 = .ok (.iconst 0, 1) := dqn_3 (k := 103) qh_cX7_copy rfl rfl
theorem dX7_copy_10 : decode cX7_copy 10 = .ok (.sipush 600, 3) := dqn_17 (k := 100) (u := 600) qh_cX7_copy rfl rfl rfl (sg_p rfl rfl)
theorem dX7_copy_13 : decode cX7_copy 13 = .ok (.invokestatic 66, 3) := dqn_184 (k := 97) qh_cX7_copy rfl rfl rfl
theorem dX7_copy_16 : decode cX7_copy 16 = .ok (.aload_n 0, 1) := dqn_42 (k := 96) qh_cX7_copy rfl rfl
theorem dX7_copy_17 : decode cX7_copy 17 = .ok (.aload_n 1, 1) := dqn_43 (k := 95) qh_cX7_copy rfl rfl
theorem dX7_copy_18 : decode cX7_copy 18 = .ok (.getfield 15, 3) := dqn_180 (k := 92) qh_cX7_copy rfl rfl rfl
theorem dX7_copy_21 : decode cX7_copy 21 = .ok (.putfield 15, 3) := dqn_181 (k := 89) qh_cX7_copy rfl rfl rfl
theorem dX7_copy_24 : decode cX7_copy 24 = .ok (.aload_n 0, 1) := dqn_42 (k := 88) qh_cX7_copy rfl rfl
theorem dX7_copy_25 : decode cX7_copy 25 = .ok (.aload_n 1, 1) := dqn_43 (k := 87) qh_cX7_copy rfl rfl
theorem dX7_copy_26 : decode cX7_copy 26 = .ok (.getfield 19, 3) := dqn_180 (k := 84) qh_cX7_copy rfl rfl rfl
theorem dX7_copy_29 : decode cX7_copy 29 = .ok (.putfield 19, 3) := dqn_181 (k := 81) qh_cX7_copy rfl rfl rfl
theorem dX7_copy_32 : decode cX7_copy 32 = .ok (.aload_n 0, 1) := dqn_42 (k := 80) qh_cX7_copy rfl rfl
theorem dX7_copy_33 : decode cX7_copy 33 = .ok (.aload_n 1, 1) := dqn_43 (k := 79) qh_cX7_copy rfl rfl
theorem dX7_copy_34 : decode cX7_copy 34 = .ok (.getfield 22, 3) := dqn_180 (k := 76) qh_cX7_copy rfl rfl rfl
theorem dX7_copy_37 : decode cX7_copy 37 = .ok (.putfield 22, 3) := dqn_181 (k := 73) qh_cX7_copy rfl rfl rfl
theorem dX7_copy_40 : decode cX7_copy 40 = .ok (.aload_n 0, 1) := dqn_42 (k := 72) qh_cX7_copy rfl rfl
theorem dX7_copy_41 : decode cX7_copy 41 = .ok (.aload_n 1, 1) := dqn_43 (k := 71) qh_cX7_copy rfl rfl
theorem dX7_copy_42 : decode cX7_copy 42 = .ok (.getfield 31, 3) := dqn_180 (k := 68) qh_cX7_copy rfl rfl rfl
theorem dX7_copy_45 : decode cX7_copy 45 = .ok (.putfield 31, 3) := dqn_181 (k := 65) qh_cX7_copy rfl rfl rfl
theorem dX7_copy_48 : decode cX7_copy 48 = .ok (.aload_n 0, 1) := dqn_42 (k := 64) qh_cX7_copy rfl rfl
theorem dX7_copy_49 : decode cX7_copy 49 = .ok (.aload_n 1, 1) := dqn_43 (k := 63) qh_cX7_copy rfl rfl
theorem dX7_copy_50 : decode cX7_copy 50 = .ok (.getfield 40, 3) := dqn_180 (k := 60) qh_cX7_copy rfl rfl rfl
theorem dX7_copy_53 : decode cX7_copy 53 = .ok (.putfield 40, 3) := dqn_181 (k := 57) qh_cX7_copy rfl rfl rfl
theorem dX7_copy_56 : decode cX7_copy 56 = .ok (.iconst 0, 1) := dqn_3 (k := 56) qh_cX7_copy rfl rfl
theorem dX7_copy_57 : decode cX7_copy 57 = .ok (.istore_n 2, 1) := dqn_61 (k := 55) qh_cX7_copy rfl rfl
theorem dX7_copy_58 : decode cX7_copy 58 = .ok (.iload_n 2, 1) := dqn_28 (k := 54) qh_cX7_copy rfl rfl
theorem dX7_copy_59 : decode cX7_copy 59 = .ok (.iconst 2, 1) := dqn_5 (k := 53) qh_cX7_copy rfl rfl
theorem dX7_copy_60 : decode cX7_copy 60 = .ok (.if_icmp .ge 24, 3) := dqn_162 (k := 50) (u := 24) qh_cX7_copy rfl rfl rfl (sg_p rfl rfl)
theorem dX7_copy_63 : decode cX7_copy 63 = .ok (.aload_n 0, 1) := dqn_42 (k := 49) qh_cX7_copy rfl rfl
theorem dX7_copy_64 : decode cX7_copy 64 = .ok (.getfield 27, 3) := dqn_180 (k := 46) qh_cX7_copy rfl rfl rfl
theorem dX7_copy_67 : decode cX7_copy 67 = .ok (.iload_n 2, 1) := dqn_28 (k := 45) qh_cX7_copy rfl rfl
theorem dX7_copy_68 : decode cX7_copy 68 = .ok (.aaload, 1) := dqn_50 (k := 44) qh_cX7_copy rfl rfl
theorem dX7_copy_69 : decode cX7_copy 69 = .ok (.aload_n 1, 1) := dqn_43 (k := 43) qh_cX7_copy rfl rfl
theorem dX7_copy_70 : decode cX7_copy 70 = .ok (.getfield 27, 3) := dqn_180 (k := 40) qh_cX7_copy rfl rfl rfl
theorem dX7_copy_73 : decode cX7_copy 73 = .ok (.iload_n 2, 1) := dqn_28 (k := 39) qh_cX7_copy rfl rfl
theorem dX7_copy_74 : decode cX7_copy 74 = .ok (.aaload, 1) := dqn_50 (k := 38) qh_cX7_copy rfl rfl
theorem dX7_copy_75 : decode cX7_copy 75 = .ok (.invokevirtual 50, 3) := dqn_182 (k := 35) qh_cX7_copy rfl rfl rfl
theorem dX7_copy_78 : decode cX7_copy 78 = .ok (.iinc 2 1, 3) := dqn_132 (k := 32) (u := 1) qh_cX7_copy rfl rfl rfl rfl (by decide)
theorem dX7_copy_81 : decode cX7_copy 81 = .ok (.goto (-23), 3) := dqn_167 (k := 29) (u := 65513) qh_cX7_copy rfl rfl rfl (sg_n (k := 23) rfl rfl rfl)
theorem dX7_copy_84 : decode cX7_copy 84 = .ok (.iconst 0, 1) := dqn_3 (k := 28) qh_cX7_copy rfl rfl
theorem dX7_copy_85 : decode cX7_copy 85 = .ok (.istore_n 2, 1) := dqn_61 (k := 27) qh_cX7_copy rfl rfl
theorem dX7_copy_86 : decode cX7_copy 86 = .ok (.iload_n 2, 1) := dqn_28 (k := 26) qh_cX7_copy rfl rfl
theorem dX7_copy_87 : decode cX7_copy 87 = .ok (.iconst 3, 1) := dqn_6 (k := 25) qh_cX7_copy rfl rfl
theorem dX7_copy_88 : decode cX7_copy 88 = .ok (.if_icmp .ge 24, 3) := dqn_162 (k := 22) (u := 24) qh_cX7_copy rfl rfl rfl (sg_p rfl rfl)
theorem dX7_copy_91 : decode cX7_copy 91 = .ok (.aload_n 0, 1) := dqn_42 (k := 21) qh_cX7_copy rfl rfl
theorem dX7_copy_92 : decode cX7_copy 92 = .ok (.getfield 36, 3) := dqn_180 (k := 18) qh_cX7_copy rfl rfl rfl
theorem dX7_copy_95 : decode cX7_copy 95 = .ok (.iload_n 2, 1) := dqn_28 (k := 17) qh_cX7_copy rfl rfl
theorem dX7_copy_96 : decode cX7_copy 96 = .ok (.aaload, 1) := dqn_50 (k := 16) qh_cX7_copy rfl rfl
theorem dX7_copy_97 : decode cX7_copy 97 = .ok (.aload_n 1, 1) := dqn_43 (k := 15) qh_cX7_copy rfl rfl
theorem dX7_copy_98 : decode cX7_copy 98 = .ok (.getfield 36, 3) := dqn_180 (k := 12) qh_cX7_copy rfl rfl rfl
theorem dX7_copy_101 : decode cX7_copy 101 = .ok (.iload_n 2, 1) := dqn_28 (k := 11) qh_cX7_copy rfl rfl
theorem dX7_copy_102 : decode cX7_copy 102 = .ok (.aaload, 1) := dqn_50 (k := 10) qh_cX7_copy rfl rfl
theorem dX7_copy_103 : decode cX7_copy 103 = .ok (.invokevirtual 63, 3) := dqn_182 (k := 7) qh_cX7_copy rfl rfl rfl
theorem dX7_copy_106 : decode cX7_copy 106 = .ok (.iinc 2 1, 3) := dqn_132 (k := 4) (u := 1) qh_cX7_copy rfl rfl rfl rfl (by decide)
theorem dX7_copy_109 : decode cX7_copy 109 = .ok (.goto (-23), 3) := dqn_167 (k := 1) (u := 65513) qh_cX7_copy rfl rfl rfl (sg_n (k := 23) rfl rfl rfl)
theorem dX7_copy_112 : decode cX7_copy 112 = .ok (.return_, 1) := dqn_177 (k := 0) qh_cX7_copy rfl rfl
theorem dX7_append_0 : decode cX7_append 0 = .ok (.bipush 24, 2) := dqn_16 (k := 45) (u := 24) qh_cX7_append rfl rfl rfl (by decide)
theorem dX7_append_2 : decode cX7_append 2 = .ok (.istore_n 2, 1) := dqn_61 (k := 44) qh_cX7_append rfl rfl
theorem dX7_append_3 : decode cX7_append 3 = .ok (.iload_n 2, 1) := dqn_28 (k := 43) qh_cX7_append rfl rfl
theorem dX7_append_4 : decode cX7_append 4 = .ok (.ifCond .lt 42, 3) := dqn_155 (k := 40) (u := 42) qh_cX7_append rfl rfl rfl (sg_p rfl rfl)
theorem dX7_append_7 : decode cX7_append 7 = .ok (.aload_n 0, 1) := dqn_42 (k := 39) qh_cX7_append rfl rfl
theorem dX7_append_8 : decode cX7_append 8 = .ok (.getfield 15, 3) := dqn_180 (k := 36) qh_cX7_append rfl rfl rfl
theorem dX7_append_11 : decode cX7_append 11 = .ok (.sipush 600, 3) := dqn_17 (k := 33) (u := 600) qh_cX7_append rfl rfl rfl (sg_p rfl rfl)
theorem dX7_append_14 : decode cX7_append 14 = .ok (.if_icmp .ge 32, 3) := dqn_162 (k := 30) (u := 32) qh_cX7_append rfl rfl rfl (sg_p rfl rfl)
theorem dX7_append_17 : decode cX7_append 17 = .ok (.aload_n 0, 1) := dqn_42 (k := 29) qh_cX7_append rfl rfl
theorem dX7_append_18 : decode cX7_append 18 = .ok (.getfield 9, 3) := dqn_180 (k := 26) qh_cX7_append rfl rfl rfl
theorem dX7_append_21 : decode cX7_append 21 = .ok (.aload_n 0, 1) := dqn_42 (k := 25) qh_cX7_append rfl rfl
theorem dX7_append_22 : decode cX7_append 22 = .ok (.getfield 15, 3) := dqn_180 (k := 22) qh_cX7_append rfl rfl rfl
theorem dX7_append_25 : decode cX7_append 25 = .ok (.iload_n 1, 1) := dqn_27 (k := 21) qh_cX7_append rfl rfl
theorem dX7_append_26 : decode cX7_append 26 = .ok (.iload_n 2, 1) := dqn_28 (k := 20) qh_cX7_append rfl rfl
theorem dX7_append_27 : decode cX7_append 27 = .ok (.ishr, 1) := dqn_122 (k := 19) qh_cX7_append rfl rfl
theorem dX7_append_28 : decode cX7_append 28 = .ok (.i2b, 1) := dqn_145 (k := 18) qh_cX7_append rfl rfl
theorem dX7_append_29 : decode cX7_append 29 = .ok (.bastore, 1) := dqn_84 (k := 17) qh_cX7_append rfl rfl
theorem dX7_append_30 : decode cX7_append 30 = .ok (.aload_n 0, 1) := dqn_42 (k := 16) qh_cX7_append rfl rfl
theorem dX7_append_31 : decode cX7_append 31 = .ok (.dup, 1) := dqn_89 (k := 15) qh_cX7_append rfl rfl
theorem dX7_append_32 : decode cX7_append 32 = .ok (.getfield 15, 3) := dqn_180 (k := 12) qh_cX7_append rfl rfl rfl
theorem dX7_append_35 : decode cX7_append 35 = .ok (.iconst 1, 1) := dqn_4 (k := 11) qh_cX7_append rfl rfl
theorem dX7_append_36 : decode cX7_append 36 = .ok (.iadd, 1) := dqn_96 (k := 10) qh_cX7_append rfl rfl
theorem dX7_append_37 : decode cX7_append 37 = .ok (.putfield 15, 3) := dqn_181 (k := 7) qh_cX7_append rfl rfl rfl
theorem dX7_append_40 : decode cX7_append 40 = .ok (.iinc 2 (-8), 3) := dqn_132 (k := 4) (u := 248) qh_cX7_append rfl rfl rfl rfl (by decide)
theorem dX7_append_43 : decode cX7_append 43 = .ok (.goto (-40), 3) := dqn_167 (k := 1) (u := 65496) qh_cX7_append rfl rfl rfl (sg_n (k := 40) rfl rfl rfl)
theorem dX7_append_46 : decode cX7_append 46 = .ok (.return_, 1) := dqn_177 (k := 0) qh_cX7_append rfl rfl
theorem dX10_feed_0 : decode cX10_feed 0 = .ok (.aload_n 0, 1) := dqn_42 (k := 64) qh_cX10_feed rfl rfl
theorem dX10_feed_1 : decode cX10_feed 1 = .ok (.getfield 10, 3) := dqn_180 (k := 61) qh_cX10_feed rfl rfl rfl
theorem dX10_feed_4 : decode cX10_feed 4 = .ok (.getfield 71, 3) := dqn_180 (k := 58) qh_cX10_feed rfl rfl rfl
theorem dX10_feed_7 : decode cX10_feed 7 = .ok (.sipush 580, 3) := dqn_17 (k := 55) (u := 580) qh_cX10_feed rfl rfl rfl (sg_p rfl rfl)
theorem dX10_feed_10 : decode cX10_feed 10 = .ok (.if_icmp .le 5, 3) := dqn_164 (k := 52) (u := 5) qh_cX10_feed rfl rfl rfl (sg_p rfl rfl)
theorem dX10_feed_13 : decode cX10_feed 13 = .ok (.iconst (-1), 1) := dqn_2 (k := 51) qh_cX10_feed rfl rfl
theorem dX10_feed_14 : decode cX10_feed 14 = .ok (.ireturn, 1) := dqn_172 (k := 50) qh_cX10_feed rfl rfl
theorem dX10_feed_15 : decode cX10_feed 15 = .ok (.aload_n 0, 1) := dqn_42 (k := 49) qh_cX10_feed rfl rfl
theorem dX10_feed_16 : decode cX10_feed 16 = .ok (.getfield 10, 3) := dqn_180 (k := 46) qh_cX10_feed rfl rfl rfl
theorem dX10_feed_19 : decode cX10_feed 19 = .ok (.iload_n 1, 1) := dqn_27 (k := 45) qh_cX10_feed rfl rfl
theorem dX10_feed_20 : decode cX10_feed 20 = .ok (.invokevirtual 75, 3) := dqn_182 (k := 42) qh_cX10_feed rfl rfl rfl
theorem dX10_feed_23 : decode cX10_feed 23 = .ok (.aload_n 0, 1) := dqn_42 (k := 41) qh_cX10_feed rfl rfl
theorem dX10_feed_24 : decode cX10_feed 24 = .ok (.getfield 10, 3) := dqn_180 (k := 38) qh_cX10_feed rfl rfl rfl
theorem dX10_feed_27 : decode cX10_feed 27 = .ok (.iload_n 2, 1) := dqn_28 (k := 37) qh_cX10_feed rfl rfl
theorem dX10_feed_28 : decode cX10_feed 28 = .ok (.invokevirtual 75, 3) := dqn_182 (k := 34) qh_cX10_feed rfl rfl rfl
theorem dX10_feed_31 : decode cX10_feed 31 = .ok (.aload_n 0, 1) := dqn_42 (k := 33) qh_cX10_feed rfl rfl
theorem dX10_feed_32 : decode cX10_feed 32 = .ok (.getfield 10, 3) := dqn_180 (k := 30) qh_cX10_feed rfl rfl rfl
theorem dX10_feed_35 : decode cX10_feed 35 = .ok (.iload_n 3, 1) := dqn_29 (k := 29) qh_cX10_feed rfl rfl
theorem dX10_feed_36 : decode cX10_feed 36 = .ok (.invokevirtual 75, 3) := dqn_182 (k := 26) qh_cX10_feed rfl rfl rfl
theorem dX10_feed_39 : decode cX10_feed 39 = .ok (.aload_n 0, 1) := dqn_42 (k := 25) qh_cX10_feed rfl rfl
theorem dX10_feed_40 : decode cX10_feed 40 = .ok (.getfield 10, 3) := dqn_180 (k := 22) qh_cX10_feed rfl rfl rfl
theorem dX10_feed_43 : decode cX10_feed 43 = .ok (.iload 4, 2) := dqn_21 (k := 20) qh_cX10_feed rfl rfl rfl
theorem dX10_feed_45 : decode cX10_feed 45 = .ok (.invokevirtual 75, 3) := dqn_182 (k := 17) qh_cX10_feed rfl rfl rfl
theorem dX10_feed_48 : decode cX10_feed 48 = .ok (.aload_n 0, 1) := dqn_42 (k := 16) qh_cX10_feed rfl rfl
theorem dX10_feed_49 : decode cX10_feed 49 = .ok (.getfield 10, 3) := dqn_180 (k := 13) qh_cX10_feed rfl rfl rfl
theorem dX10_feed_52 : decode cX10_feed 52 = .ok (.iload 5, 2) := dqn_21 (k := 11) qh_cX10_feed rfl rfl rfl
theorem dX10_feed_54 : decode cX10_feed 54 = .ok (.invokevirtual 75, 3) := dqn_182 (k := 8) qh_cX10_feed rfl rfl rfl
theorem dX10_feed_57 : decode cX10_feed 57 = .ok (.aload_n 0, 1) := dqn_42 (k := 7) qh_cX10_feed rfl rfl
theorem dX10_feed_58 : decode cX10_feed 58 = .ok (.getfield 10, 3) := dqn_180 (k := 4) qh_cX10_feed rfl rfl rfl
theorem dX10_feed_61 : decode cX10_feed 61 = .ok (.getfield 71, 3) := dqn_180 (k := 1) qh_cX10_feed rfl rfl rfl
theorem dX10_feed_64 : decode cX10_feed 64 = .ok (.ireturn, 1) := dqn_172 (k := 0) qh_cX10_feed rfl rfl
theorem dX10_end_0 : decode cX10_end 0 = .ok (.iload_n 1, 1) := dqn_27 (k := 26) qh_cX10_end rfl rfl
theorem dX10_end_1 : decode cX10_end 1 = .ok (.ifCond .lt 14, 3) := dqn_155 (k := 23) (u := 14) qh_cX10_end rfl rfl rfl (sg_p rfl rfl)
theorem dX10_end_4 : decode cX10_end 4 = .ok (.iload_n 1, 1) := dqn_27 (k := 22) qh_cX10_end rfl rfl
theorem dX10_end_5 : decode cX10_end 5 = .ok (.aload_n 0, 1) := dqn_42 (k := 21) qh_cX10_end rfl rfl
theorem dX10_end_6 : decode cX10_end 6 = .ok (.getfield 10, 3) := dqn_180 (k := 18) qh_cX10_end rfl rfl rfl
theorem dX10_end_9 : decode cX10_end 9 = .ok (.getfield 71, 3) := dqn_180 (k := 15) qh_cX10_end rfl rfl rfl
theorem dX10_end_12 : decode cX10_end 12 = .ok (.if_icmp .le 5, 3) := dqn_164 (k := 12) (u := 5) qh_cX10_end rfl rfl rfl (sg_p rfl rfl)
theorem dX10_end_15 : decode cX10_end 15 = .ok (.iconst (-1), 1) := dqn_2 (k := 11) qh_cX10_end rfl rfl
theorem dX10_end_16 : decode cX10_end 16 = .ok (.ireturn, 1) := dqn_172 (k := 10) qh_cX10_end rfl rfl
theorem dX10_end_17 : decode cX10_end 17 = .ok (.aload_n 0, 1) := dqn_42 (k := 9) qh_cX10_end rfl rfl
theorem dX10_end_18 : decode cX10_end 18 = .ok (.getfield 10, 3) := dqn_180 (k := 6) qh_cX10_end rfl rfl rfl
theorem dX10_end_21 : decode cX10_end 21 = .ok (.iload_n 1, 1) := dqn_27 (k := 5) qh_cX10_end rfl rfl
theorem dX10_end_22 : decode cX10_end 22 = .ok (.putfield 71, 3) := dqn_181 (k := 2) qh_cX10_end rfl rfl rfl
theorem dX10_end_25 : decode cX10_end 25 = .ok (.iload_n 1, 1) := dqn_27 (k := 1) qh_cX10_end rfl rfl
theorem dX10_end_26 : decode cX10_end 26 = .ok (.ireturn, 1) := dqn_172 (k := 0) qh_cX10_end rfl rfl
theorem dX10_image_0 : decode cX10_image 0 = .ok (.iload_n 1, 1) := dqn_27 (k := 32) qh_cX10_image rfl rfl
theorem dX10_image_1 : decode cX10_image 1 = .ok (.ifCond .lt 8, 3) := dqn_155 (k := 29) (u := 8) qh_cX10_image rfl rfl rfl (sg_p rfl rfl)
theorem dX10_image_4 : decode cX10_image 4 = .ok (.iload_n 1, 1) := dqn_27 (k := 28) qh_cX10_image rfl rfl
theorem dX10_image_5 : decode cX10_image 5 = .ok (.iconst 3, 1) := dqn_6 (k := 27) qh_cX10_image rfl rfl
theorem dX10_image_6 : decode cX10_image 6 = .ok (.if_icmp .lt 5, 3) := dqn_161 (k := 24) (u := 5) qh_cX10_image rfl rfl rfl (sg_p rfl rfl)
theorem dX10_image_9 : decode cX10_image 9 = .ok (.iconst 0, 1) := dqn_3 (k := 23) qh_cX10_image rfl rfl
theorem dX10_image_10 : decode cX10_image 10 = .ok (.ireturn, 1) := dqn_172 (k := 22) qh_cX10_image rfl rfl
theorem dX10_image_11 : decode cX10_image 11 = .ok (.aload_n 0, 1) := dqn_42 (k := 21) qh_cX10_image rfl rfl
theorem dX10_image_12 : decode cX10_image 12 = .ok (.getfield 16, 3) := dqn_180 (k := 18) qh_cX10_image rfl rfl rfl
theorem dX10_image_15 : decode cX10_image 15 = .ok (.iload_n 1, 1) := dqn_27 (k := 17) qh_cX10_image rfl rfl
theorem dX10_image_16 : decode cX10_image 16 = .ok (.aaload, 1) := dqn_50 (k := 16) qh_cX10_image rfl rfl
theorem dX10_image_17 : decode cX10_image 17 = .ok (.aload_n 0, 1) := dqn_42 (k := 15) qh_cX10_image rfl rfl
theorem dX10_image_18 : decode cX10_image 18 = .ok (.getfield 10, 3) := dqn_180 (k := 12) qh_cX10_image rfl rfl rfl
theorem dX10_image_21 : decode cX10_image 21 = .ok (.invokevirtual 334, 3) := dqn_182 (k := 9) qh_cX10_image rfl rfl rfl
theorem dX10_image_24 : decode cX10_image 24 = .ok (.aload_n 0, 1) := dqn_42 (k := 8) qh_cX10_image rfl rfl
theorem dX10_image_25 : decode cX10_image 25 = .ok (.getfield 20, 3) := dqn_180 (k := 5) qh_cX10_image rfl rfl rfl
theorem dX10_image_28 : decode cX10_image 28 = .ok (.iload_n 1, 1) := dqn_27 (k := 4) qh_cX10_image rfl rfl
theorem dX10_image_29 : decode cX10_image 29 = .ok (.iconst 1, 1) := dqn_4 (k := 3) qh_cX10_image rfl rfl
theorem dX10_image_30 : decode cX10_image 30 = .ok (.bastore, 1) := dqn_84 (k := 2) qh_cX10_image rfl rfl
theorem dX10_image_31 : decode cX10_image 31 = .ok (.iconst 1, 1) := dqn_4 (k := 1) qh_cX10_image rfl rfl
theorem dX10_image_32 : decode cX10_image 32 = .ok (.ireturn, 1) := dqn_172 (k := 0) qh_cX10_image rfl rfl
theorem dX10_again_0 : decode cX10_again 0 = .ok (.iload_n 1, 1) := dqn_27 (k := 34) qh_cX10_again rfl rfl
theorem dX10_again_1 : decode cX10_again 1 = .ok (.ifCond .lt 17, 3) := dqn_155 (k := 31) (u := 17) qh_cX10_again rfl rfl rfl (sg_p rfl rfl)
theorem dX10_again_4 : decode cX10_again 4 = .ok (.iload_n 1, 1) := dqn_27 (k := 30) qh_cX10_again rfl rfl
theorem dX10_again_5 : decode cX10_again 5 = .ok (.iconst 3, 1) := dqn_6 (k := 29) qh_cX10_again rfl rfl
theorem dX10_again_6 : decode cX10_again 6 = .ok (.if_icmp .ge 12, 3) := dqn_162 (k := 26) (u := 12) qh_cX10_again rfl rfl rfl (sg_p rfl rfl)
theorem dX10_again_9 : decode cX10_again 9 = .ok (.aload_n 0, 1) := dqn_42 (k := 25) qh_cX10_again rfl rfl
theorem dX10_again_10 : decode cX10_again 10 = .ok (.getfield 20, 3) := dqn_180 (k := 22) qh_cX10_again rfl rfl rfl
theorem dX10_again_13 : decode cX10_again 13 = .ok (.iload_n 1, 1) := dqn_27 (k := 21) qh_cX10_again rfl rfl
theorem dX10_again_14 : decode cX10_again 14 = .ok (.baload, 1) := dqn_51 (k := 20) qh_cX10_again rfl rfl
theorem dX10_again_15 : decode cX10_again 15 = .ok (.ifCond .ne 5, 3) := dqn_154 (k := 17) (u := 5) qh_cX10_again rfl rfl rfl (sg_p rfl rfl)
theorem dX10_again_18 : decode cX10_again 18 = .ok (.iconst 0, 1) := dqn_3 (k := 16) qh_cX10_again rfl rfl
theorem dX10_again_19 : decode cX10_again 19 = .ok (.ireturn, 1) := dqn_172 (k := 15) qh_cX10_again rfl rfl
theorem dX10_again_20 : decode cX10_again 20 = .ok (.aload_n 0, 1) := dqn_42 (k := 14) qh_cX10_again rfl rfl
theorem dX10_again_21 : decode cX10_again 21 = .ok (.getfield 10, 3) := dqn_180 (k := 11) qh_cX10_again rfl rfl rfl
theorem dX10_again_24 : decode cX10_again 24 = .ok (.aload_n 0, 1) := dqn_42 (k := 10) qh_cX10_again rfl rfl
theorem dX10_again_25 : decode cX10_again 25 = .ok (.getfield 16, 3) := dqn_180 (k := 7) qh_cX10_again rfl rfl rfl
theorem dX10_again_28 : decode cX10_again 28 = .ok (.iload_n 1, 1) := dqn_27 (k := 6) qh_cX10_again rfl rfl
theorem dX10_again_29 : decode cX10_again 29 = .ok (.aaload, 1) := dqn_50 (k := 5) qh_cX10_again rfl rfl
theorem dX10_again_30 : decode cX10_again 30 = .ok (.invokevirtual 334, 3) := dqn_182 (k := 2) qh_cX10_again rfl rfl rfl
theorem dX10_again_33 : decode cX10_again 33 = .ok (.iconst 1, 1) := dqn_4 (k := 1) qh_cX10_again rfl rfl
theorem dX10_again_34 : decode cX10_again 34 = .ok (.ireturn, 1) := dqn_172 (k := 0) qh_cX10_again rfl rfl
/-! the reader: numbers of at most three digits -/
def NV (u : Nat → Nat → Int32) : Prop := u 30 3 = 2 → Bd 0 999 (u 30 5)
def NVI (n s v : Int32) : Prop := (n.toInt = s.toInt ∧ Bd 0 0 v) ∨ (n.toInt = s.toInt + 1 ∧ Bd 0 9 v) ∨ (n.toInt = s.toInt + 2 ∧ Bd 0 99 v) ∨ (n.toInt = s.toInt + 3 ∧ Bd 0 999 v) ∨ s.toInt + 4 ≤ n.toInt
theorem nvi_r {a b c a2 b2 c2 : Int32} (e1 : a2 = a) (e2 : b2 = b) (e3 : c2 = c) (h : NVI a b c) : NVI a2 b2 c2 := by subst e1; subst e2; subst e3; exact h
theorem nvi_0 {n s v : Int32} (e : n = s) (h : v = 0) : NVI n s v := Or.inl ⟨by rw [e], by subst h; decide⟩
theorem nvi_s {n s v d : Int32} (h : NVI n s v) (bn : Bd 0 599 n) (bd : Bd 48 57 d) : NVI (n + 1) s (v * 10 + (d - 48)) := by
  have e1 : (1 : Int32).toInt = 1 := rfl
  have hn : (n + 1).toInt = n.toInt + 1 := by rw [ti_add (by have := bn.1; have := bn.2; omega) (by have := bn.1; have := bn.2; omega)]; rfl
  have hd : Bd 0 9 (d - 48) := bd_sub (l := 0) (h := 9) bd (bd_c (v := 48) (lo := 48) (hi := 48) (by decide)) (by decide)
  have t10 : Bd 10 10 (10 : Int32) := by decide
  unfold NVI at h ⊢
  rw [hn]
  rcases h with ⟨h1, h2⟩ | ⟨h1, h2⟩ | ⟨h1, h2⟩ | ⟨h1, h2⟩ | h1
  · exact Or.inr (Or.inl ⟨by omega, bd_add (l := 0) (h := 9) (bd_mul (l := 0) (h := 0) h2 t10 (by decide)) hd (by decide)⟩)
  · exact Or.inr (Or.inr (Or.inl ⟨by omega, bd_add (l := 0) (h := 99) (bd_mul (l := 0) (h := 90) h2 t10 (by decide)) hd (by decide)⟩))
  · exact Or.inr (Or.inr (Or.inr (Or.inl ⟨by omega, bd_add (l := 0) (h := 999) (bd_mul (l := 0) (h := 990) h2 t10 (by decide)) hd (by decide)⟩)))
  · exact Or.inr (Or.inr (Or.inr (Or.inr (by omega))))
  · exact Or.inr (Or.inr (Or.inr (Or.inr (by omega))))
theorem nvi_e {n s v : Int32} (h : NVI n s v) (bn : Bd 0 600 n) (bs : Bd 0 600 s) (hc : n - s ≤ 3) : Bd 0 999 v := by
  have h3 := Int32.le_iff_toInt_le.mp hc
  have e3 : (3 : Int32).toInt = 3 := rfl
  obtain ⟨n1, n2⟩ := bn; obtain ⟨s1, s2⟩ := bs
  rw [ti_sub (by omega) (by omega), e3] at h3
  rcases h with ⟨h1, h2⟩ | ⟨h1, h2⟩ | ⟨h1, h2⟩ | ⟨h1, h2⟩ | h1
  · exact bd_w h2 (by decide)
  · exact bd_w h2 (by decide)
  · exact bd_w h2 (by decide)
  · exact h2
  · omega
theorem slen_sh : ∀ i, i < 18 → (Int32.ofNat (sLn.getD i 0)) >>> ((0 : Int32) &&& 31) = Int32.ofNat (sLn.getD i 0) := by decide +kernel
theorem sl_vin {i : Nat} {k : Int32} {lo hi : Int} (b : Bd lo hi k) (hl : 0 ≤ lo) (h : k < Int32.ofNat (sLn.getD i 0)) : vp_in k (sLn.getD i 0) := by
  have h1 := Int32.lt_iff_toInt_lt.mp h
  have h2 := sln_le i
  rw [Int32.toInt_ofNat_of_lt (by omega)] at h1
  have h3 := b.1
  intro q
  rcases q with q | q
  · have h4 := Int32.lt_iff_toInt_lt.mp q
    have h5 : (0 : Int32).toInt = 0 := rfl
    omega
  · have h4 : k.toNatClampNeg = k.toInt.toNat := rfl
    omega
theorem vin_sl {i : Nat} {k : Int32} (h : vp_in k (sLn.getD i 0)) : 0 ≤ k ∧ k < Int32.ofNat (sLn.getD i 0) := by
  have h2 := sln_le i
  have h4 : k.toNatClampNeg = k.toInt.toNat := rfl
  have h5 : (0 : Int32).toInt = 0 := rfl
  have a1 : ¬ k < 0 := fun q => h (Or.inl q)
  have a2 : ¬ sLn.getD i 0 ≤ k.toNatClampNeg := fun q => h (Or.inr q)
  refine ⟨i_nlt a1, ?_⟩
  rw [Int32.lt_iff_toInt_lt, Int32.toInt_ofNat_of_lt (by omega)]
  omega
theorem nar_c {u v : Int32} (h : v = (u.toUInt32 % 65536).toInt32) : narrow .char (.int v) = .int v := by
  subst h
  show Value.int ((((u.toUInt32 % 65536).toInt32).toUInt32 % 65536).toInt32) = _
  congr 2
  have e : ((u.toUInt32 % 65536).toInt32).toUInt32 = u.toUInt32 % 65536 := rfl
  rw [e]
  apply UInt32.toNat_inj.mp
  rw [UInt32.toNat_mod, UInt32.toNat_mod]
  exact Nat.mod_mod _ _
theorem plan_cnt : ∀ j, j < 5 → (1 < (sAr 3).getD j 0 ∨ j = 4) := by decide +kernel
theorem plan_count {l v : Int32} (b : Bd 0 4 l) (e : v = (sAr 3).getD l.toNatClampNeg 0) : 1 < v ∨ l = 4 := by
  obtain ⟨n, h1, h2⟩ := i32_nat b (by decide)
  have h4 : l.toNatClampNeg = l.toInt.toNat := rfl
  have h5 : l.toNatClampNeg = n := by omega
  rw [e, h5]
  rcases plan_cnt n (by have := b.2; omega) with h | h
  · exact Or.inl h
  · refine Or.inr ?_
    rw [h2, h]
    rfl
theorem img_t {k : Int32} (b : Bd 0 2 k) : 0 ≤ k ∧ k ≤ 2 := by
  have e0 : (0 : Int32).toInt = 0 := rfl
  have e2 : (2 : Int32).toInt = 2 := rfl
  obtain ⟨b1, b2⟩ := b
  exact ⟨by rw [Int32.le_iff_toInt_le]; omega, by rw [Int32.le_iff_toInt_le]; omega⟩
theorem img_2 {k : Int32} (h : 3 ≤ k) (q : 0 ≤ k ∧ k ≤ 2) : False := by
  have h1 := Int32.le_iff_toInt_le.mp h
  have h2 := Int32.le_iff_toInt_le.mp q.2
  have e3 : (3 : Int32).toInt = 3 := rfl
  have e2 : (2 : Int32).toInt = 2 := rfl
  omega
theorem km_s {u u2 : Nat → Nat → Int32} {w i : Nat} {k m : Int32} (e1 : u2 (w + 1) = upd (u (w + 1)) i k) (e3 : u2 (w + 3) = upd (u (w + 3)) i m) (h : KM u w) (q : k = 4 ∨ Bd 0 999 m) : KM u2 w := by
  intro j
  rw [e1, e3]
  by_cases hj : j = i
  · simp only [upd, hj, if_true]; exact q
  · simp only [upd, hj, if_false]; exact h j
theorem km_cp {u u2 : Nat → Nat → Int32} {w f : Nat} (e1 : u2 (w + 1) = va_cpy (u (f + 1)) (u (w + 1)) 0 0 12) (e3 : u2 (w + 3) = va_cpy (u (f + 3)) (u (w + 3)) 0 0 12) (hf : KM u f) (hw : KM u w) : KM u2 w := by
  intro j
  rw [e1, e3]
  by_cases hj : j < 12
  · have q : 0 ≤ j ∧ j < 0 + 12 := ⟨Nat.zero_le _, by omega⟩
    simp only [va_cpy, q, and_self, if_true]
    exact hf _
  · have q : ¬ (0 ≤ j ∧ j < 0 + 12) := by omega
    simp only [va_cpy, q, if_false]
    exact hw j
end
section
theorem k493 : Cond.methodLink RX6 29 Lib.Math.min.name ∈ gt := gt_2_6 (i := 23) rfl rfl
theorem k507 : Cond.methodLink RX6 39 yX6_isLetter ∈ gt := gt_2_7 (i := 13) rfl rfl
theorem k508 : Cond.static yX6_isLetter ∈ gt := gt_2_7 (i := 14) rfl rfl
theorem k509 : Cond.code yX6_isLetter cX6_isLetter 1 (some .boolean) ∈ gt := gt_2_7 (i := 15) rfl rfl
theorem np_X6_isLetter : yX6_isLetter.cls ≠ "java/lang/invoke/MethodHandle" ∧ yX6_isLetter.cls ≠ "java/lang/invoke/VarHandle" ∧ (parseMethodDescriptor yX6_isLetter.desc).map (fun d => d.parameters.length) = some 1 := ⟨cq_RX6.1, cq_RX6.2, pd_10⟩
theorem k514 : Cond.methodLink RX6 45 yX6_isDigit ∈ gt := gt_2_7 (i := 20) rfl rfl
theorem k515 : Cond.static yX6_isDigit ∈ gt := gt_2_7 (i := 21) rfl rfl
theorem k516 : Cond.code yX6_isDigit cX6_isDigit 1 (some .boolean) ∈ gt := gt_2_7 (i := 22) rfl rfl
theorem np_X6_isDigit : yX6_isDigit.cls ≠ "java/lang/invoke/MethodHandle" ∧ yX6_isDigit.cls ≠ "java/lang/invoke/VarHandle" ∧ (parseMethodDescriptor yX6_isDigit.desc).map (fun d => d.parameters.length) = some 1 := ⟨cq_RX6.1, cq_RX6.2, pd_10⟩
theorem k504 : Cond.methodLink RX6 35 yX6_isBlank ∈ gt := gt_2_7 (i := 10) rfl rfl
theorem k505 : Cond.static yX6_isBlank ∈ gt := gt_2_7 (i := 11) rfl rfl
theorem k506 : Cond.code yX6_isBlank cX6_isBlank 1 (some .boolean) ∈ gt := gt_2_7 (i := 12) rfl rfl
theorem np_X6_isBlank : yX6_isBlank.cls ≠ "java/lang/invoke/MethodHandle" ∧ yX6_isBlank.cls ≠ "java/lang/invoke/VarHandle" ∧ (parseMethodDescriptor yX6_isBlank.desc).map (fun d => d.parameters.length) = some 1 := ⟨cq_RX6.1, cq_RX6.2, pd_10⟩
theorem k517 : Cond.methodLink RX6 48 yX6_takeNumber ∈ gt := gt_2_7 (i := 23) rfl rfl
theorem k519 : Cond.instanceMethod yX6_takeNumber ∈ gt := gt_2_8 (i := 1) rfl rfl
theorem k2 : Cond.selects RX6 yX6_takeNumber yX6_takeNumber ∈ gt := gs_1 (i := 2) rfl rfl
theorem k520 : Cond.code yX6_takeNumber cX6_takeNumber 1 none ∈ gt := gt_2_8 (i := 2) rfl rfl
theorem np_X6_takeNumber : yX6_takeNumber.cls ≠ "java/lang/invoke/MethodHandle" ∧ yX6_takeNumber.cls ≠ "java/lang/invoke/VarHandle" ∧ (parseMethodDescriptor yX6_takeNumber.desc).map (fun d => d.parameters.length) = some 0 := ⟨cq_RX6.1, cq_RX6.2, pd_3⟩
theorem k510 : Cond.methodLink RX6 42 yX6_takeWord ∈ gt := gt_2_7 (i := 16) rfl rfl
theorem k512 : Cond.instanceMethod yX6_takeWord ∈ gt := gt_2_7 (i := 18) rfl rfl
theorem k1 : Cond.selects RX6 yX6_takeWord yX6_takeWord ∈ gt := gs_1 (i := 1) rfl rfl
theorem k513 : Cond.code yX6_takeWord cX6_takeWord 1 none ∈ gt := gt_2_7 (i := 19) rfl rfl
theorem np_X6_takeWord : yX6_takeWord.cls ≠ "java/lang/invoke/MethodHandle" ∧ yX6_takeWord.cls ≠ "java/lang/invoke/VarHandle" ∧ (parseMethodDescriptor yX6_takeWord.desc).map (fun d => d.parameters.length) = some 0 := ⟨cq_RX6.1, cq_RX6.2, pd_3⟩
theorem k561 : Cond.fieldLink RJ0 38 "java/lang/String" "COMPACT_STRINGS" "Z" ∈ gt := gt_2_9 (i := 19) rfl rfl
theorem k1814 : Cond.fieldLink RJ0 15 "java/lang/String" "coder" "B" ∈ gt := gt_8_2 (i := 0) rfl rfl
theorem k1813 : Cond.fieldLink RJ0 9 "java/lang/String" "value" "[B" ∈ gt := gt_8_1 (i := 23) rfl rfl
theorem k557 : Cond.methodLink RJ0 335 yJ0_coder_7d493 ∈ gt := gt_2_9 (i := 15) rfl rfl
theorem k558 : Cond.instanceMethod yJ0_coder_7d493 ∈ gt := gt_2_9 (i := 16) rfl rfl
theorem k559 : Cond.selects RJ0 yJ0_coder_7d493 yJ0_coder_7d493 ∈ gt := gt_2_9 (i := 17) rfl rfl
theorem k100 : Cond.initialized RJ0 ∈ gt := gt_1_0 (i := 14) rfl rfl
theorem k560 : Cond.code yJ0_coder_7d493 cJ0_coder_7d493 1 (some .byte) ∈ gt := gt_2_9 (i := 18) rfl rfl
theorem np_J0_coder_7d493 : yJ0_coder_7d493.cls ≠ "java/lang/invoke/MethodHandle" ∧ yJ0_coder_7d493.cls ≠ "java/lang/invoke/VarHandle" ∧ (parseMethodDescriptor yJ0_coder_7d493.desc).map (fun d => d.parameters.length) = some 0 := ⟨cq_RJ0.1, cq_RJ0.2, pd_0⟩
theorem k577 : Cond.fieldLink RJ0 1053 "jdk/internal/util/Preconditions" "SIOOBE_FORMATTER" "Ljava/util/function/BiFunction;" ∈ gt := gt_3_0 (i := 11) rfl rfl
theorem k579 : Cond.methodLink RJ0 1059 yJ3_checkIndex_8e157 ∈ gt := gt_3_0 (i := 13) rfl rfl
theorem k580 : Cond.static yJ3_checkIndex_8e157 ∈ gt := gt_3_0 (i := 14) rfl rfl
theorem k102 : Cond.initialized RJ3 ∈ gt := gt_1_0 (i := 16) rfl rfl
theorem k581 : Cond.code yJ3_checkIndex_8e157 cJ3_checkIndex_8e157 3 (some .int) ∈ gt := gt_3_0 (i := 15) rfl rfl
theorem np_J3_checkIndex_8e157 : yJ3_checkIndex_8e157.cls ≠ "java/lang/invoke/MethodHandle" ∧ yJ3_checkIndex_8e157.cls ≠ "java/lang/invoke/VarHandle" ∧ (parseMethodDescriptor yJ3_checkIndex_8e157.desc).map (fun d => d.parameters.length) = some 3 := ⟨cq_RJ3.1, cq_RJ3.2, pd_31⟩
theorem k574 : Cond.methodLink RJ1 9 yJ0_checkIndex_df160 ∈ gt := gt_3_0 (i := 8) rfl rfl
theorem k575 : Cond.static yJ0_checkIndex_df160 ∈ gt := gt_3_0 (i := 9) rfl rfl
theorem k576 : Cond.code yJ0_checkIndex_df160 cJ0_checkIndex_df160 2 none ∈ gt := gt_3_0 (i := 10) rfl rfl
theorem np_J0_checkIndex_df160 : yJ0_checkIndex_df160.cls ≠ "java/lang/invoke/MethodHandle" ∧ yJ0_checkIndex_df160.cls ≠ "java/lang/invoke/VarHandle" ∧ (parseMethodDescriptor yJ0_checkIndex_df160.desc).map (fun d => d.parameters.length) = some 2 := ⟨cq_RJ0.1, cq_RJ0.2, pd_13⟩
theorem k567 : Cond.methodLink RJ0 492 yJ0_isLatin1_aae02 ∈ gt := gt_3_0 (i := 1) rfl rfl
theorem k568 : Cond.instanceMethod yJ0_isLatin1_aae02 ∈ gt := gt_3_0 (i := 2) rfl rfl
theorem k569 : Cond.selects RJ0 yJ0_isLatin1_aae02 yJ0_isLatin1_aae02 ∈ gt := gt_3_0 (i := 3) rfl rfl
theorem k570 : Cond.code yJ0_isLatin1_aae02 cJ0_isLatin1_aae02 1 (some .boolean) ∈ gt := gt_3_0 (i := 4) rfl rfl
theorem np_J0_isLatin1_aae02 : yJ0_isLatin1_aae02.cls ≠ "java/lang/invoke/MethodHandle" ∧ yJ0_isLatin1_aae02.cls ≠ "java/lang/invoke/VarHandle" ∧ (parseMethodDescriptor yJ0_isLatin1_aae02.desc).map (fun d => d.parameters.length) = some 0 := ⟨cq_RJ0.1, cq_RJ0.2, pd_4⟩
theorem k571 : Cond.methodLink RJ0 495 yJ1_charAt_3b067 ∈ gt := gt_3_0 (i := 5) rfl rfl
theorem k572 : Cond.static yJ1_charAt_3b067 ∈ gt := gt_3_0 (i := 6) rfl rfl
theorem k101 : Cond.initialized RJ1 ∈ gt := gt_1_0 (i := 15) rfl rfl
theorem k573 : Cond.code yJ1_charAt_3b067 cJ1_charAt_3b067 2 (some .char) ∈ gt := gt_3_0 (i := 7) rfl rfl
theorem np_J1_charAt_3b067 : yJ1_charAt_3b067.cls ≠ "java/lang/invoke/MethodHandle" ∧ yJ1_charAt_3b067.cls ≠ "java/lang/invoke/VarHandle" ∧ (parseMethodDescriptor yJ1_charAt_3b067.desc).map (fun d => d.parameters.length) = some 2 := ⟨cq_RJ1.1, cq_RJ1.2, pd_58⟩
theorem dX6_isBlank_0 : decode cX6_isBlank 0 = .ok (.iload_n 0, 1) := dqn_26 (k := 17) qh_cX6_isBlank rfl rfl
theorem dX6_isBlank_1 : decode cX6_isBlank 1 = .ok (.bipush 10, 2) := dqn_16 (k := 15) (u := 10) qh_cX6_isBlank rfl rfl rfl (by decide)
theorem dX6_isBlank_3 : decode cX6_isBlank 3 = .ok (.if_icmp .eq 9, 3) := dqn_159 (k := 12) (u := 9) qh_cX6_isBlank rfl rfl rfl (sg_p rfl rfl)
theorem dX6_isBlank_6 : decode cX6_isBlank 6 = .ok (.iload_n 0, 1) := dqn_26 (k := 11) qh_cX6_isBlank rfl rfl
theorem dX6_isBlank_7 : decode cX6_isBlank 7 = .ok (.bipush 32, 2) := dqn_16 (k := 9) (u := 32) qh_cX6_isBlank rfl rfl rfl (by decide)
theorem dX6_isBlank_9 : decode cX6_isBlank 9 = .ok (.if_icmp .ne 7, 3) := dqn_160 (k := 6) (u := 7) qh_cX6_isBlank rfl rfl rfl (sg_p rfl rfl)
theorem dX6_isBlank_12 : decode cX6_isBlank 12 = .ok (.iconst 1, 1) := dqn_4 (k := 5) qh_cX6_isBlank rfl rfl
theorem dX6_isBlank_13 : decode cX6_isBlank 13 = .ok (.goto 4, 3) := dqn_167 (k := 2) (u := 4) qh_cX6_isBlank rfl rfl rfl (sg_p rfl rfl)
theorem dX6_isBlank_16 : decode cX6_isBlank 16 = .ok (.iconst 0, 1) := dqn_3 (k := 1) qh_cX6_isBlank rfl rfl
theorem dX6_isBlank_17 : decode cX6_isBlank 17 = .ok (.ireturn, 1) := dqn_172 (k := 0) qh_cX6_isBlank rfl rfl
theorem dX6_isLetter_0 : decode cX6_isLetter 0 = .ok (.iload_n 0, 1) := dqn_26 (k := 17) qh_cX6_isLetter rfl rfl
theorem dX6_isLetter_1 : decode cX6_isLetter 1 = .ok (.bipush 97, 2) := dqn_16 (k := 15) (u := 97) qh_cX6_isLetter rfl rfl rfl (by decide)
theorem dX6_isLetter_3 : decode cX6_isLetter 3 = .ok (.if_icmp .lt 13, 3) := dqn_161 (k := 12) (u := 13) qh_cX6_isLetter rfl rfl rfl (sg_p rfl rfl)
theorem dX6_isLetter_6 : decode cX6_isLetter 6 = .ok (.iload_n 0, 1) := dqn_26 (k := 11) qh_cX6_isLetter rfl rfl
theorem dX6_isLetter_7 : decode cX6_isLetter 7 = .ok (.bipush 122, 2) := dqn_16 (k := 9) (u := 122) qh_cX6_isLetter rfl rfl rfl (by decide)
theorem dX6_isLetter_9 : decode cX6_isLetter 9 = .ok (.if_icmp .gt 7, 3) := dqn_163 (k := 6) (u := 7) qh_cX6_isLetter rfl rfl rfl (sg_p rfl rfl)
theorem dX6_isLetter_12 : decode cX6_isLetter 12 = .ok (.iconst 1, 1) := dqn_4 (k := 5) qh_cX6_isLetter rfl rfl
theorem dX6_isLetter_13 : decode cX6_isLetter 13 = .ok (.goto 4, 3) := dqn_167 (k := 2) (u := 4) qh_cX6_isLetter rfl rfl rfl (sg_p rfl rfl)
theorem dX6_isLetter_16 : decode cX6_isLetter 16 = .ok (.iconst 0, 1) := dqn_3 (k := 1) qh_cX6_isLetter rfl rfl
theorem dX6_isLetter_17 : decode cX6_isLetter 17 = .ok (.ireturn, 1) := dqn_172 (k := 0) qh_cX6_isLetter rfl rfl
theorem dX6_isDigit_0 : decode cX6_isDigit 0 = .ok (.iload_n 0, 1) := dqn_26 (k := 17) qh_cX6_isDigit rfl rfl
theorem dX6_isDigit_1 : decode cX6_isDigit 1 = .ok (.bipush 48, 2) := dqn_16 (k := 15) (u := 48) qh_cX6_isDigit rfl rfl rfl (by decide)
theorem dX6_isDigit_3 : decode cX6_isDigit 3 = .ok (.if_icmp .lt 13, 3) := dqn_161 (k := 12) (u := 13) qh_cX6_isDigit rfl rfl rfl (sg_p rfl rfl)
theorem dX6_isDigit_6 : decode cX6_isDigit 6 = .ok (.iload_n 0, 1) := dqn_26 (k := 11) qh_cX6_isDigit rfl rfl
theorem dX6_isDigit_7 : decode cX6_isDigit 7 = .ok (.bipush 57, 2) := dqn_16 (k := 9) (u := 57) qh_cX6_isDigit rfl rfl rfl (by decide)
theorem dX6_isDigit_9 : decode cX6_isDigit 9 = .ok (.if_icmp .gt 7, 3) := dqn_163 (k := 6) (u := 7) qh_cX6_isDigit rfl rfl rfl (sg_p rfl rfl)
theorem dX6_isDigit_12 : decode cX6_isDigit 12 = .ok (.iconst 1, 1) := dqn_4 (k := 5) qh_cX6_isDigit rfl rfl
theorem dX6_isDigit_13 : decode cX6_isDigit 13 = .ok (.goto 4, 3) := dqn_167 (k := 2) (u := 4) qh_cX6_isDigit rfl rfl rfl (sg_p rfl rfl)
theorem dX6_isDigit_16 : decode cX6_isDigit 16 = .ok (.iconst 0, 1) := dqn_3 (k := 1) qh_cX6_isDigit rfl rfl
theorem dX6_isDigit_17 : decode cX6_isDigit 17 = .ok (.ireturn, 1) := dqn_172 (k := 0) qh_cX6_isDigit rfl rfl
theorem dX6_begin_0 : decode cX6_begin 0 = .ok (.aload_n 0, 1) := dqn_42 (k := 20) qh_cX6_begin rfl rfl
theorem dX6_begin_1 : decode cX6_begin 1 = .ok (.aload_n 1, 1) := dqn_43 (k := 19) qh_cX6_begin rfl rfl
theorem dX6_begin_2 : decode cX6_begin 2 = .ok (.putfield 7, 3) := dqn_181 (k := 16) qh_cX6_begin rfl rfl rfl
theorem dX6_begin_5 : decode cX6_begin 5 = .ok (.aload_n 0, 1) := dqn_42 (k := 15) qh_cX6_begin rfl rfl
theorem dX6_begin_6 : decode cX6_begin 6 = .ok (.iload_n 2, 1) := dqn_28 (k := 14) qh_cX6_begin rfl rfl
theorem dX6_begin_7 : decode cX6_begin 7 = .ok (.aload_n 1, 1) := dqn_43 (k := 13) qh_cX6_begin rfl rfl
theorem dX6_begin_8 : decode cX6_begin 8 = .ok (.arraylength, 1) := dqn_190 (k := 12) qh_cX6_begin rfl rfl
theorem dX6_begin_9 : decode cX6_begin 9 = .ok (.invokestatic 29, 3) := dqn_184 (k := 9) qh_cX6_begin rfl rfl rfl
theorem dX6_begin_12 : decode cX6_begin 12 = .ok (.putfield 13, 3) := dqn_181 (k := 6) qh_cX6_begin rfl rfl rfl
theorem dX6_begin_15 : decode cX6_begin 15 = .ok (.aload_n 0, 1) := dqn_42 (k := 5) qh_cX6_begin rfl rfl
theorem dX6_begin_16 : decode cX6_begin 16 = .ok (.iconst 0, 1) := dqn_3 (k := 4) qh_cX6_begin rfl rfl
theorem dX6_begin_17 : decode cX6_begin 17 = .ok (.putfield 17, 3) := dqn_181 (k := 1) qh_cX6_begin rfl rfl rfl
theorem dX6_begin_20 : decode cX6_begin 20 = .ok (.return_, 1) := dqn_177 (k := 0) qh_cX6_begin rfl rfl
theorem dX6_takeWord_0 : decode cX6_takeWord 0 = .ok (.aload_n 0, 1) := dqn_42 (k := 44) qh_cX6_takeWord rfl rfl
theorem dX6_takeWord_1 : decode cX6_takeWord 1 = .ok (.iconst 1, 1) := dqn_4 (k := 43) qh_cX6_takeWord rfl rfl
theorem dX6_takeWord_2 : decode cX6_takeWord 2 = .ok (.putfield 20, 3) := dqn_181 (k := 40) qh_cX6_takeWord rfl rfl rfl
theorem dX6_takeWord_5 : decode cX6_takeWord 5 = .ok (.aload_n 0, 1) := dqn_42 (k := 39) qh_cX6_takeWord rfl rfl
theorem dX6_takeWord_6 : decode cX6_takeWord 6 = .ok (.getfield 17, 3) := dqn_180 (k := 36) qh_cX6_takeWord rfl rfl rfl
theorem dX6_takeWord_9 : decode cX6_takeWord 9 = .ok (.aload_n 0, 1) := dqn_42 (k := 35) qh_cX6_takeWord rfl rfl
theorem dX6_takeWord_10 : decode cX6_takeWord 10 = .ok (.getfield 13, 3) := dqn_180 (k := 32) qh_cX6_takeWord rfl rfl rfl
theorem dX6_takeWord_13 : decode cX6_takeWord 13 = .ok (.if_icmp .ge 31, 3) := dqn_162 (k := 29) (u := 31) qh_cX6_takeWord rfl rfl rfl (sg_p rfl rfl)
theorem dX6_takeWord_16 : decode cX6_takeWord 16 = .ok (.aload_n 0, 1) := dqn_42 (k := 28) qh_cX6_takeWord rfl rfl
theorem dX6_takeWord_17 : decode cX6_takeWord 17 = .ok (.getfield 7, 3) := dqn_180 (k := 25) qh_cX6_takeWord rfl rfl rfl
theorem dX6_takeWord_20 : decode cX6_takeWord 20 = .ok (.aload_n 0, 1) := dqn_42 (k := 24) qh_cX6_takeWord rfl rfl
theorem dX6_takeWord_21 : decode cX6_takeWord 21 = .ok (.getfield 17, 3) := dqn_180 (k := 21) qh_cX6_takeWord rfl rfl rfl
theorem dX6_takeWord_24 : decode cX6_takeWord 24 = .ok (.baload, 1) := dqn_51 (k := 20) qh_cX6_takeWord rfl rfl
theorem dX6_takeWord_25 : decode cX6_takeWord 25 = .ok (.invokestatic 39, 3) := dqn_184 (k := 17) qh_cX6_takeWord rfl rfl rfl
theorem dX6_takeWord_28 : decode cX6_takeWord 28 = .ok (.ifCond .eq 16, 3) := dqn_153 (k := 14) (u := 16) qh_cX6_takeWord rfl rfl rfl (sg_p rfl rfl)
theorem dX6_takeWord_31 : decode cX6_takeWord 31 = .ok (.aload_n 0, 1) := dqn_42 (k := 13) qh_cX6_takeWord rfl rfl
theorem dX6_takeWord_32 : decode cX6_takeWord 32 = .ok (.dup, 1) := dqn_89 (k := 12) qh_cX6_takeWord rfl rfl
theorem dX6_takeWord_33 : decode cX6_takeWord 33 = .ok (.getfield 17, 3) := dqn_180 (k := 9) qh_cX6_takeWord rfl rfl rfl
theorem dX6_takeWord_36 : decode cX6_takeWord 36 = .ok (.iconst 1, 1) := dqn_4 (k := 8) qh_cX6_takeWord rfl rfl
theorem dX6_takeWord_37 : decode cX6_takeWord 37 = .ok (.iadd, 1) := dqn_96 (k := 7) qh_cX6_takeWord rfl rfl
theorem dX6_takeWord_38 : decode cX6_takeWord 38 = .ok (.putfield 17, 3) := dqn_181 (k := 4) qh_cX6_takeWord rfl rfl rfl
theorem dX6_takeWord_41 : decode cX6_takeWord 41 = .ok (.goto (-36), 3) := dqn_167 (k := 1) (u := 65500) qh_cX6_takeWord rfl rfl rfl (sg_n (k := 36) rfl rfl rfl)
theorem dX6_takeWord_44 : decode cX6_takeWord 44 = .ok (.return_, 1) := dqn_177 (k := 0) qh_cX6_takeWord rfl rfl
theorem dX6_takeNumber_0 : decode cX6_takeNumber 0 = .ok (.aload_n 0, 1) := dqn_42 (k := 90) qh_cX6_takeNumber rfl rfl
theorem dX6_takeNumber_1 : decode cX6_takeNumber 1 = .ok (.iconst 0, 1) := dqn_3 (k := 89) qh_cX6_takeNumber rfl rfl
theorem dX6_takeNumber_2 : decode cX6_takeNumber 2 = .ok (.putfield 26, 3) := dqn_181 (k := 86) qh_cX6_takeNumber rfl rfl rfl
theorem dX6_takeNumber_5 : decode cX6_takeNumber 5 = .ok (.aload_n 0, 1) := dqn_42 (k := 85) qh_cX6_takeNumber rfl rfl
theorem dX6_takeNumber_6 : decode cX6_takeNumber 6 = .ok (.getfield 17, 3) := dqn_180 (k := 82) qh_cX6_takeNumber rfl rfl rfl
theorem dX6_takeNumber_9 : decode cX6_takeNumber 9 = .ok (.aload_n 0, 1) := dqn_42 (k := 81) qh_cX6_takeNumber rfl rfl
theorem dX6_takeNumber_10 : decode cX6_takeNumber 10 = .ok (.getfield 13, 3) := dqn_180 (k := 78) qh_cX6_takeNumber rfl rfl rfl
theorem dX6_takeNumber_13 : decode cX6_takeNumber 13 = .ok (.if_icmp .ge 55, 3) := dqn_162 (k := 75) (u := 55) qh_cX6_takeNumber rfl rfl rfl (sg_p rfl rfl)
theorem dX6_takeNumber_16 : decode cX6_takeNumber 16 = .ok (.aload_n 0, 1) := dqn_42 (k := 74) qh_cX6_takeNumber rfl rfl
theorem dX6_takeNumber_17 : decode cX6_takeNumber 17 = .ok (.getfield 7, 3) := dqn_180 (k := 71) qh_cX6_takeNumber rfl rfl rfl
theorem dX6_takeNumber_20 : decode cX6_takeNumber 20 = .ok (.aload_n 0, 1) := dqn_42 (k := 70) qh_cX6_takeNumber rfl rfl
theorem dX6_takeNumber_21 : decode cX6_takeNumber 21 = .ok (.getfield 17, 3) := dqn_180 (k := 67) qh_cX6_takeNumber rfl rfl rfl
theorem dX6_takeNumber_24 : decode cX6_takeNumber 24 = .ok (.baload, 1) := dqn_51 (k := 66) qh_cX6_takeNumber rfl rfl
theorem dX6_takeNumber_25 : decode cX6_takeNumber 25 = .ok (.invokestatic 45, 3) := dqn_184 (k := 63) qh_cX6_takeNumber rfl rfl rfl
theorem dX6_takeNumber_28 : decode cX6_takeNumber 28 = .ok (.ifCond .eq 40, 3) := dqn_153 (k := 60) (u := 40) qh_cX6_takeNumber rfl rfl rfl (sg_p rfl rfl)
theorem dX6_takeNumber_31 : decode cX6_takeNumber 31 = .ok (.aload_n 0, 1) := dqn_42 (k := 59) qh_cX6_takeNumber rfl rfl
theorem dX6_takeNumber_32 : decode cX6_takeNumber 32 = .ok (.aload_n 0, 1) := dqn_42 (k := 58) qh_cX6_takeNumber rfl rfl
theorem dX6_takeNumber_33 : decode cX6_takeNumber 33 = .ok (.getfield 26, 3) := dqn_180 (k := 55) qh_cX6_takeNumber rfl rfl rfl
theorem dX6_takeNumber_36 : decode cX6_takeNumber 36 = .ok (.bipush 10, 2) := dqn_16 (k := 53) (u := 10) qh_cX6_takeNumber rfl rfl rfl (by decide)
theorem dX6_takeNumber_38 : decode cX6_takeNumber 38 = .ok (.imul, 1) := dqn_104 (k := 52) qh_cX6_takeNumber rfl rfl
theorem dX6_takeNumber_39 : decode cX6_takeNumber 39 = .ok (.aload_n 0, 1) := dqn_42 (k := 51) qh_cX6_takeNumber rfl rfl
theorem dX6_takeNumber_40 : decode cX6_takeNumber 40 = .ok (.getfield 7, 3) := dqn_180 (k := 48) qh_cX6_takeNumber rfl rfl rfl
theorem dX6_takeNumber_43 : decode cX6_takeNumber 43 = .ok (.aload_n 0, 1) := dqn_42 (k := 47) qh_cX6_takeNumber rfl rfl
theorem dX6_takeNumber_44 : decode cX6_takeNumber 44 = .ok (.getfield 17, 3) := dqn_180 (k := 44) qh_cX6_takeNumber rfl rfl rfl
theorem dX6_takeNumber_47 : decode cX6_takeNumber 47 = .ok (.baload, 1) := dqn_51 (k := 43) qh_cX6_takeNumber rfl rfl
theorem dX6_takeNumber_48 : decode cX6_takeNumber 48 = .ok (.bipush 48, 2) := dqn_16 (k := 41) (u := 48) qh_cX6_takeNumber rfl rfl rfl (by decide)
theorem dX6_takeNumber_50 : decode cX6_takeNumber 50 = .ok (.isub, 1) := dqn_100 (k := 40) qh_cX6_takeNumber rfl rfl
theorem dX6_takeNumber_51 : decode cX6_takeNumber 51 = .ok (.iadd, 1) := dqn_96 (k := 39) qh_cX6_takeNumber rfl rfl
theorem dX6_takeNumber_52 : decode cX6_takeNumber 52 = .ok (.putfield 26, 3) := dqn_181 (k := 36) qh_cX6_takeNumber rfl rfl rfl
theorem dX6_takeNumber_55 : decode cX6_takeNumber 55 = .ok (.aload_n 0, 1) := dqn_42 (k := 35) qh_cX6_takeNumber rfl rfl
theorem dX6_takeNumber_56 : decode cX6_takeNumber 56 = .ok (.dup, 1) := dqn_89 (k := 34) qh_cX6_takeNumber rfl rfl
theorem dX6_takeNumber_57 : decode cX6_takeNumber 57 = .ok (.getfield 17, 3) := dqn_180 (k := 31) qh_cX6_takeNumber rfl rfl rfl
theorem dX6_takeNumber_60 : decode cX6_takeNumber 60 = .ok (.iconst 1, 1) := dqn_4 (k := 30) qh_cX6_takeNumber rfl rfl
theorem dX6_takeNumber_61 : decode cX6_takeNumber 61 = .ok (.iadd, 1) := dqn_96 (k := 29) qh_cX6_takeNumber rfl rfl
theorem dX6_takeNumber_62 : decode cX6_takeNumber 62 = .ok (.putfield 17, 3) := dqn_181 (k := 26) qh_cX6_takeNumber rfl rfl rfl
theorem dX6_takeNumber_65 : decode cX6_takeNumber 65 = .ok (.goto (-60), 3) := dqn_167 (k := 23) (u := 65476) qh_cX6_takeNumber rfl rfl rfl (sg_n (k := 60) rfl rfl rfl)
theorem dX6_takeNumber_68 : decode cX6_takeNumber 68 = .ok (.aload_n 0, 1) := dqn_42 (k := 22) qh_cX6_takeNumber rfl rfl
theorem dX6_takeNumber_69 : decode cX6_takeNumber 69 = .ok (.aload_n 0, 1) := dqn_42 (k := 21) qh_cX6_takeNumber rfl rfl
theorem dX6_takeNumber_70 : decode cX6_takeNumber 70 = .ok (.getfield 17, 3) := dqn_180 (k := 18) qh_cX6_takeNumber rfl rfl rfl
theorem dX6_takeNumber_73 : decode cX6_takeNumber 73 = .ok (.aload_n 0, 1) := dqn_42 (k := 17) qh_cX6_takeNumber rfl rfl
theorem dX6_takeNumber_74 : decode cX6_takeNumber 74 = .ok (.getfield 23, 3) := dqn_180 (k := 14) qh_cX6_takeNumber rfl rfl rfl
theorem dX6_takeNumber_77 : decode cX6_takeNumber 77 = .ok (.isub, 1) := dqn_100 (k := 13) qh_cX6_takeNumber rfl rfl
theorem dX6_takeNumber_78 : decode cX6_takeNumber 78 = .ok (.iconst 3, 1) := dqn_6 (k := 12) qh_cX6_takeNumber rfl rfl
theorem dX6_takeNumber_79 : decode cX6_takeNumber 79 = .ok (.if_icmp .le 7, 3) := dqn_164 (k := 9) (u := 7) qh_cX6_takeNumber rfl rfl rfl (sg_p rfl rfl)
theorem dX6_takeNumber_82 : decode cX6_takeNumber 82 = .ok (.iconst 4, 1) := dqn_7 (k := 8) qh_cX6_takeNumber rfl rfl
theorem dX6_takeNumber_83 : decode cX6_takeNumber 83 = .ok (.goto 4, 3) := dqn_167 (k := 5) (u := 4) qh_cX6_takeNumber rfl rfl rfl (sg_p rfl rfl)
theorem dX6_takeNumber_86 : decode cX6_takeNumber 86 = .ok (.iconst 2, 1) := dqn_5 (k := 4) qh_cX6_takeNumber rfl rfl
theorem dX6_takeNumber_87 : decode cX6_takeNumber 87 = .ok (.putfield 20, 3) := dqn_181 (k := 1) qh_cX6_takeNumber rfl rfl rfl
theorem dX6_takeNumber_90 : decode cX6_takeNumber 90 = .ok (.return_, 1) := dqn_177 (k := 0) qh_cX6_takeNumber rfl rfl
theorem dX6_advance_0 : decode cX6_advance 0 = .ok (.aload_n 0, 1) := dqn_42 (k := 143) qh_cX6_advance rfl rfl
theorem dX6_advance_1 : decode cX6_advance 1 = .ok (.getfield 17, 3) := dqn_180 (k := 140) qh_cX6_advance rfl rfl rfl
theorem dX6_advance_4 : decode cX6_advance 4 = .ok (.aload_n 0, 1) := dqn_42 (k := 139) qh_cX6_advance rfl rfl
theorem dX6_advance_5 : decode cX6_advance 5 = .ok (.getfield 13, 3) := dqn_180 (k := 136) qh_cX6_advance rfl rfl rfl
theorem dX6_advance_8 : decode cX6_advance 8 = .ok (.if_icmp .ge 31, 3) := dqn_162 (k := 133) (u := 31) qh_cX6_advance rfl rfl rfl (sg_p rfl rfl)
theorem dX6_advance_11 : decode cX6_advance 11 = .ok (.aload_n 0, 1) := dqn_42 (k := 132) qh_cX6_advance rfl rfl
theorem dX6_advance_12 : decode cX6_advance 12 = .ok (.getfield 7, 3) := dqn_180 (k := 129) qh_cX6_advance rfl rfl rfl
theorem dX6_advance_15 : decode cX6_advance 15 = .ok (.aload_n 0, 1) := dqn_42 (k := 128) qh_cX6_advance rfl rfl
theorem dX6_advance_16 : decode cX6_advance 16 = .ok (.getfield 17, 3) := dqn_180 (k := 125) qh_cX6_advance rfl rfl rfl
theorem dX6_advance_19 : decode cX6_advance 19 = .ok (.baload, 1) := dqn_51 (k := 124) qh_cX6_advance rfl rfl
theorem dX6_advance_20 : decode cX6_advance 20 = .ok (.invokestatic 35, 3) := dqn_184 (k := 121) qh_cX6_advance rfl rfl rfl
theorem dX6_advance_23 : decode cX6_advance 23 = .ok (.ifCond .eq 16, 3) := dqn_153 (k := 118) (u := 16) qh_cX6_advance rfl rfl rfl (sg_p rfl rfl)
theorem dX6_advance_26 : decode cX6_advance 26 = .ok (.aload_n 0, 1) := dqn_42 (k := 117) qh_cX6_advance rfl rfl
theorem dX6_advance_27 : decode cX6_advance 27 = .ok (.dup, 1) := dqn_89 (k := 116) qh_cX6_advance rfl rfl
theorem dX6_advance_28 : decode cX6_advance 28 = .ok (.getfield 17, 3) := dqn_180 (k := 113) qh_cX6_advance rfl rfl rfl
theorem dX6_advance_31 : decode cX6_advance 31 = .ok (.iconst 1, 1) := dqn_4 (k := 112) qh_cX6_advance rfl rfl
theorem dX6_advance_32 : decode cX6_advance 32 = .ok (.iadd, 1) := dqn_96 (k := 111) qh_cX6_advance rfl rfl
theorem dX6_advance_33 : decode cX6_advance 33 = .ok (.putfield 17, 3) := dqn_181 (k := 108) qh_cX6_advance rfl rfl rfl
theorem dX6_advance_36 : decode cX6_advance 36 = .ok (.goto (-36), 3) := dqn_167 (k := 105) (u := 65500) qh_cX6_advance rfl rfl rfl (sg_n (k := 36) rfl rfl rfl)
theorem dX6_advance_39 : decode cX6_advance 39 = .ok (.aload_n 0, 1) := dqn_42 (k := 104) qh_cX6_advance rfl rfl
theorem dX6_advance_40 : decode cX6_advance 40 = .ok (.aload_n 0, 1) := dqn_42 (k := 103) qh_cX6_advance rfl rfl
theorem dX6_advance_41 : decode cX6_advance 41 = .ok (.getfield 17, 3) := dqn_180 (k := 100) qh_cX6_advance rfl rfl rfl
theorem dX6_advance_44 : decode cX6_advance 44 = .ok (.putfield 23, 3) := dqn_181 (k := 97) qh_cX6_advance rfl rfl rfl
theorem dX6_advance_47 : decode cX6_advance 47 = .ok (.aload_n 0, 1) := dqn_42 (k := 96) qh_cX6_advance rfl rfl
theorem dX6_advance_48 : decode cX6_advance 48 = .ok (.getfield 23, 3) := dqn_180 (k := 93) qh_cX6_advance rfl rfl rfl
theorem dX6_advance_51 : decode cX6_advance 51 = .ok (.aload_n 0, 1) := dqn_42 (k := 92) qh_cX6_advance rfl rfl
theorem dX6_advance_52 : decode cX6_advance 52 = .ok (.getfield 13, 3) := dqn_180 (k := 89) qh_cX6_advance rfl rfl rfl
theorem dX6_advance_55 : decode cX6_advance 55 = .ok (.if_icmp .lt 11, 3) := dqn_161 (k := 86) (u := 11) qh_cX6_advance rfl rfl rfl (sg_p rfl rfl)
theorem dX6_advance_58 : decode cX6_advance 58 = .ok (.aload_n 0, 1) := dqn_42 (k := 85) qh_cX6_advance rfl rfl
theorem dX6_advance_59 : decode cX6_advance 59 = .ok (.iconst 0, 1) := dqn_3 (k := 84) qh_cX6_advance rfl rfl
theorem dX6_advance_60 : decode cX6_advance 60 = .ok (.putfield 20, 3) := dqn_181 (k := 81) qh_cX6_advance rfl rfl rfl
theorem dX6_advance_63 : decode cX6_advance 63 = .ok (.goto 80, 3) := dqn_167 (k := 78) (u := 80) qh_cX6_advance rfl rfl rfl (sg_p rfl rfl)
theorem dX6_advance_66 : decode cX6_advance 66 = .ok (.aload_n 0, 1) := dqn_42 (k := 77) qh_cX6_advance rfl rfl
theorem dX6_advance_67 : decode cX6_advance 67 = .ok (.getfield 7, 3) := dqn_180 (k := 74) qh_cX6_advance rfl rfl rfl
theorem dX6_advance_70 : decode cX6_advance 70 = .ok (.aload_n 0, 1) := dqn_42 (k := 73) qh_cX6_advance rfl rfl
theorem dX6_advance_71 : decode cX6_advance 71 = .ok (.getfield 23, 3) := dqn_180 (k := 70) qh_cX6_advance rfl rfl rfl
theorem dX6_advance_74 : decode cX6_advance 74 = .ok (.baload, 1) := dqn_51 (k := 69) qh_cX6_advance rfl rfl
theorem dX6_advance_75 : decode cX6_advance 75 = .ok (.invokestatic 39, 3) := dqn_184 (k := 66) qh_cX6_advance rfl rfl rfl
theorem dX6_advance_78 : decode cX6_advance 78 = .ok (.ifCond .eq 10, 3) := dqn_153 (k := 63) (u := 10) qh_cX6_advance rfl rfl rfl (sg_p rfl rfl)
theorem dX6_advance_81 : decode cX6_advance 81 = .ok (.aload_n 0, 1) := dqn_42 (k := 62) qh_cX6_advance rfl rfl
theorem dX6_advance_82 : decode cX6_advance 82 = .ok (.invokevirtual 42, 3) := dqn_182 (k := 59) qh_cX6_advance rfl rfl rfl
theorem dX6_advance_85 : decode cX6_advance 85 = .ok (.goto 58, 3) := dqn_167 (k := 56) (u := 58) qh_cX6_advance rfl rfl rfl (sg_p rfl rfl)
theorem dX6_advance_88 : decode cX6_advance 88 = .ok (.aload_n 0, 1) := dqn_42 (k := 55) qh_cX6_advance rfl rfl
theorem dX6_advance_89 : decode cX6_advance 89 = .ok (.getfield 7, 3) := dqn_180 (k := 52) qh_cX6_advance rfl rfl rfl
theorem dX6_advance_92 : decode cX6_advance 92 = .ok (.aload_n 0, 1) := dqn_42 (k := 51) qh_cX6_advance rfl rfl
theorem dX6_advance_93 : decode cX6_advance 93 = .ok (.getfield 23, 3) := dqn_180 (k := 48) qh_cX6_advance rfl rfl rfl
theorem dX6_advance_96 : decode cX6_advance 96 = .ok (.baload, 1) := dqn_51 (k := 47) qh_cX6_advance rfl rfl
theorem dX6_advance_97 : decode cX6_advance 97 = .ok (.invokestatic 45, 3) := dqn_184 (k := 44) qh_cX6_advance rfl rfl rfl
theorem dX6_advance_100 : decode cX6_advance 100 = .ok (.ifCond .eq 10, 3) := dqn_153 (k := 41) (u := 10) qh_cX6_advance rfl rfl rfl (sg_p rfl rfl)
theorem dX6_advance_103 : decode cX6_advance 103 = .ok (.aload_n 0, 1) := dqn_42 (k := 40) qh_cX6_advance rfl rfl
theorem dX6_advance_104 : decode cX6_advance 104 = .ok (.invokevirtual 48, 3) := dqn_182 (k := 37) qh_cX6_advance rfl rfl rfl
theorem dX6_advance_107 : decode cX6_advance 107 = .ok (.goto 36, 3) := dqn_167 (k := 34) (u := 36) qh_cX6_advance rfl rfl rfl (sg_p rfl rfl)
theorem dX6_advance_110 : decode cX6_advance 110 = .ok (.aload_n 0, 1) := dqn_42 (k := 33) qh_cX6_advance rfl rfl
theorem dX6_advance_111 : decode cX6_advance 111 = .ok (.aload_n 0, 1) := dqn_42 (k := 32) qh_cX6_advance rfl rfl
theorem dX6_advance_112 : decode cX6_advance 112 = .ok (.getfield 7, 3) := dqn_180 (k := 29) qh_cX6_advance rfl rfl rfl
theorem dX6_advance_115 : decode cX6_advance 115 = .ok (.aload_n 0, 1) := dqn_42 (k := 28) qh_cX6_advance rfl rfl
theorem dX6_advance_116 : decode cX6_advance 116 = .ok (.getfield 23, 3) := dqn_180 (k := 25) qh_cX6_advance rfl rfl rfl
theorem dX6_advance_119 : decode cX6_advance 119 = .ok (.baload, 1) := dqn_51 (k := 24) qh_cX6_advance rfl rfl
theorem dX6_advance_120 : decode cX6_advance 120 = .ok (.bipush 59, 2) := dqn_16 (k := 22) (u := 59) qh_cX6_advance rfl rfl rfl (by decide)
theorem dX6_advance_122 : decode cX6_advance 122 = .ok (.if_icmp .ne 7, 3) := dqn_160 (k := 19) (u := 7) qh_cX6_advance rfl rfl rfl (sg_p rfl rfl)
theorem dX6_advance_125 : decode cX6_advance 125 = .ok (.iconst 3, 1) := dqn_6 (k := 18) qh_cX6_advance rfl rfl
theorem dX6_advance_126 : decode cX6_advance 126 = .ok (.goto 4, 3) := dqn_167 (k := 15) (u := 4) qh_cX6_advance rfl rfl rfl (sg_p rfl rfl)
theorem dX6_advance_129 : decode cX6_advance 129 = .ok (.iconst 4, 1) := dqn_7 (k := 14) qh_cX6_advance rfl rfl
theorem dX6_advance_130 : decode cX6_advance 130 = .ok (.putfield 20, 3) := dqn_181 (k := 11) qh_cX6_advance rfl rfl rfl
theorem dX6_advance_133 : decode cX6_advance 133 = .ok (.aload_n 0, 1) := dqn_42 (k := 10) qh_cX6_advance rfl rfl
theorem dX6_advance_134 : decode cX6_advance 134 = .ok (.dup, 1) := dqn_89 (k := 9) qh_cX6_advance rfl rfl
theorem dX6_advance_135 : decode cX6_advance 135 = .ok (.getfield 17, 3) := dqn_180 (k := 6) qh_cX6_advance rfl rfl rfl
theorem dX6_advance_138 : decode cX6_advance 138 = .ok (.iconst 1, 1) := dqn_4 (k := 5) qh_cX6_advance rfl rfl
theorem dX6_advance_139 : decode cX6_advance 139 = .ok (.iadd, 1) := dqn_96 (k := 4) qh_cX6_advance rfl rfl
theorem dX6_advance_140 : decode cX6_advance 140 = .ok (.putfield 17, 3) := dqn_181 (k := 1) qh_cX6_advance rfl rfl rfl
theorem dX6_advance_143 : decode cX6_advance 143 = .ok (.return_, 1) := dqn_177 (k := 0) qh_cX6_advance rfl rfl
theorem dJ0_coder_7d493_0 : decode cJ0_coder_7d493 0 = .ok (.getstatic 38, 3) := dqn_178 (k := 12) qh_cJ0_coder_7d493 rfl rfl rfl
theorem dJ0_coder_7d493_3 : decode cJ0_coder_7d493 3 = .ok (.ifCond .eq 10, 3) := dqn_153 (k := 9) (u := 10) qh_cJ0_coder_7d493 rfl rfl rfl (sg_p rfl rfl)
theorem dJ0_coder_7d493_6 : decode cJ0_coder_7d493 6 = .ok (.aload_n 0, 1) := dqn_42 (k := 8) qh_cJ0_coder_7d493 rfl rfl
theorem dJ0_coder_7d493_7 : decode cJ0_coder_7d493 7 = .ok (.getfield 15, 3) := dqn_180 (k := 5) qh_cJ0_coder_7d493 rfl rfl rfl
theorem dJ0_coder_7d493_10 : decode cJ0_coder_7d493 10 = .ok (.goto 4, 3) := dqn_167 (k := 2) (u := 4) qh_cJ0_coder_7d493 rfl rfl rfl (sg_p rfl rfl)
theorem dJ0_coder_7d493_14 : decode cJ0_coder_7d493 14 = .ok (.ireturn, 1) := dqn_172 (k := 0) qh_cJ0_coder_7d493 rfl rfl
theorem dJ0_isLatin1_aae02_0 : decode cJ0_isLatin1_aae02 0 = .ok (.getstatic 38, 3) := dqn_178 (k := 16) qh_cJ0_isLatin1_aae02 rfl rfl rfl
theorem dJ0_isLatin1_aae02_3 : decode cJ0_isLatin1_aae02 3 = .ok (.ifCond .eq 14, 3) := dqn_153 (k := 13) (u := 14) qh_cJ0_isLatin1_aae02 rfl rfl rfl (sg_p rfl rfl)
theorem dJ0_isLatin1_aae02_6 : decode cJ0_isLatin1_aae02 6 = .ok (.aload_n 0, 1) := dqn_42 (k := 12) qh_cJ0_isLatin1_aae02 rfl rfl
theorem dJ0_isLatin1_aae02_7 : decode cJ0_isLatin1_aae02 7 = .ok (.getfield 15, 3) := dqn_180 (k := 9) qh_cJ0_isLatin1_aae02 rfl rfl rfl
theorem dJ0_isLatin1_aae02_10 : decode cJ0_isLatin1_aae02 10 = .ok (.ifCond .ne 7, 3) := dqn_154 (k := 6) (u := 7) qh_cJ0_isLatin1_aae02 rfl rfl rfl (sg_p rfl rfl)
theorem dJ0_isLatin1_aae02_13 : decode cJ0_isLatin1_aae02 13 = .ok (.iconst 1, 1) := dqn_4 (k := 5) qh_cJ0_isLatin1_aae02 rfl rfl
theorem dJ0_isLatin1_aae02_14 : decode cJ0_isLatin1_aae02 14 = .ok (.goto 4, 3) := dqn_167 (k := 2) (u := 4) qh_cJ0_isLatin1_aae02 rfl rfl rfl (sg_p rfl rfl)
theorem dJ0_isLatin1_aae02_18 : decode cJ0_isLatin1_aae02 18 = .ok (.ireturn, 1) := dqn_172 (k := 0) qh_cJ0_isLatin1_aae02 rfl rfl
theorem dJ0_length_8abf5_0 : decode cJ0_length_8abf5 0 = .ok (.aload_n 0, 1) := dqn_42 (k := 10) qh_cJ0_length_8abf5 rfl rfl
theorem dJ0_length_8abf5_1 : decode cJ0_length_8abf5 1 = .ok (.getfield 9, 3) := dqn_180 (k := 7) qh_cJ0_length_8abf5 rfl rfl rfl
theorem dJ0_length_8abf5_4 : decode cJ0_length_8abf5 4 = .ok (.arraylength, 1) := dqn_190 (k := 6) qh_cJ0_length_8abf5 rfl rfl
theorem dJ0_length_8abf5_5 : decode cJ0_length_8abf5 5 = .ok (.aload_n 0, 1) := dqn_42 (k := 5) qh_cJ0_length_8abf5 rfl rfl
theorem dJ0_length_8abf5_6 : decode cJ0_length_8abf5 6 = .ok (.invokevirtual 335, 3) := dqn_182 (k := 2) qh_cJ0_length_8abf5 rfl rfl rfl
theorem dJ0_length_8abf5_9 : decode cJ0_length_8abf5 9 = .ok (.ishr, 1) := dqn_122 (k := 1) qh_cJ0_length_8abf5 rfl rfl
theorem dJ0_length_8abf5_10 : decode cJ0_length_8abf5 10 = .ok (.ireturn, 1) := dqn_172 (k := 0) qh_cJ0_length_8abf5 rfl rfl
theorem dJ3_checkIndex_8e157_0 : decode cJ3_checkIndex_8e157 0 = .ok (.iload_n 0, 1) := dqn_26 (k := 17) qh_cJ3_checkIndex_8e157 rfl rfl
theorem dJ3_checkIndex_8e157_1 : decode cJ3_checkIndex_8e157 1 = .ok (.ifCond .lt 8, 3) := dqn_155 (k := 14) (u := 8) qh_cJ3_checkIndex_8e157 rfl rfl rfl (sg_p rfl rfl)
theorem dJ3_checkIndex_8e157_4 : decode cJ3_checkIndex_8e157 4 = .ok (.iload_n 0, 1) := dqn_26 (k := 13) qh_cJ3_checkIndex_8e157 rfl rfl
theorem dJ3_checkIndex_8e157_5 : decode cJ3_checkIndex_8e157 5 = .ok (.iload_n 1, 1) := dqn_27 (k := 12) qh_cJ3_checkIndex_8e157 rfl rfl
theorem dJ3_checkIndex_8e157_6 : decode cJ3_checkIndex_8e157 6 = .ok (.if_icmp .lt 10, 3) := dqn_161 (k := 9) (u := 10) qh_cJ3_checkIndex_8e157 rfl rfl rfl (sg_p rfl rfl)
theorem dJ3_checkIndex_8e157_16 : decode cJ3_checkIndex_8e157 16 = .ok (.iload_n 0, 1) := dqn_26 (k := 1) qh_cJ3_checkIndex_8e157 rfl rfl
theorem dJ3_checkIndex_8e157_17 : decode cJ3_checkIndex_8e157 17 = .ok (.ireturn, 1) := dqn_172 (k := 0) qh_cJ3_checkIndex_8e157 rfl rfl
theorem dJ0_checkIndex_df160_0 : decode cJ0_checkIndex_df160 0 = .ok (.iload_n 0, 1) := dqn_26 (k := 9) qh_cJ0_checkIndex_df160 rfl rfl
theorem dJ0_checkIndex_df160_1 : decode cJ0_checkIndex_df160 1 = .ok (.iload_n 1, 1) := dqn_27 (k := 8) qh_cJ0_checkIndex_df160 rfl rfl
theorem dJ0_checkIndex_df160_2 : decode cJ0_checkIndex_df160 2 = .ok (.getstatic 1053, 3) := dqn_178 (k := 5) qh_cJ0_checkIndex_df160 rfl rfl rfl
theorem dJ0_checkIndex_df160_5 : decode cJ0_checkIndex_df160 5 = .ok (.invokestatic 1059, 3) := dqn_184 (k := 2) qh_cJ0_checkIndex_df160 rfl rfl rfl
theorem dJ0_checkIndex_df160_8 : decode cJ0_checkIndex_df160 8 = .ok (.pop, 1) := dqn_87 (k := 1) qh_cJ0_checkIndex_df160 rfl rfl
theorem dJ0_checkIndex_df160_9 : decode cJ0_checkIndex_df160 9 = .ok (.return_, 1) := dqn_177 (k := 0) qh_cJ0_checkIndex_df160 rfl rfl
theorem dJ1_charAt_3b067_0 : decode cJ1_charAt_3b067 0 = .ok (.iload_n 1, 1) := dqn_27 (k := 14) qh_cJ1_charAt_3b067 rfl rfl
theorem dJ1_charAt_3b067_1 : decode cJ1_charAt_3b067 1 = .ok (.aload_n 0, 1) := dqn_42 (k := 13) qh_cJ1_charAt_3b067 rfl rfl
theorem dJ1_charAt_3b067_2 : decode cJ1_charAt_3b067 2 = .ok (.arraylength, 1) := dqn_190 (k := 12) qh_cJ1_charAt_3b067 rfl rfl
theorem dJ1_charAt_3b067_3 : decode cJ1_charAt_3b067 3 = .ok (.invokestatic 9, 3) := dqn_184 (k := 9) qh_cJ1_charAt_3b067 rfl rfl rfl
theorem dJ1_charAt_3b067_6 : decode cJ1_charAt_3b067 6 = .ok (.aload_n 0, 1) := dqn_42 (k := 8) qh_cJ1_charAt_3b067 rfl rfl
theorem dJ1_charAt_3b067_7 : decode cJ1_charAt_3b067 7 = .ok (.iload_n 1, 1) := dqn_27 (k := 7) qh_cJ1_charAt_3b067 rfl rfl
theorem dJ1_charAt_3b067_8 : decode cJ1_charAt_3b067 8 = .ok (.baload, 1) := dqn_51 (k := 6) qh_cJ1_charAt_3b067 rfl rfl
theorem dJ1_charAt_3b067_9 : decode cJ1_charAt_3b067 9 = .ok (.sipush 255, 3) := dqn_17 (k := 3) (u := 255) qh_cJ1_charAt_3b067 rfl rfl rfl (sg_p rfl rfl)
theorem dJ1_charAt_3b067_12 : decode cJ1_charAt_3b067 12 = .ok (.iand, 1) := dqn_126 (k := 2) qh_cJ1_charAt_3b067 rfl rfl
theorem dJ1_charAt_3b067_13 : decode cJ1_charAt_3b067 13 = .ok (.i2c, 1) := dqn_146 (k := 1) qh_cJ1_charAt_3b067 rfl rfl
theorem dJ1_charAt_3b067_14 : decode cJ1_charAt_3b067 14 = .ok (.ireturn, 1) := dqn_172 (k := 0) qh_cJ1_charAt_3b067 rfl rfl
theorem dJ0_charAt_5068e_0 : decode cJ0_charAt_5068e 0 = .ok (.aload_n 0, 1) := dqn_42 (k := 24) qh_cJ0_charAt_5068e rfl rfl
theorem dJ0_charAt_5068e_1 : decode cJ0_charAt_5068e 1 = .ok (.invokevirtual 492, 3) := dqn_182 (k := 21) qh_cJ0_charAt_5068e rfl rfl rfl
theorem dJ0_charAt_5068e_4 : decode cJ0_charAt_5068e 4 = .ok (.ifCond .eq 12, 3) := dqn_153 (k := 18) (u := 12) qh_cJ0_charAt_5068e rfl rfl rfl (sg_p rfl rfl)
theorem dJ0_charAt_5068e_7 : decode cJ0_charAt_5068e 7 = .ok (.aload_n 0, 1) := dqn_42 (k := 17) qh_cJ0_charAt_5068e rfl rfl
theorem dJ0_charAt_5068e_8 : decode cJ0_charAt_5068e 8 = .ok (.getfield 9, 3) := dqn_180 (k := 14) qh_cJ0_charAt_5068e rfl rfl rfl
theorem dJ0_charAt_5068e_11 : decode cJ0_charAt_5068e 11 = .ok (.iload_n 1, 1) := dqn_27 (k := 13) qh_cJ0_charAt_5068e rfl rfl
theorem dJ0_charAt_5068e_12 : decode cJ0_charAt_5068e 12 = .ok (.invokestatic 495, 3) := dqn_184 (k := 10) qh_cJ0_charAt_5068e rfl rfl rfl
theorem dJ0_charAt_5068e_15 : decode cJ0_charAt_5068e 15 = .ok (.ireturn, 1) := dqn_172 (k := 9) qh_cJ0_charAt_5068e rfl rfl
set_option maxHeartbeats 4000000 in
set_option maxRecDepth 100000 in
theorem c_St_coder {d : Nat} {u : Nat → Nat → Int32} {g : Nat → Nat → Int64} {ex : List MC} {i : Nat} (hd : 0 ≤ d) (hi_i : i < 18) : CT con0 d 0 0 yJ0_coder_7d493 cJ0_coder_7d493 1 (some .byte) [.retAddr (10 + i)] (Wd u g ex) (fun r h2 => r = some (.int ((0 : Int32))) ∧ h2 = Wd u g ex) := by
  refine CT_of (by decide) (Nat.le_of_ble_eq_true rfl) (fun x hq => ?_)
  show J x yJ0_coder_7d493 cJ0_coder_7d493 1 (some .byte) d 0 0 (Wd u g ex).length 0 [(0, .retAddr (10 + i))] [] (Wd u g ex) 0 0
  refine J_getsC dJ0_coder_7d493_0 k561 ?_
  refine J_if_eq (tgt := 13) dJ0_coder_7d493_3 (by decide) (fun q => absurd q (by decide)) (fun _ => ?_)
  refine J_aload_nC (i := 0) (j := 0) dJ0_coder_7d493_6 rfl rfl ?_
  refine J_scod (i := i) dJ0_coder_7d493_7 hi_i k1814 ?_
  refine J_goto (tgt := 14) dJ0_coder_7d493_10 (by decide) ?_
  exact J_bret hq dJ0_coder_7d493_14 rfl rfl wlen (Nat.le_refl _) (Nat.le_refl _) ⟨(congrArg (fun z => some (Value.int z)) rfl), rfl⟩
set_option maxHeartbeats 4000000 in
set_option maxRecDepth 100000 in
theorem c_St_isLatin1 {d : Nat} {u : Nat → Nat → Int32} {g : Nat → Nat → Int64} {ex : List MC} {i : Nat} (hd : 0 ≤ d) (hi_i : i < 18) : CT con0 d 0 0 yJ0_isLatin1_aae02 cJ0_isLatin1_aae02 1 (some .boolean) [.retAddr (10 + i)] (Wd u g ex) (fun r h2 => r = some (.int ((1 : Int32))) ∧ h2 = Wd u g ex) := by
  refine CT_of (by decide) (Nat.le_of_ble_eq_true rfl) (fun x hq => ?_)
  show J x yJ0_isLatin1_aae02 cJ0_isLatin1_aae02 1 (some .boolean) d 0 0 (Wd u g ex).length 0 [(0, .retAddr (10 + i))] [] (Wd u g ex) 0 0
  refine J_getsC dJ0_isLatin1_aae02_0 k561 ?_
  refine J_if_eq (tgt := 17) dJ0_isLatin1_aae02_3 (by decide) (fun q => absurd q (by decide)) (fun _ => ?_)
  refine J_aload_nC (i := 0) (j := 0) dJ0_isLatin1_aae02_6 rfl rfl ?_
  refine J_scod (i := i) dJ0_isLatin1_aae02_7 hi_i k1814 ?_
  refine J_if_ne (tgt := 17) dJ0_isLatin1_aae02_10 (by decide) (fun q => absurd (by decide) q) (fun _ => ?_)
  refine J_iconst (v := 1) dJ0_isLatin1_aae02_13 (by decide) ?_
  refine J_goto (tgt := 18) dJ0_isLatin1_aae02_14 (by decide) ?_
  exact J_zret hq dJ0_isLatin1_aae02_18 rfl rfl wlen (Nat.le_refl _) (Nat.le_refl _) ⟨(congrArg (fun z => some (Value.int z)) rfl), rfl⟩
set_option maxHeartbeats 4000000 in
set_option maxRecDepth 100000 in
theorem c_St_length {d : Nat} {u : Nat → Nat → Int32} {g : Nat → Nat → Int64} {ex : List MC} {i : Nat} (hd : 1 ≤ d) (hi_i : i < 18) : CT con0 d 0 0 yJ0_length_8abf5 cJ0_length_8abf5 1 (some .int) [.retAddr (10 + i)] (Wd u g ex) (fun r h2 => r = some (.int (Int32.ofNat (sLn.getD i 0))) ∧ h2 = Wd u g ex) := by
  refine CT_of (by decide) (Nat.le_of_ble_eq_true rfl) (fun x hq => ?_)
  show J x yJ0_length_8abf5 cJ0_length_8abf5 1 (some .int) d 0 0 (Wd u g ex).length 0 [(0, .retAddr (10 + i))] [] (Wd u g ex) 0 0
  refine J_aload_nC (i := 0) (j := 0) dJ0_length_8abf5_0 rfl rfl ?_
  refine J_sval (i := i) dJ0_length_8abf5_1 hi_i k1813 ?_
  refine J_sbln (i := i) dJ0_length_8abf5_4 hi_i ?_
  refine J_aload_nC (i := 0) (j := 0) dJ0_length_8abf5_5 rfl rfl ?_
  refine J_callVC (i := i) (As := []) (rest := [.int (Int32.ofNat (sLn.getD i 0))]) dJ0_length_8abf5_6 (c_St_coder (d := 0) (u := u) (g := g) (ex := ex)  (i := i)  (by decide) hi_i) hq.n k557 k558 k559 hi_i rfl k100 k560 np_J0_coder_7d493 (Nat.le_trans (by decide) hd) (by decide) (Nat.le_refl _) (Nat.le_refl _) wlen rfl (Nat.le_of_ble_eq_true rfl) (fun r_ h_ p1 => ?_)
  obtain ⟨rfl, rfl⟩ := p1
  refine J_ishr dJ0_length_8abf5_9 ?_
  exact J_iret hq dJ0_length_8abf5_10 rfl wlen (Nat.le_refl _) (Nat.le_refl _) ⟨(congrArg (fun z => some (Value.int z)) (slen_sh i hi_i)), rfl⟩
set_option maxHeartbeats 4000000 in
set_option maxRecDepth 100000 in
theorem c_Pr_checkIndexn {d : Nat} {u : Nat → Nat → Int32} {g : Nat → Nat → Int64} {ex : List MC} {index : Int32} {length : Int32} (hd : 0 ≤ d) (hp0 : (0 ≤ index)) (hp1 : (index < length)) : CT con0 d 0 0 yJ3_checkIndex_8e157 cJ3_checkIndex_8e157 3 (some .int) [.int index, .int length, .null] (Wd u g ex) (fun r h2 => ∃ (z : Int32), r = some (.int z) ∧ h2 = Wd u g ex) := by
  refine CT_of (by decide) (Nat.le_of_ble_eq_true rfl) (fun x hq => ?_)
  show J x yJ3_checkIndex_8e157 cJ3_checkIndex_8e157 3 (some .int) d 0 0 (Wd u g ex).length 0 [(0, .int index), (1, .int length), (2, .null)] [] (Wd u g ex) 0 0
  refine J_iload_n (i := 0) (j := 0) dJ3_checkIndex_8e157_0 rfl rfl ?_
  refine J_if_lt (tgt := 9) dJ3_checkIndex_8e157_1 (by decide) (fun c1 => ?_) (fun c1 => ?_)
  · exact (bd_no (bd_lt_hi (bd_lt_hi (bd_le_lo (bd_any index) hp0 (bd_c (v := 0) (lo := 0) (hi := 0) (by decide))) hp1 (bd_any length)) c1 (bd_c (v := 0) (lo := 0) (hi := 0) (by decide))) (by decide)).elim
  · refine J_iload_n (i := 0) (j := 0) dJ3_checkIndex_8e157_4 rfl rfl ?_
    refine J_iload_n (i := 1) (j := 1) dJ3_checkIndex_8e157_5 rfl rfl ?_
    refine J_icmp_lt (tgt := 16) dJ3_checkIndex_8e157_6 (by decide) (fun c2 => ?_) (fun c2 => ?_)
    · refine J_iload_n (i := 0) (j := 0) dJ3_checkIndex_8e157_16 rfl rfl ?_
      exact J_iret hq dJ3_checkIndex_8e157_17 rfl wlen (Nat.le_refl _) (Nat.le_refl _) ⟨index, rfl, rfl⟩
    · exact (lt_le_no hp1 (i_nlt c2)).elim
set_option maxHeartbeats 4000000 in
set_option maxRecDepth 100000 in
theorem c_Pr_checkIndexq {d : Nat} {u : Nat → Nat → Int32} {g : Nat → Nat → Int64} {ex : List MC} {index : Int32} {length : Int32} (hd : 0 ≤ d) (hp0 : (0 ≤ index)) (hp1 : (index < length)) : CT con0 d 0 0 yJ3_checkIndex_8e157 cJ3_checkIndex_8e157 3 (some .int) [.int index, .int length, .retAddr 60] (Wd u g ex) (fun r h2 => ∃ (z : Int32), r = some (.int z) ∧ h2 = Wd u g ex) := by
  refine CT_of (by decide) (Nat.le_of_ble_eq_true rfl) (fun x hq => ?_)
  show J x yJ3_checkIndex_8e157 cJ3_checkIndex_8e157 3 (some .int) d 0 0 (Wd u g ex).length 0 [(0, .int index), (1, .int length), (2, .retAddr 60)] [] (Wd u g ex) 0 0
  refine J_iload_n (i := 0) (j := 0) dJ3_checkIndex_8e157_0 rfl rfl ?_
  refine J_if_lt (tgt := 9) dJ3_checkIndex_8e157_1 (by decide) (fun c1 => ?_) (fun c1 => ?_)
  · exact (bd_no (bd_lt_hi (bd_lt_hi (bd_le_lo (bd_any index) hp0 (bd_c (v := 0) (lo := 0) (hi := 0) (by decide))) hp1 (bd_any length)) c1 (bd_c (v := 0) (lo := 0) (hi := 0) (by decide))) (by decide)).elim
  · refine J_iload_n (i := 0) (j := 0) dJ3_checkIndex_8e157_4 rfl rfl ?_
    refine J_iload_n (i := 1) (j := 1) dJ3_checkIndex_8e157_5 rfl rfl ?_
    refine J_icmp_lt (tgt := 16) dJ3_checkIndex_8e157_6 (by decide) (fun c2 => ?_) (fun c2 => ?_)
    · refine J_iload_n (i := 0) (j := 0) dJ3_checkIndex_8e157_16 rfl rfl ?_
      exact J_iret hq dJ3_checkIndex_8e157_17 rfl wlen (Nat.le_refl _) (Nat.le_refl _) ⟨index, rfl, rfl⟩
    · exact (lt_le_no hp1 (i_nlt c2)).elim
set_option maxHeartbeats 4000000 in
set_option maxRecDepth 100000 in
theorem c_St_checkIndex {d : Nat} {u : Nat → Nat → Int32} {g : Nat → Nat → Int64} {ex : List MC} {index : Int32} {length : Int32} (hd : 1 ≤ d) (hp0 : (0 ≤ index)) (hp1 : (index < length)) : CT con0 d 0 0 yJ0_checkIndex_df160 cJ0_checkIndex_df160 2 none [.int index, .int length] (Wd u g ex) (fun r h2 => r = none ∧ h2 = Wd u g ex) := by
  refine CT_of (by decide) (Nat.le_of_ble_eq_true rfl) (fun x hq => ?_)
  show J x yJ0_checkIndex_df160 cJ0_checkIndex_df160 2 none d 0 0 (Wd u g ex).length 0 [(0, .int index), (1, .int length)] [] (Wd u g ex) 0 0
  refine J_iload_n (i := 0) (j := 0) dJ0_checkIndex_df160_0 rfl rfl ?_
  refine J_iload_n (i := 1) (j := 1) dJ0_checkIndex_df160_1 rfl rfl ?_
  refine J_getsQ dJ0_checkIndex_df160_2 k577 ?_ ?_
  · refine J_callS (As := [.int index, .int length, .null]) (rest := []) dJ0_checkIndex_df160_5 (c_Pr_checkIndexn (d := 0) (u := u) (g := g) (ex := ex) (index := index) (length := length)  (by decide) hp0 hp1) hq.n k579 k580 k102 k581 np_J3_checkIndex_8e157 (Nat.le_trans (by decide) hd) (by decide) (Nat.le_refl _) (Nat.le_refl _) wlen rfl (Nat.le_of_ble_eq_true rfl) (fun r_ h_ p1 => ?_)
    obtain ⟨v2, rfl, rfl⟩ := p1
    refine J_pop dJ0_checkIndex_df160_8 rfl ?_
    exact J_vret hq dJ0_checkIndex_df160_9 rfl wlen (Nat.le_refl _) (Nat.le_refl _) ⟨rfl, rfl⟩
  · refine J_callS (As := [.int index, .int length, .retAddr 60]) (rest := []) dJ0_checkIndex_df160_5 (c_Pr_checkIndexq (d := 0) (u := u) (g := g) (ex := ex) (index := index) (length := length)  (by decide) hp0 hp1) hq.n k579 k580 k102 k581 np_J3_checkIndex_8e157 (Nat.le_trans (by decide) hd) (by decide) (Nat.le_refl _) (Nat.le_refl _) wlen rfl (Nat.le_of_ble_eq_true rfl) (fun r_ h_ p3 => ?_)
    obtain ⟨v4, rfl, rfl⟩ := p3
    refine J_pop dJ0_checkIndex_df160_8 rfl ?_
    exact J_vret hq dJ0_checkIndex_df160_9 rfl wlen (Nat.le_refl _) (Nat.le_refl _) ⟨rfl, rfl⟩
end
section
theorem k553 : Cond.methodLink RX6 51 yJ0_length_8abf5 ∈ gt := gt_2_9 (i := 11) rfl rfl
theorem k554 : Cond.instanceMethod yJ0_length_8abf5 ∈ gt := gt_2_9 (i := 12) rfl rfl
theorem k555 : Cond.selects RJ0 yJ0_length_8abf5 yJ0_length_8abf5 ∈ gt := gt_2_9 (i := 13) rfl rfl
theorem k556 : Cond.code yJ0_length_8abf5 cJ0_length_8abf5 1 (some .int) ∈ gt := gt_2_9 (i := 14) rfl rfl
theorem np_J0_length_8abf5 : yJ0_length_8abf5.cls ≠ "java/lang/invoke/MethodHandle" ∧ yJ0_length_8abf5.cls ≠ "java/lang/invoke/VarHandle" ∧ (parseMethodDescriptor yJ0_length_8abf5.desc).map (fun d => d.parameters.length) = some 0 := ⟨cq_RJ0.1, cq_RJ0.2, pd_1⟩
theorem k563 : Cond.methodLink RX6 56 yJ0_charAt_5068e ∈ gt := gt_2_9 (i := 21) rfl rfl
theorem k564 : Cond.instanceMethod yJ0_charAt_5068e ∈ gt := gt_2_9 (i := 22) rfl rfl
theorem k565 : Cond.selects RJ0 yJ0_charAt_5068e yJ0_charAt_5068e ∈ gt := gt_2_9 (i := 23) rfl rfl
theorem k566 : Cond.code yJ0_charAt_5068e cJ0_charAt_5068e 2 (some .char) ∈ gt := gt_3_0 (i := 0) rfl rfl
theorem np_J0_charAt_5068e : yJ0_charAt_5068e.cls ≠ "java/lang/invoke/MethodHandle" ∧ yJ0_charAt_5068e.cls ≠ "java/lang/invoke/VarHandle" ∧ (parseMethodDescriptor yJ0_charAt_5068e.desc).map (fun d => d.parameters.length) = some 1 := ⟨cq_RJ0.1, cq_RJ0.2, pd_5⟩
theorem k543 : Cond.methodLink RX3 113 yX3_planWord ∈ gt := gt_2_9 (i := 1) rfl rfl
theorem k544 : Cond.static yX3_planWord ∈ gt := gt_2_9 (i := 2) rfl rfl
theorem k545 : Cond.code yX3_planWord cX3_planWord 1 (some (.object "java/lang/String")) ∈ gt := gt_2_9 (i := 3) rfl rfl
theorem np_X3_planWord : yX3_planWord.cls ≠ "java/lang/invoke/MethodHandle" ∧ yX3_planWord.cls ≠ "java/lang/invoke/VarHandle" ∧ (parseMethodDescriptor yX3_planWord.desc).map (fun d => d.parameters.length) = some 1 := ⟨cq_RX3.1, cq_RX3.2, pd_8⟩
theorem k549 : Cond.methodLink RX3 116 yX6_isWord ∈ gt := gt_2_9 (i := 7) rfl rfl
theorem k550 : Cond.instanceMethod yX6_isWord ∈ gt := gt_2_9 (i := 8) rfl rfl
theorem k551 : Cond.selects RX6 yX6_isWord yX6_isWord ∈ gt := gt_2_9 (i := 9) rfl rfl
theorem k552 : Cond.code yX6_isWord cX6_isWord 3 (some .boolean) ∈ gt := gt_2_9 (i := 10) rfl rfl
theorem np_X6_isWord : yX6_isWord.cls ≠ "java/lang/invoke/MethodHandle" ∧ yX6_isWord.cls ≠ "java/lang/invoke/VarHandle" ∧ (parseMethodDescriptor yX6_isWord.desc).map (fun d => d.parameters.length) = some 1 := ⟨cq_RX6.1, cq_RX6.2, pd_56⟩
theorem k525 : Cond.methodLink RX3 109 yX3_hillWord ∈ gt := gt_2_8 (i := 7) rfl rfl
theorem k526 : Cond.static yX3_hillWord ∈ gt := gt_2_8 (i := 8) rfl rfl
theorem k527 : Cond.code yX3_hillWord cX3_hillWord 1 (some (.object "java/lang/String")) ∈ gt := gt_2_8 (i := 9) rfl rfl
theorem np_X3_hillWord : yX3_hillWord.cls ≠ "java/lang/invoke/MethodHandle" ∧ yX3_hillWord.cls ≠ "java/lang/invoke/VarHandle" ∧ (parseMethodDescriptor yX3_hillWord.desc).map (fun d => d.parameters.length) = some 1 := ⟨cq_RX3.1, cq_RX3.2, pd_8⟩
theorem k239 : Cond.fieldLinkNest RX3 89 "PondStair$Tokens" "start" "I" "PondStair" ∈ nt := nt_1_6 (i := 9) rfl rfl
theorem k140 : Cond.fieldLinkNest RX3 61 "PondStair$Hill" "rains" "I" "PondStair" ∈ nt := nt_1_2 (i := 6) rfl rfl
theorem k135 : Cond.fieldLinkNest RX3 174 "PondStair$Hill" "ponds" "I" "PondStair" ∈ nt := nt_1_2 (i := 1) rfl rfl
theorem k625 : Cond.fieldLink RX3 177 "PondStair$Reader" "HILL_MOST" "[I" ∈ gt := gt_3_2 (i := 11) rfl rfl
theorem k631 : Cond.fieldLink RX3 180 "PondStair$Reader" "PLAN_LEAST" "[I" ∈ gt := gt_3_2 (i := 17) rfl rfl
theorem k633 : Cond.fieldLink RX3 183 "PondStair$Reader" "PLAN_MOST" "[I" ∈ gt := gt_3_2 (i := 19) rfl rfl
theorem k657 : Cond.fieldLink RX3 192 "PondStair$Reader" "HILL_COLUMN" "[I" ∈ gt := gt_3_3 (i := 19) rfl rfl
theorem k659 : Cond.methodLink RX3 195 yX1_put ∈ gt := gt_3_3 (i := 21) rfl rfl
theorem k147 : Cond.fieldLinkNest RX3 189 "PondStair$Hill" "days" "[I" "PondStair" ∈ nt := nt_1_2 (i := 13) rfl rfl
theorem k653 : Cond.methodLink RX3 64 yX1_addRain ∈ gt := gt_3_3 (i := 15) rfl rfl
theorem k639 : Cond.methodLink RX3 186 yX1_addPond ∈ gt := gt_3_3 (i := 1) rfl rfl
theorem k640 : Cond.instanceMethod yX1_addPond ∈ gt := gt_3_3 (i := 2) rfl rfl
theorem k641 : Cond.selects RX1 yX1_addPond yX1_addPond ∈ gt := gt_3_3 (i := 3) rfl rfl
theorem k642 : Cond.code yX1_addPond cX1_addPond 5 (some .boolean) ∈ gt := gt_3_3 (i := 4) rfl rfl
theorem np_X1_addPond : yX1_addPond.cls ≠ "java/lang/invoke/MethodHandle" ∧ yX1_addPond.cls ≠ "java/lang/invoke/VarHandle" ∧ (parseMethodDescriptor yX1_addPond.desc).map (fun d => d.parameters.length) = some 3 := ⟨cq_RX1.1, cq_RX1.2, pd_18⟩
theorem k170 : Cond.fieldLinkNest RX3 159 "PondStair$Works" "works" "I" "PondStair" ∈ nt := nt_1_3 (i := 12) rfl rfl
theorem k617 : Cond.methodLink RX3 75 yX3_remember ∈ gt := gt_3_2 (i := 3) rfl rfl
theorem k619 : Cond.instanceMethod yX3_remember ∈ gt := gt_3_2 (i := 5) rfl rfl
theorem k7 : Cond.selects RX3 yX3_remember yX3_remember ∈ gt := gs_1 (i := 7) rfl rfl
theorem k620 : Cond.code yX3_remember cX3_remember 3 none ∈ gt := gt_3_2 (i := 6) rfl rfl
theorem np_X3_remember : yX3_remember.cls ≠ "java/lang/invoke/MethodHandle" ∧ yX3_remember.cls ≠ "java/lang/invoke/VarHandle" ∧ (parseMethodDescriptor yX3_remember.desc).map (fun d => d.parameters.length) = some 2 := ⟨cq_RX3.1, cq_RX3.2, pd_13⟩
theorem k613 : Cond.methodLink RX3 156 yX3_isFull ∈ gt := gt_3_1 (i := 23) rfl rfl
theorem k615 : Cond.instanceMethod yX3_isFull ∈ gt := gt_3_2 (i := 1) rfl rfl
theorem k6 : Cond.selects RX3 yX3_isFull yX3_isFull ∈ gt := gs_1 (i := 6) rfl rfl
theorem k616 : Cond.code yX3_isFull cX3_isFull 2 (some .boolean) ∈ gt := gt_3_2 (i := 2) rfl rfl
theorem np_X3_isFull : yX3_isFull.cls ≠ "java/lang/invoke/MethodHandle" ∧ yX3_isFull.cls ≠ "java/lang/invoke/VarHandle" ∧ (parseMethodDescriptor yX3_isFull.desc).map (fun d => d.parameters.length) = some 1 := ⟨cq_RX3.1, cq_RX3.2, pd_10⟩
theorem k627 : Cond.methodLink RX3 164 yX3_canBeInPlan ∈ gt := gt_3_2 (i := 13) rfl rfl
theorem k629 : Cond.instanceMethod yX3_canBeInPlan ∈ gt := gt_3_2 (i := 15) rfl rfl
theorem k9 : Cond.selects RX3 yX3_canBeInPlan yX3_canBeInPlan ∈ gt := gs_1 (i := 9) rfl rfl
theorem k630 : Cond.code yX3_canBeInPlan cX3_canBeInPlan 4 (some .boolean) ∈ gt := gt_3_2 (i := 16) rfl rfl
theorem np_X3_canBeInPlan : yX3_canBeInPlan.cls ≠ "java/lang/invoke/MethodHandle" ∧ yX3_canBeInPlan.cls ≠ "java/lang/invoke/VarHandle" ∧ (parseMethodDescriptor yX3_canBeInPlan.desc).map (fun d => d.parameters.length) = some 2 := ⟨cq_RX3.1, cq_RX3.2, pd_14⟩
theorem k621 : Cond.methodLink RX3 161 yX3_canBeInHill ∈ gt := gt_3_2 (i := 7) rfl rfl
theorem k623 : Cond.instanceMethod yX3_canBeInHill ∈ gt := gt_3_2 (i := 9) rfl rfl
theorem k8 : Cond.selects RX3 yX3_canBeInHill yX3_canBeInHill ∈ gt := gs_1 (i := 8) rfl rfl
theorem k624 : Cond.code yX3_canBeInHill cX3_canBeInHill 4 (some .boolean) ∈ gt := gt_3_2 (i := 10) rfl rfl
theorem np_X3_canBeInHill : yX3_canBeInHill.cls ≠ "java/lang/invoke/MethodHandle" ∧ yX3_canBeInHill.cls ≠ "java/lang/invoke/VarHandle" ∧ (parseMethodDescriptor yX3_canBeInHill.desc).map (fun d => d.parameters.length) = some 2 := ⟨cq_RX3.1, cq_RX3.2, pd_14⟩
theorem k660 : Cond.methodLink RX3 170 yX8_add ∈ gt := gt_3_3 (i := 22) rfl rfl
theorem k661 : Cond.instanceMethod yX8_add ∈ gt := gt_3_3 (i := 23) rfl rfl
theorem k662 : Cond.selects RX8 yX8_add yX8_add ∈ gt := gt_3_4 (i := 0) rfl rfl
theorem k663 : Cond.code yX8_add cX8_add 4 (some .boolean) ∈ gt := gt_3_4 (i := 1) rfl rfl
theorem np_X8_add : yX8_add.cls ≠ "java/lang/invoke/MethodHandle" ∧ yX8_add.cls ≠ "java/lang/invoke/VarHandle" ∧ (parseMethodDescriptor yX8_add.desc).map (fun d => d.parameters.length) = some 3 := ⟨cq_RX8.1, cq_RX8.2, pd_18⟩
theorem k635 : Cond.methodLink RX3 167 yX3_takeForHill ∈ gt := gt_3_2 (i := 21) rfl rfl
theorem k637 : Cond.instanceMethod yX3_takeForHill ∈ gt := gt_3_2 (i := 23) rfl rfl
theorem k10 : Cond.selects RX3 yX3_takeForHill yX3_takeForHill ∈ gt := gs_1 (i := 10) rfl rfl
theorem k638 : Cond.code yX3_takeForHill cX3_takeForHill 3 none ∈ gt := gt_3_3 (i := 0) rfl rfl
theorem np_X3_takeForHill : yX3_takeForHill.cls ≠ "java/lang/invoke/MethodHandle" ∧ yX3_takeForHill.cls ≠ "java/lang/invoke/VarHandle" ∧ (parseMethodDescriptor yX3_takeForHill.desc).map (fun d => d.parameters.length) = some 2 := ⟨cq_RX3.1, cq_RX3.2, pd_13⟩
theorem k500 : Cond.methodLink RX3 79 yX6_advance ∈ gt := gt_2_7 (i := 6) rfl rfl
theorem k501 : Cond.instanceMethod yX6_advance ∈ gt := gt_2_7 (i := 7) rfl rfl
theorem k502 : Cond.selects RX6 yX6_advance yX6_advance ∈ gt := gt_2_7 (i := 8) rfl rfl
theorem k503 : Cond.code yX6_advance cX6_advance 1 none ∈ gt := gt_2_7 (i := 9) rfl rfl
theorem np_X6_advance : yX6_advance.cls ≠ "java/lang/invoke/MethodHandle" ∧ yX6_advance.cls ≠ "java/lang/invoke/VarHandle" ∧ (parseMethodDescriptor yX6_advance.desc).map (fun d => d.parameters.length) = some 0 := ⟨cq_RX6.1, cq_RX6.2, pd_3⟩
theorem k237 : Cond.fieldLinkNest RX3 82 "PondStair$Tokens" "kind" "I" "PondStair" ∈ nt := nt_1_6 (i := 7) rfl rfl
theorem k521 : Cond.methodLink RX3 85 yX3_lineOf ∈ gt := gt_2_8 (i := 3) rfl rfl
theorem k523 : Cond.instanceMethod yX3_lineOf ∈ gt := gt_2_8 (i := 5) rfl rfl
theorem k3 : Cond.selects RX3 yX3_lineOf yX3_lineOf ∈ gt := gs_1 (i := 3) rfl rfl
theorem k524 : Cond.code yX3_lineOf cX3_lineOf 4 (some .int) ∈ gt := gt_2_8 (i := 6) rfl rfl
theorem np_X3_lineOf : yX3_lineOf.cls ≠ "java/lang/invoke/MethodHandle" ∧ yX3_lineOf.cls ≠ "java/lang/invoke/VarHandle" ∧ (parseMethodDescriptor yX3_lineOf.desc).map (fun d => d.parameters.length) = some 1 := ⟨cq_RX3.1, cq_RX3.2, pd_6⟩
theorem k607 : Cond.fieldLink RX3 99 "PondStair$Reader" "PLAN_COUNT" "[I" ∈ gt := gt_3_1 (i := 17) rfl rfl
theorem k609 : Cond.methodLink RX3 105 yX3_take ∈ gt := gt_3_1 (i := 19) rfl rfl
theorem k611 : Cond.instanceMethod yX3_take ∈ gt := gt_3_1 (i := 21) rfl rfl
theorem k5 : Cond.selects RX3 yX3_take yX3_take ∈ gt := gs_1 (i := 5) rfl rfl
theorem k612 : Cond.code yX3_take cX3_take 6 none ∈ gt := gt_3_1 (i := 22) rfl rfl
theorem np_X3_take : yX3_take.cls ≠ "java/lang/invoke/MethodHandle" ∧ yX3_take.cls ≠ "java/lang/invoke/VarHandle" ∧ (parseMethodDescriptor yX3_take.desc).map (fun d => d.parameters.length) = some 4 := ⟨cq_RX3.1, cq_RX3.2, pd_21⟩
theorem k601 : Cond.methodLink RX3 92 yX3_breaksOff ∈ gt := gt_3_1 (i := 11) rfl rfl
theorem k603 : Cond.instanceMethod yX3_breaksOff ∈ gt := gt_3_1 (i := 13) rfl rfl
theorem k4 : Cond.selects RX3 yX3_breaksOff yX3_breaksOff ∈ gt := gs_1 (i := 4) rfl rfl
theorem k604 : Cond.code yX3_breaksOff cX3_breaksOff 1 (some .boolean) ∈ gt := gt_3_1 (i := 14) rfl rfl
theorem np_X3_breaksOff : yX3_breaksOff.cls ≠ "java/lang/invoke/MethodHandle" ∧ yX3_breaksOff.cls ≠ "java/lang/invoke/VarHandle" ∧ (parseMethodDescriptor yX3_breaksOff.desc).map (fun d => d.parameters.length) = some 0 := ⟨cq_RX3.1, cq_RX3.2, pd_4⟩
theorem k241 : Cond.fieldLinkNest RX3 102 "PondStair$Tokens" "value" "I" "PondStair" ∈ nt := nt_1_6 (i := 11) rfl rfl
theorem k605 : Cond.fieldLink RX3 96 "PondStair$Reader" "HILL_COUNT" "[I" ∈ gt := gt_3_1 (i := 15) rfl rfl
theorem k668 : Cond.methodLink RX3 68 yX1_chancesTogether ∈ gt := gt_3_4 (i := 6) rfl rfl
theorem k669 : Cond.instanceMethod yX1_chancesTogether ∈ gt := gt_3_4 (i := 7) rfl rfl
theorem k670 : Cond.selects RX1 yX1_chancesTogether yX1_chancesTogether ∈ gt := gt_3_4 (i := 8) rfl rfl
theorem k671 : Cond.code yX1_chancesTogether cX1_chancesTogether 3 (some .int) ∈ gt := gt_3_4 (i := 9) rfl rfl
theorem np_X1_chancesTogether : yX1_chancesTogether.cls ≠ "java/lang/invoke/MethodHandle" ∧ yX1_chancesTogether.cls ≠ "java/lang/invoke/VarHandle" ∧ (parseMethodDescriptor yX1_chancesTogether.desc).map (fun d => d.parameters.length) = some 0 := ⟨cq_RX1.1, cq_RX1.2, pd_1⟩
theorem k234 : Cond.fieldLinkNest RX3 72 "PondStair$Tokens" "length" "I" "PondStair" ∈ nt := nt_1_6 (i := 4) rfl rfl
theorem k478 : Cond.methodLink RX3 46 yX1_clear ∈ gt := gt_2_6 (i := 8) rfl rfl
theorem k479 : Cond.instanceMethod yX1_clear ∈ gt := gt_2_6 (i := 9) rfl rfl
theorem k480 : Cond.selects RX1 yX1_clear yX1_clear ∈ gt := gt_2_6 (i := 10) rfl rfl
theorem k481 : Cond.code yX1_clear cX1_clear 1 none ∈ gt := gt_2_6 (i := 11) rfl rfl
theorem np_X1_clear : yX1_clear.cls ≠ "java/lang/invoke/MethodHandle" ∧ yX1_clear.cls ≠ "java/lang/invoke/VarHandle" ∧ (parseMethodDescriptor yX1_clear.desc).map (fun d => d.parameters.length) = some 0 := ⟨cq_RX1.1, cq_RX1.2, pd_3⟩
theorem k485 : Cond.methodLink RX3 49 yX8_clear ∈ gt := gt_2_6 (i := 15) rfl rfl
theorem k486 : Cond.instanceMethod yX8_clear ∈ gt := gt_2_6 (i := 16) rfl rfl
theorem k487 : Cond.selects RX8 yX8_clear yX8_clear ∈ gt := gt_2_6 (i := 17) rfl rfl
theorem k488 : Cond.code yX8_clear cX8_clear 1 none ∈ gt := gt_2_6 (i := 18) rfl rfl
theorem np_X8_clear : yX8_clear.cls ≠ "java/lang/invoke/MethodHandle" ∧ yX8_clear.cls ≠ "java/lang/invoke/VarHandle" ∧ (parseMethodDescriptor yX8_clear.desc).map (fun d => d.parameters.length) = some 0 := ⟨cq_RX8.1, cq_RX8.2, pd_3⟩
theorem k489 : Cond.methodLink RX3 50 yX6_begin ∈ gt := gt_2_6 (i := 19) rfl rfl
theorem k490 : Cond.instanceMethod yX6_begin ∈ gt := gt_2_6 (i := 20) rfl rfl
theorem k491 : Cond.selects RX6 yX6_begin yX6_begin ∈ gt := gt_2_6 (i := 21) rfl rfl
theorem k492 : Cond.code yX6_begin cX6_begin 3 none ∈ gt := gt_2_6 (i := 22) rfl rfl
theorem np_X6_begin : yX6_begin.cls ≠ "java/lang/invoke/MethodHandle" ∧ yX6_begin.cls ≠ "java/lang/invoke/VarHandle" ∧ (parseMethodDescriptor yX6_begin.desc).map (fun d => d.parameters.length) = some 2 := ⟨cq_RX6.1, cq_RX6.2, pd_59⟩
theorem k496 : Cond.methodLink RX3 54 yX3_readLine ∈ gt := gt_2_7 (i := 2) rfl rfl
theorem k498 : Cond.instanceMethod yX3_readLine ∈ gt := gt_2_7 (i := 4) rfl rfl
theorem k0 : Cond.selects RX3 yX3_readLine yX3_readLine ∈ gt := gs_1 (i := 0) rfl rfl
theorem k499 : Cond.code yX3_readLine cX3_readLine 6 (some .boolean) ∈ gt := gt_2_7 (i := 5) rfl rfl
theorem np_X3_readLine : yX3_readLine.cls ≠ "java/lang/invoke/MethodHandle" ∧ yX3_readLine.cls ≠ "java/lang/invoke/VarHandle" ∧ (parseMethodDescriptor yX3_readLine.desc).map (fun d => d.parameters.length) = some 1 := ⟨cq_RX3.1, cq_RX3.2, pd_10⟩
theorem k664 : Cond.methodLink RX3 58 yX3_closeRains ∈ gt := gt_3_4 (i := 2) rfl rfl
theorem k666 : Cond.instanceMethod yX3_closeRains ∈ gt := gt_3_4 (i := 4) rfl rfl
theorem k11 : Cond.selects RX3 yX3_closeRains yX3_closeRains ∈ gt := gs_1 (i := 11) rfl rfl
theorem k667 : Cond.code yX3_closeRains cX3_closeRains 1 none ∈ gt := gt_3_4 (i := 5) rfl rfl
theorem np_X3_closeRains : yX3_closeRains.cls ≠ "java/lang/invoke/MethodHandle" ∧ yX3_closeRains.cls ≠ "java/lang/invoke/VarHandle" ∧ (parseMethodDescriptor yX3_closeRains.desc).map (fun d => d.parameters.length) = some 0 := ⟨cq_RX3.1, cq_RX3.2, pd_3⟩
theorem k262 : Cond.fieldLinkNest RX7 45 "PondStair$Reader" "hill" "LPondStair$Hill;" "PondStair" ∈ nt := nt_1_7 (i := 8) rfl rfl
theorem k687 : Cond.methodLink RX7 54 Lib.Math.max.name ∈ gt := gt_3_5 (i := 1) rfl rfl
theorem k264 : Cond.fieldLinkNest RX7 60 "PondStair$Reader" "works" "LPondStair$Works;" "PondStair" ∈ nt := nt_1_7 (i := 10) rfl rfl
theorem k470 : Cond.methodLink RX10 85 yX7_numberFor ∈ gt := gt_2_6 (i := 0) rfl rfl
theorem k471 : Cond.instanceMethod yX7_numberFor ∈ gt := gt_2_6 (i := 1) rfl rfl
theorem k472 : Cond.selects RX7 yX7_numberFor yX7_numberFor ∈ gt := gt_2_6 (i := 2) rfl rfl
theorem k473 : Cond.code yX7_numberFor cX7_numberFor 5 (some .int) ∈ gt := gt_2_6 (i := 3) rfl rfl
theorem np_X7_numberFor : yX7_numberFor.cls ≠ "java/lang/invoke/MethodHandle" ∧ yX7_numberFor.cls ≠ "java/lang/invoke/VarHandle" ∧ (parseMethodDescriptor yX7_numberFor.desc).map (fun d => d.parameters.length) = some 2 := ⟨cq_RX7.1, cq_RX7.2, pd_11⟩
theorem k187 : Cond.fieldLinkNest RX10 89 "PondStair$Told" "tape" "[B" "PondStair" ∈ nt := nt_1_4 (i := 5) rfl rfl
theorem k474 : Cond.methodLink RX10 93 yX3_read ∈ gt := gt_2_6 (i := 4) rfl rfl
theorem k475 : Cond.instanceMethod yX3_read ∈ gt := gt_2_6 (i := 5) rfl rfl
theorem k476 : Cond.selects RX3 yX3_read yX3_read ∈ gt := gt_2_6 (i := 6) rfl rfl
theorem k477 : Cond.code yX3_read cX3_read 6 none ∈ gt := gt_2_6 (i := 7) rfl rfl
theorem np_X3_read : yX3_read.cls ≠ "java/lang/invoke/MethodHandle" ∧ yX3_read.cls ≠ "java/lang/invoke/VarHandle" ∧ (parseMethodDescriptor yX3_read.desc).map (fun d => d.parameters.length) = some 3 := ⟨cq_RX3.1, cq_RX3.2, pd_60⟩
theorem k268 : Cond.fieldLinkNest RX10 97 "PondStair$Reader" "fault" "I" "PondStair" ∈ nt := nt_1_7 (i := 14) rfl rfl
theorem k270 : Cond.fieldLinkNest RX10 98 "PondStair$Reader" "place" "I" "PondStair" ∈ nt := nt_1_7 (i := 16) rfl rfl
theorem k676 : Cond.methodLink RX10 99 yX7_keep ∈ gt := gt_3_4 (i := 14) rfl rfl
theorem k677 : Cond.instanceMethod yX7_keep ∈ gt := gt_3_4 (i := 15) rfl rfl
theorem k678 : Cond.selects RX7 yX7_keep yX7_keep ∈ gt := gt_3_4 (i := 16) rfl rfl
theorem k679 : Cond.code yX7_keep cX7_keep 4 none ∈ gt := gt_3_4 (i := 17) rfl rfl
theorem np_X7_keep : yX7_keep.cls ≠ "java/lang/invoke/MethodHandle" ∧ yX7_keep.cls ≠ "java/lang/invoke/VarHandle" ∧ (parseMethodDescriptor yX7_keep.desc).map (fun d => d.parameters.length) = some 3 := ⟨cq_RX7.1, cq_RX7.2, pd_30⟩
theorem dX6_isWord_0 : decode cX6_isWord 0 = .ok (.aload_n 0, 1) := dqn_42 (k := 77) qh_cX6_isWord rfl rfl
theorem dX6_isWord_1 : decode cX6_isWord 1 = .ok (.getfield 20, 3) := dqn_180 (k := 74) qh_cX6_isWord rfl rfl rfl
theorem dX6_isWord_4 : decode cX6_isWord 4 = .ok (.iconst 1, 1) := dqn_4 (k := 73) qh_cX6_isWord rfl rfl
theorem dX6_isWord_5 : decode cX6_isWord 5 = .ok (.if_icmp .ne 19, 3) := dqn_160 (k := 70) (u := 19) qh_cX6_isWord rfl rfl rfl (sg_p rfl rfl)
theorem dX6_isWord_8 : decode cX6_isWord 8 = .ok (.aload_n 0, 1) := dqn_42 (k := 69) qh_cX6_isWord rfl rfl
theorem dX6_isWord_9 : decode cX6_isWord 9 = .ok (.getfield 17, 3) := dqn_180 (k := 66) qh_cX6_isWord rfl rfl rfl
theorem dX6_isWord_12 : decode cX6_isWord 12 = .ok (.aload_n 0, 1) := dqn_42 (k := 65) qh_cX6_isWord rfl rfl
theorem dX6_isWord_13 : decode cX6_isWord 13 = .ok (.getfield 23, 3) := dqn_180 (k := 62) qh_cX6_isWord rfl rfl rfl
theorem dX6_isWord_16 : decode cX6_isWord 16 = .ok (.isub, 1) := dqn_100 (k := 61) qh_cX6_isWord rfl rfl
theorem dX6_isWord_17 : decode cX6_isWord 17 = .ok (.aload_n 1, 1) := dqn_43 (k := 60) qh_cX6_isWord rfl rfl
theorem dX6_isWord_18 : decode cX6_isWord 18 = .ok (.invokevirtual 51, 3) := dqn_182 (k := 57) qh_cX6_isWord rfl rfl rfl
theorem dX6_isWord_21 : decode cX6_isWord 21 = .ok (.if_icmp .eq 5, 3) := dqn_159 (k := 54) (u := 5) qh_cX6_isWord rfl rfl rfl (sg_p rfl rfl)
theorem dX6_isWord_24 : decode cX6_isWord 24 = .ok (.iconst 0, 1) := dqn_3 (k := 53) qh_cX6_isWord rfl rfl
theorem dX6_isWord_25 : decode cX6_isWord 25 = .ok (.ireturn, 1) := dqn_172 (k := 52) qh_cX6_isWord rfl rfl
theorem dX6_isWord_26 : decode cX6_isWord 26 = .ok (.iconst 0, 1) := dqn_3 (k := 51) qh_cX6_isWord rfl rfl
theorem dX6_isWord_27 : decode cX6_isWord 27 = .ok (.istore_n 2, 1) := dqn_61 (k := 50) qh_cX6_isWord rfl rfl
theorem dX6_isWord_28 : decode cX6_isWord 28 = .ok (.iload_n 2, 1) := dqn_28 (k := 49) qh_cX6_isWord rfl rfl
theorem dX6_isWord_29 : decode cX6_isWord 29 = .ok (.aload_n 1, 1) := dqn_43 (k := 48) qh_cX6_isWord rfl rfl
theorem dX6_isWord_30 : decode cX6_isWord 30 = .ok (.invokevirtual 51, 3) := dqn_182 (k := 45) qh_cX6_isWord rfl rfl rfl
theorem dX6_isWord_33 : decode cX6_isWord 33 = .ok (.if_icmp .ge 43, 3) := dqn_162 (k := 42) (u := 43) qh_cX6_isWord rfl rfl rfl (sg_p rfl rfl)
theorem dX6_isWord_36 : decode cX6_isWord 36 = .ok (.aload_n 0, 1) := dqn_42 (k := 41) qh_cX6_isWord rfl rfl
theorem dX6_isWord_37 : decode cX6_isWord 37 = .ok (.getfield 23, 3) := dqn_180 (k := 38) qh_cX6_isWord rfl rfl rfl
theorem dX6_isWord_40 : decode cX6_isWord 40 = .ok (.iload_n 2, 1) := dqn_28 (k := 37) qh_cX6_isWord rfl rfl
theorem dX6_isWord_41 : decode cX6_isWord 41 = .ok (.iadd, 1) := dqn_96 (k := 36) qh_cX6_isWord rfl rfl
theorem dX6_isWord_42 : decode cX6_isWord 42 = .ok (.aload_n 0, 1) := dqn_42 (k := 35) qh_cX6_isWord rfl rfl
theorem dX6_isWord_43 : decode cX6_isWord 43 = .ok (.getfield 13, 3) := dqn_180 (k := 32) qh_cX6_isWord rfl rfl rfl
theorem dX6_isWord_46 : decode cX6_isWord 46 = .ok (.if_icmp .ge 30, 3) := dqn_162 (k := 29) (u := 30) qh_cX6_isWord rfl rfl rfl (sg_p rfl rfl)
theorem dX6_isWord_49 : decode cX6_isWord 49 = .ok (.aload_n 0, 1) := dqn_42 (k := 28) qh_cX6_isWord rfl rfl
theorem dX6_isWord_50 : decode cX6_isWord 50 = .ok (.getfield 7, 3) := dqn_180 (k := 25) qh_cX6_isWord rfl rfl rfl
theorem dX6_isWord_53 : decode cX6_isWord 53 = .ok (.aload_n 0, 1) := dqn_42 (k := 24) qh_cX6_isWord rfl rfl
theorem dX6_isWord_54 : decode cX6_isWord 54 = .ok (.getfield 23, 3) := dqn_180 (k := 21) qh_cX6_isWord rfl rfl rfl
theorem dX6_isWord_57 : decode cX6_isWord 57 = .ok (.iload_n 2, 1) := dqn_28 (k := 20) qh_cX6_isWord rfl rfl
theorem dX6_isWord_58 : decode cX6_isWord 58 = .ok (.iadd, 1) := dqn_96 (k := 19) qh_cX6_isWord rfl rfl
theorem dX6_isWord_59 : decode cX6_isWord 59 = .ok (.baload, 1) := dqn_51 (k := 18) qh_cX6_isWord rfl rfl
theorem dX6_isWord_60 : decode cX6_isWord 60 = .ok (.aload_n 1, 1) := dqn_43 (k := 17) qh_cX6_isWord rfl rfl
theorem dX6_isWord_61 : decode cX6_isWord 61 = .ok (.iload_n 2, 1) := dqn_28 (k := 16) qh_cX6_isWord rfl rfl
theorem dX6_isWord_62 : decode cX6_isWord 62 = .ok (.invokevirtual 56, 3) := dqn_182 (k := 13) qh_cX6_isWord rfl rfl rfl
theorem dX6_isWord_65 : decode cX6_isWord 65 = .ok (.if_icmp .eq 5, 3) := dqn_159 (k := 10) (u := 5) qh_cX6_isWord rfl rfl rfl (sg_p rfl rfl)
theorem dX6_isWord_68 : decode cX6_isWord 68 = .ok (.iconst 0, 1) := dqn_3 (k := 9) qh_cX6_isWord rfl rfl
theorem dX6_isWord_69 : decode cX6_isWord 69 = .ok (.ireturn, 1) := dqn_172 (k := 8) qh_cX6_isWord rfl rfl
theorem dX6_isWord_70 : decode cX6_isWord 70 = .ok (.iinc 2 1, 3) := dqn_132 (k := 5) (u := 1) qh_cX6_isWord rfl rfl rfl rfl (by decide)
theorem dX6_isWord_73 : decode cX6_isWord 73 = .ok (.goto (-45), 3) := dqn_167 (k := 2) (u := 65491) qh_cX6_isWord rfl rfl rfl (sg_n (k := 45) rfl rfl rfl)
theorem dX6_isWord_76 : decode cX6_isWord 76 = .ok (.iconst 1, 1) := dqn_4 (k := 1) qh_cX6_isWord rfl rfl
theorem dX6_isWord_77 : decode cX6_isWord 77 = .ok (.ireturn, 1) := dqn_172 (k := 0) qh_cX6_isWord rfl rfl
theorem dX3_hillWord_0 : decode cX3_hillWord 0 = .ok (.iload_n 0, 1) := dqn_26 (k := 116) qh_cX3_hillWord rfl rfl
theorem dX3_hillWord_1 : decode cX3_hillWord 1 = .ok (.tableswitch 113 0 13 #[71, 74, 77, 80, 83, 86, 89, 92, 95, 98, 101, 104, 107, 110], 71) := by decide +kernel
theorem dX3_hillWord_72 : decode cX3_hillWord 72 = .ok (.ldc 120, 2) := dqn_18 (k := 43) qh_cX3_hillWord rfl rfl rfl
theorem dX3_hillWord_74 : decode cX3_hillWord 74 = .ok (.areturn, 1) := dqn_176 (k := 42) qh_cX3_hillWord rfl rfl
theorem dX3_hillWord_75 : decode cX3_hillWord 75 = .ok (.ldc 122, 2) := dqn_18 (k := 40) qh_cX3_hillWord rfl rfl rfl
theorem dX3_hillWord_77 : decode cX3_hillWord 77 = .ok (.areturn, 1) := dqn_176 (k := 39) qh_cX3_hillWord rfl rfl
theorem dX3_hillWord_78 : decode cX3_hillWord 78 = .ok (.ldc 124, 2) := dqn_18 (k := 37) qh_cX3_hillWord rfl rfl rfl
theorem dX3_hillWord_80 : decode cX3_hillWord 80 = .ok (.areturn, 1) := dqn_176 (k := 36) qh_cX3_hillWord rfl rfl
theorem dX3_hillWord_81 : decode cX3_hillWord 81 = .ok (.ldc 126, 2) := dqn_18 (k := 34) qh_cX3_hillWord rfl rfl rfl
theorem dX3_hillWord_83 : decode cX3_hillWord 83 = .ok (.areturn, 1) := dqn_176 (k := 33) qh_cX3_hillWord rfl rfl
theorem dX3_hillWord_84 : decode cX3_hillWord 84 = .ok (.ldc 128, 2) := dqn_18 (k := 31) qh_cX3_hillWord rfl rfl rfl
theorem dX3_hillWord_86 : decode cX3_hillWord 86 = .ok (.areturn, 1) := dqn_176 (k := 30) qh_cX3_hillWord rfl rfl
theorem dX3_hillWord_87 : decode cX3_hillWord 87 = .ok (.ldc 130, 2) := dqn_18 (k := 28) qh_cX3_hillWord rfl rfl rfl
theorem dX3_hillWord_89 : decode cX3_hillWord 89 = .ok (.areturn, 1) := dqn_176 (k := 27) qh_cX3_hillWord rfl rfl
theorem dX3_hillWord_90 : decode cX3_hillWord 90 = .ok (.ldc 132, 2) := dqn_18 (k := 25) qh_cX3_hillWord rfl rfl rfl
theorem dX3_hillWord_92 : decode cX3_hillWord 92 = .ok (.areturn, 1) := dqn_176 (k := 24) qh_cX3_hillWord rfl rfl
theorem dX3_hillWord_93 : decode cX3_hillWord 93 = .ok (.ldc 134, 2) := dqn_18 (k := 22) qh_cX3_hillWord rfl rfl rfl
theorem dX3_hillWord_95 : decode cX3_hillWord 95 = .ok (.areturn, 1) := dqn_176 (k := 21) qh_cX3_hillWord rfl rfl
theorem dX3_hillWord_96 : decode cX3_hillWord 96 = .ok (.ldc 136, 2) := dqn_18 (k := 19) qh_cX3_hillWord rfl rfl rfl
theorem dX3_hillWord_98 : decode cX3_hillWord 98 = .ok (.areturn, 1) := dqn_176 (k := 18) qh_cX3_hillWord rfl rfl
theorem dX3_hillWord_99 : decode cX3_hillWord 99 = .ok (.ldc 138, 2) := dqn_18 (k := 16) qh_cX3_hillWord rfl rfl rfl
theorem dX3_hillWord_101 : decode cX3_hillWord 101 = .ok (.areturn, 1) := dqn_176 (k := 15) qh_cX3_hillWord rfl rfl
theorem dX3_hillWord_102 : decode cX3_hillWord 102 = .ok (.ldc 140, 2) := dqn_18 (k := 13) qh_cX3_hillWord rfl rfl rfl
theorem dX3_hillWord_104 : decode cX3_hillWord 104 = .ok (.areturn, 1) := dqn_176 (k := 12) qh_cX3_hillWord rfl rfl
theorem dX3_hillWord_105 : decode cX3_hillWord 105 = .ok (.ldc 142, 2) := dqn_18 (k := 10) qh_cX3_hillWord rfl rfl rfl
theorem dX3_hillWord_107 : decode cX3_hillWord 107 = .ok (.areturn, 1) := dqn_176 (k := 9) qh_cX3_hillWord rfl rfl
theorem dX3_hillWord_108 : decode cX3_hillWord 108 = .ok (.ldc 144, 2) := dqn_18 (k := 7) qh_cX3_hillWord rfl rfl rfl
theorem dX3_hillWord_110 : decode cX3_hillWord 110 = .ok (.areturn, 1) := dqn_176 (k := 6) qh_cX3_hillWord rfl rfl
theorem dX3_hillWord_111 : decode cX3_hillWord 111 = .ok (.ldc 146, 2) := dqn_18 (k := 4) qh_cX3_hillWord rfl rfl rfl
theorem dX3_hillWord_113 : decode cX3_hillWord 113 = .ok (.areturn, 1) := dqn_176 (k := 3) qh_cX3_hillWord rfl rfl
theorem dX3_hillWord_114 : decode cX3_hillWord 114 = .ok (.ldc 148, 2) := dqn_18 (k := 1) qh_cX3_hillWord rfl rfl rfl
theorem dX3_hillWord_116 : decode cX3_hillWord 116 = .ok (.areturn, 1) := dqn_176 (k := 0) qh_cX3_hillWord rfl rfl
theorem dX3_planWord_0 : decode cX3_planWord 0 = .ok (.iload_n 0, 1) := dqn_26 (k := 46) qh_cX3_planWord rfl rfl
theorem dX3_planWord_1 : decode cX3_planWord 1 = .ok (.tableswitch 43 0 3 #[31, 34, 37, 40], 31) := by decide +kernel
theorem dX3_planWord_32 : decode cX3_planWord 32 = .ok (.ldc 144, 2) := dqn_18 (k := 13) qh_cX3_planWord rfl rfl rfl
theorem dX3_planWord_34 : decode cX3_planWord 34 = .ok (.areturn, 1) := dqn_176 (k := 12) qh_cX3_planWord rfl rfl
theorem dX3_planWord_35 : decode cX3_planWord 35 = .ok (.ldc 150, 2) := dqn_18 (k := 10) qh_cX3_planWord rfl rfl rfl
theorem dX3_planWord_37 : decode cX3_planWord 37 = .ok (.areturn, 1) := dqn_176 (k := 9) qh_cX3_planWord rfl rfl
theorem dX3_planWord_38 : decode cX3_planWord 38 = .ok (.ldc 152, 2) := dqn_18 (k := 7) qh_cX3_planWord rfl rfl rfl
theorem dX3_planWord_40 : decode cX3_planWord 40 = .ok (.areturn, 1) := dqn_176 (k := 6) qh_cX3_planWord rfl rfl
theorem dX3_planWord_41 : decode cX3_planWord 41 = .ok (.ldc 148, 2) := dqn_18 (k := 4) qh_cX3_planWord rfl rfl rfl
theorem dX3_planWord_43 : decode cX3_planWord 43 = .ok (.areturn, 1) := dqn_176 (k := 3) qh_cX3_planWord rfl rfl
theorem dX3_planWord_44 : decode cX3_planWord 44 = .ok (.ldc 154, 2) := dqn_18 (k := 1) qh_cX3_planWord rfl rfl rfl
theorem dX3_planWord_46 : decode cX3_planWord 46 = .ok (.areturn, 1) := dqn_176 (k := 0) qh_cX3_planWord rfl rfl
theorem dX3_lineOf_0 : decode cX3_lineOf 0 = .ok (.iload_n 1, 1) := dqn_27 (k := 52) qh_cX3_lineOf rfl rfl
theorem dX3_lineOf_1 : decode cX3_lineOf 1 = .ok (.ifCond .ne 8, 3) := dqn_154 (k := 49) (u := 8) qh_cX3_lineOf rfl rfl rfl (sg_p rfl rfl)
theorem dX3_lineOf_4 : decode cX3_lineOf 4 = .ok (.bipush 15, 2) := dqn_16 (k := 47) (u := 15) qh_cX3_lineOf rfl rfl rfl (by decide)
theorem dX3_lineOf_6 : decode cX3_lineOf 6 = .ok (.goto 4, 3) := dqn_167 (k := 44) (u := 4) qh_cX3_lineOf rfl rfl rfl (sg_p rfl rfl)
theorem dX3_lineOf_9 : decode cX3_lineOf 9 = .ok (.iconst 5, 1) := dqn_8 (k := 43) qh_cX3_lineOf rfl rfl
theorem dX3_lineOf_10 : decode cX3_lineOf 10 = .ok (.istore_n 2, 1) := dqn_61 (k := 42) qh_cX3_lineOf rfl rfl
theorem dX3_lineOf_11 : decode cX3_lineOf 11 = .ok (.iconst 0, 1) := dqn_3 (k := 41) qh_cX3_lineOf rfl rfl
theorem dX3_lineOf_12 : decode cX3_lineOf 12 = .ok (.istore_n 3, 1) := dqn_62 (k := 40) qh_cX3_lineOf rfl rfl
theorem dX3_lineOf_13 : decode cX3_lineOf 13 = .ok (.iload_n 3, 1) := dqn_29 (k := 39) qh_cX3_lineOf rfl rfl
theorem dX3_lineOf_14 : decode cX3_lineOf 14 = .ok (.iload_n 2, 1) := dqn_28 (k := 38) qh_cX3_lineOf rfl rfl
theorem dX3_lineOf_15 : decode cX3_lineOf 15 = .ok (.if_icmp .ge 36, 3) := dqn_162 (k := 35) (u := 36) qh_cX3_lineOf rfl rfl rfl (sg_p rfl rfl)
theorem dX3_lineOf_18 : decode cX3_lineOf 18 = .ok (.aload_n 0, 1) := dqn_42 (k := 34) qh_cX3_lineOf rfl rfl
theorem dX3_lineOf_19 : decode cX3_lineOf 19 = .ok (.getfield 12, 3) := dqn_180 (k := 31) qh_cX3_lineOf rfl rfl rfl
theorem dX3_lineOf_22 : decode cX3_lineOf 22 = .ok (.iload_n 1, 1) := dqn_27 (k := 30) qh_cX3_lineOf rfl rfl
theorem dX3_lineOf_23 : decode cX3_lineOf 23 = .ok (.ifCond .ne 10, 3) := dqn_154 (k := 27) (u := 10) qh_cX3_lineOf rfl rfl rfl (sg_p rfl rfl)
theorem dX3_lineOf_26 : decode cX3_lineOf 26 = .ok (.iload_n 3, 1) := dqn_29 (k := 26) qh_cX3_lineOf rfl rfl
theorem dX3_lineOf_27 : decode cX3_lineOf 27 = .ok (.invokestatic 109, 3) := dqn_184 (k := 23) qh_cX3_lineOf rfl rfl rfl
theorem dX3_lineOf_30 : decode cX3_lineOf 30 = .ok (.goto 7, 3) := dqn_167 (k := 20) (u := 7) qh_cX3_lineOf rfl rfl rfl (sg_p rfl rfl)
theorem dX3_lineOf_33 : decode cX3_lineOf 33 = .ok (.iload_n 3, 1) := dqn_29 (k := 19) qh_cX3_lineOf rfl rfl
theorem dX3_lineOf_34 : decode cX3_lineOf 34 = .ok (.invokestatic 113, 3) := dqn_184 (k := 16) qh_cX3_lineOf rfl rfl rfl
theorem dX3_lineOf_37 : decode cX3_lineOf 37 = .ok (.invokevirtual 116, 3) := dqn_182 (k := 13) qh_cX3_lineOf rfl rfl rfl
theorem dX3_lineOf_40 : decode cX3_lineOf 40 = .ok (.ifCond .eq 5, 3) := dqn_153 (k := 10) (u := 5) qh_cX3_lineOf rfl rfl rfl (sg_p rfl rfl)
theorem dX3_lineOf_43 : decode cX3_lineOf 43 = .ok (.iload_n 3, 1) := dqn_29 (k := 9) qh_cX3_lineOf rfl rfl
theorem dX3_lineOf_44 : decode cX3_lineOf 44 = .ok (.ireturn, 1) := dqn_172 (k := 8) qh_cX3_lineOf rfl rfl
theorem dX3_lineOf_45 : decode cX3_lineOf 45 = .ok (.iinc 3 1, 3) := dqn_132 (k := 5) (u := 1) qh_cX3_lineOf rfl rfl rfl rfl (by decide)
theorem dX3_lineOf_48 : decode cX3_lineOf 48 = .ok (.goto (-35), 3) := dqn_167 (k := 2) (u := 65501) qh_cX3_lineOf rfl rfl rfl (sg_n (k := 35) rfl rfl rfl)
theorem dX3_lineOf_51 : decode cX3_lineOf 51 = .ok (.iconst (-1), 1) := dqn_2 (k := 1) qh_cX3_lineOf rfl rfl
theorem dX3_lineOf_52 : decode cX3_lineOf 52 = .ok (.ireturn, 1) := dqn_172 (k := 0) qh_cX3_lineOf rfl rfl
theorem dX3_breaksOff_0 : decode cX3_breaksOff 0 = .ok (.aload_n 0, 1) := dqn_42 (k := 17) qh_cX3_breaksOff rfl rfl
theorem dX3_breaksOff_1 : decode cX3_breaksOff 1 = .ok (.iconst 1, 1) := dqn_4 (k := 16) qh_cX3_breaksOff rfl rfl
theorem dX3_breaksOff_2 : decode cX3_breaksOff 2 = .ok (.putfield 39, 3) := dqn_181 (k := 13) qh_cX3_breaksOff rfl rfl rfl
theorem dX3_breaksOff_5 : decode cX3_breaksOff 5 = .ok (.aload_n 0, 1) := dqn_42 (k := 12) qh_cX3_breaksOff rfl rfl
theorem dX3_breaksOff_6 : decode cX3_breaksOff 6 = .ok (.aload_n 0, 1) := dqn_42 (k := 11) qh_cX3_breaksOff rfl rfl
theorem dX3_breaksOff_7 : decode cX3_breaksOff 7 = .ok (.getfield 12, 3) := dqn_180 (k := 8) qh_cX3_breaksOff rfl rfl rfl
theorem dX3_breaksOff_10 : decode cX3_breaksOff 10 = .ok (.getfield 89, 3) := dqn_180 (k := 5) qh_cX3_breaksOff rfl rfl rfl
theorem dX3_breaksOff_13 : decode cX3_breaksOff 13 = .ok (.putfield 43, 3) := dqn_181 (k := 2) qh_cX3_breaksOff rfl rfl rfl
theorem dX3_breaksOff_16 : decode cX3_breaksOff 16 = .ok (.iconst 0, 1) := dqn_3 (k := 1) qh_cX3_breaksOff rfl rfl
theorem dX3_breaksOff_17 : decode cX3_breaksOff 17 = .ok (.ireturn, 1) := dqn_172 (k := 0) qh_cX3_breaksOff rfl rfl
theorem dX3_remember_0 : decode cX3_remember 0 = .ok (.aload_n 0, 1) := dqn_42 (k := 17) qh_cX3_remember rfl rfl
theorem dX3_remember_1 : decode cX3_remember 1 = .ok (.getfield 39, 3) := dqn_180 (k := 14) qh_cX3_remember rfl rfl rfl
theorem dX3_remember_4 : decode cX3_remember 4 = .ok (.ifCond .ne 13, 3) := dqn_154 (k := 11) (u := 13) qh_cX3_remember rfl rfl rfl (sg_p rfl rfl)
theorem dX3_remember_7 : decode cX3_remember 7 = .ok (.aload_n 0, 1) := dqn_42 (k := 10) qh_cX3_remember rfl rfl
theorem dX3_remember_8 : decode cX3_remember 8 = .ok (.iload_n 1, 1) := dqn_27 (k := 9) qh_cX3_remember rfl rfl
theorem dX3_remember_9 : decode cX3_remember 9 = .ok (.putfield 39, 3) := dqn_181 (k := 6) qh_cX3_remember rfl rfl rfl
theorem dX3_remember_12 : decode cX3_remember 12 = .ok (.aload_n 0, 1) := dqn_42 (k := 5) qh_cX3_remember rfl rfl
theorem dX3_remember_13 : decode cX3_remember 13 = .ok (.iload_n 2, 1) := dqn_28 (k := 4) qh_cX3_remember rfl rfl
theorem dX3_remember_14 : decode cX3_remember 14 = .ok (.putfield 43, 3) := dqn_181 (k := 1) qh_cX3_remember rfl rfl rfl
theorem dX3_remember_17 : decode cX3_remember 17 = .ok (.return_, 1) := dqn_177 (k := 0) qh_cX3_remember rfl rfl
theorem dX3_isFull_0 : decode cX3_isFull 0 = .ok (.iload_n 1, 1) := dqn_27 (k := 38) qh_cX3_isFull rfl rfl
theorem dX3_isFull_1 : decode cX3_isFull 1 = .ok (.ifCond .ne 15, 3) := dqn_154 (k := 35) (u := 15) qh_cX3_isFull rfl rfl rfl (sg_p rfl rfl)
theorem dX3_isFull_4 : decode cX3_isFull 4 = .ok (.aload_n 0, 1) := dqn_42 (k := 34) qh_cX3_isFull rfl rfl
theorem dX3_isFull_5 : decode cX3_isFull 5 = .ok (.getfield 21, 3) := dqn_180 (k := 31) qh_cX3_isFull rfl rfl rfl
theorem dX3_isFull_8 : decode cX3_isFull 8 = .ok (.getfield 174, 3) := dqn_180 (k := 28) qh_cX3_isFull rfl rfl rfl
theorem dX3_isFull_11 : decode cX3_isFull 11 = .ok (.bipush 9, 2) := dqn_16 (k := 26) (u := 9) qh_cX3_isFull rfl rfl rfl (by decide)
theorem dX3_isFull_13 : decode cX3_isFull 13 = .ok (.if_icmp .ge 20, 3) := dqn_162 (k := 23) (u := 20) qh_cX3_isFull rfl rfl rfl (sg_p rfl rfl)
theorem dX3_isFull_16 : decode cX3_isFull 16 = .ok (.iload_n 1, 1) := dqn_27 (k := 22) qh_cX3_isFull rfl rfl
theorem dX3_isFull_17 : decode cX3_isFull 17 = .ok (.bipush 11, 2) := dqn_16 (k := 20) (u := 11) qh_cX3_isFull rfl rfl rfl (by decide)
theorem dX3_isFull_19 : decode cX3_isFull 19 = .ok (.if_icmp .ne 18, 3) := dqn_160 (k := 17) (u := 18) qh_cX3_isFull rfl rfl rfl (sg_p rfl rfl)
theorem dX3_isFull_22 : decode cX3_isFull 22 = .ok (.aload_n 0, 1) := dqn_42 (k := 16) qh_cX3_isFull rfl rfl
theorem dX3_isFull_23 : decode cX3_isFull 23 = .ok (.getfield 21, 3) := dqn_180 (k := 13) qh_cX3_isFull rfl rfl rfl
theorem dX3_isFull_26 : decode cX3_isFull 26 = .ok (.getfield 61, 3) := dqn_180 (k := 10) qh_cX3_isFull rfl rfl rfl
theorem dX3_isFull_29 : decode cX3_isFull 29 = .ok (.iconst 4, 1) := dqn_7 (k := 9) qh_cX3_isFull rfl rfl
theorem dX3_isFull_30 : decode cX3_isFull 30 = .ok (.if_icmp .lt 7, 3) := dqn_161 (k := 6) (u := 7) qh_cX3_isFull rfl rfl rfl (sg_p rfl rfl)
theorem dX3_isFull_33 : decode cX3_isFull 33 = .ok (.iconst 1, 1) := dqn_4 (k := 5) qh_cX3_isFull rfl rfl
theorem dX3_isFull_34 : decode cX3_isFull 34 = .ok (.goto 4, 3) := dqn_167 (k := 2) (u := 4) qh_cX3_isFull rfl rfl rfl (sg_p rfl rfl)
theorem dX3_isFull_37 : decode cX3_isFull 37 = .ok (.iconst 0, 1) := dqn_3 (k := 1) qh_cX3_isFull rfl rfl
theorem dX3_isFull_38 : decode cX3_isFull 38 = .ok (.ireturn, 1) := dqn_172 (k := 0) qh_cX3_isFull rfl rfl
theorem dX3_canBeInHill_0 : decode cX3_canBeInHill 0 = .ok (.aload_n 0, 1) := dqn_42 (k := 112) qh_cX3_canBeInHill rfl rfl
theorem dX3_canBeInHill_1 : decode cX3_canBeInHill 1 = .ok (.getfield 32, 3) := dqn_180 (k := 109) qh_cX3_canBeInHill rfl rfl rfl
theorem dX3_canBeInHill_4 : decode cX3_canBeInHill 4 = .ok (.iload_n 2, 1) := dqn_28 (k := 108) qh_cX3_canBeInHill rfl rfl
theorem dX3_canBeInHill_5 : decode cX3_canBeInHill 5 = .ok (.iaload, 1) := dqn_46 (k := 107) qh_cX3_canBeInHill rfl rfl
theorem dX3_canBeInHill_6 : decode cX3_canBeInHill 6 = .ok (.istore_n 3, 1) := dqn_62 (k := 106) qh_cX3_canBeInHill rfl rfl
theorem dX3_canBeInHill_7 : decode cX3_canBeInHill 7 = .ok (.iload_n 3, 1) := dqn_29 (k := 105) qh_cX3_canBeInHill rfl rfl
theorem dX3_canBeInHill_8 : decode cX3_canBeInHill 8 = .ok (.getstatic 177, 3) := dqn_178 (k := 102) qh_cX3_canBeInHill rfl rfl rfl
theorem dX3_canBeInHill_11 : decode cX3_canBeInHill 11 = .ok (.iconst 3, 1) := dqn_6 (k := 101) qh_cX3_canBeInHill rfl rfl
theorem dX3_canBeInHill_12 : decode cX3_canBeInHill 12 = .ok (.iload_n 1, 1) := dqn_27 (k := 100) qh_cX3_canBeInHill rfl rfl
theorem dX3_canBeInHill_13 : decode cX3_canBeInHill 13 = .ok (.imul, 1) := dqn_104 (k := 99) qh_cX3_canBeInHill rfl rfl
theorem dX3_canBeInHill_14 : decode cX3_canBeInHill 14 = .ok (.iload_n 2, 1) := dqn_28 (k := 98) qh_cX3_canBeInHill rfl rfl
theorem dX3_canBeInHill_15 : decode cX3_canBeInHill 15 = .ok (.iadd, 1) := dqn_96 (k := 97) qh_cX3_canBeInHill rfl rfl
theorem dX3_canBeInHill_16 : decode cX3_canBeInHill 16 = .ok (.iaload, 1) := dqn_46 (k := 96) qh_cX3_canBeInHill rfl rfl
theorem dX3_canBeInHill_17 : decode cX3_canBeInHill 17 = .ok (.if_icmp .le 5, 3) := dqn_164 (k := 93) (u := 5) qh_cX3_canBeInHill rfl rfl rfl (sg_p rfl rfl)
theorem dX3_canBeInHill_20 : decode cX3_canBeInHill 20 = .ok (.iconst 0, 1) := dqn_3 (k := 92) qh_cX3_canBeInHill rfl rfl
theorem dX3_canBeInHill_21 : decode cX3_canBeInHill 21 = .ok (.ireturn, 1) := dqn_172 (k := 91) qh_cX3_canBeInHill rfl rfl
theorem dX3_canBeInHill_22 : decode cX3_canBeInHill 22 = .ok (.iload_n 1, 1) := dqn_27 (k := 90) qh_cX3_canBeInHill rfl rfl
theorem dX3_canBeInHill_23 : decode cX3_canBeInHill 23 = .ok (.ifCond .ne 24, 3) := dqn_154 (k := 87) (u := 24) qh_cX3_canBeInHill rfl rfl rfl (sg_p rfl rfl)
theorem dX3_canBeInHill_26 : decode cX3_canBeInHill 26 = .ok (.iload_n 2, 1) := dqn_28 (k := 86) qh_cX3_canBeInHill rfl rfl
theorem dX3_canBeInHill_27 : decode cX3_canBeInHill 27 = .ok (.iconst 1, 1) := dqn_4 (k := 85) qh_cX3_canBeInHill rfl rfl
theorem dX3_canBeInHill_28 : decode cX3_canBeInHill 28 = .ok (.if_icmp .ne 13, 3) := dqn_160 (k := 82) (u := 13) qh_cX3_canBeInHill rfl rfl rfl (sg_p rfl rfl)
theorem dX3_canBeInHill_31 : decode cX3_canBeInHill 31 = .ok (.iload_n 3, 1) := dqn_29 (k := 81) qh_cX3_canBeInHill rfl rfl
theorem dX3_canBeInHill_32 : decode cX3_canBeInHill 32 = .ok (.aload_n 0, 1) := dqn_42 (k := 80) qh_cX3_canBeInHill rfl rfl
theorem dX3_canBeInHill_33 : decode cX3_canBeInHill 33 = .ok (.getfield 32, 3) := dqn_180 (k := 77) qh_cX3_canBeInHill rfl rfl rfl
theorem dX3_canBeInHill_36 : decode cX3_canBeInHill 36 = .ok (.iconst 0, 1) := dqn_3 (k := 76) qh_cX3_canBeInHill rfl rfl
theorem dX3_canBeInHill_37 : decode cX3_canBeInHill 37 = .ok (.iaload, 1) := dqn_46 (k := 75) qh_cX3_canBeInHill rfl rfl
theorem dX3_canBeInHill_38 : decode cX3_canBeInHill 38 = .ok (.if_icmp .gt 7, 3) := dqn_163 (k := 72) (u := 7) qh_cX3_canBeInHill rfl rfl rfl (sg_p rfl rfl)
theorem dX3_canBeInHill_41 : decode cX3_canBeInHill 41 = .ok (.iconst 1, 1) := dqn_4 (k := 71) qh_cX3_canBeInHill rfl rfl
theorem dX3_canBeInHill_42 : decode cX3_canBeInHill 42 = .ok (.goto 4, 3) := dqn_167 (k := 68) (u := 4) qh_cX3_canBeInHill rfl rfl rfl (sg_p rfl rfl)
theorem dX3_canBeInHill_45 : decode cX3_canBeInHill 45 = .ok (.iconst 0, 1) := dqn_3 (k := 67) qh_cX3_canBeInHill rfl rfl
theorem dX3_canBeInHill_46 : decode cX3_canBeInHill 46 = .ok (.ireturn, 1) := dqn_172 (k := 66) qh_cX3_canBeInHill rfl rfl
theorem dX3_canBeInHill_47 : decode cX3_canBeInHill 47 = .ok (.iload_n 1, 1) := dqn_27 (k := 65) qh_cX3_canBeInHill rfl rfl
theorem dX3_canBeInHill_48 : decode cX3_canBeInHill 48 = .ok (.bipush 10, 2) := dqn_16 (k := 63) (u := 10) qh_cX3_canBeInHill rfl rfl rfl (by decide)
theorem dX3_canBeInHill_50 : decode cX3_canBeInHill 50 = .ok (.if_icmp .le 5, 3) := dqn_164 (k := 60) (u := 5) qh_cX3_canBeInHill rfl rfl rfl (sg_p rfl rfl)
theorem dX3_canBeInHill_53 : decode cX3_canBeInHill 53 = .ok (.iconst 1, 1) := dqn_4 (k := 59) qh_cX3_canBeInHill rfl rfl
theorem dX3_canBeInHill_54 : decode cX3_canBeInHill 54 = .ok (.ireturn, 1) := dqn_172 (k := 58) qh_cX3_canBeInHill rfl rfl
theorem dX3_canBeInHill_55 : decode cX3_canBeInHill 55 = .ok (.iload_n 2, 1) := dqn_28 (k := 57) qh_cX3_canBeInHill rfl rfl
theorem dX3_canBeInHill_56 : decode cX3_canBeInHill 56 = .ok (.ifCond .ne 20, 3) := dqn_154 (k := 54) (u := 20) qh_cX3_canBeInHill rfl rfl rfl (sg_p rfl rfl)
theorem dX3_canBeInHill_59 : decode cX3_canBeInHill 59 = .ok (.iload_n 3, 1) := dqn_29 (k := 53) qh_cX3_canBeInHill rfl rfl
theorem dX3_canBeInHill_60 : decode cX3_canBeInHill 60 = .ok (.aload_n 0, 1) := dqn_42 (k := 52) qh_cX3_canBeInHill rfl rfl
theorem dX3_canBeInHill_61 : decode cX3_canBeInHill 61 = .ok (.getfield 21, 3) := dqn_180 (k := 49) qh_cX3_canBeInHill rfl rfl rfl
theorem dX3_canBeInHill_64 : decode cX3_canBeInHill 64 = .ok (.getfield 174, 3) := dqn_180 (k := 46) qh_cX3_canBeInHill rfl rfl rfl
theorem dX3_canBeInHill_67 : decode cX3_canBeInHill 67 = .ok (.if_icmp .ge 7, 3) := dqn_162 (k := 43) (u := 7) qh_cX3_canBeInHill rfl rfl rfl (sg_p rfl rfl)
theorem dX3_canBeInHill_70 : decode cX3_canBeInHill 70 = .ok (.iconst 1, 1) := dqn_4 (k := 42) qh_cX3_canBeInHill rfl rfl
theorem dX3_canBeInHill_71 : decode cX3_canBeInHill 71 = .ok (.goto 4, 3) := dqn_167 (k := 39) (u := 4) qh_cX3_canBeInHill rfl rfl rfl (sg_p rfl rfl)
theorem dX3_canBeInHill_74 : decode cX3_canBeInHill 74 = .ok (.iconst 0, 1) := dqn_3 (k := 38) qh_cX3_canBeInHill rfl rfl
theorem dX3_canBeInHill_75 : decode cX3_canBeInHill 75 = .ok (.ireturn, 1) := dqn_172 (k := 37) qh_cX3_canBeInHill rfl rfl
theorem dX3_canBeInHill_76 : decode cX3_canBeInHill 76 = .ok (.iload_n 2, 1) := dqn_28 (k := 36) qh_cX3_canBeInHill rfl rfl
theorem dX3_canBeInHill_77 : decode cX3_canBeInHill 77 = .ok (.iconst 1, 1) := dqn_4 (k := 35) qh_cX3_canBeInHill rfl rfl
theorem dX3_canBeInHill_78 : decode cX3_canBeInHill 78 = .ok (.if_icmp .gt 29, 3) := dqn_163 (k := 32) (u := 29) qh_cX3_canBeInHill rfl rfl rfl (sg_p rfl rfl)
theorem dX3_canBeInHill_81 : decode cX3_canBeInHill 81 = .ok (.iload_n 1, 1) := dqn_27 (k := 31) qh_cX3_canBeInHill rfl rfl
theorem dX3_canBeInHill_82 : decode cX3_canBeInHill 82 = .ok (.iconst 2, 1) := dqn_5 (k := 30) qh_cX3_canBeInHill rfl rfl
theorem dX3_canBeInHill_83 : decode cX3_canBeInHill 83 = .ok (.if_icmp .gt 24, 3) := dqn_163 (k := 27) (u := 24) qh_cX3_canBeInHill rfl rfl rfl (sg_p rfl rfl)
theorem dX3_canBeInHill_86 : decode cX3_canBeInHill 86 = .ok (.iload_n 3, 1) := dqn_29 (k := 26) qh_cX3_canBeInHill rfl rfl
theorem dX3_canBeInHill_87 : decode cX3_canBeInHill 87 = .ok (.aload_n 0, 1) := dqn_42 (k := 25) qh_cX3_canBeInHill rfl rfl
theorem dX3_canBeInHill_88 : decode cX3_canBeInHill 88 = .ok (.getfield 32, 3) := dqn_180 (k := 22) qh_cX3_canBeInHill rfl rfl rfl
theorem dX3_canBeInHill_91 : decode cX3_canBeInHill 91 = .ok (.iconst 0, 1) := dqn_3 (k := 21) qh_cX3_canBeInHill rfl rfl
theorem dX3_canBeInHill_92 : decode cX3_canBeInHill 92 = .ok (.iaload, 1) := dqn_46 (k := 20) qh_cX3_canBeInHill rfl rfl
theorem dX3_canBeInHill_93 : decode cX3_canBeInHill 93 = .ok (.if_icmp .le 18, 3) := dqn_164 (k := 17) (u := 18) qh_cX3_canBeInHill rfl rfl rfl (sg_p rfl rfl)
theorem dX3_canBeInHill_96 : decode cX3_canBeInHill 96 = .ok (.iload_n 3, 1) := dqn_29 (k := 16) qh_cX3_canBeInHill rfl rfl
theorem dX3_canBeInHill_97 : decode cX3_canBeInHill 97 = .ok (.aload_n 0, 1) := dqn_42 (k := 15) qh_cX3_canBeInHill rfl rfl
theorem dX3_canBeInHill_98 : decode cX3_canBeInHill 98 = .ok (.getfield 21, 3) := dqn_180 (k := 12) qh_cX3_canBeInHill rfl rfl rfl
theorem dX3_canBeInHill_101 : decode cX3_canBeInHill 101 = .ok (.getfield 174, 3) := dqn_180 (k := 9) qh_cX3_canBeInHill rfl rfl rfl
theorem dX3_canBeInHill_104 : decode cX3_canBeInHill 104 = .ok (.if_icmp .ge 7, 3) := dqn_162 (k := 6) (u := 7) qh_cX3_canBeInHill rfl rfl rfl (sg_p rfl rfl)
theorem dX3_canBeInHill_107 : decode cX3_canBeInHill 107 = .ok (.iconst 1, 1) := dqn_4 (k := 5) qh_cX3_canBeInHill rfl rfl
theorem dX3_canBeInHill_108 : decode cX3_canBeInHill 108 = .ok (.goto 4, 3) := dqn_167 (k := 2) (u := 4) qh_cX3_canBeInHill rfl rfl rfl (sg_p rfl rfl)
theorem dX3_canBeInHill_111 : decode cX3_canBeInHill 111 = .ok (.iconst 0, 1) := dqn_3 (k := 1) qh_cX3_canBeInHill rfl rfl
theorem dX3_canBeInHill_112 : decode cX3_canBeInHill 112 = .ok (.ireturn, 1) := dqn_172 (k := 0) qh_cX3_canBeInHill rfl rfl
theorem dX3_canBeInPlan_0 : decode cX3_canBeInPlan 0 = .ok (.iconst 3, 1) := dqn_6 (k := 39) qh_cX3_canBeInPlan rfl rfl
theorem dX3_canBeInPlan_1 : decode cX3_canBeInPlan 1 = .ok (.iload_n 1, 1) := dqn_27 (k := 38) qh_cX3_canBeInPlan rfl rfl
theorem dX3_canBeInPlan_2 : decode cX3_canBeInPlan 2 = .ok (.imul, 1) := dqn_104 (k := 37) qh_cX3_canBeInPlan rfl rfl
theorem dX3_canBeInPlan_3 : decode cX3_canBeInPlan 3 = .ok (.iload_n 2, 1) := dqn_28 (k := 36) qh_cX3_canBeInPlan rfl rfl
theorem dX3_canBeInPlan_4 : decode cX3_canBeInPlan 4 = .ok (.iadd, 1) := dqn_96 (k := 35) qh_cX3_canBeInPlan rfl rfl
theorem dX3_canBeInPlan_5 : decode cX3_canBeInPlan 5 = .ok (.istore_n 3, 1) := dqn_62 (k := 34) qh_cX3_canBeInPlan rfl rfl
theorem dX3_canBeInPlan_6 : decode cX3_canBeInPlan 6 = .ok (.aload_n 0, 1) := dqn_42 (k := 33) qh_cX3_canBeInPlan rfl rfl
theorem dX3_canBeInPlan_7 : decode cX3_canBeInPlan 7 = .ok (.getfield 32, 3) := dqn_180 (k := 30) qh_cX3_canBeInPlan rfl rfl rfl
theorem dX3_canBeInPlan_10 : decode cX3_canBeInPlan 10 = .ok (.iload_n 2, 1) := dqn_28 (k := 29) qh_cX3_canBeInPlan rfl rfl
theorem dX3_canBeInPlan_11 : decode cX3_canBeInPlan 11 = .ok (.iaload, 1) := dqn_46 (k := 28) qh_cX3_canBeInPlan rfl rfl
theorem dX3_canBeInPlan_12 : decode cX3_canBeInPlan 12 = .ok (.getstatic 180, 3) := dqn_178 (k := 25) qh_cX3_canBeInPlan rfl rfl rfl
theorem dX3_canBeInPlan_15 : decode cX3_canBeInPlan 15 = .ok (.iload_n 3, 1) := dqn_29 (k := 24) qh_cX3_canBeInPlan rfl rfl
theorem dX3_canBeInPlan_16 : decode cX3_canBeInPlan 16 = .ok (.iaload, 1) := dqn_46 (k := 23) qh_cX3_canBeInPlan rfl rfl
theorem dX3_canBeInPlan_17 : decode cX3_canBeInPlan 17 = .ok (.if_icmp .lt 21, 3) := dqn_161 (k := 20) (u := 21) qh_cX3_canBeInPlan rfl rfl rfl (sg_p rfl rfl)
theorem dX3_canBeInPlan_20 : decode cX3_canBeInPlan 20 = .ok (.aload_n 0, 1) := dqn_42 (k := 19) qh_cX3_canBeInPlan rfl rfl
theorem dX3_canBeInPlan_21 : decode cX3_canBeInPlan 21 = .ok (.getfield 32, 3) := dqn_180 (k := 16) qh_cX3_canBeInPlan rfl rfl rfl
theorem dX3_canBeInPlan_24 : decode cX3_canBeInPlan 24 = .ok (.iload_n 2, 1) := dqn_28 (k := 15) qh_cX3_canBeInPlan rfl rfl
theorem dX3_canBeInPlan_25 : decode cX3_canBeInPlan 25 = .ok (.iaload, 1) := dqn_46 (k := 14) qh_cX3_canBeInPlan rfl rfl
theorem dX3_canBeInPlan_26 : decode cX3_canBeInPlan 26 = .ok (.getstatic 183, 3) := dqn_178 (k := 11) qh_cX3_canBeInPlan rfl rfl rfl
theorem dX3_canBeInPlan_29 : decode cX3_canBeInPlan 29 = .ok (.iload_n 3, 1) := dqn_29 (k := 10) qh_cX3_canBeInPlan rfl rfl
theorem dX3_canBeInPlan_30 : decode cX3_canBeInPlan 30 = .ok (.iaload, 1) := dqn_46 (k := 9) qh_cX3_canBeInPlan rfl rfl
theorem dX3_canBeInPlan_31 : decode cX3_canBeInPlan 31 = .ok (.if_icmp .gt 7, 3) := dqn_163 (k := 6) (u := 7) qh_cX3_canBeInPlan rfl rfl rfl (sg_p rfl rfl)
theorem dX3_canBeInPlan_34 : decode cX3_canBeInPlan 34 = .ok (.iconst 1, 1) := dqn_4 (k := 5) qh_cX3_canBeInPlan rfl rfl
theorem dX3_canBeInPlan_35 : decode cX3_canBeInPlan 35 = .ok (.goto 4, 3) := dqn_167 (k := 2) (u := 4) qh_cX3_canBeInPlan rfl rfl rfl (sg_p rfl rfl)
theorem dX3_canBeInPlan_38 : decode cX3_canBeInPlan 38 = .ok (.iconst 0, 1) := dqn_3 (k := 1) qh_cX3_canBeInPlan rfl rfl
theorem dX3_canBeInPlan_39 : decode cX3_canBeInPlan 39 = .ok (.ireturn, 1) := dqn_172 (k := 0) qh_cX3_canBeInPlan rfl rfl
theorem dX3_takeForHill_0 : decode cX3_takeForHill 0 = .ok (.iload_n 1, 1) := dqn_27 (k := 144) qh_cX3_takeForHill rfl rfl
theorem dX3_takeForHill_1 : decode cX3_takeForHill 1 = .ok (.ifCond .ne 32, 3) := dqn_154 (k := 141) (u := 32) qh_cX3_takeForHill rfl rfl rfl (sg_p rfl rfl)
theorem dX3_takeForHill_4 : decode cX3_takeForHill 4 = .ok (.aload_n 0, 1) := dqn_42 (k := 140) qh_cX3_takeForHill rfl rfl
theorem dX3_takeForHill_5 : decode cX3_takeForHill 5 = .ok (.getfield 21, 3) := dqn_180 (k := 137) qh_cX3_takeForHill rfl rfl rfl
theorem dX3_takeForHill_8 : decode cX3_takeForHill 8 = .ok (.aload_n 0, 1) := dqn_42 (k := 136) qh_cX3_takeForHill rfl rfl
theorem dX3_takeForHill_9 : decode cX3_takeForHill 9 = .ok (.getfield 32, 3) := dqn_180 (k := 133) qh_cX3_takeForHill rfl rfl rfl
theorem dX3_takeForHill_12 : decode cX3_takeForHill 12 = .ok (.iconst 0, 1) := dqn_3 (k := 132) qh_cX3_takeForHill rfl rfl
theorem dX3_takeForHill_13 : decode cX3_takeForHill 13 = .ok (.iaload, 1) := dqn_46 (k := 131) qh_cX3_takeForHill rfl rfl
theorem dX3_takeForHill_14 : decode cX3_takeForHill 14 = .ok (.aload_n 0, 1) := dqn_42 (k := 130) qh_cX3_takeForHill rfl rfl
theorem dX3_takeForHill_15 : decode cX3_takeForHill 15 = .ok (.getfield 32, 3) := dqn_180 (k := 127) qh_cX3_takeForHill rfl rfl rfl
theorem dX3_takeForHill_18 : decode cX3_takeForHill 18 = .ok (.iconst 1, 1) := dqn_4 (k := 126) qh_cX3_takeForHill rfl rfl
theorem dX3_takeForHill_19 : decode cX3_takeForHill 19 = .ok (.iaload, 1) := dqn_46 (k := 125) qh_cX3_takeForHill rfl rfl
theorem dX3_takeForHill_20 : decode cX3_takeForHill 20 = .ok (.aload_n 0, 1) := dqn_42 (k := 124) qh_cX3_takeForHill rfl rfl
theorem dX3_takeForHill_21 : decode cX3_takeForHill 21 = .ok (.getfield 32, 3) := dqn_180 (k := 121) qh_cX3_takeForHill rfl rfl rfl
theorem dX3_takeForHill_24 : decode cX3_takeForHill 24 = .ok (.iconst 2, 1) := dqn_5 (k := 120) qh_cX3_takeForHill rfl rfl
theorem dX3_takeForHill_25 : decode cX3_takeForHill 25 = .ok (.iaload, 1) := dqn_46 (k := 119) qh_cX3_takeForHill rfl rfl
theorem dX3_takeForHill_26 : decode cX3_takeForHill 26 = .ok (.invokevirtual 186, 3) := dqn_182 (k := 116) qh_cX3_takeForHill rfl rfl rfl
theorem dX3_takeForHill_29 : decode cX3_takeForHill 29 = .ok (.pop, 1) := dqn_87 (k := 115) qh_cX3_takeForHill rfl rfl
theorem dX3_takeForHill_30 : decode cX3_takeForHill 30 = .ok (.goto 114, 3) := dqn_167 (k := 112) (u := 114) qh_cX3_takeForHill rfl rfl rfl (sg_p rfl rfl)
theorem dX3_takeForHill_33 : decode cX3_takeForHill 33 = .ok (.iload_n 1, 1) := dqn_27 (k := 111) qh_cX3_takeForHill rfl rfl
theorem dX3_takeForHill_34 : decode cX3_takeForHill 34 = .ok (.bipush 11, 2) := dqn_16 (k := 109) (u := 11) qh_cX3_takeForHill rfl rfl rfl (by decide)
theorem dX3_takeForHill_36 : decode cX3_takeForHill 36 = .ok (.if_icmp .ne 26, 3) := dqn_160 (k := 106) (u := 26) qh_cX3_takeForHill rfl rfl rfl (sg_p rfl rfl)
theorem dX3_takeForHill_39 : decode cX3_takeForHill 39 = .ok (.aload_n 0, 1) := dqn_42 (k := 105) qh_cX3_takeForHill rfl rfl
theorem dX3_takeForHill_40 : decode cX3_takeForHill 40 = .ok (.getfield 21, 3) := dqn_180 (k := 102) qh_cX3_takeForHill rfl rfl rfl
theorem dX3_takeForHill_43 : decode cX3_takeForHill 43 = .ok (.aload_n 0, 1) := dqn_42 (k := 101) qh_cX3_takeForHill rfl rfl
theorem dX3_takeForHill_44 : decode cX3_takeForHill 44 = .ok (.getfield 32, 3) := dqn_180 (k := 98) qh_cX3_takeForHill rfl rfl rfl
theorem dX3_takeForHill_47 : decode cX3_takeForHill 47 = .ok (.iconst 0, 1) := dqn_3 (k := 97) qh_cX3_takeForHill rfl rfl
theorem dX3_takeForHill_48 : decode cX3_takeForHill 48 = .ok (.iaload, 1) := dqn_46 (k := 96) qh_cX3_takeForHill rfl rfl
theorem dX3_takeForHill_49 : decode cX3_takeForHill 49 = .ok (.aload_n 0, 1) := dqn_42 (k := 95) qh_cX3_takeForHill rfl rfl
theorem dX3_takeForHill_50 : decode cX3_takeForHill 50 = .ok (.getfield 32, 3) := dqn_180 (k := 92) qh_cX3_takeForHill rfl rfl rfl
theorem dX3_takeForHill_53 : decode cX3_takeForHill 53 = .ok (.iconst 1, 1) := dqn_4 (k := 91) qh_cX3_takeForHill rfl rfl
theorem dX3_takeForHill_54 : decode cX3_takeForHill 54 = .ok (.iaload, 1) := dqn_46 (k := 90) qh_cX3_takeForHill rfl rfl
theorem dX3_takeForHill_55 : decode cX3_takeForHill 55 = .ok (.invokevirtual 64, 3) := dqn_182 (k := 87) qh_cX3_takeForHill rfl rfl rfl
theorem dX3_takeForHill_58 : decode cX3_takeForHill 58 = .ok (.pop, 1) := dqn_87 (k := 86) qh_cX3_takeForHill rfl rfl
theorem dX3_takeForHill_59 : decode cX3_takeForHill 59 = .ok (.goto 85, 3) := dqn_167 (k := 83) (u := 85) qh_cX3_takeForHill rfl rfl rfl (sg_p rfl rfl)
theorem dX3_takeForHill_62 : decode cX3_takeForHill 62 = .ok (.iload_n 1, 1) := dqn_27 (k := 82) qh_cX3_takeForHill rfl rfl
theorem dX3_takeForHill_63 : decode cX3_takeForHill 63 = .ok (.bipush 12, 2) := dqn_16 (k := 80) (u := 12) qh_cX3_takeForHill rfl rfl rfl (by decide)
theorem dX3_takeForHill_65 : decode cX3_takeForHill 65 = .ok (.if_icmp .lt 24, 3) := dqn_161 (k := 77) (u := 24) qh_cX3_takeForHill rfl rfl rfl (sg_p rfl rfl)
theorem dX3_takeForHill_68 : decode cX3_takeForHill 68 = .ok (.aload_n 0, 1) := dqn_42 (k := 76) qh_cX3_takeForHill rfl rfl
theorem dX3_takeForHill_69 : decode cX3_takeForHill 69 = .ok (.getfield 21, 3) := dqn_180 (k := 73) qh_cX3_takeForHill rfl rfl rfl
theorem dX3_takeForHill_72 : decode cX3_takeForHill 72 = .ok (.getfield 189, 3) := dqn_180 (k := 70) qh_cX3_takeForHill rfl rfl rfl
theorem dX3_takeForHill_75 : decode cX3_takeForHill 75 = .ok (.iload_n 1, 1) := dqn_27 (k := 69) qh_cX3_takeForHill rfl rfl
theorem dX3_takeForHill_76 : decode cX3_takeForHill 76 = .ok (.bipush 12, 2) := dqn_16 (k := 67) (u := 12) qh_cX3_takeForHill rfl rfl rfl (by decide)
theorem dX3_takeForHill_78 : decode cX3_takeForHill 78 = .ok (.isub, 1) := dqn_100 (k := 66) qh_cX3_takeForHill rfl rfl
theorem dX3_takeForHill_79 : decode cX3_takeForHill 79 = .ok (.aload_n 0, 1) := dqn_42 (k := 65) qh_cX3_takeForHill rfl rfl
theorem dX3_takeForHill_80 : decode cX3_takeForHill 80 = .ok (.getfield 32, 3) := dqn_180 (k := 62) qh_cX3_takeForHill rfl rfl rfl
theorem dX3_takeForHill_83 : decode cX3_takeForHill 83 = .ok (.iconst 0, 1) := dqn_3 (k := 61) qh_cX3_takeForHill rfl rfl
theorem dX3_takeForHill_84 : decode cX3_takeForHill 84 = .ok (.iaload, 1) := dqn_46 (k := 60) qh_cX3_takeForHill rfl rfl
theorem dX3_takeForHill_85 : decode cX3_takeForHill 85 = .ok (.iastore, 1) := dqn_79 (k := 59) qh_cX3_takeForHill rfl rfl
theorem dX3_takeForHill_86 : decode cX3_takeForHill 86 = .ok (.goto 58, 3) := dqn_167 (k := 56) (u := 58) qh_cX3_takeForHill rfl rfl rfl (sg_p rfl rfl)
theorem dX3_takeForHill_89 : decode cX3_takeForHill 89 = .ok (.aload_n 0, 1) := dqn_42 (k := 55) qh_cX3_takeForHill rfl rfl
theorem dX3_takeForHill_90 : decode cX3_takeForHill 90 = .ok (.getfield 21, 3) := dqn_180 (k := 52) qh_cX3_takeForHill rfl rfl rfl
theorem dX3_takeForHill_93 : decode cX3_takeForHill 93 = .ok (.aload_n 0, 1) := dqn_42 (k := 51) qh_cX3_takeForHill rfl rfl
theorem dX3_takeForHill_94 : decode cX3_takeForHill 94 = .ok (.getfield 32, 3) := dqn_180 (k := 48) qh_cX3_takeForHill rfl rfl rfl
theorem dX3_takeForHill_97 : decode cX3_takeForHill 97 = .ok (.iconst 0, 1) := dqn_3 (k := 47) qh_cX3_takeForHill rfl rfl
theorem dX3_takeForHill_98 : decode cX3_takeForHill 98 = .ok (.iaload, 1) := dqn_46 (k := 46) qh_cX3_takeForHill rfl rfl
theorem dX3_takeForHill_99 : decode cX3_takeForHill 99 = .ok (.getstatic 192, 3) := dqn_178 (k := 43) qh_cX3_takeForHill rfl rfl rfl
theorem dX3_takeForHill_102 : decode cX3_takeForHill 102 = .ok (.iload_n 1, 1) := dqn_27 (k := 42) qh_cX3_takeForHill rfl rfl
theorem dX3_takeForHill_103 : decode cX3_takeForHill 103 = .ok (.iaload, 1) := dqn_46 (k := 41) qh_cX3_takeForHill rfl rfl
theorem dX3_takeForHill_104 : decode cX3_takeForHill 104 = .ok (.aload_n 0, 1) := dqn_42 (k := 40) qh_cX3_takeForHill rfl rfl
theorem dX3_takeForHill_105 : decode cX3_takeForHill 105 = .ok (.getfield 32, 3) := dqn_180 (k := 37) qh_cX3_takeForHill rfl rfl rfl
theorem dX3_takeForHill_108 : decode cX3_takeForHill 108 = .ok (.iconst 1, 1) := dqn_4 (k := 36) qh_cX3_takeForHill rfl rfl
theorem dX3_takeForHill_109 : decode cX3_takeForHill 109 = .ok (.iaload, 1) := dqn_46 (k := 35) qh_cX3_takeForHill rfl rfl
theorem dX3_takeForHill_110 : decode cX3_takeForHill 110 = .ok (.invokevirtual 195, 3) := dqn_182 (k := 32) qh_cX3_takeForHill rfl rfl rfl
theorem dX3_takeForHill_113 : decode cX3_takeForHill 113 = .ok (.iload_n 2, 1) := dqn_28 (k := 31) qh_cX3_takeForHill rfl rfl
theorem dX3_takeForHill_114 : decode cX3_takeForHill 114 = .ok (.iconst 3, 1) := dqn_6 (k := 30) qh_cX3_takeForHill rfl rfl
theorem dX3_takeForHill_115 : decode cX3_takeForHill 115 = .ok (.if_icmp .ne 29, 3) := dqn_160 (k := 27) (u := 29) qh_cX3_takeForHill rfl rfl rfl (sg_p rfl rfl)
theorem dX3_takeForHill_118 : decode cX3_takeForHill 118 = .ok (.aload_n 0, 1) := dqn_42 (k := 26) qh_cX3_takeForHill rfl rfl
theorem dX3_takeForHill_119 : decode cX3_takeForHill 119 = .ok (.getfield 21, 3) := dqn_180 (k := 23) qh_cX3_takeForHill rfl rfl rfl
theorem dX3_takeForHill_122 : decode cX3_takeForHill 122 = .ok (.aload_n 0, 1) := dqn_42 (k := 22) qh_cX3_takeForHill rfl rfl
theorem dX3_takeForHill_123 : decode cX3_takeForHill 123 = .ok (.getfield 32, 3) := dqn_180 (k := 19) qh_cX3_takeForHill rfl rfl rfl
theorem dX3_takeForHill_126 : decode cX3_takeForHill 126 = .ok (.iconst 0, 1) := dqn_3 (k := 18) qh_cX3_takeForHill rfl rfl
theorem dX3_takeForHill_127 : decode cX3_takeForHill 127 = .ok (.iaload, 1) := dqn_46 (k := 17) qh_cX3_takeForHill rfl rfl
theorem dX3_takeForHill_128 : decode cX3_takeForHill 128 = .ok (.getstatic 192, 3) := dqn_178 (k := 14) qh_cX3_takeForHill rfl rfl rfl
theorem dX3_takeForHill_131 : decode cX3_takeForHill 131 = .ok (.iload_n 1, 1) := dqn_27 (k := 13) qh_cX3_takeForHill rfl rfl
theorem dX3_takeForHill_132 : decode cX3_takeForHill 132 = .ok (.iaload, 1) := dqn_46 (k := 12) qh_cX3_takeForHill rfl rfl
theorem dX3_takeForHill_133 : decode cX3_takeForHill 133 = .ok (.iconst 1, 1) := dqn_4 (k := 11) qh_cX3_takeForHill rfl rfl
theorem dX3_takeForHill_134 : decode cX3_takeForHill 134 = .ok (.iadd, 1) := dqn_96 (k := 10) qh_cX3_takeForHill rfl rfl
theorem dX3_takeForHill_135 : decode cX3_takeForHill 135 = .ok (.aload_n 0, 1) := dqn_42 (k := 9) qh_cX3_takeForHill rfl rfl
theorem dX3_takeForHill_136 : decode cX3_takeForHill 136 = .ok (.getfield 32, 3) := dqn_180 (k := 6) qh_cX3_takeForHill rfl rfl rfl
theorem dX3_takeForHill_139 : decode cX3_takeForHill 139 = .ok (.iconst 2, 1) := dqn_5 (k := 5) qh_cX3_takeForHill rfl rfl
theorem dX3_takeForHill_140 : decode cX3_takeForHill 140 = .ok (.iaload, 1) := dqn_46 (k := 4) qh_cX3_takeForHill rfl rfl
theorem dX3_takeForHill_141 : decode cX3_takeForHill 141 = .ok (.invokevirtual 195, 3) := dqn_182 (k := 1) qh_cX3_takeForHill rfl rfl rfl
theorem dX3_takeForHill_144 : decode cX3_takeForHill 144 = .ok (.return_, 1) := dqn_177 (k := 0) qh_cX3_takeForHill rfl rfl
theorem dX3_take_0 : decode cX3_take 0 = .ok (.iload_n 1, 1) := dqn_27 (k := 133) qh_cX3_take rfl rfl
theorem dX3_take_1 : decode cX3_take 1 = .ok (.ifCond .ne 14, 3) := dqn_154 (k := 130) (u := 14) qh_cX3_take rfl rfl rfl (sg_p rfl rfl)
theorem dX3_take_4 : decode cX3_take 4 = .ok (.aload_n 0, 1) := dqn_42 (k := 129) qh_cX3_take rfl rfl
theorem dX3_take_5 : decode cX3_take 5 = .ok (.iload_n 2, 1) := dqn_28 (k := 128) qh_cX3_take rfl rfl
theorem dX3_take_6 : decode cX3_take 6 = .ok (.invokevirtual 156, 3) := dqn_182 (k := 125) qh_cX3_take rfl rfl rfl
theorem dX3_take_9 : decode cX3_take 9 = .ok (.ifCond .eq 24, 3) := dqn_153 (k := 122) (u := 24) qh_cX3_take rfl rfl rfl (sg_p rfl rfl)
theorem dX3_take_12 : decode cX3_take 12 = .ok (.goto 15, 3) := dqn_167 (k := 119) (u := 15) qh_cX3_take rfl rfl rfl (sg_p rfl rfl)
theorem dX3_take_15 : decode cX3_take 15 = .ok (.aload_n 0, 1) := dqn_42 (k := 118) qh_cX3_take rfl rfl
theorem dX3_take_16 : decode cX3_take 16 = .ok (.getfield 28, 3) := dqn_180 (k := 115) qh_cX3_take rfl rfl rfl
theorem dX3_take_19 : decode cX3_take 19 = .ok (.getfield 159, 3) := dqn_180 (k := 112) qh_cX3_take rfl rfl rfl
theorem dX3_take_22 : decode cX3_take 22 = .ok (.bipush 12, 2) := dqn_16 (k := 110) (u := 12) qh_cX3_take rfl rfl rfl (by decide)
theorem dX3_take_24 : decode cX3_take 24 = .ok (.if_icmp .lt 9, 3) := dqn_161 (k := 107) (u := 9) qh_cX3_take rfl rfl rfl (sg_p rfl rfl)
theorem dX3_take_27 : decode cX3_take 27 = .ok (.aload_n 0, 1) := dqn_42 (k := 106) qh_cX3_take rfl rfl
theorem dX3_take_28 : decode cX3_take 28 = .ok (.iconst 3, 1) := dqn_6 (k := 105) qh_cX3_take rfl rfl
theorem dX3_take_29 : decode cX3_take 29 = .ok (.iload_n 3, 1) := dqn_29 (k := 104) qh_cX3_take rfl rfl
theorem dX3_take_30 : decode cX3_take 30 = .ok (.invokevirtual 75, 3) := dqn_182 (k := 101) qh_cX3_take rfl rfl rfl
theorem dX3_take_33 : decode cX3_take 33 = .ok (.iconst 0, 1) := dqn_3 (k := 100) qh_cX3_take rfl rfl
theorem dX3_take_34 : decode cX3_take 34 = .ok (.istore 5, 2) := dqn_54 (k := 98) qh_cX3_take rfl rfl rfl
theorem dX3_take_36 : decode cX3_take 36 = .ok (.iload 5, 2) := dqn_21 (k := 96) qh_cX3_take rfl rfl rfl
theorem dX3_take_38 : decode cX3_take 38 = .ok (.iload 4, 2) := dqn_21 (k := 94) qh_cX3_take rfl rfl rfl
theorem dX3_take_40 : decode cX3_take 40 = .ok (.if_icmp .ge 48, 3) := dqn_162 (k := 91) (u := 48) qh_cX3_take rfl rfl rfl (sg_p rfl rfl)
theorem dX3_take_43 : decode cX3_take 43 = .ok (.iload_n 1, 1) := dqn_27 (k := 90) qh_cX3_take rfl rfl
theorem dX3_take_44 : decode cX3_take 44 = .ok (.ifCond .ne 16, 3) := dqn_154 (k := 87) (u := 16) qh_cX3_take rfl rfl rfl (sg_p rfl rfl)
theorem dX3_take_47 : decode cX3_take 47 = .ok (.aload_n 0, 1) := dqn_42 (k := 86) qh_cX3_take rfl rfl
theorem dX3_take_48 : decode cX3_take 48 = .ok (.iload_n 2, 1) := dqn_28 (k := 85) qh_cX3_take rfl rfl
theorem dX3_take_49 : decode cX3_take 49 = .ok (.iload 5, 2) := dqn_21 (k := 83) qh_cX3_take rfl rfl rfl
theorem dX3_take_51 : decode cX3_take 51 = .ok (.invokevirtual 161, 3) := dqn_182 (k := 80) qh_cX3_take rfl rfl rfl
theorem dX3_take_54 : decode cX3_take 54 = .ok (.ifCond .eq 16, 3) := dqn_153 (k := 77) (u := 16) qh_cX3_take rfl rfl rfl (sg_p rfl rfl)
theorem dX3_take_57 : decode cX3_take 57 = .ok (.goto 25, 3) := dqn_167 (k := 74) (u := 25) qh_cX3_take rfl rfl rfl (sg_p rfl rfl)
theorem dX3_take_60 : decode cX3_take 60 = .ok (.aload_n 0, 1) := dqn_42 (k := 73) qh_cX3_take rfl rfl
theorem dX3_take_61 : decode cX3_take 61 = .ok (.iload_n 2, 1) := dqn_28 (k := 72) qh_cX3_take rfl rfl
theorem dX3_take_62 : decode cX3_take 62 = .ok (.iload 5, 2) := dqn_21 (k := 70) qh_cX3_take rfl rfl rfl
theorem dX3_take_64 : decode cX3_take 64 = .ok (.invokevirtual 164, 3) := dqn_182 (k := 67) qh_cX3_take rfl rfl rfl
theorem dX3_take_67 : decode cX3_take 67 = .ok (.ifCond .ne 15, 3) := dqn_154 (k := 64) (u := 15) qh_cX3_take rfl rfl rfl (sg_p rfl rfl)
theorem dX3_take_70 : decode cX3_take 70 = .ok (.aload_n 0, 1) := dqn_42 (k := 63) qh_cX3_take rfl rfl
theorem dX3_take_71 : decode cX3_take 71 = .ok (.iconst 2, 1) := dqn_5 (k := 62) qh_cX3_take rfl rfl
theorem dX3_take_72 : decode cX3_take 72 = .ok (.aload_n 0, 1) := dqn_42 (k := 61) qh_cX3_take rfl rfl
theorem dX3_take_73 : decode cX3_take 73 = .ok (.getfield 36, 3) := dqn_180 (k := 58) qh_cX3_take rfl rfl rfl
theorem dX3_take_76 : decode cX3_take 76 = .ok (.iload 5, 2) := dqn_21 (k := 56) qh_cX3_take rfl rfl rfl
theorem dX3_take_78 : decode cX3_take 78 = .ok (.iaload, 1) := dqn_46 (k := 55) qh_cX3_take rfl rfl
theorem dX3_take_79 : decode cX3_take 79 = .ok (.invokevirtual 75, 3) := dqn_182 (k := 52) qh_cX3_take rfl rfl rfl
theorem dX3_take_82 : decode cX3_take 82 = .ok (.iinc 5 1, 3) := dqn_132 (k := 49) (u := 1) qh_cX3_take rfl rfl rfl rfl (by decide)
theorem dX3_take_85 : decode cX3_take 85 = .ok (.goto (-49), 3) := dqn_167 (k := 46) (u := 65487) qh_cX3_take rfl rfl rfl (sg_n (k := 49) rfl rfl rfl)
theorem dX3_take_88 : decode cX3_take 88 = .ok (.iload_n 1, 1) := dqn_27 (k := 45) qh_cX3_take rfl rfl
theorem dX3_take_89 : decode cX3_take 89 = .ok (.ifCond .ne 13, 3) := dqn_154 (k := 42) (u := 13) qh_cX3_take rfl rfl rfl (sg_p rfl rfl)
theorem dX3_take_92 : decode cX3_take 92 = .ok (.aload_n 0, 1) := dqn_42 (k := 41) qh_cX3_take rfl rfl
theorem dX3_take_93 : decode cX3_take 93 = .ok (.iload_n 2, 1) := dqn_28 (k := 40) qh_cX3_take rfl rfl
theorem dX3_take_94 : decode cX3_take 94 = .ok (.iload 4, 2) := dqn_21 (k := 38) qh_cX3_take rfl rfl rfl
theorem dX3_take_96 : decode cX3_take 96 = .ok (.invokevirtual 167, 3) := dqn_182 (k := 35) qh_cX3_take rfl rfl rfl
theorem dX3_take_99 : decode cX3_take 99 = .ok (.goto 34, 3) := dqn_167 (k := 32) (u := 34) qh_cX3_take rfl rfl rfl (sg_p rfl rfl)
theorem dX3_take_102 : decode cX3_take 102 = .ok (.aload_n 0, 1) := dqn_42 (k := 31) qh_cX3_take rfl rfl
theorem dX3_take_103 : decode cX3_take 103 = .ok (.getfield 28, 3) := dqn_180 (k := 28) qh_cX3_take rfl rfl rfl
theorem dX3_take_106 : decode cX3_take 106 = .ok (.iload_n 2, 1) := dqn_28 (k := 27) qh_cX3_take rfl rfl
theorem dX3_take_107 : decode cX3_take 107 = .ok (.aload_n 0, 1) := dqn_42 (k := 26) qh_cX3_take rfl rfl
theorem dX3_take_108 : decode cX3_take 108 = .ok (.getfield 32, 3) := dqn_180 (k := 23) qh_cX3_take rfl rfl rfl
theorem dX3_take_111 : decode cX3_take 111 = .ok (.iconst 0, 1) := dqn_3 (k := 22) qh_cX3_take rfl rfl
theorem dX3_take_112 : decode cX3_take 112 = .ok (.iaload, 1) := dqn_46 (k := 21) qh_cX3_take rfl rfl
theorem dX3_take_113 : decode cX3_take 113 = .ok (.iload 4, 2) := dqn_21 (k := 19) qh_cX3_take rfl rfl rfl
theorem dX3_take_115 : decode cX3_take 115 = .ok (.iconst 1, 1) := dqn_4 (k := 18) qh_cX3_take rfl rfl
theorem dX3_take_116 : decode cX3_take 116 = .ok (.if_icmp .le 12, 3) := dqn_164 (k := 15) (u := 12) qh_cX3_take rfl rfl rfl (sg_p rfl rfl)
theorem dX3_take_119 : decode cX3_take 119 = .ok (.aload_n 0, 1) := dqn_42 (k := 14) qh_cX3_take rfl rfl
theorem dX3_take_120 : decode cX3_take 120 = .ok (.getfield 32, 3) := dqn_180 (k := 11) qh_cX3_take rfl rfl rfl
theorem dX3_take_123 : decode cX3_take 123 = .ok (.iconst 1, 1) := dqn_4 (k := 10) qh_cX3_take rfl rfl
theorem dX3_take_124 : decode cX3_take 124 = .ok (.iaload, 1) := dqn_46 (k := 9) qh_cX3_take rfl rfl
theorem dX3_take_125 : decode cX3_take 125 = .ok (.goto 4, 3) := dqn_167 (k := 6) (u := 4) qh_cX3_take rfl rfl rfl (sg_p rfl rfl)
theorem dX3_take_128 : decode cX3_take 128 = .ok (.iconst (-1), 1) := dqn_2 (k := 5) qh_cX3_take rfl rfl
theorem dX3_take_129 : decode cX3_take 129 = .ok (.invokevirtual 170, 3) := dqn_182 (k := 2) qh_cX3_take rfl rfl rfl
theorem dX3_take_132 : decode cX3_take 132 = .ok (.pop, 1) := dqn_87 (k := 1) qh_cX3_take rfl rfl
theorem dX3_take_133 : decode cX3_take 133 = .ok (.return_, 1) := dqn_177 (k := 0) qh_cX3_take rfl rfl
theorem dX3_readLine_0 : decode cX3_readLine 0 = .ok (.aload_n 0, 1) := dqn_42 (k := 162) qh_cX3_readLine rfl rfl
theorem dX3_readLine_1 : decode cX3_readLine 1 = .ok (.getfield 12, 3) := dqn_180 (k := 159) qh_cX3_readLine rfl rfl rfl
theorem dX3_readLine_4 : decode cX3_readLine 4 = .ok (.invokevirtual 79, 3) := dqn_182 (k := 156) qh_cX3_readLine rfl rfl rfl
theorem dX3_readLine_7 : decode cX3_readLine 7 = .ok (.aload_n 0, 1) := dqn_42 (k := 155) qh_cX3_readLine rfl rfl
theorem dX3_readLine_8 : decode cX3_readLine 8 = .ok (.getfield 12, 3) := dqn_180 (k := 152) qh_cX3_readLine rfl rfl rfl
theorem dX3_readLine_11 : decode cX3_readLine 11 = .ok (.getfield 82, 3) := dqn_180 (k := 149) qh_cX3_readLine rfl rfl rfl
theorem dX3_readLine_14 : decode cX3_readLine 14 = .ok (.ifCond .ne 5, 3) := dqn_154 (k := 146) (u := 5) qh_cX3_readLine rfl rfl rfl (sg_p rfl rfl)
theorem dX3_readLine_17 : decode cX3_readLine 17 = .ok (.iconst 0, 1) := dqn_3 (k := 145) qh_cX3_readLine rfl rfl
theorem dX3_readLine_18 : decode cX3_readLine 18 = .ok (.ireturn, 1) := dqn_172 (k := 144) qh_cX3_readLine rfl rfl
theorem dX3_readLine_19 : decode cX3_readLine 19 = .ok (.aload_n 0, 1) := dqn_42 (k := 143) qh_cX3_readLine rfl rfl
theorem dX3_readLine_20 : decode cX3_readLine 20 = .ok (.iload_n 1, 1) := dqn_27 (k := 142) qh_cX3_readLine rfl rfl
theorem dX3_readLine_21 : decode cX3_readLine 21 = .ok (.invokevirtual 85, 3) := dqn_182 (k := 139) qh_cX3_readLine rfl rfl rfl
theorem dX3_readLine_24 : decode cX3_readLine 24 = .ok (.istore_n 2, 1) := dqn_61 (k := 138) qh_cX3_readLine rfl rfl
theorem dX3_readLine_25 : decode cX3_readLine 25 = .ok (.aload_n 0, 1) := dqn_42 (k := 137) qh_cX3_readLine rfl rfl
theorem dX3_readLine_26 : decode cX3_readLine 26 = .ok (.getfield 12, 3) := dqn_180 (k := 134) qh_cX3_readLine rfl rfl rfl
theorem dX3_readLine_29 : decode cX3_readLine 29 = .ok (.getfield 89, 3) := dqn_180 (k := 131) qh_cX3_readLine rfl rfl rfl
theorem dX3_readLine_32 : decode cX3_readLine 32 = .ok (.istore_n 3, 1) := dqn_62 (k := 130) qh_cX3_readLine rfl rfl
theorem dX3_readLine_33 : decode cX3_readLine 33 = .ok (.iload_n 2, 1) := dqn_28 (k := 129) qh_cX3_readLine rfl rfl
theorem dX3_readLine_34 : decode cX3_readLine 34 = .ok (.iconst (-1), 1) := dqn_2 (k := 128) qh_cX3_readLine rfl rfl
theorem dX3_readLine_35 : decode cX3_readLine 35 = .ok (.if_icmp .ne 8, 3) := dqn_160 (k := 125) (u := 8) qh_cX3_readLine rfl rfl rfl (sg_p rfl rfl)
theorem dX3_readLine_38 : decode cX3_readLine 38 = .ok (.aload_n 0, 1) := dqn_42 (k := 124) qh_cX3_readLine rfl rfl
theorem dX3_readLine_39 : decode cX3_readLine 39 = .ok (.invokevirtual 92, 3) := dqn_182 (k := 121) qh_cX3_readLine rfl rfl rfl
theorem dX3_readLine_42 : decode cX3_readLine 42 = .ok (.ireturn, 1) := dqn_172 (k := 120) qh_cX3_readLine rfl rfl
theorem dX3_readLine_43 : decode cX3_readLine 43 = .ok (.iload_n 1, 1) := dqn_27 (k := 119) qh_cX3_readLine rfl rfl
theorem dX3_readLine_44 : decode cX3_readLine 44 = .ok (.ifCond .ne 11, 3) := dqn_154 (k := 116) (u := 11) qh_cX3_readLine rfl rfl rfl (sg_p rfl rfl)
theorem dX3_readLine_47 : decode cX3_readLine 47 = .ok (.getstatic 96, 3) := dqn_178 (k := 113) qh_cX3_readLine rfl rfl rfl
theorem dX3_readLine_50 : decode cX3_readLine 50 = .ok (.iload_n 2, 1) := dqn_28 (k := 112) qh_cX3_readLine rfl rfl
theorem dX3_readLine_51 : decode cX3_readLine 51 = .ok (.iaload, 1) := dqn_46 (k := 111) qh_cX3_readLine rfl rfl
theorem dX3_readLine_52 : decode cX3_readLine 52 = .ok (.goto 8, 3) := dqn_167 (k := 108) (u := 8) qh_cX3_readLine rfl rfl rfl (sg_p rfl rfl)
theorem dX3_readLine_55 : decode cX3_readLine 55 = .ok (.getstatic 99, 3) := dqn_178 (k := 105) qh_cX3_readLine rfl rfl rfl
theorem dX3_readLine_58 : decode cX3_readLine 58 = .ok (.iload_n 2, 1) := dqn_28 (k := 104) qh_cX3_readLine rfl rfl
theorem dX3_readLine_59 : decode cX3_readLine 59 = .ok (.iaload, 1) := dqn_46 (k := 103) qh_cX3_readLine rfl rfl
theorem dX3_readLine_60 : decode cX3_readLine 60 = .ok (.istore 4, 2) := dqn_54 (k := 101) qh_cX3_readLine rfl rfl rfl
theorem dX3_readLine_62 : decode cX3_readLine 62 = .ok (.iconst 0, 1) := dqn_3 (k := 100) qh_cX3_readLine rfl rfl
theorem dX3_readLine_63 : decode cX3_readLine 63 = .ok (.istore 5, 2) := dqn_54 (k := 98) qh_cX3_readLine rfl rfl rfl
theorem dX3_readLine_65 : decode cX3_readLine 65 = .ok (.iload 5, 2) := dqn_21 (k := 96) qh_cX3_readLine rfl rfl rfl
theorem dX3_readLine_67 : decode cX3_readLine 67 = .ok (.iload 4, 2) := dqn_21 (k := 94) qh_cX3_readLine rfl rfl rfl
theorem dX3_readLine_69 : decode cX3_readLine 69 = .ok (.if_icmp .ge 60, 3) := dqn_162 (k := 91) (u := 60) qh_cX3_readLine rfl rfl rfl (sg_p rfl rfl)
theorem dX3_readLine_72 : decode cX3_readLine 72 = .ok (.aload_n 0, 1) := dqn_42 (k := 90) qh_cX3_readLine rfl rfl
theorem dX3_readLine_73 : decode cX3_readLine 73 = .ok (.getfield 12, 3) := dqn_180 (k := 87) qh_cX3_readLine rfl rfl rfl
theorem dX3_readLine_76 : decode cX3_readLine 76 = .ok (.invokevirtual 79, 3) := dqn_182 (k := 84) qh_cX3_readLine rfl rfl rfl
theorem dX3_readLine_79 : decode cX3_readLine 79 = .ok (.aload_n 0, 1) := dqn_42 (k := 83) qh_cX3_readLine rfl rfl
theorem dX3_readLine_80 : decode cX3_readLine 80 = .ok (.getfield 12, 3) := dqn_180 (k := 80) qh_cX3_readLine rfl rfl rfl
theorem dX3_readLine_83 : decode cX3_readLine 83 = .ok (.getfield 82, 3) := dqn_180 (k := 77) qh_cX3_readLine rfl rfl rfl
theorem dX3_readLine_86 : decode cX3_readLine 86 = .ok (.iconst 2, 1) := dqn_5 (k := 76) qh_cX3_readLine rfl rfl
theorem dX3_readLine_87 : decode cX3_readLine 87 = .ok (.if_icmp .eq 8, 3) := dqn_159 (k := 73) (u := 8) qh_cX3_readLine rfl rfl rfl (sg_p rfl rfl)
theorem dX3_readLine_90 : decode cX3_readLine 90 = .ok (.aload_n 0, 1) := dqn_42 (k := 72) qh_cX3_readLine rfl rfl
theorem dX3_readLine_91 : decode cX3_readLine 91 = .ok (.invokevirtual 92, 3) := dqn_182 (k := 69) qh_cX3_readLine rfl rfl rfl
theorem dX3_readLine_94 : decode cX3_readLine 94 = .ok (.ireturn, 1) := dqn_172 (k := 68) qh_cX3_readLine rfl rfl
theorem dX3_readLine_95 : decode cX3_readLine 95 = .ok (.aload_n 0, 1) := dqn_42 (k := 67) qh_cX3_readLine rfl rfl
theorem dX3_readLine_96 : decode cX3_readLine 96 = .ok (.getfield 32, 3) := dqn_180 (k := 64) qh_cX3_readLine rfl rfl rfl
theorem dX3_readLine_99 : decode cX3_readLine 99 = .ok (.iload 5, 2) := dqn_21 (k := 62) qh_cX3_readLine rfl rfl rfl
theorem dX3_readLine_101 : decode cX3_readLine 101 = .ok (.aload_n 0, 1) := dqn_42 (k := 61) qh_cX3_readLine rfl rfl
theorem dX3_readLine_102 : decode cX3_readLine 102 = .ok (.getfield 12, 3) := dqn_180 (k := 58) qh_cX3_readLine rfl rfl rfl
theorem dX3_readLine_105 : decode cX3_readLine 105 = .ok (.getfield 102, 3) := dqn_180 (k := 55) qh_cX3_readLine rfl rfl rfl
theorem dX3_readLine_108 : decode cX3_readLine 108 = .ok (.iastore, 1) := dqn_79 (k := 54) qh_cX3_readLine rfl rfl
theorem dX3_readLine_109 : decode cX3_readLine 109 = .ok (.aload_n 0, 1) := dqn_42 (k := 53) qh_cX3_readLine rfl rfl
theorem dX3_readLine_110 : decode cX3_readLine 110 = .ok (.getfield 36, 3) := dqn_180 (k := 50) qh_cX3_readLine rfl rfl rfl
theorem dX3_readLine_113 : decode cX3_readLine 113 = .ok (.iload 5, 2) := dqn_21 (k := 48) qh_cX3_readLine rfl rfl rfl
theorem dX3_readLine_115 : decode cX3_readLine 115 = .ok (.aload_n 0, 1) := dqn_42 (k := 47) qh_cX3_readLine rfl rfl
theorem dX3_readLine_116 : decode cX3_readLine 116 = .ok (.getfield 12, 3) := dqn_180 (k := 44) qh_cX3_readLine rfl rfl rfl
theorem dX3_readLine_119 : decode cX3_readLine 119 = .ok (.getfield 89, 3) := dqn_180 (k := 41) qh_cX3_readLine rfl rfl rfl
theorem dX3_readLine_122 : decode cX3_readLine 122 = .ok (.iastore, 1) := dqn_79 (k := 40) qh_cX3_readLine rfl rfl
theorem dX3_readLine_123 : decode cX3_readLine 123 = .ok (.iinc 5 1, 3) := dqn_132 (k := 37) (u := 1) qh_cX3_readLine rfl rfl rfl rfl (by decide)
theorem dX3_readLine_126 : decode cX3_readLine 126 = .ok (.goto (-61), 3) := dqn_167 (k := 34) (u := 65475) qh_cX3_readLine rfl rfl rfl (sg_n (k := 61) rfl rfl rfl)
theorem dX3_readLine_129 : decode cX3_readLine 129 = .ok (.aload_n 0, 1) := dqn_42 (k := 33) qh_cX3_readLine rfl rfl
theorem dX3_readLine_130 : decode cX3_readLine 130 = .ok (.getfield 12, 3) := dqn_180 (k := 30) qh_cX3_readLine rfl rfl rfl
theorem dX3_readLine_133 : decode cX3_readLine 133 = .ok (.invokevirtual 79, 3) := dqn_182 (k := 27) qh_cX3_readLine rfl rfl rfl
theorem dX3_readLine_136 : decode cX3_readLine 136 = .ok (.aload_n 0, 1) := dqn_42 (k := 26) qh_cX3_readLine rfl rfl
theorem dX3_readLine_137 : decode cX3_readLine 137 = .ok (.getfield 12, 3) := dqn_180 (k := 23) qh_cX3_readLine rfl rfl rfl
theorem dX3_readLine_140 : decode cX3_readLine 140 = .ok (.getfield 82, 3) := dqn_180 (k := 20) qh_cX3_readLine rfl rfl rfl
theorem dX3_readLine_143 : decode cX3_readLine 143 = .ok (.iconst 3, 1) := dqn_6 (k := 19) qh_cX3_readLine rfl rfl
theorem dX3_readLine_144 : decode cX3_readLine 144 = .ok (.if_icmp .eq 8, 3) := dqn_159 (k := 16) (u := 8) qh_cX3_readLine rfl rfl rfl (sg_p rfl rfl)
theorem dX3_readLine_147 : decode cX3_readLine 147 = .ok (.aload_n 0, 1) := dqn_42 (k := 15) qh_cX3_readLine rfl rfl
theorem dX3_readLine_148 : decode cX3_readLine 148 = .ok (.invokevirtual 92, 3) := dqn_182 (k := 12) qh_cX3_readLine rfl rfl rfl
theorem dX3_readLine_151 : decode cX3_readLine 151 = .ok (.ireturn, 1) := dqn_172 (k := 11) qh_cX3_readLine rfl rfl
theorem dX3_readLine_152 : decode cX3_readLine 152 = .ok (.aload_n 0, 1) := dqn_42 (k := 10) qh_cX3_readLine rfl rfl
theorem dX3_readLine_153 : decode cX3_readLine 153 = .ok (.iload_n 1, 1) := dqn_27 (k := 9) qh_cX3_readLine rfl rfl
theorem dX3_readLine_154 : decode cX3_readLine 154 = .ok (.iload_n 2, 1) := dqn_28 (k := 8) qh_cX3_readLine rfl rfl
theorem dX3_readLine_155 : decode cX3_readLine 155 = .ok (.iload_n 3, 1) := dqn_29 (k := 7) qh_cX3_readLine rfl rfl
theorem dX3_readLine_156 : decode cX3_readLine 156 = .ok (.iload 4, 2) := dqn_21 (k := 5) qh_cX3_readLine rfl rfl rfl
theorem dX3_readLine_158 : decode cX3_readLine 158 = .ok (.invokevirtual 105, 3) := dqn_182 (k := 2) qh_cX3_readLine rfl rfl rfl
theorem dX3_readLine_161 : decode cX3_readLine 161 = .ok (.iconst 1, 1) := dqn_4 (k := 1) qh_cX3_readLine rfl rfl
theorem dX3_readLine_162 : decode cX3_readLine 162 = .ok (.ireturn, 1) := dqn_172 (k := 0) qh_cX3_readLine rfl rfl
theorem dX3_closeRains_0 : decode cX3_closeRains 0 = .ok (.aload_n 0, 1) := dqn_42 (k := 48) qh_cX3_closeRains rfl rfl
theorem dX3_closeRains_1 : decode cX3_closeRains 1 = .ok (.getfield 21, 3) := dqn_180 (k := 45) qh_cX3_closeRains rfl rfl rfl
theorem dX3_closeRains_4 : decode cX3_closeRains 4 = .ok (.getfield 61, 3) := dqn_180 (k := 42) qh_cX3_closeRains rfl rfl rfl
theorem dX3_closeRains_7 : decode cX3_closeRains 7 = .ok (.ifCond .ne 17, 3) := dqn_154 (k := 39) (u := 17) qh_cX3_closeRains rfl rfl rfl (sg_p rfl rfl)
theorem dX3_closeRains_10 : decode cX3_closeRains 10 = .ok (.aload_n 0, 1) := dqn_42 (k := 38) qh_cX3_closeRains rfl rfl
theorem dX3_closeRains_11 : decode cX3_closeRains 11 = .ok (.getfield 21, 3) := dqn_180 (k := 35) qh_cX3_closeRains rfl rfl rfl
theorem dX3_closeRains_14 : decode cX3_closeRains 14 = .ok (.iconst 0, 1) := dqn_3 (k := 34) qh_cX3_closeRains rfl rfl
theorem dX3_closeRains_15 : decode cX3_closeRains 15 = .ok (.bipush 100, 2) := dqn_16 (k := 32) (u := 100) qh_cX3_closeRains rfl rfl rfl (by decide)
theorem dX3_closeRains_17 : decode cX3_closeRains 17 = .ok (.invokevirtual 64, 3) := dqn_182 (k := 29) qh_cX3_closeRains rfl rfl rfl
theorem dX3_closeRains_20 : decode cX3_closeRains 20 = .ok (.pop, 1) := dqn_87 (k := 28) qh_cX3_closeRains rfl rfl
theorem dX3_closeRains_21 : decode cX3_closeRains 21 = .ok (.goto 27, 3) := dqn_167 (k := 25) (u := 27) qh_cX3_closeRains rfl rfl rfl (sg_p rfl rfl)
theorem dX3_closeRains_24 : decode cX3_closeRains 24 = .ok (.aload_n 0, 1) := dqn_42 (k := 24) qh_cX3_closeRains rfl rfl
theorem dX3_closeRains_25 : decode cX3_closeRains 25 = .ok (.getfield 21, 3) := dqn_180 (k := 21) qh_cX3_closeRains rfl rfl rfl
theorem dX3_closeRains_28 : decode cX3_closeRains 28 = .ok (.invokevirtual 68, 3) := dqn_182 (k := 18) qh_cX3_closeRains rfl rfl rfl
theorem dX3_closeRains_31 : decode cX3_closeRains 31 = .ok (.bipush 100, 2) := dqn_16 (k := 16) (u := 100) qh_cX3_closeRains rfl rfl rfl (by decide)
theorem dX3_closeRains_33 : decode cX3_closeRains 33 = .ok (.if_icmp .eq 15, 3) := dqn_159 (k := 13) (u := 15) qh_cX3_closeRains rfl rfl rfl (sg_p rfl rfl)
theorem dX3_closeRains_36 : decode cX3_closeRains 36 = .ok (.aload_n 0, 1) := dqn_42 (k := 12) qh_cX3_closeRains rfl rfl
theorem dX3_closeRains_37 : decode cX3_closeRains 37 = .ok (.iconst 4, 1) := dqn_7 (k := 11) qh_cX3_closeRains rfl rfl
theorem dX3_closeRains_38 : decode cX3_closeRains 38 = .ok (.aload_n 0, 1) := dqn_42 (k := 10) qh_cX3_closeRains rfl rfl
theorem dX3_closeRains_39 : decode cX3_closeRains 39 = .ok (.getfield 12, 3) := dqn_180 (k := 7) qh_cX3_closeRains rfl rfl rfl
theorem dX3_closeRains_42 : decode cX3_closeRains 42 = .ok (.getfield 72, 3) := dqn_180 (k := 4) qh_cX3_closeRains rfl rfl rfl
theorem dX3_closeRains_45 : decode cX3_closeRains 45 = .ok (.invokevirtual 75, 3) := dqn_182 (k := 1) qh_cX3_closeRains rfl rfl rfl
theorem dX3_closeRains_48 : decode cX3_closeRains 48 = .ok (.return_, 1) := dqn_177 (k := 0) qh_cX3_closeRains rfl rfl
theorem dX3_read_0 : decode cX3_read 0 = .ok (.aload_n 0, 1) := dqn_42 (k := 80) qh_cX3_read rfl rfl
theorem dX3_read_1 : decode cX3_read 1 = .ok (.iconst 0, 1) := dqn_3 (k := 79) qh_cX3_read rfl rfl
theorem dX3_read_2 : decode cX3_read 2 = .ok (.putfield 39, 3) := dqn_181 (k := 76) qh_cX3_read rfl rfl rfl
theorem dX3_read_5 : decode cX3_read 5 = .ok (.aload_n 0, 1) := dqn_42 (k := 75) qh_cX3_read rfl rfl
theorem dX3_read_6 : decode cX3_read 6 = .ok (.iconst (-1), 1) := dqn_2 (k := 74) qh_cX3_read rfl rfl
theorem dX3_read_7 : decode cX3_read 7 = .ok (.putfield 43, 3) := dqn_181 (k := 71) qh_cX3_read rfl rfl rfl
theorem dX3_read_10 : decode cX3_read 10 = .ok (.aload_n 0, 1) := dqn_42 (k := 70) qh_cX3_read rfl rfl
theorem dX3_read_11 : decode cX3_read 11 = .ok (.getfield 21, 3) := dqn_180 (k := 67) qh_cX3_read rfl rfl rfl
theorem dX3_read_14 : decode cX3_read 14 = .ok (.invokevirtual 46, 3) := dqn_182 (k := 64) qh_cX3_read rfl rfl rfl
theorem dX3_read_17 : decode cX3_read 17 = .ok (.aload_n 0, 1) := dqn_42 (k := 63) qh_cX3_read rfl rfl
theorem dX3_read_18 : decode cX3_read 18 = .ok (.getfield 28, 3) := dqn_180 (k := 60) qh_cX3_read rfl rfl rfl
theorem dX3_read_21 : decode cX3_read 21 = .ok (.invokevirtual 49, 3) := dqn_182 (k := 57) qh_cX3_read rfl rfl rfl
theorem dX3_read_24 : decode cX3_read 24 = .ok (.aload_n 0, 1) := dqn_42 (k := 56) qh_cX3_read rfl rfl
theorem dX3_read_25 : decode cX3_read 25 = .ok (.getfield 12, 3) := dqn_180 (k := 53) qh_cX3_read rfl rfl rfl
theorem dX3_read_28 : decode cX3_read 28 = .ok (.aload_n 1, 1) := dqn_43 (k := 52) qh_cX3_read rfl rfl
theorem dX3_read_29 : decode cX3_read 29 = .ok (.iload_n 2, 1) := dqn_28 (k := 51) qh_cX3_read rfl rfl
theorem dX3_read_30 : decode cX3_read 30 = .ok (.invokevirtual 50, 3) := dqn_182 (k := 48) qh_cX3_read rfl rfl rfl
theorem dX3_read_33 : decode cX3_read 33 = .ok (.iconst 1, 1) := dqn_4 (k := 47) qh_cX3_read rfl rfl
theorem dX3_read_34 : decode cX3_read 34 = .ok (.istore 4, 2) := dqn_54 (k := 45) qh_cX3_read rfl rfl rfl
theorem dX3_read_36 : decode cX3_read 36 = .ok (.iconst 0, 1) := dqn_3 (k := 44) qh_cX3_read rfl rfl
theorem dX3_read_37 : decode cX3_read 37 = .ok (.istore 5, 2) := dqn_54 (k := 42) qh_cX3_read rfl rfl rfl
theorem dX3_read_39 : decode cX3_read 39 = .ok (.iload 5, 2) := dqn_21 (k := 40) qh_cX3_read rfl rfl rfl
theorem dX3_read_41 : decode cX3_read 41 = .ok (.sipush 600, 3) := dqn_17 (k := 37) (u := 600) qh_cX3_read rfl rfl rfl (sg_p rfl rfl)
theorem dX3_read_44 : decode cX3_read 44 = .ok (.if_icmp .gt 21, 3) := dqn_163 (k := 34) (u := 21) qh_cX3_read rfl rfl rfl (sg_p rfl rfl)
theorem dX3_read_47 : decode cX3_read 47 = .ok (.iload 4, 2) := dqn_21 (k := 32) qh_cX3_read rfl rfl rfl
theorem dX3_read_49 : decode cX3_read 49 = .ok (.ifCond .eq 16, 3) := dqn_153 (k := 29) (u := 16) qh_cX3_read rfl rfl rfl (sg_p rfl rfl)
theorem dX3_read_52 : decode cX3_read 52 = .ok (.aload_n 0, 1) := dqn_42 (k := 28) qh_cX3_read rfl rfl
theorem dX3_read_53 : decode cX3_read 53 = .ok (.iload_n 3, 1) := dqn_29 (k := 27) qh_cX3_read rfl rfl
theorem dX3_read_54 : decode cX3_read 54 = .ok (.invokevirtual 54, 3) := dqn_182 (k := 24) qh_cX3_read rfl rfl rfl
theorem dX3_read_57 : decode cX3_read 57 = .ok (.istore 4, 2) := dqn_54 (k := 22) qh_cX3_read rfl rfl rfl
theorem dX3_read_59 : decode cX3_read 59 = .ok (.iinc 5 1, 3) := dqn_132 (k := 19) (u := 1) qh_cX3_read rfl rfl rfl rfl (by decide)
theorem dX3_read_62 : decode cX3_read 62 = .ok (.goto (-23), 3) := dqn_167 (k := 16) (u := 65513) qh_cX3_read rfl rfl rfl (sg_n (k := 23) rfl rfl rfl)
theorem dX3_read_65 : decode cX3_read 65 = .ok (.iload_n 3, 1) := dqn_29 (k := 15) qh_cX3_read rfl rfl
theorem dX3_read_66 : decode cX3_read 66 = .ok (.ifCond .ne 14, 3) := dqn_154 (k := 12) (u := 14) qh_cX3_read rfl rfl rfl (sg_p rfl rfl)
theorem dX3_read_69 : decode cX3_read 69 = .ok (.aload_n 0, 1) := dqn_42 (k := 11) qh_cX3_read rfl rfl
theorem dX3_read_70 : decode cX3_read 70 = .ok (.getfield 39, 3) := dqn_180 (k := 8) qh_cX3_read rfl rfl rfl
theorem dX3_read_73 : decode cX3_read 73 = .ok (.ifCond .ne 7, 3) := dqn_154 (k := 5) (u := 7) qh_cX3_read rfl rfl rfl (sg_p rfl rfl)
theorem dX3_read_76 : decode cX3_read 76 = .ok (.aload_n 0, 1) := dqn_42 (k := 4) qh_cX3_read rfl rfl
theorem dX3_read_77 : decode cX3_read 77 = .ok (.invokevirtual 58, 3) := dqn_182 (k := 1) qh_cX3_read rfl rfl rfl
theorem dX3_read_80 : decode cX3_read 80 = .ok (.return_, 1) := dqn_177 (k := 0) qh_cX3_read rfl rfl
theorem dX7_numberFor_0 : decode cX7_numberFor 0 = .ok (.iload_n 1, 1) := dqn_27 (k := 69) qh_cX7_numberFor rfl rfl
theorem dX7_numberFor_1 : decode cX7_numberFor 1 = .ok (.ifCond .eq 10, 3) := dqn_153 (k := 66) (u := 10) qh_cX7_numberFor rfl rfl rfl (sg_p rfl rfl)
theorem dX7_numberFor_4 : decode cX7_numberFor 4 = .ok (.iload_n 1, 1) := dqn_27 (k := 65) qh_cX7_numberFor rfl rfl
theorem dX7_numberFor_5 : decode cX7_numberFor 5 = .ok (.iconst 1, 1) := dqn_4 (k := 64) qh_cX7_numberFor rfl rfl
theorem dX7_numberFor_6 : decode cX7_numberFor 6 = .ok (.if_icmp .eq 5, 3) := dqn_159 (k := 61) (u := 5) qh_cX7_numberFor rfl rfl rfl (sg_p rfl rfl)
theorem dX7_numberFor_9 : decode cX7_numberFor 9 = .ok (.iconst (-1), 1) := dqn_2 (k := 60) qh_cX7_numberFor rfl rfl
theorem dX7_numberFor_10 : decode cX7_numberFor 10 = .ok (.ireturn, 1) := dqn_172 (k := 59) qh_cX7_numberFor rfl rfl
theorem dX7_numberFor_11 : decode cX7_numberFor 11 = .ok (.iload_n 1, 1) := dqn_27 (k := 58) qh_cX7_numberFor rfl rfl
theorem dX7_numberFor_12 : decode cX7_numberFor 12 = .ok (.ifCond .ne 10, 3) := dqn_154 (k := 55) (u := 10) qh_cX7_numberFor rfl rfl rfl (sg_p rfl rfl)
theorem dX7_numberFor_15 : decode cX7_numberFor 15 = .ok (.aload_n 0, 1) := dqn_42 (k := 54) qh_cX7_numberFor rfl rfl
theorem dX7_numberFor_16 : decode cX7_numberFor 16 = .ok (.getfield 31, 3) := dqn_180 (k := 51) qh_cX7_numberFor rfl rfl rfl
theorem dX7_numberFor_19 : decode cX7_numberFor 19 = .ok (.goto 7, 3) := dqn_167 (k := 48) (u := 7) qh_cX7_numberFor rfl rfl rfl (sg_p rfl rfl)
theorem dX7_numberFor_22 : decode cX7_numberFor 22 = .ok (.aload_n 0, 1) := dqn_42 (k := 47) qh_cX7_numberFor rfl rfl
theorem dX7_numberFor_23 : decode cX7_numberFor 23 = .ok (.getfield 40, 3) := dqn_180 (k := 44) qh_cX7_numberFor rfl rfl rfl
theorem dX7_numberFor_26 : decode cX7_numberFor 26 = .ok (.istore_n 3, 1) := dqn_62 (k := 43) qh_cX7_numberFor rfl rfl
theorem dX7_numberFor_27 : decode cX7_numberFor 27 = .ok (.iload_n 1, 1) := dqn_27 (k := 42) qh_cX7_numberFor rfl rfl
theorem dX7_numberFor_28 : decode cX7_numberFor 28 = .ok (.ifCond .ne 7, 3) := dqn_154 (k := 39) (u := 7) qh_cX7_numberFor rfl rfl rfl (sg_p rfl rfl)
theorem dX7_numberFor_31 : decode cX7_numberFor 31 = .ok (.iconst 2, 1) := dqn_5 (k := 38) qh_cX7_numberFor rfl rfl
theorem dX7_numberFor_32 : decode cX7_numberFor 32 = .ok (.goto 4, 3) := dqn_167 (k := 35) (u := 4) qh_cX7_numberFor rfl rfl rfl (sg_p rfl rfl)
theorem dX7_numberFor_35 : decode cX7_numberFor 35 = .ok (.iconst 3, 1) := dqn_6 (k := 34) qh_cX7_numberFor rfl rfl
theorem dX7_numberFor_36 : decode cX7_numberFor 36 = .ok (.istore 4, 2) := dqn_54 (k := 32) qh_cX7_numberFor rfl rfl rfl
theorem dX7_numberFor_38 : decode cX7_numberFor 38 = .ok (.iload_n 2, 1) := dqn_28 (k := 31) qh_cX7_numberFor rfl rfl
theorem dX7_numberFor_39 : decode cX7_numberFor 39 = .ok (.iconst (-1), 1) := dqn_2 (k := 30) qh_cX7_numberFor rfl rfl
theorem dX7_numberFor_40 : decode cX7_numberFor 40 = .ok (.if_icmp .ne 15, 3) := dqn_160 (k := 27) (u := 15) qh_cX7_numberFor rfl rfl rfl (sg_p rfl rfl)
theorem dX7_numberFor_43 : decode cX7_numberFor 43 = .ok (.iload_n 3, 1) := dqn_29 (k := 26) qh_cX7_numberFor rfl rfl
theorem dX7_numberFor_44 : decode cX7_numberFor 44 = .ok (.iload 4, 2) := dqn_21 (k := 24) qh_cX7_numberFor rfl rfl rfl
theorem dX7_numberFor_46 : decode cX7_numberFor 46 = .ok (.if_icmp .ge 7, 3) := dqn_162 (k := 21) (u := 7) qh_cX7_numberFor rfl rfl rfl (sg_p rfl rfl)
theorem dX7_numberFor_49 : decode cX7_numberFor 49 = .ok (.iload_n 3, 1) := dqn_29 (k := 20) qh_cX7_numberFor rfl rfl
theorem dX7_numberFor_50 : decode cX7_numberFor 50 = .ok (.goto 4, 3) := dqn_167 (k := 17) (u := 4) qh_cX7_numberFor rfl rfl rfl (sg_p rfl rfl)
theorem dX7_numberFor_53 : decode cX7_numberFor 53 = .ok (.iconst (-1), 1) := dqn_2 (k := 16) qh_cX7_numberFor rfl rfl
theorem dX7_numberFor_54 : decode cX7_numberFor 54 = .ok (.ireturn, 1) := dqn_172 (k := 15) qh_cX7_numberFor rfl rfl
theorem dX7_numberFor_55 : decode cX7_numberFor 55 = .ok (.iload_n 2, 1) := dqn_28 (k := 14) qh_cX7_numberFor rfl rfl
theorem dX7_numberFor_56 : decode cX7_numberFor 56 = .ok (.ifCond .lt 12, 3) := dqn_155 (k := 11) (u := 12) qh_cX7_numberFor rfl rfl rfl (sg_p rfl rfl)
theorem dX7_numberFor_59 : decode cX7_numberFor 59 = .ok (.iload_n 2, 1) := dqn_28 (k := 10) qh_cX7_numberFor rfl rfl
theorem dX7_numberFor_60 : decode cX7_numberFor 60 = .ok (.iload_n 3, 1) := dqn_29 (k := 9) qh_cX7_numberFor rfl rfl
theorem dX7_numberFor_61 : decode cX7_numberFor 61 = .ok (.if_icmp .ge 7, 3) := dqn_162 (k := 6) (u := 7) qh_cX7_numberFor rfl rfl rfl (sg_p rfl rfl)
theorem dX7_numberFor_64 : decode cX7_numberFor 64 = .ok (.iload_n 2, 1) := dqn_28 (k := 5) qh_cX7_numberFor rfl rfl
theorem dX7_numberFor_65 : decode cX7_numberFor 65 = .ok (.goto 4, 3) := dqn_167 (k := 2) (u := 4) qh_cX7_numberFor rfl rfl rfl (sg_p rfl rfl)
theorem dX7_numberFor_68 : decode cX7_numberFor 68 = .ok (.iconst (-1), 1) := dqn_2 (k := 1) qh_cX7_numberFor rfl rfl
theorem dX7_numberFor_69 : decode cX7_numberFor 69 = .ok (.ireturn, 1) := dqn_172 (k := 0) qh_cX7_numberFor rfl rfl
theorem dX7_keep_0 : decode cX7_keep 0 = .ok (.iload_n 1, 1) := dqn_27 (k := 61) qh_cX7_keep rfl rfl
theorem dX7_keep_1 : decode cX7_keep 1 = .ok (.ifCond .ne 33, 3) := dqn_154 (k := 58) (u := 33) qh_cX7_keep rfl rfl rfl (sg_p rfl rfl)
theorem dX7_keep_4 : decode cX7_keep 4 = .ok (.aload_n 0, 1) := dqn_42 (k := 57) qh_cX7_keep rfl rfl
theorem dX7_keep_5 : decode cX7_keep 5 = .ok (.getfield 27, 3) := dqn_180 (k := 54) qh_cX7_keep rfl rfl rfl
theorem dX7_keep_8 : decode cX7_keep 8 = .ok (.iload_n 2, 1) := dqn_28 (k := 53) qh_cX7_keep rfl rfl
theorem dX7_keep_9 : decode cX7_keep 9 = .ok (.aaload, 1) := dqn_50 (k := 52) qh_cX7_keep rfl rfl
theorem dX7_keep_10 : decode cX7_keep 10 = .ok (.aload_n 3, 1) := dqn_45 (k := 51) qh_cX7_keep rfl rfl
theorem dX7_keep_11 : decode cX7_keep 11 = .ok (.getfield 45, 3) := dqn_180 (k := 48) qh_cX7_keep rfl rfl rfl
theorem dX7_keep_14 : decode cX7_keep 14 = .ok (.invokevirtual 50, 3) := dqn_182 (k := 45) qh_cX7_keep rfl rfl rfl
theorem dX7_keep_17 : decode cX7_keep 17 = .ok (.aload_n 0, 1) := dqn_42 (k := 44) qh_cX7_keep rfl rfl
theorem dX7_keep_18 : decode cX7_keep 18 = .ok (.aload_n 0, 1) := dqn_42 (k := 43) qh_cX7_keep rfl rfl
theorem dX7_keep_19 : decode cX7_keep 19 = .ok (.getfield 31, 3) := dqn_180 (k := 40) qh_cX7_keep rfl rfl rfl
theorem dX7_keep_22 : decode cX7_keep 22 = .ok (.iload_n 2, 1) := dqn_28 (k := 39) qh_cX7_keep rfl rfl
theorem dX7_keep_23 : decode cX7_keep 23 = .ok (.iconst 1, 1) := dqn_4 (k := 38) qh_cX7_keep rfl rfl
theorem dX7_keep_24 : decode cX7_keep 24 = .ok (.iadd, 1) := dqn_96 (k := 37) qh_cX7_keep rfl rfl
theorem dX7_keep_25 : decode cX7_keep 25 = .ok (.invokestatic 54, 3) := dqn_184 (k := 34) qh_cX7_keep rfl rfl rfl
theorem dX7_keep_28 : decode cX7_keep 28 = .ok (.putfield 31, 3) := dqn_181 (k := 31) qh_cX7_keep rfl rfl rfl
theorem dX7_keep_31 : decode cX7_keep 31 = .ok (.goto 30, 3) := dqn_167 (k := 28) (u := 30) qh_cX7_keep rfl rfl rfl (sg_p rfl rfl)
theorem dX7_keep_34 : decode cX7_keep 34 = .ok (.aload_n 0, 1) := dqn_42 (k := 27) qh_cX7_keep rfl rfl
theorem dX7_keep_35 : decode cX7_keep 35 = .ok (.getfield 36, 3) := dqn_180 (k := 24) qh_cX7_keep rfl rfl rfl
theorem dX7_keep_38 : decode cX7_keep 38 = .ok (.iload_n 2, 1) := dqn_28 (k := 23) qh_cX7_keep rfl rfl
theorem dX7_keep_39 : decode cX7_keep 39 = .ok (.aaload, 1) := dqn_50 (k := 22) qh_cX7_keep rfl rfl
theorem dX7_keep_40 : decode cX7_keep 40 = .ok (.aload_n 3, 1) := dqn_45 (k := 21) qh_cX7_keep rfl rfl
theorem dX7_keep_41 : decode cX7_keep 41 = .ok (.getfield 60, 3) := dqn_180 (k := 18) qh_cX7_keep rfl rfl rfl
theorem dX7_keep_44 : decode cX7_keep 44 = .ok (.invokevirtual 63, 3) := dqn_182 (k := 15) qh_cX7_keep rfl rfl rfl
theorem dX7_keep_47 : decode cX7_keep 47 = .ok (.aload_n 0, 1) := dqn_42 (k := 14) qh_cX7_keep rfl rfl
theorem dX7_keep_48 : decode cX7_keep 48 = .ok (.aload_n 0, 1) := dqn_42 (k := 13) qh_cX7_keep rfl rfl
theorem dX7_keep_49 : decode cX7_keep 49 = .ok (.getfield 40, 3) := dqn_180 (k := 10) qh_cX7_keep rfl rfl rfl
theorem dX7_keep_52 : decode cX7_keep 52 = .ok (.iload_n 2, 1) := dqn_28 (k := 9) qh_cX7_keep rfl rfl
theorem dX7_keep_53 : decode cX7_keep 53 = .ok (.iconst 1, 1) := dqn_4 (k := 8) qh_cX7_keep rfl rfl
theorem dX7_keep_54 : decode cX7_keep 54 = .ok (.iadd, 1) := dqn_96 (k := 7) qh_cX7_keep rfl rfl
theorem dX7_keep_55 : decode cX7_keep 55 = .ok (.invokestatic 54, 3) := dqn_184 (k := 4) qh_cX7_keep rfl rfl rfl
theorem dX7_keep_58 : decode cX7_keep 58 = .ok (.putfield 40, 3) := dqn_181 (k := 1) qh_cX7_keep rfl rfl rfl
theorem dX7_keep_61 : decode cX7_keep 61 = .ok (.return_, 1) := dqn_177 (k := 0) qh_cX7_keep rfl rfl
theorem dX10_text_0 : decode cX10_text 0 = .ok (.aload_n 0, 1) := dqn_42 (k := 124) qh_cX10_text rfl rfl
theorem dX10_text_1 : decode cX10_text 1 = .ok (.getfield 10, 3) := dqn_180 (k := 121) qh_cX10_text rfl rfl rfl
theorem dX10_text_4 : decode cX10_text 4 = .ok (.getfield 71, 3) := dqn_180 (k := 118) qh_cX10_text rfl rfl rfl
theorem dX10_text_7 : decode cX10_text 7 = .ok (.istore_n 3, 1) := dqn_62 (k := 117) qh_cX10_text rfl rfl
theorem dX10_text_8 : decode cX10_text 8 = .ok (.aload_n 0, 1) := dqn_42 (k := 116) qh_cX10_text rfl rfl
theorem dX10_text_9 : decode cX10_text 9 = .ok (.getfield 10, 3) := dqn_180 (k := 113) qh_cX10_text rfl rfl rfl
theorem dX10_text_12 : decode cX10_text 12 = .ok (.iconst 0, 1) := dqn_3 (k := 112) qh_cX10_text rfl rfl
theorem dX10_text_13 : decode cX10_text 13 = .ok (.putfield 71, 3) := dqn_181 (k := 109) qh_cX10_text rfl rfl rfl
theorem dX10_text_16 : decode cX10_text 16 = .ok (.aload_n 0, 1) := dqn_42 (k := 108) qh_cX10_text rfl rfl
theorem dX10_text_17 : decode cX10_text 17 = .ok (.getfield 10, 3) := dqn_180 (k := 105) qh_cX10_text rfl rfl rfl
theorem dX10_text_20 : decode cX10_text 20 = .ok (.iconst 0, 1) := dqn_3 (k := 104) qh_cX10_text rfl rfl
theorem dX10_text_21 : decode cX10_text 21 = .ok (.putfield 79, 3) := dqn_181 (k := 101) qh_cX10_text rfl rfl rfl
theorem dX10_text_24 : decode cX10_text 24 = .ok (.aload_n 0, 1) := dqn_42 (k := 100) qh_cX10_text rfl rfl
theorem dX10_text_25 : decode cX10_text 25 = .ok (.getfield 10, 3) := dqn_180 (k := 97) qh_cX10_text rfl rfl rfl
theorem dX10_text_28 : decode cX10_text 28 = .ok (.iconst (-1), 1) := dqn_2 (k := 96) qh_cX10_text rfl rfl
theorem dX10_text_29 : decode cX10_text 29 = .ok (.putfield 82, 3) := dqn_181 (k := 93) qh_cX10_text rfl rfl rfl
theorem dX10_text_32 : decode cX10_text 32 = .ok (.aload_n 0, 1) := dqn_42 (k := 92) qh_cX10_text rfl rfl
theorem dX10_text_33 : decode cX10_text 33 = .ok (.getfield 10, 3) := dqn_180 (k := 89) qh_cX10_text rfl rfl rfl
theorem dX10_text_36 : decode cX10_text 36 = .ok (.iload_n 1, 1) := dqn_27 (k := 88) qh_cX10_text rfl rfl
theorem dX10_text_37 : decode cX10_text 37 = .ok (.iload_n 2, 1) := dqn_28 (k := 87) qh_cX10_text rfl rfl
theorem dX10_text_38 : decode cX10_text 38 = .ok (.invokevirtual 85, 3) := dqn_182 (k := 84) qh_cX10_text rfl rfl rfl
theorem dX10_text_41 : decode cX10_text 41 = .ok (.istore 4, 2) := dqn_54 (k := 82) qh_cX10_text rfl rfl rfl
theorem dX10_text_43 : decode cX10_text 43 = .ok (.iload 4, 2) := dqn_21 (k := 80) qh_cX10_text rfl rfl rfl
theorem dX10_text_45 : decode cX10_text 45 = .ok (.iconst (-1), 1) := dqn_2 (k := 79) qh_cX10_text rfl rfl
theorem dX10_text_46 : decode cX10_text 46 = .ok (.if_icmp .ne 6, 3) := dqn_160 (k := 76) (u := 6) qh_cX10_text rfl rfl rfl (sg_p rfl rfl)
theorem dX10_text_49 : decode cX10_text 49 = .ok (.bipush (-2), 2) := dqn_16 (k := 74) (u := 254) qh_cX10_text rfl rfl rfl (by decide)
theorem dX10_text_51 : decode cX10_text 51 = .ok (.ireturn, 1) := dqn_172 (k := 73) qh_cX10_text rfl rfl
theorem dX10_text_52 : decode cX10_text 52 = .ok (.aload_n 0, 1) := dqn_42 (k := 72) qh_cX10_text rfl rfl
theorem dX10_text_53 : decode cX10_text 53 = .ok (.getfield 27, 3) := dqn_180 (k := 69) qh_cX10_text rfl rfl rfl
theorem dX10_text_56 : decode cX10_text 56 = .ok (.aload_n 0, 1) := dqn_42 (k := 68) qh_cX10_text rfl rfl
theorem dX10_text_57 : decode cX10_text 57 = .ok (.getfield 10, 3) := dqn_180 (k := 65) qh_cX10_text rfl rfl rfl
theorem dX10_text_60 : decode cX10_text 60 = .ok (.getfield 89, 3) := dqn_180 (k := 62) qh_cX10_text rfl rfl rfl
theorem dX10_text_63 : decode cX10_text 63 = .ok (.iload_n 3, 1) := dqn_29 (k := 61) qh_cX10_text rfl rfl
theorem dX10_text_64 : decode cX10_text 64 = .ok (.iload_n 1, 1) := dqn_27 (k := 60) qh_cX10_text rfl rfl
theorem dX10_text_65 : decode cX10_text 65 = .ok (.invokevirtual 93, 3) := dqn_182 (k := 57) qh_cX10_text rfl rfl rfl
theorem dX10_text_68 : decode cX10_text 68 = .ok (.aload_n 0, 1) := dqn_42 (k := 56) qh_cX10_text rfl rfl
theorem dX10_text_69 : decode cX10_text 69 = .ok (.getfield 10, 3) := dqn_180 (k := 53) qh_cX10_text rfl rfl rfl
theorem dX10_text_72 : decode cX10_text 72 = .ok (.aload_n 0, 1) := dqn_42 (k := 52) qh_cX10_text rfl rfl
theorem dX10_text_73 : decode cX10_text 73 = .ok (.getfield 27, 3) := dqn_180 (k := 49) qh_cX10_text rfl rfl rfl
theorem dX10_text_76 : decode cX10_text 76 = .ok (.getfield 97, 3) := dqn_180 (k := 46) qh_cX10_text rfl rfl rfl
theorem dX10_text_79 : decode cX10_text 79 = .ok (.putfield 79, 3) := dqn_181 (k := 43) qh_cX10_text rfl rfl rfl
theorem dX10_text_82 : decode cX10_text 82 = .ok (.aload_n 0, 1) := dqn_42 (k := 42) qh_cX10_text rfl rfl
theorem dX10_text_83 : decode cX10_text 83 = .ok (.getfield 10, 3) := dqn_180 (k := 39) qh_cX10_text rfl rfl rfl
theorem dX10_text_86 : decode cX10_text 86 = .ok (.aload_n 0, 1) := dqn_42 (k := 38) qh_cX10_text rfl rfl
theorem dX10_text_87 : decode cX10_text 87 = .ok (.getfield 27, 3) := dqn_180 (k := 35) qh_cX10_text rfl rfl rfl
theorem dX10_text_90 : decode cX10_text 90 = .ok (.getfield 98, 3) := dqn_180 (k := 32) qh_cX10_text rfl rfl rfl
theorem dX10_text_93 : decode cX10_text 93 = .ok (.putfield 82, 3) := dqn_181 (k := 29) qh_cX10_text rfl rfl rfl
theorem dX10_text_96 : decode cX10_text 96 = .ok (.aload_n 0, 1) := dqn_42 (k := 28) qh_cX10_text rfl rfl
theorem dX10_text_97 : decode cX10_text 97 = .ok (.getfield 27, 3) := dqn_180 (k := 25) qh_cX10_text rfl rfl rfl
theorem dX10_text_100 : decode cX10_text 100 = .ok (.getfield 97, 3) := dqn_180 (k := 22) qh_cX10_text rfl rfl rfl
theorem dX10_text_103 : decode cX10_text 103 = .ok (.ifCond .eq 5, 3) := dqn_153 (k := 19) (u := 5) qh_cX10_text rfl rfl rfl (sg_p rfl rfl)
theorem dX10_text_106 : decode cX10_text 106 = .ok (.iconst (-1), 1) := dqn_2 (k := 18) qh_cX10_text rfl rfl
theorem dX10_text_107 : decode cX10_text 107 = .ok (.ireturn, 1) := dqn_172 (k := 17) qh_cX10_text rfl rfl
theorem dX10_text_108 : decode cX10_text 108 = .ok (.aload_n 0, 1) := dqn_42 (k := 16) qh_cX10_text rfl rfl
theorem dX10_text_109 : decode cX10_text 109 = .ok (.getfield 10, 3) := dqn_180 (k := 13) qh_cX10_text rfl rfl rfl
theorem dX10_text_112 : decode cX10_text 112 = .ok (.iload_n 1, 1) := dqn_27 (k := 12) qh_cX10_text rfl rfl
theorem dX10_text_113 : decode cX10_text 113 = .ok (.iload 4, 2) := dqn_21 (k := 10) qh_cX10_text rfl rfl rfl
theorem dX10_text_115 : decode cX10_text 115 = .ok (.aload_n 0, 1) := dqn_42 (k := 9) qh_cX10_text rfl rfl
theorem dX10_text_116 : decode cX10_text 116 = .ok (.getfield 27, 3) := dqn_180 (k := 6) qh_cX10_text rfl rfl rfl
theorem dX10_text_119 : decode cX10_text 119 = .ok (.invokevirtual 99, 3) := dqn_182 (k := 3) qh_cX10_text rfl rfl rfl
theorem dX10_text_122 : decode cX10_text 122 = .ok (.iload 4, 2) := dqn_21 (k := 1) qh_cX10_text rfl rfl rfl
theorem dX10_text_124 : decode cX10_text 124 = .ok (.ireturn, 1) := dqn_172 (k := 0) qh_cX10_text rfl rfl
end
