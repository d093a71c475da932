section
theorem k1109 : Cond.methodLink RX9 3 objectInit ∈ gt := gt_5_2 (i := 15) rfl rfl
theorem k1110 : Cond.fieldLink RX9 9 "PondStair$Years" "x" "I" ∈ gt := gt_5_2 (i := 16) rfl rfl
theorem k1126 : Cond.constant RX9 15 1103515245 ∈ gt := gt_5_3 (i := 8) rfl rfl
theorem k1122 : Cond.methodLink RX9 41 yX9_draw ∈ gt := gt_5_3 (i := 4) rfl rfl
theorem k1124 : Cond.instanceMethod yX9_draw ∈ gt := gt_5_3 (i := 6) rfl rfl
theorem k34 : Cond.selects RX9 yX9_draw yX9_draw ∈ gt := gs_3 (i := 2) rfl rfl
theorem k106 : Cond.initialized RX9 ∈ gt := gt_1_0 (i := 20) rfl rfl
theorem k1125 : Cond.code yX9_draw cX9_draw 2 (some .int) ∈ gt := gt_5_3 (i := 7) rfl rfl
theorem np_X9_draw : yX9_draw.cls ≠ "java/lang/invoke/MethodHandle" ∧ yX9_draw.cls ≠ "java/lang/invoke/VarHandle" ∧ (parseMethodDescriptor yX9_draw.desc).map (fun d => d.parameters.length) = some 1 := ⟨cq_RX9.1, cq_RX9.2, pd_6⟩
theorem k141 : Cond.fieldLinkNest RX9 44 "PondStair$Hill" "rains" "I" "PondStair" ∈ nt := nt_1_2 (i := 7) rfl rfl
theorem k1127 : Cond.methodLink RX9 47 yX1_chanceOf ∈ gt := gt_5_3 (i := 9) rfl rfl
theorem k133 : Cond.fieldLinkNest RX9 50 "PondStair$Hill" "ponds" "I" "PondStair" ∈ nt := nt_1_1 (i := 23) rfl rfl
theorem k1133 : Cond.methodLink RX9 53 yX1_of ∈ gt := gt_5_3 (i := 15) rfl rfl
theorem k1134 : Cond.methodLinkNest RX9 57 yX10_bit "PondStair" ∈ nt := nt_5_3 (i := 16) rfl rfl
theorem k1118 : Cond.methodLink RX9 16 yX9_drawRain ∈ gt := gt_5_3 (i := 0) rfl rfl
theorem k1120 : Cond.instanceMethod yX9_drawRain ∈ gt := gt_5_3 (i := 2) rfl rfl
theorem k33 : Cond.selects RX9 yX9_drawRain yX9_drawRain ∈ gt := gs_3 (i := 1) rfl rfl
theorem k1121 : Cond.code yX9_drawRain cX9_drawRain 5 (some .int) ∈ gt := gt_5_3 (i := 3) rfl rfl
theorem np_X9_drawRain : yX9_drawRain.cls ≠ "java/lang/invoke/MethodHandle" ∧ yX9_drawRain.cls ≠ "java/lang/invoke/VarHandle" ∧ (parseMethodDescriptor yX9_drawRain.desc).map (fun d => d.parameters.length) = some 1 := ⟨cq_RX9.1, cq_RX9.2, pd_40⟩
theorem k1128 : Cond.methodLink RX9 20 yX1_stepsOf ∈ gt := gt_5_3 (i := 10) rfl rfl
theorem k1129 : Cond.methodLink RX9 26 yX9_drawBanks ∈ gt := gt_5_3 (i := 11) rfl rfl
theorem k1131 : Cond.instanceMethod yX9_drawBanks ∈ gt := gt_5_3 (i := 13) rfl rfl
theorem k35 : Cond.selects RX9 yX9_drawBanks yX9_drawBanks ∈ gt := gs_3 (i := 3) rfl rfl
theorem k1132 : Cond.code yX9_drawBanks cX9_drawBanks 4 (some .int) ∈ gt := gt_5_3 (i := 14) rfl rfl
theorem np_X9_drawBanks : yX9_drawBanks.cls ≠ "java/lang/invoke/MethodHandle" ∧ yX9_drawBanks.cls ≠ "java/lang/invoke/VarHandle" ∧ (parseMethodDescriptor yX9_drawBanks.desc).map (fun d => d.parameters.length) = some 1 := ⟨cq_RX9.1, cq_RX9.2, pd_40⟩
theorem k1135 : Cond.methodLink RX9 29 yX5_run ∈ gt := gt_5_3 (i := 17) rfl rfl
theorem k322 : Cond.fieldLinkNest RX9 38 "PondStair$Storm" "went" "I" "PondStair" ∈ nt := nt_1_9 (i := 20) rfl rfl
theorem k325 : Cond.fieldLinkNest RX9 35 "PondStair$Storm" "harm" "I" "PondStair" ∈ nt := nt_1_9 (i := 23) rfl rfl
theorem k1104 : Cond.classLink RX10 290 RX9 ∈ gt := gt_5_2 (i := 10) rfl rfl
theorem k1105 : Cond.instantiable RX9 1 ∈ gt := gt_5_2 (i := 11) rfl rfl
theorem k1106 : Cond.methodLink RX10 292 yX9_init ∈ gt := gt_5_2 (i := 12) rfl rfl
theorem k1107 : Cond.instanceMethod yX9_init ∈ gt := gt_5_2 (i := 13) rfl rfl
theorem k1108 : Cond.code yX9_init cX9_init 2 none ∈ gt := gt_5_2 (i := 14) rfl rfl
theorem np_X9_init : yX9_init.cls ≠ "java/lang/invoke/MethodHandle" ∧ yX9_init.cls ≠ "java/lang/invoke/VarHandle" ∧ (parseMethodDescriptor yX9_init.desc).map (fun d => d.parameters.length) = some 1 := ⟨cq_RX9.1, cq_RX9.2, pd_9⟩
theorem k1114 : Cond.methodLink RX10 294 yX9_tally ∈ gt := gt_5_2 (i := 20) rfl rfl
theorem k1115 : Cond.instanceMethod yX9_tally ∈ gt := gt_5_2 (i := 21) rfl rfl
theorem k1116 : Cond.selects RX9 yX9_tally yX9_tally ∈ gt := gt_5_2 (i := 22) rfl rfl
theorem k1117 : Cond.code yX9_tally cX9_tally 9 (some .long) ∈ gt := gt_5_2 (i := 23) rfl rfl
theorem np_X9_tally : yX9_tally.cls ≠ "java/lang/invoke/MethodHandle" ∧ yX9_tally.cls ≠ "java/lang/invoke/VarHandle" ∧ (parseMethodDescriptor yX9_tally.desc).map (fun d => d.parameters.length) = some 4 := ⟨cq_RX9.1, cq_RX9.2, pd_52⟩
theorem dX9_init_0 : decode cX9_init 0 = .ok (.aload_n 0, 1) := dqn_42 (k := 9) qh_cX9_init rfl rfl
theorem dX9_init_1 : decode cX9_init 1 = .ok (.invokespecial 3, 3) := dqn_183 (k := 6) qh_cX9_init rfl rfl rfl
theorem dX9_init_4 : decode cX9_init 4 = .ok (.aload_n 0, 1) := dqn_42 (k := 5) qh_cX9_init rfl rfl
theorem dX9_init_5 : decode cX9_init 5 = .ok (.iload_n 1, 1) := dqn_27 (k := 4) qh_cX9_init rfl rfl
theorem dX9_init_6 : decode cX9_init 6 = .ok (.putfield 9, 3) := dqn_181 (k := 1) qh_cX9_init rfl rfl rfl
theorem dX9_init_9 : decode cX9_init 9 = .ok (.return_, 1) := dqn_177 (k := 0) qh_cX9_init rfl rfl
theorem dX9_draw_0 : decode cX9_draw 0 = .ok (.aload_n 0, 1) := dqn_42 (k := 32) qh_cX9_draw rfl rfl
theorem dX9_draw_1 : decode cX9_draw 1 = .ok (.aload_n 0, 1) := dqn_42 (k := 31) qh_cX9_draw rfl rfl
theorem dX9_draw_2 : decode cX9_draw 2 = .ok (.getfield 9, 3) := dqn_180 (k := 28) qh_cX9_draw rfl rfl rfl
theorem dX9_draw_5 : decode cX9_draw 5 = .ok (.ldc 15, 2) := dqn_18 (k := 26) qh_cX9_draw rfl rfl rfl
theorem dX9_draw_7 : decode cX9_draw 7 = .ok (.imul, 1) := dqn_104 (k := 25) qh_cX9_draw rfl rfl
theorem dX9_draw_8 : decode cX9_draw 8 = .ok (.sipush 12345, 3) := dqn_17 (k := 22) (u := 12345) qh_cX9_draw rfl rfl rfl (sg_p rfl rfl)
theorem dX9_draw_11 : decode cX9_draw 11 = .ok (.iadd, 1) := dqn_96 (k := 21) qh_cX9_draw rfl rfl
theorem dX9_draw_12 : decode cX9_draw 12 = .ok (.putfield 9, 3) := dqn_181 (k := 18) qh_cX9_draw rfl rfl rfl
theorem dX9_draw_15 : decode cX9_draw 15 = .ok (.iload_n 1, 1) := dqn_27 (k := 17) qh_cX9_draw rfl rfl
theorem dX9_draw_16 : decode cX9_draw 16 = .ok (.ifCond .le 15, 3) := dqn_158 (k := 14) (u := 15) qh_cX9_draw rfl rfl rfl (sg_p rfl rfl)
theorem dX9_draw_19 : decode cX9_draw 19 = .ok (.aload_n 0, 1) := dqn_42 (k := 13) qh_cX9_draw rfl rfl
theorem dX9_draw_20 : decode cX9_draw 20 = .ok (.getfield 9, 3) := dqn_180 (k := 10) qh_cX9_draw rfl rfl rfl
theorem dX9_draw_23 : decode cX9_draw 23 = .ok (.bipush 16, 2) := dqn_16 (k := 8) (u := 16) qh_cX9_draw rfl rfl rfl (by decide)
theorem dX9_draw_25 : decode cX9_draw 25 = .ok (.iushr, 1) := dqn_124 (k := 7) qh_cX9_draw rfl rfl
theorem dX9_draw_26 : decode cX9_draw 26 = .ok (.iload_n 1, 1) := dqn_27 (k := 6) qh_cX9_draw rfl rfl
theorem dX9_draw_27 : decode cX9_draw 27 = .ok (.irem, 1) := dqn_112 (k := 5) qh_cX9_draw rfl rfl
theorem dX9_draw_28 : decode cX9_draw 28 = .ok (.goto 4, 3) := dqn_167 (k := 2) (u := 4) qh_cX9_draw rfl rfl rfl (sg_p rfl rfl)
theorem dX9_draw_31 : decode cX9_draw 31 = .ok (.iconst 0, 1) := dqn_3 (k := 1) qh_cX9_draw rfl rfl
theorem dX9_draw_32 : decode cX9_draw 32 = .ok (.ireturn, 1) := dqn_172 (k := 0) qh_cX9_draw rfl rfl
theorem dX9_drawRain_0 : decode cX9_drawRain 0 = .ok (.aload_n 0, 1) := dqn_42 (k := 45) qh_cX9_drawRain rfl rfl
theorem dX9_drawRain_1 : decode cX9_drawRain 1 = .ok (.bipush 100, 2) := dqn_16 (k := 43) (u := 100) qh_cX9_drawRain rfl rfl rfl (by decide)
theorem dX9_drawRain_3 : decode cX9_drawRain 3 = .ok (.invokevirtual 41, 3) := dqn_182 (k := 40) qh_cX9_drawRain rfl rfl rfl
theorem dX9_drawRain_6 : decode cX9_drawRain 6 = .ok (.istore_n 2, 1) := dqn_61 (k := 39) qh_cX9_drawRain rfl rfl
theorem dX9_drawRain_7 : decode cX9_drawRain 7 = .ok (.iconst 0, 1) := dqn_3 (k := 38) qh_cX9_drawRain rfl rfl
theorem dX9_drawRain_8 : decode cX9_drawRain 8 = .ok (.istore_n 3, 1) := dqn_62 (k := 37) qh_cX9_drawRain rfl rfl
theorem dX9_drawRain_9 : decode cX9_drawRain 9 = .ok (.iconst 0, 1) := dqn_3 (k := 36) qh_cX9_drawRain rfl rfl
theorem dX9_drawRain_10 : decode cX9_drawRain 10 = .ok (.istore 4, 2) := dqn_54 (k := 34) qh_cX9_drawRain rfl rfl rfl
theorem dX9_drawRain_12 : decode cX9_drawRain 12 = .ok (.iload 4, 2) := dqn_21 (k := 32) qh_cX9_drawRain rfl rfl rfl
theorem dX9_drawRain_14 : decode cX9_drawRain 14 = .ok (.aload_n 1, 1) := dqn_43 (k := 31) qh_cX9_drawRain rfl rfl
theorem dX9_drawRain_15 : decode cX9_drawRain 15 = .ok (.getfield 44, 3) := dqn_180 (k := 28) qh_cX9_drawRain rfl rfl rfl
theorem dX9_drawRain_18 : decode cX9_drawRain 18 = .ok (.if_icmp .ge 26, 3) := dqn_162 (k := 25) (u := 26) qh_cX9_drawRain rfl rfl rfl (sg_p rfl rfl)
theorem dX9_drawRain_21 : decode cX9_drawRain 21 = .ok (.iload_n 3, 1) := dqn_29 (k := 24) qh_cX9_drawRain rfl rfl
theorem dX9_drawRain_22 : decode cX9_drawRain 22 = .ok (.aload_n 1, 1) := dqn_43 (k := 23) qh_cX9_drawRain rfl rfl
theorem dX9_drawRain_23 : decode cX9_drawRain 23 = .ok (.iload 4, 2) := dqn_21 (k := 21) qh_cX9_drawRain rfl rfl rfl
theorem dX9_drawRain_25 : decode cX9_drawRain 25 = .ok (.invokevirtual 47, 3) := dqn_182 (k := 18) qh_cX9_drawRain rfl rfl rfl
theorem dX9_drawRain_28 : decode cX9_drawRain 28 = .ok (.iadd, 1) := dqn_96 (k := 17) qh_cX9_drawRain rfl rfl
theorem dX9_drawRain_29 : decode cX9_drawRain 29 = .ok (.istore_n 3, 1) := dqn_62 (k := 16) qh_cX9_drawRain rfl rfl
theorem dX9_drawRain_30 : decode cX9_drawRain 30 = .ok (.iload_n 2, 1) := dqn_28 (k := 15) qh_cX9_drawRain rfl rfl
theorem dX9_drawRain_31 : decode cX9_drawRain 31 = .ok (.iload_n 3, 1) := dqn_29 (k := 14) qh_cX9_drawRain rfl rfl
theorem dX9_drawRain_32 : decode cX9_drawRain 32 = .ok (.if_icmp .ge 6, 3) := dqn_162 (k := 11) (u := 6) qh_cX9_drawRain rfl rfl rfl (sg_p rfl rfl)
theorem dX9_drawRain_35 : decode cX9_drawRain 35 = .ok (.iload 4, 2) := dqn_21 (k := 9) qh_cX9_drawRain rfl rfl rfl
theorem dX9_drawRain_37 : decode cX9_drawRain 37 = .ok (.ireturn, 1) := dqn_172 (k := 8) qh_cX9_drawRain rfl rfl
theorem dX9_drawRain_38 : decode cX9_drawRain 38 = .ok (.iinc 4 1, 3) := dqn_132 (k := 5) (u := 1) qh_cX9_drawRain rfl rfl rfl rfl (by decide)
theorem dX9_drawRain_41 : decode cX9_drawRain 41 = .ok (.goto (-29), 3) := dqn_167 (k := 2) (u := 65507) qh_cX9_drawRain rfl rfl rfl (sg_n (k := 29) rfl rfl rfl)
theorem dX9_drawRain_44 : decode cX9_drawRain 44 = .ok (.iconst (-1), 1) := dqn_2 (k := 1) qh_cX9_drawRain rfl rfl
theorem dX9_drawRain_45 : decode cX9_drawRain 45 = .ok (.ireturn, 1) := dqn_172 (k := 0) qh_cX9_drawRain rfl rfl
theorem dX9_drawBanks_0 : decode cX9_drawBanks 0 = .ok (.iconst 0, 1) := dqn_3 (k := 41) qh_cX9_drawBanks rfl rfl
theorem dX9_drawBanks_1 : decode cX9_drawBanks 1 = .ok (.istore_n 2, 1) := dqn_61 (k := 40) qh_cX9_drawBanks rfl rfl
theorem dX9_drawBanks_2 : decode cX9_drawBanks 2 = .ok (.iconst 0, 1) := dqn_3 (k := 39) qh_cX9_drawBanks rfl rfl
theorem dX9_drawBanks_3 : decode cX9_drawBanks 3 = .ok (.istore_n 3, 1) := dqn_62 (k := 38) qh_cX9_drawBanks rfl rfl
theorem dX9_drawBanks_4 : decode cX9_drawBanks 4 = .ok (.iload_n 3, 1) := dqn_29 (k := 37) qh_cX9_drawBanks rfl rfl
theorem dX9_drawBanks_5 : decode cX9_drawBanks 5 = .ok (.aload_n 1, 1) := dqn_43 (k := 36) qh_cX9_drawBanks rfl rfl
theorem dX9_drawBanks_6 : decode cX9_drawBanks 6 = .ok (.getfield 50, 3) := dqn_180 (k := 33) qh_cX9_drawBanks rfl rfl rfl
theorem dX9_drawBanks_9 : decode cX9_drawBanks 9 = .ok (.if_icmp .ge 31, 3) := dqn_162 (k := 30) (u := 31) qh_cX9_drawBanks rfl rfl rfl (sg_p rfl rfl)
theorem dX9_drawBanks_12 : decode cX9_drawBanks 12 = .ok (.aload_n 0, 1) := dqn_42 (k := 29) qh_cX9_drawBanks rfl rfl
theorem dX9_drawBanks_13 : decode cX9_drawBanks 13 = .ok (.bipush 10, 2) := dqn_16 (k := 27) (u := 10) qh_cX9_drawBanks rfl rfl rfl (by decide)
theorem dX9_drawBanks_15 : decode cX9_drawBanks 15 = .ok (.invokevirtual 41, 3) := dqn_182 (k := 24) qh_cX9_drawBanks rfl rfl rfl
theorem dX9_drawBanks_18 : decode cX9_drawBanks 18 = .ok (.aload_n 1, 1) := dqn_43 (k := 23) qh_cX9_drawBanks rfl rfl
theorem dX9_drawBanks_19 : decode cX9_drawBanks 19 = .ok (.iload_n 3, 1) := dqn_29 (k := 22) qh_cX9_drawBanks rfl rfl
theorem dX9_drawBanks_20 : decode cX9_drawBanks 20 = .ok (.iconst 4, 1) := dqn_7 (k := 21) qh_cX9_drawBanks rfl rfl
theorem dX9_drawBanks_21 : decode cX9_drawBanks 21 = .ok (.invokevirtual 53, 3) := dqn_182 (k := 18) qh_cX9_drawBanks rfl rfl rfl
theorem dX9_drawBanks_24 : decode cX9_drawBanks 24 = .ok (.if_icmp .ge 10, 3) := dqn_162 (k := 15) (u := 10) qh_cX9_drawBanks rfl rfl rfl (sg_p rfl rfl)
theorem dX9_drawBanks_27 : decode cX9_drawBanks 27 = .ok (.iload_n 2, 1) := dqn_28 (k := 14) qh_cX9_drawBanks rfl rfl
theorem dX9_drawBanks_28 : decode cX9_drawBanks 28 = .ok (.iload_n 3, 1) := dqn_29 (k := 13) qh_cX9_drawBanks rfl rfl
theorem dX9_drawBanks_29 : decode cX9_drawBanks 29 = .ok (.invokestatic 57, 3) := dqn_184 (k := 10) qh_cX9_drawBanks rfl rfl rfl
theorem dX9_drawBanks_32 : decode cX9_drawBanks 32 = .ok (.ior, 1) := dqn_128 (k := 9) qh_cX9_drawBanks rfl rfl
theorem dX9_drawBanks_33 : decode cX9_drawBanks 33 = .ok (.istore_n 2, 1) := dqn_61 (k := 8) qh_cX9_drawBanks rfl rfl
theorem dX9_drawBanks_34 : decode cX9_drawBanks 34 = .ok (.iinc 3 1, 3) := dqn_132 (k := 5) (u := 1) qh_cX9_drawBanks rfl rfl rfl rfl (by decide)
theorem dX9_drawBanks_37 : decode cX9_drawBanks 37 = .ok (.goto (-33), 3) := dqn_167 (k := 2) (u := 65503) qh_cX9_drawBanks rfl rfl rfl (sg_n (k := 33) rfl rfl rfl)
theorem dX9_drawBanks_40 : decode cX9_drawBanks 40 = .ok (.iload_n 2, 1) := dqn_28 (k := 1) qh_cX9_drawBanks rfl rfl
theorem dX9_drawBanks_41 : decode cX9_drawBanks 41 = .ok (.ireturn, 1) := dqn_172 (k := 0) qh_cX9_drawBanks rfl rfl
theorem dX9_tally_0 : decode cX9_tally 0 = .ok (.lconst 0, 1) := dqn_9 (k := 122) qh_cX9_tally rfl rfl
theorem dX9_tally_1 : decode cX9_tally 1 = .ok (.lstore 5, 2) := dqn_55 (k := 120) qh_cX9_tally rfl rfl rfl
theorem dX9_tally_3 : decode cX9_tally 3 = .ok (.iconst 0, 1) := dqn_3 (k := 119) qh_cX9_tally rfl rfl
theorem dX9_tally_4 : decode cX9_tally 4 = .ok (.istore 7, 2) := dqn_54 (k := 117) qh_cX9_tally rfl rfl rfl
theorem dX9_tally_6 : decode cX9_tally 6 = .ok (.iload 7, 2) := dqn_21 (k := 115) qh_cX9_tally rfl rfl rfl
theorem dX9_tally_8 : decode cX9_tally 8 = .ok (.iload_n 3, 1) := dqn_29 (k := 114) qh_cX9_tally rfl rfl
theorem dX9_tally_9 : decode cX9_tally 9 = .ok (.if_icmp .ge 111, 3) := dqn_162 (k := 111) (u := 111) qh_cX9_tally rfl rfl rfl (sg_p rfl rfl)
theorem dX9_tally_12 : decode cX9_tally 12 = .ok (.aload_n 0, 1) := dqn_42 (k := 110) qh_cX9_tally rfl rfl
theorem dX9_tally_13 : decode cX9_tally 13 = .ok (.aload_n 1, 1) := dqn_43 (k := 109) qh_cX9_tally rfl rfl
theorem dX9_tally_14 : decode cX9_tally 14 = .ok (.invokevirtual 16, 3) := dqn_182 (k := 106) qh_cX9_tally rfl rfl rfl
theorem dX9_tally_17 : decode cX9_tally 17 = .ok (.istore 8, 2) := dqn_54 (k := 104) qh_cX9_tally rfl rfl rfl
theorem dX9_tally_19 : decode cX9_tally 19 = .ok (.aload_n 2, 1) := dqn_44 (k := 103) qh_cX9_tally rfl rfl
theorem dX9_tally_20 : decode cX9_tally 20 = .ok (.aload_n 1, 1) := dqn_43 (k := 102) qh_cX9_tally rfl rfl
theorem dX9_tally_21 : decode cX9_tally 21 = .ok (.aload_n 1, 1) := dqn_43 (k := 101) qh_cX9_tally rfl rfl
theorem dX9_tally_22 : decode cX9_tally 22 = .ok (.iload 8, 2) := dqn_21 (k := 99) qh_cX9_tally rfl rfl rfl
theorem dX9_tally_24 : decode cX9_tally 24 = .ok (.invokevirtual 20, 3) := dqn_182 (k := 96) qh_cX9_tally rfl rfl rfl
theorem dX9_tally_27 : decode cX9_tally 27 = .ok (.aload_n 0, 1) := dqn_42 (k := 95) qh_cX9_tally rfl rfl
theorem dX9_tally_28 : decode cX9_tally 28 = .ok (.aload_n 1, 1) := dqn_43 (k := 94) qh_cX9_tally rfl rfl
theorem dX9_tally_29 : decode cX9_tally 29 = .ok (.invokevirtual 26, 3) := dqn_182 (k := 91) qh_cX9_tally rfl rfl rfl
theorem dX9_tally_32 : decode cX9_tally 32 = .ok (.iconst (-1), 1) := dqn_2 (k := 90) qh_cX9_tally rfl rfl
theorem dX9_tally_33 : decode cX9_tally 33 = .ok (.invokevirtual 29, 3) := dqn_182 (k := 87) qh_cX9_tally rfl rfl rfl
theorem dX9_tally_36 : decode cX9_tally 36 = .ok (.iload 4, 2) := dqn_21 (k := 85) qh_cX9_tally rfl rfl rfl
theorem dX9_tally_38 : decode cX9_tally 38 = .ok (.ifCond .ne 16, 3) := dqn_154 (k := 82) (u := 16) qh_cX9_tally rfl rfl rfl (sg_p rfl rfl)
theorem dX9_tally_41 : decode cX9_tally 41 = .ok (.lload 5, 2) := dqn_22 (k := 80) qh_cX9_tally rfl rfl rfl
theorem dX9_tally_43 : decode cX9_tally 43 = .ok (.aload_n 2, 1) := dqn_44 (k := 79) qh_cX9_tally rfl rfl
theorem dX9_tally_44 : decode cX9_tally 44 = .ok (.getfield 35, 3) := dqn_180 (k := 76) qh_cX9_tally rfl rfl rfl
theorem dX9_tally_47 : decode cX9_tally 47 = .ok (.i2l, 1) := dqn_133 (k := 75) qh_cX9_tally rfl rfl
theorem dX9_tally_48 : decode cX9_tally 48 = .ok (.ladd, 1) := dqn_97 (k := 74) qh_cX9_tally rfl rfl
theorem dX9_tally_49 : decode cX9_tally 49 = .ok (.lstore 5, 2) := dqn_55 (k := 72) qh_cX9_tally rfl rfl rfl
theorem dX9_tally_51 : decode cX9_tally 51 = .ok (.goto 63, 3) := dqn_167 (k := 69) (u := 63) qh_cX9_tally rfl rfl rfl (sg_p rfl rfl)
theorem dX9_tally_54 : decode cX9_tally 54 = .ok (.iload 4, 2) := dqn_21 (k := 67) qh_cX9_tally rfl rfl rfl
theorem dX9_tally_56 : decode cX9_tally 56 = .ok (.iconst 1, 1) := dqn_4 (k := 66) qh_cX9_tally rfl rfl
theorem dX9_tally_57 : decode cX9_tally 57 = .ok (.if_icmp .ne 23, 3) := dqn_160 (k := 63) (u := 23) qh_cX9_tally rfl rfl rfl (sg_p rfl rfl)
theorem dX9_tally_60 : decode cX9_tally 60 = .ok (.lload 5, 2) := dqn_22 (k := 61) qh_cX9_tally rfl rfl rfl
theorem dX9_tally_62 : decode cX9_tally 62 = .ok (.aload_n 2, 1) := dqn_44 (k := 60) qh_cX9_tally rfl rfl
theorem dX9_tally_63 : decode cX9_tally 63 = .ok (.getfield 38, 3) := dqn_180 (k := 57) qh_cX9_tally rfl rfl rfl
theorem dX9_tally_66 : decode cX9_tally 66 = .ok (.ifCond .ne 7, 3) := dqn_154 (k := 54) (u := 7) qh_cX9_tally rfl rfl rfl (sg_p rfl rfl)
theorem dX9_tally_69 : decode cX9_tally 69 = .ok (.lconst 0, 1) := dqn_9 (k := 53) qh_cX9_tally rfl rfl
theorem dX9_tally_70 : decode cX9_tally 70 = .ok (.goto 4, 3) := dqn_167 (k := 50) (u := 4) qh_cX9_tally rfl rfl rfl (sg_p rfl rfl)
theorem dX9_tally_73 : decode cX9_tally 73 = .ok (.lconst 1, 1) := dqn_10 (k := 49) qh_cX9_tally rfl rfl
theorem dX9_tally_74 : decode cX9_tally 74 = .ok (.ladd, 1) := dqn_97 (k := 48) qh_cX9_tally rfl rfl
theorem dX9_tally_75 : decode cX9_tally 75 = .ok (.lstore 5, 2) := dqn_55 (k := 46) qh_cX9_tally rfl rfl rfl
theorem dX9_tally_77 : decode cX9_tally 77 = .ok (.goto 37, 3) := dqn_167 (k := 43) (u := 37) qh_cX9_tally rfl rfl rfl (sg_p rfl rfl)
theorem dX9_tally_80 : decode cX9_tally 80 = .ok (.iload 4, 2) := dqn_21 (k := 41) qh_cX9_tally rfl rfl rfl
theorem dX9_tally_82 : decode cX9_tally 82 = .ok (.iconst 2, 1) := dqn_5 (k := 40) qh_cX9_tally rfl rfl
theorem dX9_tally_83 : decode cX9_tally 83 = .ok (.if_icmp .ne 13, 3) := dqn_160 (k := 37) (u := 13) qh_cX9_tally rfl rfl rfl (sg_p rfl rfl)
theorem dX9_tally_86 : decode cX9_tally 86 = .ok (.aload_n 2, 1) := dqn_44 (k := 36) qh_cX9_tally rfl rfl
theorem dX9_tally_87 : decode cX9_tally 87 = .ok (.getfield 38, 3) := dqn_180 (k := 33) qh_cX9_tally rfl rfl rfl
theorem dX9_tally_90 : decode cX9_tally 90 = .ok (.i2l, 1) := dqn_133 (k := 32) qh_cX9_tally rfl rfl
theorem dX9_tally_91 : decode cX9_tally 91 = .ok (.lstore 5, 2) := dqn_55 (k := 30) qh_cX9_tally rfl rfl rfl
theorem dX9_tally_93 : decode cX9_tally 93 = .ok (.goto 21, 3) := dqn_167 (k := 27) (u := 21) qh_cX9_tally rfl rfl rfl (sg_p rfl rfl)
theorem dX9_tally_96 : decode cX9_tally 96 = .ok (.lload 5, 2) := dqn_22 (k := 25) qh_cX9_tally rfl rfl rfl
theorem dX9_tally_98 : decode cX9_tally 98 = .ok (.aload_n 2, 1) := dqn_44 (k := 24) qh_cX9_tally rfl rfl
theorem dX9_tally_99 : decode cX9_tally 99 = .ok (.getfield 38, 3) := dqn_180 (k := 21) qh_cX9_tally rfl rfl rfl
theorem dX9_tally_102 : decode cX9_tally 102 = .ok (.iload 4, 2) := dqn_21 (k := 19) qh_cX9_tally rfl rfl rfl
theorem dX9_tally_104 : decode cX9_tally 104 = .ok (.bipush 10, 2) := dqn_16 (k := 17) (u := 10) qh_cX9_tally rfl rfl rfl (by decide)
theorem dX9_tally_106 : decode cX9_tally 106 = .ok (.isub, 1) := dqn_100 (k := 16) qh_cX9_tally rfl rfl
theorem dX9_tally_107 : decode cX9_tally 107 = .ok (.ishr, 1) := dqn_122 (k := 15) qh_cX9_tally rfl rfl
theorem dX9_tally_108 : decode cX9_tally 108 = .ok (.iconst 1, 1) := dqn_4 (k := 14) qh_cX9_tally rfl rfl
theorem dX9_tally_109 : decode cX9_tally 109 = .ok (.iand, 1) := dqn_126 (k := 13) qh_cX9_tally rfl rfl
theorem dX9_tally_110 : decode cX9_tally 110 = .ok (.i2l, 1) := dqn_133 (k := 12) qh_cX9_tally rfl rfl
theorem dX9_tally_111 : decode cX9_tally 111 = .ok (.ladd, 1) := dqn_97 (k := 11) qh_cX9_tally rfl rfl
theorem dX9_tally_112 : decode cX9_tally 112 = .ok (.lstore 5, 2) := dqn_55 (k := 9) qh_cX9_tally rfl rfl rfl
theorem dX9_tally_114 : decode cX9_tally 114 = .ok (.iinc 7 1, 3) := dqn_132 (k := 6) (u := 1) qh_cX9_tally rfl rfl rfl rfl (by decide)
theorem dX9_tally_117 : decode cX9_tally 117 = .ok (.goto (-111), 3) := dqn_167 (k := 3) (u := 65425) qh_cX9_tally rfl rfl rfl (sg_n (k := 111) rfl rfl rfl)
theorem dX9_tally_120 : decode cX9_tally 120 = .ok (.lload 5, 2) := dqn_22 (k := 1) qh_cX9_tally rfl rfl rfl
theorem dX9_tally_122 : decode cX9_tally 122 = .ok (.lreturn, 1) := dqn_173 (k := 0) qh_cX9_tally rfl rfl
theorem dX10_years_0 : decode cX10_years 0 = .ok (.aload_n 0, 1) := dqn_42 (k := 98) qh_cX10_years rfl rfl
theorem dX10_years_1 : decode cX10_years 1 = .ok (.iload_n 1, 1) := dqn_27 (k := 97) qh_cX10_years rfl rfl
theorem dX10_years_2 : decode cX10_years 2 = .ok (.iload_n 2, 1) := dqn_28 (k := 96) qh_cX10_years rfl rfl
theorem dX10_years_3 : decode cX10_years 3 = .ok (.invokevirtual 114, 3) := dqn_182 (k := 93) qh_cX10_years rfl rfl rfl
theorem dX10_years_6 : decode cX10_years 6 = .ok (.ifCond .eq 16, 3) := dqn_153 (k := 90) (u := 16) qh_cX10_years rfl rfl rfl (sg_p rfl rfl)
theorem dX10_years_9 : decode cX10_years 9 = .ok (.iload 4, 2) := dqn_21 (k := 88) qh_cX10_years rfl rfl rfl
theorem dX10_years_11 : decode cX10_years 11 = .ok (.iconst 1, 1) := dqn_4 (k := 87) qh_cX10_years rfl rfl
theorem dX10_years_12 : decode cX10_years 12 = .ok (.if_icmp .lt 10, 3) := dqn_161 (k := 84) (u := 10) qh_cX10_years rfl rfl rfl (sg_p rfl rfl)
theorem dX10_years_15 : decode cX10_years 15 = .ok (.iload 4, 2) := dqn_21 (k := 82) qh_cX10_years rfl rfl rfl
theorem dX10_years_17 : decode cX10_years 17 = .ok (.bipush 99, 2) := dqn_16 (k := 80) (u := 99) qh_cX10_years rfl rfl rfl (by decide)
theorem dX10_years_19 : decode cX10_years 19 = .ok (.if_icmp .le 7, 3) := dqn_164 (k := 77) (u := 7) qh_cX10_years rfl rfl rfl (sg_p rfl rfl)
theorem dX10_years_22 : decode cX10_years 22 = .ok (.ldc2_w 159, 3) := dqn_20 (k := 74) qh_cX10_years rfl rfl rfl
theorem dX10_years_25 : decode cX10_years 25 = .ok (.lreturn, 1) := dqn_173 (k := 73) qh_cX10_years rfl rfl
theorem dX10_years_26 : decode cX10_years 26 = .ok (.iload 5, 2) := dqn_21 (k := 71) qh_cX10_years rfl rfl rfl
theorem dX10_years_28 : decode cX10_years 28 = .ok (.ifCond .eq 44, 3) := dqn_153 (k := 68) (u := 44) qh_cX10_years rfl rfl rfl (sg_p rfl rfl)
theorem dX10_years_31 : decode cX10_years 31 = .ok (.iload 5, 2) := dqn_21 (k := 66) qh_cX10_years rfl rfl rfl
theorem dX10_years_33 : decode cX10_years 33 = .ok (.iconst 1, 1) := dqn_4 (k := 65) qh_cX10_years rfl rfl
theorem dX10_years_34 : decode cX10_years 34 = .ok (.if_icmp .eq 38, 3) := dqn_159 (k := 62) (u := 38) qh_cX10_years rfl rfl rfl (sg_p rfl rfl)
theorem dX10_years_37 : decode cX10_years 37 = .ok (.iload 5, 2) := dqn_21 (k := 60) qh_cX10_years rfl rfl rfl
theorem dX10_years_39 : decode cX10_years 39 = .ok (.iconst 2, 1) := dqn_5 (k := 59) qh_cX10_years rfl rfl
theorem dX10_years_40 : decode cX10_years 40 = .ok (.if_icmp .eq 32, 3) := dqn_159 (k := 56) (u := 32) qh_cX10_years rfl rfl rfl (sg_p rfl rfl)
theorem dX10_years_43 : decode cX10_years 43 = .ok (.iload 5, 2) := dqn_21 (k := 54) qh_cX10_years rfl rfl rfl
theorem dX10_years_45 : decode cX10_years 45 = .ok (.bipush 10, 2) := dqn_16 (k := 52) (u := 10) qh_cX10_years rfl rfl rfl (by decide)
theorem dX10_years_47 : decode cX10_years 47 = .ok (.if_icmp .lt 21, 3) := dqn_161 (k := 49) (u := 21) qh_cX10_years rfl rfl rfl (sg_p rfl rfl)
theorem dX10_years_50 : decode cX10_years 50 = .ok (.aload_n 0, 1) := dqn_42 (k := 48) qh_cX10_years rfl rfl
theorem dX10_years_51 : decode cX10_years 51 = .ok (.getfield 34, 3) := dqn_180 (k := 45) qh_cX10_years rfl rfl rfl
theorem dX10_years_54 : decode cX10_years 54 = .ok (.getfield 118, 3) := dqn_180 (k := 42) qh_cX10_years rfl rfl rfl
theorem dX10_years_57 : decode cX10_years 57 = .ok (.iload 5, 2) := dqn_21 (k := 40) qh_cX10_years rfl rfl rfl
theorem dX10_years_59 : decode cX10_years 59 = .ok (.bipush 10, 2) := dqn_16 (k := 38) (u := 10) qh_cX10_years rfl rfl rfl (by decide)
theorem dX10_years_61 : decode cX10_years 61 = .ok (.isub, 1) := dqn_100 (k := 37) qh_cX10_years rfl rfl
theorem dX10_years_62 : decode cX10_years 62 = .ok (.invokevirtual 121, 3) := dqn_182 (k := 34) qh_cX10_years rfl rfl rfl
theorem dX10_years_65 : decode cX10_years 65 = .ok (.ifCond .ne 7, 3) := dqn_154 (k := 31) (u := 7) qh_cX10_years rfl rfl rfl (sg_p rfl rfl)
theorem dX10_years_68 : decode cX10_years 68 = .ok (.ldc2_w 159, 3) := dqn_20 (k := 28) qh_cX10_years rfl rfl rfl
theorem dX10_years_71 : decode cX10_years 71 = .ok (.lreturn, 1) := dqn_173 (k := 27) qh_cX10_years rfl rfl
theorem dX10_years_72 : decode cX10_years 72 = .ok (.new 290, 3) := dqn_187 (k := 24) qh_cX10_years rfl rfl rfl
theorem dX10_years_75 : decode cX10_years 75 = .ok (.dup, 1) := dqn_89 (k := 23) qh_cX10_years rfl rfl
theorem dX10_years_76 : decode cX10_years 76 = .ok (.iload_n 3, 1) := dqn_29 (k := 22) qh_cX10_years rfl rfl
theorem dX10_years_77 : decode cX10_years 77 = .ok (.invokespecial 292, 3) := dqn_183 (k := 19) qh_cX10_years rfl rfl rfl
theorem dX10_years_80 : decode cX10_years 80 = .ok (.aload_n 0, 1) := dqn_42 (k := 18) qh_cX10_years rfl rfl
theorem dX10_years_81 : decode cX10_years 81 = .ok (.getfield 34, 3) := dqn_180 (k := 15) qh_cX10_years rfl rfl rfl
theorem dX10_years_84 : decode cX10_years 84 = .ok (.getfield 118, 3) := dqn_180 (k := 12) qh_cX10_years rfl rfl rfl
theorem dX10_years_87 : decode cX10_years 87 = .ok (.aload_n 0, 1) := dqn_42 (k := 11) qh_cX10_years rfl rfl
theorem dX10_years_88 : decode cX10_years 88 = .ok (.getfield 48, 3) := dqn_180 (k := 8) qh_cX10_years rfl rfl rfl
theorem dX10_years_91 : decode cX10_years 91 = .ok (.iload 4, 2) := dqn_21 (k := 6) qh_cX10_years rfl rfl rfl
theorem dX10_years_93 : decode cX10_years 93 = .ok (.iload 5, 2) := dqn_21 (k := 4) qh_cX10_years rfl rfl rfl
theorem dX10_years_95 : decode cX10_years 95 = .ok (.invokevirtual 294, 3) := dqn_182 (k := 1) qh_cX10_years rfl rfl rfl
theorem dX10_years_98 : decode cX10_years 98 = .ok (.lreturn, 1) := dqn_173 (k := 0) qh_cX10_years rfl rfl
/-! years: one cell more -/
def yX (ex : List MC) (x : Int32) : List MC := ex ++ [(Sum.inr (9, [Value.int x]) : MC)]
theorem yX_len {ex : List MC} {x : Int32} : (yX ex x).length = ex.length + 1 := by unfold yX; rw [List.length_append]; rfl
theorem wapp {u : Nat → Nat → Int32} {g : Nat → Nat → Int64} {ex : List MC} {x : Int32} : Wd u g ex ++ [(Sum.inr (9, [Value.int x]) : MC)] = Wd u g (yX ex x) := by unfold Wd yX; rw [List.append_assoc]
theorem yx_get {u : Nat → Nat → Int32} {g : Nat → Nat → Int64} {ex : List MC} {x : Int32} {yp : Nat} (hy : yp = 182 + ex.length) : (Wd u g (yX ex x))[yp]? = some (Sum.inr (9, [Value.int x])) := by
  rw [← wapp, hy, ← Wd_len (u := u) (g := g), List.getElem?_append_right (Nat.le_refl _), Nat.sub_self]
  rfl
theorem yx_set {u : Nat → Nat → Int32} {g : Nat → Nat → Int64} {ex : List MC} {x v w : Int32} {yp : Nat} (hy : yp = 182 + ex.length) (e : w = v) : (Wd u g (yX ex x)).set yp (Sum.inr (9, [Value.int v])) = Wd u g (yX ex w) := by
  rw [e, ← wapp, ← wapp, hy, ← Wd_len (u := u) (g := g), List.set_append_right _ _ (Nat.le_refl _), Nat.sub_self]
  rfl
theorem wlenx {u u2 : Nat → Nat → Int32} {g g2 : Nat → Nat → Int64} {ex : List MC} {c c2 : Int32} : 0 + (Wd u g (yX ex c)).length = (Wd u2 g2 (yX ex c2)).length := by rw [Wd_len, Wd_len, yX_len, yX_len, Nat.zero_add]
theorem wlen1 {u u2 : Nat → Nat → Int32} {g g2 : Nat → Nat → Int64} {ex : List MC} {c : Int32} : 1 + (Wd u g ex).length = (Wd u2 g2 (yX ex c)).length := by rw [Wd_len, Wd_len, yX_len]; omega
set_option maxHeartbeats 4000000 in
set_option maxRecDepth 100000 in
theorem c_Y_init {d : Nat} {u : Nat → Nat → Int32} {g : Nat → Nat → Int64} {ex : List MC} {yp : Nat} {x0 : Int32} {seed : Int32} (hd : 1 ≤ d) (hy : yp = 182 + ex.length)  : CT con0 d 0 0 yX9_init cX9_init 2 none [.ref yp, .int seed] (Wd u g (yX ex x0)) (fun r h2 => ∃ (x2 : Int32), r = none ∧ h2 = Wd u g (yX ex x2)) := by
  refine CT_of (by decide) (Nat.le_of_ble_eq_true rfl) (fun x hq => ?_)
  show J x yX9_init cX9_init 2 none d 0 0 (Wd u g (yX ex x0)).length 0 [(0, .ref yp), (1, .int seed)] [] (Wd u g (yX ex x0)) 0 0
  refine J_aload_n (i := 0) (j := 0) dX9_init_0 rfl rfl ?_
  refine J_obj dX9_init_1 k1109 k113 k114 (Nat.le_trans (by decide) hd) (Nat.le_of_ble_eq_true rfl) ?_
  refine J_aload_n (i := 0) (j := 0) dX9_init_4 rfl rfl ?_
  refine J_iload_n (i := 1) (j := 1) dX9_init_5 rfl rfl ?_
  obtain ⟨y1, qy1⟩ : ∃ z : Int32, z = seed := ⟨_, rfl⟩
  refine J_put (C := RX9) (T := TX9) (Z := 1) (ci := 9) (f := 0) (ty0 := tyX9) dX9_init_6 inG9 rfl tyX9_ok nmX9 (by decide) k1110 rfl rfl (yx_get hy) (Nat.le_of_ble_eq_true rfl) (fun _ _ => ⟨rfl, rfl⟩) (yx_set hy qy1) ?_
  exact J_vret hq dX9_init_9 rfl wlenx (Nat.le_refl _) (Nat.le_refl _) ⟨y1, rfl, rfl⟩
set_option maxHeartbeats 4000000 in
set_option maxRecDepth 100000 in
theorem c_Y_draw {d : Nat} {u : Nat → Nat → Int32} {g : Nat → Nat → Int64} {ex : List MC} {yp : Nat} {x0 : Int32} {n : Int32} (hd : 0 ≤ d) (hy : yp = 182 + ex.length)  : CT con0 d 0 0 yX9_draw cX9_draw 2 (some .int) [.ref yp, .int n] (Wd u g (yX ex x0)) (fun r h2 => ∃ (z : Int32) (x2 : Int32), r = some (.int z) ∧ h2 = Wd u g (yX ex x2)) := by
  refine CT_of (by decide) (Nat.le_of_ble_eq_true rfl) (fun x hq => ?_)
  show J x yX9_draw cX9_draw 2 (some .int) d 0 0 (Wd u g (yX ex x0)).length 0 [(0, .ref yp), (1, .int n)] [] (Wd u g (yX ex x0)) 0 0
  refine J_aload_n (i := 0) (j := 0) dX9_draw_0 rfl rfl ?_
  refine J_aload_n (i := 0) (j := 0) dX9_draw_1 rfl rfl ?_
  refine J_get (C := RX9) (T := TX9) (Z := 1) (ci := 9) (f := 0) dX9_draw_2 inG9 rfl (by decide) k1110 (yx_get hy) rfl ?_
  refine J_ldc (v := 1103515245) dX9_draw_5 k1126 ?_
  refine J_imul dX9_draw_7 ?_
  refine J_sipush (v := 12345) dX9_draw_8 (by decide) ?_
  refine J_iadd dX9_draw_11 ?_
  obtain ⟨y1, qy1⟩ : ∃ z : Int32, z = ((x0 * 1103515245) + 12345) := ⟨_, rfl⟩
  refine J_put (C := RX9) (T := TX9) (Z := 1) (ci := 9) (f := 0) (ty0 := tyX9) dX9_draw_12 inG9 rfl tyX9_ok nmX9 (by decide) k1110 rfl rfl (yx_get hy) (Nat.le_of_ble_eq_true rfl) (fun _ _ => ⟨rfl, rfl⟩) (yx_set hy qy1) ?_
  refine J_iload_n (i := 1) (j := 1) dX9_draw_15 rfl rfl ?_
  refine J_if_le (tgt := 31) dX9_draw_16 (by decide) (fun c2 => ?_) (fun c2 => ?_)
  · refine J_iconst (v := 0) dX9_draw_31 (by decide) ?_
    exact J_iret hq dX9_draw_32 rfl wlenx (Nat.le_refl _) (Nat.le_refl _) ⟨(0 : Int32), y1, rfl, rfl⟩
  · refine J_aload_n (i := 0) (j := 0) dX9_draw_19 rfl rfl ?_
    refine J_get (C := RX9) (T := TX9) (Z := 1) (ci := 9) (f := 0) dX9_draw_20 inG9 rfl (by decide) k1110 (yx_get hy) rfl ?_
    refine J_bipush (v := 16) dX9_draw_23 (by decide) ?_
    obtain ⟨v3, qv3⟩ : ∃ z : Int32, z = (y1.toUInt32 >>> ((16 : Int32).toUInt32 &&& Int32.toUInt32 31)).toInt32 := ⟨_, rfl⟩
    refine J_iushr dX9_draw_25 qv3.symm ?_
    refine J_iload_n (i := 1) (j := 1) dX9_draw_26 rfl rfl ?_
    refine J_irem dX9_draw_27 (bd_nz (bd_lt_lo (bd_any n) (i_nle c2) (bd_c (v := 0) (lo := 0) (hi := 0) (by decide))) (by decide)) ?_
    refine J_goto (tgt := 32) dX9_draw_28 (by decide) ?_
    exact J_iret hq dX9_draw_32 rfl wlenx (Nat.le_refl _) (Nat.le_refl _) ⟨(v3 - v3 / n * n), y1, rfl, rfl⟩
set_option maxHeartbeats 4000000 in
set_option maxRecDepth 100000 in
theorem c_Y_drawRain {d : Nat} {u : Nat → Nat → Int32} {g : Nat → Nat → Int64} {ex : List MC} {yp : Nat} {x0 : Int32}  (hd : 1 ≤ d) (hy : yp = 182 + ex.length) (hp0 : Bd 0 9 (u 44 0)) (hp1 : Bd 0 4 (u 44 2)) : CT con0 d 0 0 yX9_drawRain cX9_drawRain 5 (some .int) [.ref yp, .ref 44] (Wd u g (yX ex x0)) (fun r h2 => ∃ (z : Int32) (x2 : Int32), r = some (.int z) ∧ h2 = Wd u g (yX ex x2)) := by
  refine CT_of (by decide) (Nat.le_of_ble_eq_true rfl) (fun x hq => ?_)
  show J x yX9_drawRain cX9_drawRain 5 (some .int) d 0 0 (Wd u g (yX ex x0)).length 0 [(0, .ref yp), (1, .ref 44)] [] (Wd u g (yX ex x0)) 0 0
  refine J_aload_n (i := 0) (j := 0) dX9_drawRain_0 rfl rfl ?_
  refine J_bipush (v := 100) dX9_drawRain_1 (by decide) ?_
  refine J_callV (As := [.int 100]) (rest := []) dX9_drawRain_3 (c_Y_draw (d := 0) (u := u) (g := g) (ex := ex) (yp := yp) (x0 := x0) (n := 100)  (by decide) hy) hq.n k1122 k1124 k34 (yx_get hy) rfl rfl k106 k1125 np_X9_draw (Nat.le_trans (by decide) hd) (by decide) (Nat.le_refl _) (Nat.le_refl _) wlenx rfl (Nat.le_of_ble_eq_true rfl) (fun r_ h_ p1 => ?_)
  obtain ⟨v2, y3, rfl, rfl⟩ := p1
  refine J_istore_n (i := 2) (lw := [(2, .int v2), (0, .ref yp), (1, .ref 44)]) dX9_drawRain_6 rfl (by decide) rfl ?_
  refine J_iconst (v := 0) dX9_drawRain_7 (by decide) ?_
  refine J_istore_n (i := 3) (lw := [(3, .int 0), (2, .int v2), (0, .ref yp), (1, .ref 44)]) dX9_drawRain_8 rfl (by decide) rfl ?_
  refine J_iconst (v := 0) dX9_drawRain_9 (by decide) ?_
  refine J_istore (i := 4) (lw := [(4, .int 0), (3, .int 0), (2, .int v2), (0, .ref yp), (1, .ref 44)]) dX9_drawRain_10 (by decide) rfl ?_
  have lp26 : ∀ (n27 : Nat) (w20 : Int32) (w21 : Int32), Bd 0 4 w21 → (4 - w21.toInt).toNat < n27 → J x yX9_drawRain cX9_drawRain 5 (some .int) d 0 0 (Wd u g (yX ex x0)).length 12 [(1, .ref 44), (2, .int v2), (3, .int w20), (4, .int w21)] [] (Wd u g (yX ex y3)) 0 0 := by
    intro n27
    induction n27 with
    | zero => intro w20 w21 bw21 hm29; exact absurd hm29 (Nat.not_lt_zero _)
    | succ n27 ih28 =>
      intro w20 w21 bw21 hm29
      refine J_iload (i := 4) (j := 3) dX9_drawRain_12 rfl ?_
      refine J_aload_n (i := 1) (j := 0) dX9_drawRain_14 rfl rfl ?_
      refine J_getN (C := RX1) (T := TX1) (Z := 6) (ci := 1) (f := 2) dX9_drawRain_15 inG1 rfl (by decide) k141 wc_44 rfl ?_
      refine J_icmp_ge (tgt := 44) dX9_drawRain_18 (by decide) (fun c30 => ?_) (fun c30 => ?_)
      · refine J_iconst (v := (-1)) dX9_drawRain_44 (by decide) ?_
        exact J_iret hq dX9_drawRain_45 rfl wlenx (Nat.le_refl _) (Nat.le_refl _) ⟨((-1) : Int32), y3, rfl, rfl⟩
      · refine J_iload_n (i := 3) (j := 2) dX9_drawRain_21 rfl rfl ?_
        refine J_aload_n (i := 1) (j := 0) dX9_drawRain_22 rfl rfl ?_
        refine J_iload (i := 4) (j := 3) dX9_drawRain_23 rfl ?_
        refine J_callV (As := [.int w21]) (rest := [.int w20]) dX9_drawRain_25 (c_H_chanceOf (d := 0) (u := u) (g := g) (ex := (yX ex y3)) (rain := w21) (t := 44) (by decide) (by decide) hp0 (bd_w (l := 0) (h := 4) (bd_lt_lo hp1 (i_nle c30) bw21) (by decide))) hq.n k1127 k673 k674 wc_44 rfl rfl k89 k675 np_X1_chanceOf (Nat.le_trans (by decide) hd) (by decide) (Nat.le_refl _) (Nat.le_refl _) wlenx rfl (Nat.le_of_ble_eq_true rfl) (fun r_ h_ p31 => ?_)
        obtain ⟨v32, rfl, rfl⟩ := p31
        refine J_iadd dX9_drawRain_28 ?_
        refine J_istore_n (i := 3) (lw := [(3, .int (w20 + v32)), (1, .ref 44), (2, .int v2), (4, .int w21)]) dX9_drawRain_29 rfl (by decide) rfl ?_
        refine J_iload_n (i := 2) (j := 2) dX9_drawRain_30 rfl rfl ?_
        refine J_iload_n (i := 3) (j := 0) dX9_drawRain_31 rfl rfl ?_
        refine J_icmp_ge (tgt := 38) dX9_drawRain_32 (by decide) (fun c33 => ?_) (fun c33 => ?_)
        · refine J_iinc (i := 4) (j := 3) (v := (w21 + 1)) (lw := [(4, .int (w21 + 1)), (3, .int (w20 + v32)), (1, .ref 44), (2, .int v2)]) dX9_drawRain_38 rfl rfl (by decide) rfl ?_
          refine J_goto (tgt := 12) dX9_drawRain_41 (by decide) ?_
          refine J_lv [2, 3, 1, 0] rfl ?_
          exact ih28 (w20 + v32) (w21 + 1) (bd_w (l := 0) (h := 4) (bd_add (l := 1) (h := 4) (bd_lt_hi bw21 (i_nle c30) hp1) (bd_c (v := 1) (lo := 1) (hi := 1) (by decide)) (by decide)) (by decide)) (mu_up 1 bw21 rfl (by decide) (bd_w (l := 1) (h := 4) (bd_add (l := 1) (h := 4) (bd_lt_hi bw21 (i_nle c30) hp1) (bd_c (v := 1) (lo := 1) (hi := 1) (by decide)) (by decide)) (by decide)) hm29)
        · refine J_iload (i := 4) (j := 3) dX9_drawRain_35 rfl ?_
          exact J_iret hq dX9_drawRain_37 rfl wlenx (Nat.le_refl _) (Nat.le_refl _) ⟨w21, y3, rfl, rfl⟩
  refine J_lv [4, 2, 1, 0] rfl ?_
  exact lp26 _ (0 : Int32) (0 : Int32) (bd_w (l := 0) (h := 4) (bd_c (v := 0) (lo := 0) (hi := 0) (by decide)) (by decide)) (Nat.lt_succ_self _)
set_option maxHeartbeats 4000000 in
set_option maxRecDepth 100000 in
theorem c_Y_drawBanks {d : Nat} {u : Nat → Nat → Int32} {g : Nat → Nat → Int64} {ex : List MC} {yp : Nat} {x0 : Int32}  (hd : 1 ≤ d) (hy : yp = 182 + ex.length) (hp0 : Bd 0 9 (u 44 0)) (hp1 : Bd 0 4 (u 44 2)) : CT con0 d 0 0 yX9_drawBanks cX9_drawBanks 4 (some .int) [.ref yp, .ref 44] (Wd u g (yX ex x0)) (fun r h2 => ∃ (z : Int32) (x2 : Int32), r = some (.int z) ∧ h2 = Wd u g (yX ex x2)) := by
  refine CT_of (by decide) (Nat.le_of_ble_eq_true rfl) (fun x hq => ?_)
  show J x yX9_drawBanks cX9_drawBanks 4 (some .int) d 0 0 (Wd u g (yX ex x0)).length 0 [(0, .ref yp), (1, .ref 44)] [] (Wd u g (yX ex x0)) 0 0
  refine J_iconst (v := 0) dX9_drawBanks_0 (by decide) ?_
  refine J_istore_n (i := 2) (lw := [(2, .int 0), (0, .ref yp), (1, .ref 44)]) dX9_drawBanks_1 rfl (by decide) rfl ?_
  refine J_iconst (v := 0) dX9_drawBanks_2 (by decide) ?_
  refine J_istore_n (i := 3) (lw := [(3, .int 0), (2, .int 0), (0, .ref yp), (1, .ref 44)]) dX9_drawBanks_3 rfl (by decide) rfl ?_
  have lp118 : ∀ (n119 : Nat) (w88 : Int32) (w89 : Int32) (w90 : Int32), Bd 0 511 w88 → Bd 0 9 w89 → (9 - w89.toInt).toNat < n119 → J x yX9_drawBanks cX9_drawBanks 4 (some .int) d 0 0 (Wd u g (yX ex x0)).length 4 [(0, .ref yp), (1, .ref 44), (2, .int w88), (3, .int w89)] [] (Wd u g (yX ex w90)) 0 0 := by
    intro n119
    induction n119 with
    | zero => intro w88 w89 w90 bw88 bw89 hm121; exact absurd hm121 (Nat.not_lt_zero _)
    | succ n119 ih120 =>
      intro w88 w89 w90 bw88 bw89 hm121
      refine J_iload_n (i := 3) (j := 3) dX9_drawBanks_4 rfl rfl ?_
      refine J_aload_n (i := 1) (j := 1) dX9_drawBanks_5 rfl rfl ?_
      refine J_getN (C := RX1) (T := TX1) (Z := 6) (ci := 1) (f := 0) dX9_drawBanks_6 inG1 rfl (by decide) k133 wc_44 rfl ?_
      refine J_icmp_ge (tgt := 40) dX9_drawBanks_9 (by decide) (fun c122 => ?_) (fun c122 => ?_)
      · refine J_iload_n (i := 2) (j := 2) dX9_drawBanks_40 rfl rfl ?_
        exact J_iret hq dX9_drawBanks_41 rfl wlenx (Nat.le_refl _) (Nat.le_refl _) ⟨w88, w90, rfl, rfl⟩
      · refine J_aload_n (i := 0) (j := 0) dX9_drawBanks_12 rfl rfl ?_
        refine J_bipush (v := 10) dX9_drawBanks_13 (by decide) ?_
        refine J_callV (As := [.int 10]) (rest := []) dX9_drawBanks_15 (c_Y_draw (d := 0) (u := u) (g := g) (ex := ex) (yp := yp) (x0 := w90) (n := 10)  (by decide) hy) hq.n k1122 k1124 k34 (yx_get hy) rfl rfl k106 k1125 np_X9_draw (Nat.le_trans (by decide) hd) (by decide) (Nat.le_refl _) (Nat.le_refl _) wlenx rfl (Nat.le_of_ble_eq_true rfl) (fun r_ h_ p136 => ?_)
        obtain ⟨v137, y138, rfl, rfl⟩ := p136
        refine J_aload_n (i := 1) (j := 1) dX9_drawBanks_18 rfl rfl ?_
        refine J_iload_n (i := 3) (j := 3) dX9_drawBanks_19 rfl rfl ?_
        refine J_iconst (v := 4) dX9_drawBanks_20 (by decide) ?_
        refine J_callV (As := [.int w89, .int 4]) (rest := [.int v137]) dX9_drawBanks_21 (c_H_of (d := 0) (u := u) (g := g) (ex := (yX ex y138)) (pond := w89) (column := 4) (t := 44) (by decide) (by decide)) hq.n k1133 k749 k750 wc_44 rfl rfl k89 k751 np_X1_of (Nat.le_trans (by decide) hd) (by decide) (Nat.le_refl _) (Nat.le_refl _) wlenx rfl (Nat.le_of_ble_eq_true rfl) (fun r_ h_ p139 => ?_)
        obtain ⟨rfl, rfl⟩ := p139
        have jn145 : ∀ (w144 : Int32), Bd 0 511 w144 → J x yX9_drawBanks cX9_drawBanks 4 (some .int) d 0 0 (Wd u g (yX ex x0)).length 34 [(0, .ref yp), (1, .ref 44), (2, .int w144), (3, .int w89)] [] (Wd u g (yX ex y138)) 0 0 := by
          intro w144 bw144
          refine J_iinc (i := 3) (j := 3) (v := (w89 + 1)) (lw := [(3, .int (w89 + 1)), (0, .ref yp), (1, .ref 44), (2, .int w144)]) dX9_drawBanks_34 rfl rfl (by decide) rfl ?_
          refine J_goto (tgt := 4) dX9_drawBanks_37 (by decide) ?_
          refine J_lv [1, 2, 3, 0] rfl ?_
          exact ih120 w144 (w89 + 1) y138 bw144 (bd_w (l := 0) (h := 9) (bd_add (l := 1) (h := 9) (bd_lt_hi bw89 (i_nle c122) hp0) (bd_c (v := 1) (lo := 1) (hi := 1) (by decide)) (by decide)) (by decide)) (mu_up 1 bw89 rfl (by decide) (bd_w (l := 1) (h := 9) (bd_add (l := 1) (h := 9) (bd_lt_hi bw89 (i_nle c122) hp0) (bd_c (v := 1) (lo := 1) (hi := 1) (by decide)) (by decide)) (by decide)) hm121)
        refine J_icmp_ge (tgt := 34) dX9_drawBanks_24 (by decide) (fun c140 => ?_) (fun c140 => ?_)
        · refine J_lv [0, 1, 2, 3] rfl ?_
          exact jn145 w88 bw88
        · refine J_iload_n (i := 2) (j := 2) dX9_drawBanks_27 rfl rfl ?_
          refine J_iload_n (i := 3) (j := 3) dX9_drawBanks_28 rfl rfl ?_
          refine J_callSN (As := [.int w89]) (rest := [.int w88]) dX9_drawBanks_29 (c_bit9 (d := 0) (u := u) (g := g) (ex := (yX ex y138)) (pond := w89)  (by decide) (bd_w (l := (-1)) (h := 8) (bd_lt_hi bw89 (i_nle c122) hp0) (by decide))) hq.n k1134 k819 k87 k820 np_X10_bit (Nat.le_trans (by decide) hd) (by decide) (Nat.le_refl _) (Nat.le_refl _) wlenx rfl (Nat.le_of_ble_eq_true rfl) (fun r_ h_ p146 => ?_)
          obtain ⟨v147, rfl, rfl, h148⟩ := p146
          refine J_ior dX9_drawBanks_32 ?_
          refine J_istore_n (i := 2) (lw := [(2, .int (w88 ||| v147)), (0, .ref yp), (1, .ref 44), (3, .int w89)]) dX9_drawBanks_33 rfl (by decide) rfl ?_
          refine J_lv [1, 2, 0, 3] rfl ?_
          exact jn145 (w88 ||| v147) (bd_or (k := 9) (h := 511) bw88 h148 (by decide))
  refine J_lv [2, 3, 1, 0] rfl ?_
  exact lp118 _ (0 : Int32) (0 : Int32) x0 (bd_w (l := 0) (h := 511) (bd_c (v := 0) (lo := 0) (hi := 0) (by decide)) (by decide)) (bd_w (l := 0) (h := 9) (bd_c (v := 0) (lo := 0) (hi := 0) (by decide)) (by decide)) (Nat.lt_succ_self _)
set_option maxHeartbeats 4000000 in
set_option maxRecDepth 100000 in
theorem c_Y_tally {d : Nat} {u : Nat → Nat → Int32} {g : Nat → Nat → Int64} {ex : List MC} {yp : Nat} {x0 : Int32} {n : Int32} {what : Int32} (hd : 3 ≤ d) (hy : yp = 182 + ex.length) (hp0 : Bd 0 9 (u 44 0)) (hp1 : Bd 0 4 (u 44 2)) (hp2 : Bd 0 9 (u 53 0)) (hp3 : Bd 0 511 (u 53 1)) (hp4 : Bd 1 99 n) : CT con0 d 0 0 yX9_tally cX9_tally 9 (some .long) [.ref yp, .ref 44, .ref 53, .int n, .int what] (Wd u g (yX ex x0)) (fun r h2 => ∃ (z : Int64) (u2 : Nat → Nat → Int32) (x2 : Int32), r = some (.long z) ∧ h2 = Wd u2 g (yX ex x2) ∧ Bd 0 9 (u2 53 0) ∧ Bd 0 511 (u2 53 1) ∧ (∀ c, nin c [(53, 55)] = true → u2 c = u c) ∧ (∀ j, j ≠ 0 → j ≠ 1 → j ≠ 2 → j ≠ 3 → j ≠ 4 → u2 53 j = u 53 j)) := by
  refine CT_of (by decide) (Nat.le_of_ble_eq_true rfl) (fun x hq => ?_)
  show J x yX9_tally cX9_tally 9 (some .long) d 0 0 (Wd u g (yX ex x0)).length 0 [(0, .ref yp), (1, .ref 44), (2, .ref 53), (3, .int n), (4, .int what)] [] (Wd u g (yX ex x0)) 0 0
  refine J_lconst (v := 0) dX9_tally_0 (by decide) ?_
  refine J_lstore (i := 5) (lw := [(5, .long 0), (0, .ref yp), (1, .ref 44), (2, .ref 53), (3, .int n), (4, .int what)]) dX9_tally_1 (by decide) rfl ?_
  refine J_iconst (v := 0) dX9_tally_3 (by decide) ?_
  refine J_istore (i := 7) (lw := [(7, .int 0), (5, .long 0), (0, .ref yp), (1, .ref 44), (2, .ref 53), (3, .int n), (4, .int what)]) dX9_tally_4 (by decide) rfl ?_
  have lp515 : ∀ (n516 : Nat) (w428 : Int64) (w429 : Int32) (w435 : Int32) (u430 : Nat → Nat → Int32), Bd 0 99 w429 → (∀ c, nin c [(53, 55)] = true → u430 c = u c) → (∀ j, j ≠ 0 → j ≠ 1 → j ≠ 2 → j ≠ 3 → j ≠ 4 → u430 53 j = u 53 j) → Bd 0 9 (u430 53 0) → Bd 0 511 (u430 53 1) → (99 - w429.toInt).toNat < n516 → J x yX9_tally cX9_tally 9 (some .long) d 0 0 (Wd u g (yX ex x0)).length 6 [(0, .ref yp), (1, .ref 44), (2, .ref 53), (3, .int n), (4, .int what), (5, .long w428), (7, .int w429)] [] (Wd u430 g (yX ex w435)) 0 0 := by
    intro n516
    induction n516 with
    | zero => intro w428 w429 w435 u430 bw429 fr431 fc432 bm433 bm434 hm518; exact absurd hm518 (Nat.not_lt_zero _)
    | succ n516 ih517 =>
      intro w428 w429 w435 u430 bw429 fr431 fc432 bm433 bm434 hm518
      refine J_iload (i := 7) (j := 6) dX9_tally_6 rfl ?_
      refine J_iload_n (i := 3) (j := 3) dX9_tally_8 rfl rfl ?_
      refine J_icmp_ge (tgt := 120) dX9_tally_9 (by decide) (fun c519 => ?_) (fun c519 => ?_)
      · refine J_lload (i := 5) (j := 5) dX9_tally_120 rfl ?_
        exact J_lret hq dX9_tally_122 rfl wlenx (Nat.le_refl _) (Nat.le_refl _) ⟨w428, u430, w435, rfl, rfl, bm433, bm434, (fun c k_ => (fr431 c (nin_sub (M := [(53, 55)]) k_ rfl))), (fun j k0_ k1_ k2_ k3_ k4_ => (fc432 j k0_ k1_ k2_ k3_ k4_))⟩
      · refine J_aload_n (i := 0) (j := 0) dX9_tally_12 rfl rfl ?_
        refine J_aload_n (i := 1) (j := 1) dX9_tally_13 rfl rfl ?_
        refine J_callV (As := [.ref 44]) (rest := []) dX9_tally_14 (c_Y_drawRain (d := 1) (u := u430) (g := g) (ex := ex) (yp := yp) (x0 := w435)   (by decide) hy (bd_r (congrFun (fr431 44 rfl) 0) hp0) (bd_r (congrFun (fr431 44 rfl) 2) hp1)) hq.n k1118 k1120 k33 (yx_get hy) rfl rfl k106 k1121 np_X9_drawRain (Nat.le_trans (by decide) hd) (by decide) (Nat.le_refl _) (Nat.le_refl _) wlenx rfl (Nat.le_of_ble_eq_true rfl) (fun r_ h_ p559 => ?_)
        obtain ⟨v560, y561, rfl, rfl⟩ := p559
        refine J_istore (i := 8) (lw := [(8, .int v560), (0, .ref yp), (1, .ref 44), (2, .ref 53), (3, .int n), (4, .int what), (5, .long w428), (7, .int w429)]) dX9_tally_17 (by decide) rfl ?_
        refine J_aload_n (i := 2) (j := 3) dX9_tally_19 rfl rfl ?_
        refine J_aload_n (i := 1) (j := 2) dX9_tally_20 rfl rfl ?_
        refine J_aload_n (i := 1) (j := 2) dX9_tally_21 rfl rfl ?_
        refine J_iload (i := 8) (j := 0) dX9_tally_22 rfl ?_
        refine J_callV (As := [.int v560]) (rest := [.ref 44, .ref 53]) dX9_tally_24 (c_H_stepsOf (d := 0) (u := u430) (g := g) (ex := (yX ex y561)) (rain := v560) (t := 44) (by decide) (by decide) (bd_r (congrFun (fr431 44 rfl) 0) hp0) (bd_r (congrFun (fr431 44 rfl) 2) hp1)) hq.n k1128 k716 k717 wc_44 rfl rfl k89 k718 np_X1_stepsOf (Nat.le_trans (by decide) hd) (by decide) (Nat.le_refl _) (Nat.le_refl _) wlenx rfl (Nat.le_of_ble_eq_true rfl) (fun r_ h_ p562 => ?_)
        obtain ⟨v563, rfl, rfl⟩ := p562
        refine J_aload_n (i := 0) (j := 1) dX9_tally_27 rfl rfl ?_
        refine J_aload_n (i := 1) (j := 2) dX9_tally_28 rfl rfl ?_
        refine J_callV (As := [.ref 44]) (rest := [.int v563, .ref 44, .ref 53]) dX9_tally_29 (c_Y_drawBanks (d := 1) (u := u430) (g := g) (ex := ex) (yp := yp) (x0 := y561)   (by decide) hy (bd_r (congrFun (fr431 44 rfl) 0) hp0) (bd_r (congrFun (fr431 44 rfl) 2) hp1)) hq.n k1129 k1131 k35 (yx_get hy) rfl rfl k106 k1132 np_X9_drawBanks (Nat.le_trans (by decide) hd) (by decide) (Nat.le_refl _) (Nat.le_refl _) wlenx rfl (Nat.le_of_ble_eq_true rfl) (fun r_ h_ p564 => ?_)
        obtain ⟨v565, y566, rfl, rfl⟩ := p564
        refine J_iconst (v := (-1)) dX9_tally_32 (by decide) ?_
        refine J_callV (As := [.ref 44, .int v563, .int v565, .int (-1)]) (rest := []) dX9_tally_33 (c_S53_run (d := 2) (u := u430) (g := g) (ex := (yX ex y566)) (steps := v563) (banks := v565) (keeper := (-1)) (t := 44) (by decide) (by decide) (bd_r (congrFun (fr431 44 rfl) 0) hp0) (bd_r (congrFun (fr431 44 rfl) 2) hp1)) hq.n k1135 k806 k807 wc_53 rfl rfl k94 k808 np_X5_run (Nat.le_trans (by decide) hd) (by decide) (Nat.le_refl _) (Nat.le_refl _) wlenx rfl (Nat.le_of_ble_eq_true rfl) (fun r_ h_ p567 => ?_)
        obtain ⟨u568, rfl, rfl, h569, h570, fr571, fc572⟩ := p567
        refine J_iload (i := 4) (j := 5) dX9_tally_36 rfl ?_
        have jn586 : ∀ (w585 : Int64), J x yX9_tally cX9_tally 9 (some .long) d 0 0 (Wd u g (yX ex x0)).length 114 [(0, .ref yp), (1, .ref 44), (2, .ref 53), (3, .int n), (4, .int what), (5, .long w585), (7, .int w429)] [] (Wd u568 g (yX ex y566)) 0 0 := by
          intro w585
          refine J_iinc (i := 7) (j := 6) (v := (w429 + 1)) (lw := [(7, .int (w429 + 1)), (0, .ref yp), (1, .ref 44), (2, .ref 53), (3, .int n), (4, .int what), (5, .long w585)]) dX9_tally_114 rfl rfl (by decide) rfl ?_
          refine J_goto (tgt := 6) dX9_tally_117 (by decide) ?_
          refine J_lv [1, 2, 3, 4, 5, 6, 0] rfl ?_
          exact ih517 w585 (w429 + 1) y566 u568 (bd_w (l := 0) (h := 99) (bd_add (l := 1) (h := 99) (bd_lt_hi bw429 (i_nle c519) hp4) (bd_c (v := 1) (lo := 1) (hi := 1) (by decide)) (by decide)) (by decide)) (fun c k_ => ((fr571 c (nin_sub (M := [(53, 55)]) k_ rfl)).trans (fr431 c (nin_sub (M := [(53, 55)]) k_ rfl)))) (fun j k0_ k1_ k2_ k3_ k4_ => ((fc572 j k0_ k1_ k2_ k3_ k4_).trans (fc432 j k0_ k1_ k2_ k3_ k4_))) h569 h570 (mu_up 1 bw429 rfl (by decide) (bd_w (l := 1) (h := 99) (bd_add (l := 1) (h := 99) (bd_lt_hi bw429 (i_nle c519) hp4) (bd_c (v := 1) (lo := 1) (hi := 1) (by decide)) (by decide)) (by decide)) hm518)
        refine J_if_ne (tgt := 54) dX9_tally_38 (by decide) (fun c573 => ?_) (fun c573 => ?_)
        · refine J_iload (i := 4) (j := 5) dX9_tally_54 rfl ?_
          refine J_iconst (v := 1) dX9_tally_56 (by decide) ?_
          refine J_icmp_ne (tgt := 80) dX9_tally_57 (by decide) (fun c587 => ?_) (fun c587 => ?_)
          · refine J_iload (i := 4) (j := 5) dX9_tally_80 rfl ?_
            refine J_iconst (v := 2) dX9_tally_82 (by decide) ?_
            refine J_icmp_ne (tgt := 96) dX9_tally_83 (by decide) (fun c588 => ?_) (fun c588 => ?_)
            · refine J_lload (i := 5) (j := 6) dX9_tally_96 rfl ?_
              refine J_aload_n (i := 2) (j := 3) dX9_tally_98 rfl rfl ?_
              refine J_getN (C := RX5) (T := TX5) (Z := 7) (ci := 5) (f := 1) dX9_tally_99 inG5 rfl (by decide) k322 wc_53 rfl ?_
              refine J_iload (i := 4) (j := 5) dX9_tally_102 rfl ?_
              refine J_bipush (v := 10) dX9_tally_104 (by decide) ?_
              refine J_isub dX9_tally_106 ?_
              refine J_ishr dX9_tally_107 ?_
              refine J_iconst (v := 1) dX9_tally_108 (by decide) ?_
              refine J_iand dX9_tally_109 ?_
              refine J_i2l dX9_tally_110 rfl ?_
              refine J_topl (fun l589 _ => ?_)
              refine J_ladd dX9_tally_111 ?_
              refine J_topl (fun l590 _ => ?_)
              refine J_lstore (i := 5) (lw := [(5, .long l590), (8, .int v560), (0, .ref yp), (1, .ref 44), (2, .ref 53), (3, .int n), (4, .int what), (7, .int w429)]) dX9_tally_112 (by decide) rfl ?_
              refine J_lv [2, 3, 4, 5, 6, 0, 7] rfl ?_
              exact jn586 l590 
            · refine J_aload_n (i := 2) (j := 3) dX9_tally_86 rfl rfl ?_
              refine J_getN (C := RX5) (T := TX5) (Z := 7) (ci := 5) (f := 1) dX9_tally_87 inG5 rfl (by decide) k322 wc_53 rfl ?_
              refine J_i2l dX9_tally_90 rfl ?_
              refine J_topl (fun l591 _ => ?_)
              refine J_lstore (i := 5) (lw := [(5, .long l591), (8, .int v560), (0, .ref yp), (1, .ref 44), (2, .ref 53), (3, .int n), (4, .int what), (7, .int w429)]) dX9_tally_91 (by decide) rfl ?_
              refine J_goto (tgt := 114) dX9_tally_93 (by decide) ?_
              refine J_lv [2, 3, 4, 5, 6, 0, 7] rfl ?_
              exact jn586 l591 
          · refine J_lload (i := 5) (j := 6) dX9_tally_60 rfl ?_
            refine J_aload_n (i := 2) (j := 3) dX9_tally_62 rfl rfl ?_
            refine J_getN (C := RX5) (T := TX5) (Z := 7) (ci := 5) (f := 1) dX9_tally_63 inG5 rfl (by decide) k322 wc_53 rfl ?_
            have jn594 : ∀ (w593 : Int64), J x yX9_tally cX9_tally 9 (some .long) d 0 0 (Wd u g (yX ex x0)).length 74 [(0, .ref yp), (1, .ref 44), (2, .ref 53), (3, .int n), (4, .int what), (7, .int w429)] [.long w593, .long w428] (Wd u568 g (yX ex y566)) 0 0 := by
              intro w593
              refine J_ladd dX9_tally_74 ?_
              refine J_topl (fun l595 _ => ?_)
              refine J_lstore (i := 5) (lw := [(5, .long l595), (0, .ref yp), (1, .ref 44), (2, .ref 53), (3, .int n), (4, .int what), (7, .int w429)]) dX9_tally_75 (by decide) rfl ?_
              refine J_goto (tgt := 114) dX9_tally_77 (by decide) ?_
              refine J_lv [1, 2, 3, 4, 5, 0, 6] rfl ?_
              exact jn586 l595 
            refine J_if_ne (tgt := 73) dX9_tally_66 (by decide) (fun c592 => ?_) (fun c592 => ?_)
            · refine J_lconst (v := 1) dX9_tally_73 (by decide) ?_
              refine J_lv [1, 2, 3, 4, 5, 7] rfl ?_
              exact jn594 (1 : Int64) 
            · refine J_lconst (v := 0) dX9_tally_69 (by decide) ?_
              refine J_goto (tgt := 74) dX9_tally_70 (by decide) ?_
              refine J_lv [1, 2, 3, 4, 5, 7] rfl ?_
              exact jn594 (0 : Int64) 
        · refine J_lload (i := 5) (j := 6) dX9_tally_41 rfl ?_
          refine J_aload_n (i := 2) (j := 3) dX9_tally_43 rfl rfl ?_
          refine J_getN (C := RX5) (T := TX5) (Z := 7) (ci := 5) (f := 2) dX9_tally_44 inG5 rfl (by decide) k325 wc_53 rfl ?_
          refine J_i2l dX9_tally_47 rfl ?_
          refine J_topl (fun l596 _ => ?_)
          refine J_ladd dX9_tally_48 ?_
          refine J_topl (fun l597 _ => ?_)
          refine J_lstore (i := 5) (lw := [(5, .long l597), (8, .int v560), (0, .ref yp), (1, .ref 44), (2, .ref 53), (3, .int n), (4, .int what), (7, .int w429)]) dX9_tally_49 (by decide) rfl ?_
          refine J_goto (tgt := 114) dX9_tally_51 (by decide) ?_
          refine J_lv [2, 3, 4, 5, 6, 0, 7] rfl ?_
          exact jn586 l597 
  refine J_lv [2, 3, 4, 5, 6, 1, 0] rfl ?_
  exact lp515 _ (0 : Int64) (0 : Int32) x0 u (bd_w (l := 0) (h := 99) (bd_c (v := 0) (lo := 0) (hi := 0) (by decide)) (by decide)) (fun c k_ => rfl) (fun j k0_ k1_ k2_ k3_ k4_ => rfl) hp2 hp3 (Nat.lt_succ_self _)
set_option maxHeartbeats 4000000 in
set_option maxRecDepth 100000 in
theorem c_P_years {d : Nat} {u : Nat → Nat → Int32} {g : Nat → Nat → Int64} {ex : List MC} {hill : Int32} {plan : Int32} {seed : Int32} {n : Int32} {what : Int32} (hd : 5 ≤ d) (hp0 : Bd 0 2 (u 1 5)) (hp1 : Bd 0 3 (u 1 7)) (hp2 : Bd 0 9 (u 44 0)) (hp3 : Bd 0 4 (u 44 2)) (hp4 : Bd 0 9 (u 5 0)) (hp5 : Bd 0 4 (u 5 2)) (hp6 : Bd 0 9 (u 10 0)) (hp7 : Bd 0 4 (u 10 2)) (hp8 : Bd 0 12 (u 15 0)) (hp9 : Bd 0 12 (u 19 0)) (hp10 : Bd 0 12 (u 23 0)) (hp11 : Bd 0 12 (u 49 0)) (hp12 : AB u 45 (-1) 999) (hp13 : AB u 6 (-1) 999) (hp14 : AB u 11 (-1) 999) (hp15 : (KM u 15)) (hp16 : (KM u 19)) (hp17 : (KM u 23)) (hp18 : (KM u 49)) (hp19 : Bd 0 9 (u 53 0)) (hp20 : Bd 0 511 (u 53 1)) : CT con0 d 1 1 yX10_years cX10_years 6 (some .long) [.ref 0, .int hill, .int plan, .int seed, .int n, .int what] (Wd u g ex) (fun r h2 => ∃ (z : Int64) (u2 : Nat → Nat → Int32) (ex2 : List MC), r = some (.long z) ∧ h2 = Wd u2 g ex2 ∧ Bd 0 9 (u2 44 0) ∧ Bd 0 4 (u2 44 2) ∧ AB u2 45 (-1) 999 ∧ Bd 0 9 (u2 53 0) ∧ Bd 0 511 (u2 53 1) ∧ (∀ c, nin c [(43, 48), (53, 55)] = true → u2 c = u c) ∧ (∀ j, j ≠ 1 → j ≠ 2 → j ≠ 3 → u2 43 j = u 43 j) ∧ (∀ j, j ≠ 0 → j ≠ 2 → u2 44 j = u 44 j) ∧ (∀ j, j ≠ 0 → j ≠ 1 → j ≠ 2 → j ≠ 3 → j ≠ 4 → u2 53 j = u 53 j)) := by
  refine CT_of (by decide) (Nat.le_of_ble_eq_true rfl) (fun x hq => ?_)
  show J x yX10_years cX10_years 6 (some .long) d 1 1 (Wd u g ex).length 0 [(0, .ref 0), (1, .int hill), (2, .int plan), (3, .int seed), (4, .int n), (5, .int what)] [] (Wd u g ex) 0 0
  refine J_aload_n (i := 0) (j := 0) dX10_years_0 rfl rfl ?_
  refine J_iload_n (i := 1) (j := 1) dX10_years_1 rfl rfl ?_
  refine J_iload_n (i := 2) (j := 2) dX10_years_2 rfl rfl ?_
  refine J_callV (As := [.int hill, .int plan]) (rest := []) dX10_years_3 (c_P_lays (d := 4) (u := u) (g := g) (ex := ex) (hill := hill) (plan := plan)  (by decide) hp0 hp1 hp2 hp3 hp4 hp5 hp6 hp7 hp8 hp9 hp10 hp11 hp12 hp13 hp14 hp15 hp16 hp17 hp18) hq.n k723 k725 k12 wc_0 rfl rfl k87 k726 np_X10_lays (Nat.le_trans (by decide) hd) (by decide) (Nat.zero_le _) (Nat.zero_le _) wlen rfl (Nat.le_of_ble_eq_true rfl) (fun r_ h_ p1 => ?_)
  obtain ⟨t2, u3, rfl, rfl, h4, h5, h6, fr7, fc8, fc9⟩ := p1
  refine J_ifB_eq (tgt := 22) dX10_years_6 (by decide) (fun c10 => ?_) (fun c10 => ?_)
  · refine J_ldc2 (v := (-1)) dX10_years_22 k877 ?_
    exact J_lret hq dX10_years_25 rfl wlen (Nat.zero_le _) (Nat.zero_le _) ⟨((-1) : Int64), u3, ex, rfl, rfl, h4, h5, h6, (bd_r (congrFun (fr7 53 rfl) 0) hp19), (bd_r (congrFun (fr7 53 rfl) 1) hp20), (fun c k_ => (fr7 c (nin_sub (M := [(43, 48)]) k_ rfl))), (fun j k1_ k2_ k3_ => (fc8 j k1_ k2_ k3_)), (fun j k0_ k2_ => (fc9 j k0_ k2_)), (fun j k0_ k1_ k2_ k3_ k4_ => (congrFun (fr7 53 rfl) j))⟩
  · refine J_iload (i := 4) (j := 4) dX10_years_9 rfl ?_
    refine J_iconst (v := 1) dX10_years_11 (by decide) ?_
    refine J_icmp_lt (tgt := 22) dX10_years_12 (by decide) (fun c11 => ?_) (fun c11 => ?_)
    · refine J_ldc2 (v := (-1)) dX10_years_22 k877 ?_
      exact J_lret hq dX10_years_25 rfl wlen (Nat.zero_le _) (Nat.zero_le _) ⟨((-1) : Int64), u3, ex, rfl, rfl, h4, h5, h6, (bd_r (congrFun (fr7 53 rfl) 0) hp19), (bd_r (congrFun (fr7 53 rfl) 1) hp20), (fun c k_ => (fr7 c (nin_sub (M := [(43, 48)]) k_ rfl))), (fun j k1_ k2_ k3_ => (fc8 j k1_ k2_ k3_)), (fun j k0_ k2_ => (fc9 j k0_ k2_)), (fun j k0_ k1_ k2_ k3_ k4_ => (congrFun (fr7 53 rfl) j))⟩
    · refine J_iload (i := 4) (j := 4) dX10_years_15 rfl ?_
      refine J_bipush (v := 99) dX10_years_17 (by decide) ?_
      refine J_icmp_le (tgt := 26) dX10_years_19 (by decide) (fun c12 => ?_) (fun c12 => ?_)
      · refine J_iload (i := 5) (j := 5) dX10_years_26 rfl ?_
        refine J_if_eq (tgt := 72) dX10_years_28 (by decide) (fun c13 => ?_) (fun c13 => ?_)
        · refine J_new (C := RX9) (T := TX9) (Z := 1) (ci := 9) (fs := [.int 0]) (ty0 := tyX9) dX10_years_72 inG9 rfl tyX9_ok k1104 k1105 k106 fsX9 wlen (by decide) (by decide) ?_
          obtain ⟨yp, hyp⟩ : ∃ z, z = (Wd u3 g ex).length := ⟨_, rfl⟩
          rw [← hyp, wapp]
          have hy : yp = 182 + ex.length := hyp.trans Wd_len
          refine J_dup dX10_years_75 rfl ?_
          refine J_iload_n (i := 3) (j := 3) dX10_years_76 rfl rfl ?_
          refine J_callI (As := [.int seed]) (rest := [.ref yp]) dX10_years_77 (c_Y_init (d := 1) (u := u3) (g := g) (ex := ex) (yp := yp) (x0 := 0) (seed := seed)  (by decide) hy) hq.n k1106 k1107 rfl rfl k106 k1108 np_X9_init (Nat.le_trans (by decide) hd) (by decide) (Nat.le_refl _) (Nat.le_refl _) wlen1 rfl (Nat.le_of_ble_eq_true rfl) (fun r_ h_ p14 => ?_)
          obtain ⟨y15, rfl, rfl⟩ := p14
          refine J_aload_n (i := 0) (j := 0) dX10_years_80 rfl rfl ?_
          refine J_get (C := RX10) (T := TX10) (Z := 10) (ci := 10) (f := 4) dX10_years_81 inG10 rfl (by decide) k427 wc_0 rfl ?_
          refine J_getN (C := RX4) (T := TX4) (Z := 4) (ci := 4) (f := 0) dX10_years_84 inG4 rfl (by decide) k295 wc_43 rfl ?_
          refine J_aload_n (i := 0) (j := 0) dX10_years_87 rfl rfl ?_
          refine J_get (C := RX10) (T := TX10) (Z := 10) (ci := 10) (f := 6) dX10_years_88 inG10 rfl (by decide) k429 wc_0 rfl ?_
          refine J_iload (i := 4) (j := 4) dX10_years_91 rfl ?_
          refine J_iload (i := 5) (j := 5) dX10_years_93 rfl ?_
          refine J_callV (As := [.ref 44, .ref 53, .int n, .int what]) (rest := []) dX10_years_95 (c_Y_tally (d := 3) (u := u3) (g := g) (ex := ex) (yp := yp) (x0 := y15) (n := n) (what := what)  (by decide) hy h4 h5 (bd_r (congrFun (fr7 53 rfl) 0) hp19) (bd_r (congrFun (fr7 53 rfl) 1) hp20) (bd_le_hi (bd_le_lo (bd_any n) (i_nlt c11) (bd_c (v := 1) (lo := 1) (hi := 1) (by decide))) c12 (bd_c (v := 99) (lo := 99) (hi := 99) (by decide)))) hq.n k1114 k1115 k1116 (yx_get hy) rfl rfl k106 k1117 np_X9_tally (Nat.le_trans (by decide) hd) (by decide) (Nat.le_refl _) (Nat.le_refl _) wlen1 rfl (Nat.le_of_ble_eq_true rfl) (fun r_ h_ p16 => ?_)
          obtain ⟨l17, u18, y19, rfl, rfl, h20, h21, fr22, fc23⟩ := p16
          exact J_lret hq dX10_years_98 rfl wlen1 (Nat.le_refl _) (Nat.le_refl _) ⟨l17, u18, (yX ex y19), rfl, rfl, (bd_r (congrFun (fr22 44 rfl) 0) h4), (bd_r (congrFun (fr22 44 rfl) 2) h5), (ab_c (fr22 45 rfl) h6), h20, h21, (fun c k_ => ((fr22 c (nin_sub (M := [(53, 55)]) k_ rfl)).trans (fr7 c (nin_sub (M := [(43, 48)]) k_ rfl)))), (fun j k1_ k2_ k3_ => ((congrFun (fr22 43 rfl) j).trans (fc8 j k1_ k2_ k3_))), (fun j k0_ k2_ => ((congrFun (fr22 44 rfl) j).trans (fc9 j k0_ k2_))), (fun j k0_ k1_ k2_ k3_ k4_ => ((fc23 j k0_ k1_ k2_ k3_ k4_).trans (congrFun (fr7 53 rfl) j)))⟩
        · refine J_iload (i := 5) (j := 5) dX10_years_31 rfl ?_
          refine J_iconst (v := 1) dX10_years_33 (by decide) ?_
          refine J_icmp_eq (tgt := 72) dX10_years_34 (by decide) (fun c24 => ?_) (fun c24 => ?_)
          · refine J_new (C := RX9) (T := TX9) (Z := 1) (ci := 9) (fs := [.int 0]) (ty0 := tyX9) dX10_years_72 inG9 rfl tyX9_ok k1104 k1105 k106 fsX9 wlen (by decide) (by decide) ?_
            obtain ⟨yp, hyp⟩ : ∃ z, z = (Wd u3 g ex).length := ⟨_, rfl⟩
            rw [← hyp, wapp]
            have hy : yp = 182 + ex.length := hyp.trans Wd_len
            refine J_dup dX10_years_75 rfl ?_
            refine J_iload_n (i := 3) (j := 3) dX10_years_76 rfl rfl ?_
            refine J_callI (As := [.int seed]) (rest := [.ref yp]) dX10_years_77 (c_Y_init (d := 1) (u := u3) (g := g) (ex := ex) (yp := yp) (x0 := 0) (seed := seed)  (by decide) hy) hq.n k1106 k1107 rfl rfl k106 k1108 np_X9_init (Nat.le_trans (by decide) hd) (by decide) (Nat.le_refl _) (Nat.le_refl _) wlen1 rfl (Nat.le_of_ble_eq_true rfl) (fun r_ h_ p25 => ?_)
            obtain ⟨y26, rfl, rfl⟩ := p25
            refine J_aload_n (i := 0) (j := 0) dX10_years_80 rfl rfl ?_
            refine J_get (C := RX10) (T := TX10) (Z := 10) (ci := 10) (f := 4) dX10_years_81 inG10 rfl (by decide) k427 wc_0 rfl ?_
            refine J_getN (C := RX4) (T := TX4) (Z := 4) (ci := 4) (f := 0) dX10_years_84 inG4 rfl (by decide) k295 wc_43 rfl ?_
            refine J_aload_n (i := 0) (j := 0) dX10_years_87 rfl rfl ?_
            refine J_get (C := RX10) (T := TX10) (Z := 10) (ci := 10) (f := 6) dX10_years_88 inG10 rfl (by decide) k429 wc_0 rfl ?_
            refine J_iload (i := 4) (j := 4) dX10_years_91 rfl ?_
            refine J_iload (i := 5) (j := 5) dX10_years_93 rfl ?_
            refine J_callV (As := [.ref 44, .ref 53, .int n, .int what]) (rest := []) dX10_years_95 (c_Y_tally (d := 3) (u := u3) (g := g) (ex := ex) (yp := yp) (x0 := y26) (n := n) (what := what)  (by decide) hy h4 h5 (bd_r (congrFun (fr7 53 rfl) 0) hp19) (bd_r (congrFun (fr7 53 rfl) 1) hp20) (bd_le_hi (bd_le_lo (bd_any n) (i_nlt c11) (bd_c (v := 1) (lo := 1) (hi := 1) (by decide))) c12 (bd_c (v := 99) (lo := 99) (hi := 99) (by decide)))) hq.n k1114 k1115 k1116 (yx_get hy) rfl rfl k106 k1117 np_X9_tally (Nat.le_trans (by decide) hd) (by decide) (Nat.le_refl _) (Nat.le_refl _) wlen1 rfl (Nat.le_of_ble_eq_true rfl) (fun r_ h_ p27 => ?_)
            obtain ⟨l28, u29, y30, rfl, rfl, h31, h32, fr33, fc34⟩ := p27
            exact J_lret hq dX10_years_98 rfl wlen1 (Nat.le_refl _) (Nat.le_refl _) ⟨l28, u29, (yX ex y30), rfl, rfl, (bd_r (congrFun (fr33 44 rfl) 0) h4), (bd_r (congrFun (fr33 44 rfl) 2) h5), (ab_c (fr33 45 rfl) h6), h31, h32, (fun c k_ => ((fr33 c (nin_sub (M := [(53, 55)]) k_ rfl)).trans (fr7 c (nin_sub (M := [(43, 48)]) k_ rfl)))), (fun j k1_ k2_ k3_ => ((congrFun (fr33 43 rfl) j).trans (fc8 j k1_ k2_ k3_))), (fun j k0_ k2_ => ((congrFun (fr33 44 rfl) j).trans (fc9 j k0_ k2_))), (fun j k0_ k1_ k2_ k3_ k4_ => ((fc34 j k0_ k1_ k2_ k3_ k4_).trans (congrFun (fr7 53 rfl) j)))⟩
          · refine J_iload (i := 5) (j := 5) dX10_years_37 rfl ?_
            refine J_iconst (v := 2) dX10_years_39 (by decide) ?_
            refine J_icmp_eq (tgt := 72) dX10_years_40 (by decide) (fun c35 => ?_) (fun c35 => ?_)
            · refine J_new (C := RX9) (T := TX9) (Z := 1) (ci := 9) (fs := [.int 0]) (ty0 := tyX9) dX10_years_72 inG9 rfl tyX9_ok k1104 k1105 k106 fsX9 wlen (by decide) (by decide) ?_
              obtain ⟨yp, hyp⟩ : ∃ z, z = (Wd u3 g ex).length := ⟨_, rfl⟩
              rw [← hyp, wapp]
              have hy : yp = 182 + ex.length := hyp.trans Wd_len
              refine J_dup dX10_years_75 rfl ?_
              refine J_iload_n (i := 3) (j := 3) dX10_years_76 rfl rfl ?_
              refine J_callI (As := [.int seed]) (rest := [.ref yp]) dX10_years_77 (c_Y_init (d := 1) (u := u3) (g := g) (ex := ex) (yp := yp) (x0 := 0) (seed := seed)  (by decide) hy) hq.n k1106 k1107 rfl rfl k106 k1108 np_X9_init (Nat.le_trans (by decide) hd) (by decide) (Nat.le_refl _) (Nat.le_refl _) wlen1 rfl (Nat.le_of_ble_eq_true rfl) (fun r_ h_ p36 => ?_)
              obtain ⟨y37, rfl, rfl⟩ := p36
              refine J_aload_n (i := 0) (j := 0) dX10_years_80 rfl rfl ?_
              refine J_get (C := RX10) (T := TX10) (Z := 10) (ci := 10) (f := 4) dX10_years_81 inG10 rfl (by decide) k427 wc_0 rfl ?_
              refine J_getN (C := RX4) (T := TX4) (Z := 4) (ci := 4) (f := 0) dX10_years_84 inG4 rfl (by decide) k295 wc_43 rfl ?_
              refine J_aload_n (i := 0) (j := 0) dX10_years_87 rfl rfl ?_
              refine J_get (C := RX10) (T := TX10) (Z := 10) (ci := 10) (f := 6) dX10_years_88 inG10 rfl (by decide) k429 wc_0 rfl ?_
              refine J_iload (i := 4) (j := 4) dX10_years_91 rfl ?_
              refine J_iload (i := 5) (j := 5) dX10_years_93 rfl ?_
              refine J_callV (As := [.ref 44, .ref 53, .int n, .int what]) (rest := []) dX10_years_95 (c_Y_tally (d := 3) (u := u3) (g := g) (ex := ex) (yp := yp) (x0 := y37) (n := n) (what := what)  (by decide) hy h4 h5 (bd_r (congrFun (fr7 53 rfl) 0) hp19) (bd_r (congrFun (fr7 53 rfl) 1) hp20) (bd_le_hi (bd_le_lo (bd_any n) (i_nlt c11) (bd_c (v := 1) (lo := 1) (hi := 1) (by decide))) c12 (bd_c (v := 99) (lo := 99) (hi := 99) (by decide)))) hq.n k1114 k1115 k1116 (yx_get hy) rfl rfl k106 k1117 np_X9_tally (Nat.le_trans (by decide) hd) (by decide) (Nat.le_refl _) (Nat.le_refl _) wlen1 rfl (Nat.le_of_ble_eq_true rfl) (fun r_ h_ p38 => ?_)
              obtain ⟨l39, u40, y41, rfl, rfl, h42, h43, fr44, fc45⟩ := p38
              exact J_lret hq dX10_years_98 rfl wlen1 (Nat.le_refl _) (Nat.le_refl _) ⟨l39, u40, (yX ex y41), rfl, rfl, (bd_r (congrFun (fr44 44 rfl) 0) h4), (bd_r (congrFun (fr44 44 rfl) 2) h5), (ab_c (fr44 45 rfl) h6), h42, h43, (fun c k_ => ((fr44 c (nin_sub (M := [(53, 55)]) k_ rfl)).trans (fr7 c (nin_sub (M := [(43, 48)]) k_ rfl)))), (fun j k1_ k2_ k3_ => ((congrFun (fr44 43 rfl) j).trans (fc8 j k1_ k2_ k3_))), (fun j k0_ k2_ => ((congrFun (fr44 44 rfl) j).trans (fc9 j k0_ k2_))), (fun j k0_ k1_ k2_ k3_ k4_ => ((fc45 j k0_ k1_ k2_ k3_ k4_).trans (congrFun (fr7 53 rfl) j)))⟩
            · refine J_iload (i := 5) (j := 5) dX10_years_43 rfl ?_
              refine J_bipush (v := 10) dX10_years_45 (by decide) ?_
              refine J_icmp_lt (tgt := 68) dX10_years_47 (by decide) (fun c46 => ?_) (fun c46 => ?_)
              · refine J_ldc2 (v := (-1)) dX10_years_68 k877 ?_
                exact J_lret hq dX10_years_71 rfl wlen (Nat.zero_le _) (Nat.zero_le _) ⟨((-1) : Int64), u3, ex, rfl, rfl, h4, h5, h6, (bd_r (congrFun (fr7 53 rfl) 0) hp19), (bd_r (congrFun (fr7 53 rfl) 1) hp20), (fun c k_ => (fr7 c (nin_sub (M := [(43, 48)]) k_ rfl))), (fun j k1_ k2_ k3_ => (fc8 j k1_ k2_ k3_)), (fun j k0_ k2_ => (fc9 j k0_ k2_)), (fun j k0_ k1_ k2_ k3_ k4_ => (congrFun (fr7 53 rfl) j))⟩
              · refine J_aload_n (i := 0) (j := 0) dX10_years_50 rfl rfl ?_
                refine J_get (C := RX10) (T := TX10) (Z := 10) (ci := 10) (f := 4) dX10_years_51 inG10 rfl (by decide) k427 wc_0 rfl ?_
                refine J_getN (C := RX4) (T := TX4) (Z := 4) (ci := 4) (f := 0) dX10_years_54 inG4 rfl (by decide) k295 wc_43 rfl ?_
                refine J_iload (i := 5) (j := 5) dX10_years_57 rfl ?_
                refine J_bipush (v := 10) dX10_years_59 (by decide) ?_
                refine J_isub dX10_years_61 ?_
                refine J_callV (As := [.int (what - 10)]) (rest := []) dX10_years_62 (c_H_has (d := 0) (u := u3) (g := g) (ex := ex) (pond := (what - 10)) (t := 44) (by decide) (by decide) h4 h5) hq.n k774 k741 k742 wc_44 rfl rfl k89 k743 np_X1_has (Nat.le_trans (by decide) hd) (by decide) (Nat.zero_le _) (Nat.zero_le _) wlen rfl (Nat.le_of_ble_eq_true rfl) (fun r_ h_ p47 => ?_)
                obtain ⟨t48, rfl, rfl, h49⟩ := p47
                refine J_ifB_ne (tgt := 72) dX10_years_65 (by decide) (fun c50 => ?_) (fun c50 => ?_)
                · refine J_new (C := RX9) (T := TX9) (Z := 1) (ci := 9) (fs := [.int 0]) (ty0 := tyX9) dX10_years_72 inG9 rfl tyX9_ok k1104 k1105 k106 fsX9 wlen (by decide) (by decide) ?_
                  obtain ⟨yp, hyp⟩ : ∃ z, z = (Wd u3 g ex).length := ⟨_, rfl⟩
                  rw [← hyp, wapp]
                  have hy : yp = 182 + ex.length := hyp.trans Wd_len
                  refine J_dup dX10_years_75 rfl ?_
                  refine J_iload_n (i := 3) (j := 3) dX10_years_76 rfl rfl ?_
                  refine J_callI (As := [.int seed]) (rest := [.ref yp]) dX10_years_77 (c_Y_init (d := 1) (u := u3) (g := g) (ex := ex) (yp := yp) (x0 := 0) (seed := seed)  (by decide) hy) hq.n k1106 k1107 rfl rfl k106 k1108 np_X9_init (Nat.le_trans (by decide) hd) (by decide) (Nat.le_refl _) (Nat.le_refl _) wlen1 rfl (Nat.le_of_ble_eq_true rfl) (fun r_ h_ p51 => ?_)
                  obtain ⟨y52, rfl, rfl⟩ := p51
                  refine J_aload_n (i := 0) (j := 0) dX10_years_80 rfl rfl ?_
                  refine J_get (C := RX10) (T := TX10) (Z := 10) (ci := 10) (f := 4) dX10_years_81 inG10 rfl (by decide) k427 wc_0 rfl ?_
                  refine J_getN (C := RX4) (T := TX4) (Z := 4) (ci := 4) (f := 0) dX10_years_84 inG4 rfl (by decide) k295 wc_43 rfl ?_
                  refine J_aload_n (i := 0) (j := 0) dX10_years_87 rfl rfl ?_
                  refine J_get (C := RX10) (T := TX10) (Z := 10) (ci := 10) (f := 6) dX10_years_88 inG10 rfl (by decide) k429 wc_0 rfl ?_
                  refine J_iload (i := 4) (j := 4) dX10_years_91 rfl ?_
                  refine J_iload (i := 5) (j := 5) dX10_years_93 rfl ?_
                  refine J_callV (As := [.ref 44, .ref 53, .int n, .int what]) (rest := []) dX10_years_95 (c_Y_tally (d := 3) (u := u3) (g := g) (ex := ex) (yp := yp) (x0 := y52) (n := n) (what := what)  (by decide) hy h4 h5 (bd_r (congrFun (fr7 53 rfl) 0) hp19) (bd_r (congrFun (fr7 53 rfl) 1) hp20) (bd_le_hi (bd_le_lo (bd_any n) (i_nlt c11) (bd_c (v := 1) (lo := 1) (hi := 1) (by decide))) c12 (bd_c (v := 99) (lo := 99) (hi := 99) (by decide)))) hq.n k1114 k1115 k1116 (yx_get hy) rfl rfl k106 k1117 np_X9_tally (Nat.le_trans (by decide) hd) (by decide) (Nat.le_refl _) (Nat.le_refl _) wlen1 rfl (Nat.le_of_ble_eq_true rfl) (fun r_ h_ p53 => ?_)
                  obtain ⟨l54, u55, y56, rfl, rfl, h57, h58, fr59, fc60⟩ := p53
                  exact J_lret hq dX10_years_98 rfl wlen1 (Nat.le_refl _) (Nat.le_refl _) ⟨l54, u55, (yX ex y56), rfl, rfl, (bd_r (congrFun (fr59 44 rfl) 0) h4), (bd_r (congrFun (fr59 44 rfl) 2) h5), (ab_c (fr59 45 rfl) h6), h57, h58, (fun c k_ => ((fr59 c (nin_sub (M := [(53, 55)]) k_ rfl)).trans (fr7 c (nin_sub (M := [(43, 48)]) k_ rfl)))), (fun j k1_ k2_ k3_ => ((congrFun (fr59 43 rfl) j).trans (fc8 j k1_ k2_ k3_))), (fun j k0_ k2_ => ((congrFun (fr59 44 rfl) j).trans (fc9 j k0_ k2_))), (fun j k0_ k1_ k2_ k3_ k4_ => ((fc60 j k0_ k1_ k2_ k3_ k4_).trans (congrFun (fr7 53 rfl) j)))⟩
                · refine J_ldc2 (v := (-1)) dX10_years_68 k877 ?_
                  exact J_lret hq dX10_years_71 rfl wlen (Nat.zero_le _) (Nat.zero_le _) ⟨((-1) : Int64), u3, ex, rfl, rfl, h4, h5, h6, (bd_r (congrFun (fr7 53 rfl) 0) hp19), (bd_r (congrFun (fr7 53 rfl) 1) hp20), (fun c k_ => (fr7 c (nin_sub (M := [(43, 48)]) k_ rfl))), (fun j k1_ k2_ k3_ => (fc8 j k1_ k2_ k3_)), (fun j k0_ k2_ => (fc9 j k0_ k2_)), (fun j k0_ k1_ k2_ k3_ k4_ => (congrFun (fr7 53 rfl) j))⟩
      · refine J_ldc2 (v := (-1)) dX10_years_22 k877 ?_
        exact J_lret hq dX10_years_25 rfl wlen (Nat.zero_le _) (Nat.zero_le _) ⟨((-1) : Int64), u3, ex, rfl, rfl, h4, h5, h6, (bd_r (congrFun (fr7 53 rfl) 0) hp19), (bd_r (congrFun (fr7 53 rfl) 1) hp20), (fun c k_ => (fr7 c (nin_sub (M := [(43, 48)]) k_ rfl))), (fun j k1_ k2_ k3_ => (fc8 j k1_ k2_ k3_)), (fun j k0_ k2_ => (fc9 j k0_ k2_)), (fun j k0_ k1_ k2_ k3_ k4_ => (congrFun (fr7 53 rfl) j))⟩
end
section
/-! what is told on both sides: how long the tapes are, which images there are -/
def IMGL (u2 u : Nat → Nat → Int32) (k : Int32) : Prop := u2 84 1 = (if k = 0 then u 1 1 else u 84 1) ∧ u2 110 1 = (if k = 1 then u 1 1 else u 110 1) ∧ u2 136 1 = (if k = 2 then u 1 1 else u 136 1)
theorem imgl_0 {u2 u : Nat → Nat → Int32} {k : Int32} (hk : k = 0) (a : u2 84 1 = u 1 1) (b : u2 110 1 = u 110 1) (c : u2 136 1 = u 136 1) : IMGL u2 u k := by
  subst hk; exact ⟨a, b, c⟩
theorem imgl_1 {u2 u : Nat → Nat → Int32} {k : Int32} (hk : k = 1) (a : u2 84 1 = u 84 1) (b : u2 110 1 = u 1 1) (c : u2 136 1 = u 136 1) : IMGL u2 u k := by
  subst hk; exact ⟨a, b, c⟩
theorem imgl_2 {u2 u : Nat → Nat → Int32} {k : Int32} (hk : k = 2) (a : u2 84 1 = u 84 1) (b : u2 110 1 = u 110 1) (c : u2 136 1 = u 1 1) : IMGL u2 u k := by
  subst hk; exact ⟨a, b, c⟩
theorem nok {k : Int32} (h : k < 0 ∨ 3 ≤ k) : ¬ k = 0 ∧ ¬ k = 1 ∧ ¬ k = 2 ∧ ¬ (0 ≤ k ∧ k ≤ 2) := by
  refine ⟨?_, ?_, ?_, ?_⟩
  · intro e; subst e; revert h; decide
  · intro e; subst e; revert h; decide
  · intro e; subst e; revert h; decide
  · intro e
    rcases h with h | h
    · exact lt_le_no h e.1
    · exact img_2 h e
theorem imgl_n {u : Nat → Nat → Int32} {k : Int32} (h : k < 0 ∨ 3 ≤ k) : IMGL u u k := by
  obtain ⟨a, b, c, -⟩ := nok h
  exact ⟨(if_neg a).symm, (if_neg b).symm, (if_neg c).symm⟩
def TKN (u2 u : Nat → Nat → Int32) (a : Nat) (k : Int32) : Prop := u2 a = if 0 ≤ k ∧ k ≤ 2 then upd (u a) k.toNatClampNeg (vp_nar .boolean 1) else u a
theorem tkn_n {u2 u : Nat → Nat → Int32} {a : Nat} {k : Int32} (h : ¬ (0 ≤ k ∧ k ≤ 2)) (e : u2 a = u a) : TKN u2 u a k := by unfold TKN; rw [if_neg h]; exact e
theorem tkn_s {u2 u1 u : Nat → Nat → Int32} {a : Nat} {k : Int32} (h : 0 ≤ k ∧ k ≤ 2) (e : u2 = ms u1 a k.toNatClampNeg (vp_nar .boolean 1)) (e1 : u1 a = u a) : TKN u2 u a k := by unfold TKN; rw [if_pos h, ms_a e, e1]
def IMGM (u2 u : Nat → Nat → Int32) (k : Int32) : Prop := u2 164 0 = u 164 0 ∧ u2 164 1 = (if k = 0 then u 164 0 else u 164 1) ∧ u2 164 2 = (if k = 1 then u 164 0 else u 164 2) ∧ u2 164 3 = (if k = 2 then u 164 0 else u 164 3)
theorem imgm_n {u2 u : Nat → Nat → Int32} {k : Int32} (h : ¬ (0 ≤ k ∧ k ≤ 2)) (e : u2 164 = u 164) : IMGM u2 u k := by
  have a : ¬ k = 0 := fun q => h (by subst q; decide)
  have b : ¬ k = 1 := fun q => h (by subst q; decide)
  have c : ¬ k = 2 := fun q => h (by subst q; decide)
  unfold IMGM
  rw [if_neg a, if_neg b, if_neg c, e]
  exact ⟨rfl, rfl, rfl, rfl⟩
theorem k012 {k : Int32} (h : 0 ≤ k ∧ k ≤ 2) : k = 0 ∨ k = 1 ∨ k = 2 := by
  have h1 := Int32.le_iff_toInt_le.mp h.1
  have h2 := Int32.le_iff_toInt_le.mp h.2
  have e0 : (0 : Int32).toInt = 0 := rfl
  have e2 : (2 : Int32).toInt = 2 := rfl
  exact bd_cases3 ⟨by omega, by omega⟩
theorem imgm_s {u2 u : Nat → Nat → Int32} {k f : Int32} (h : 0 ≤ k ∧ k ≤ 2) (ef : f = 0) (e : MVD u2 u 164 1 f.toInt.toNat (k + 1).toInt.toNat) : IMGM u2 u k := by
  subst ef
  rcases k012 h with q | q | q <;> subst q <;> exact ⟨e 0, e 1, e 2, e 3⟩
def AGL (u2 u : Nat → Nat → Int32) (k : Int32) (z : Bool) : Prop := u2 1 1 = if z = true then (if k = 0 then u 84 1 else if k = 1 then u 110 1 else u 136 1) else u 1 1
theorem agl_0 {u2 u : Nat → Nat → Int32} {k : Int32} (h : k = 0) (e : u2 1 1 = u 84 1) : AGL u2 u k true := by subst h; exact e
theorem agl_1 {u2 u : Nat → Nat → Int32} {k : Int32} (h : k = 1) (e : u2 1 1 = u 110 1) : AGL u2 u k true := by subst h; exact e
theorem agl_2 {u2 u : Nat → Nat → Int32} {k : Int32} (h : k = 2) (e : u2 1 1 = u 136 1) : AGL u2 u k true := by subst h; exact e
def AGM (u2 u : Nat → Nat → Int32) (k : Int32) (z : Bool) : Prop := u2 164 0 = (if z = true then (if k = 0 then u 164 1 else if k = 1 then u 164 2 else u 164 3) else u 164 0) ∧ u2 164 1 = u 164 1 ∧ u2 164 2 = u 164 2 ∧ u2 164 3 = u 164 3
theorem agm_f {u2 u : Nat → Nat → Int32} {k : Int32} (e : u2 164 = u 164) : AGM u2 u k false := by unfold AGM; rw [e]; exact ⟨rfl, rfl, rfl, rfl⟩
theorem agm_s {u2 u : Nat → Nat → Int32} {k t : Int32} (h : 0 ≤ k ∧ k ≤ 2) (et : t = 0) (e : MVD u2 u 164 1 (k + 1).toInt.toNat t.toInt.toNat) : AGM u2 u k true := by
  subst et
  rcases k012 h with q | q | q <;> subst q <;> exact ⟨e 0, e 1, e 2, e 3⟩
def AGZ (u : Nat → Nat → Int32) (a : Nat) (k : Int32) (z : Bool) : Prop := z = true ↔ ((0 ≤ k ∧ k ≤ 2) ∧ ¬ u a k.toNatClampNeg = 0)
theorem agz_t {u : Nat → Nat → Int32} {a : Nat} {k v : Int32} (h : 0 ≤ k ∧ k ≤ 2) (e : v = u a k.toNatClampNeg) (hv : ¬ v = 0) : AGZ u a k true := ⟨fun _ => ⟨h, e ▸ hv⟩, fun _ => rfl⟩
theorem agz_0 {u : Nat → Nat → Int32} {a : Nat} {k v : Int32} (e : v = u a k.toNatClampNeg) (hv : v = 0) : AGZ u a k false := ⟨fun q => absurd q (by decide), fun q => absurd (e.symm.trans hv) q.2⟩
theorem agz_n {u : Nat → Nat → Int32} {a : Nat} {k : Int32} (h : ¬ (0 ≤ k ∧ k ≤ 2)) : AGZ u a k false := ⟨fun q => absurd q (by decide), fun q => absurd q.1 h⟩
def a20 (v : Int32) : Int32 := v + 1 + 1 + 1 + 1 + 1 + 1 + 1 + 1 + 1 + 1 + 1 + 1 + 1 + 1 + 1 + 1 + 1 + 1 + 1 + 1
def FEX (a a2 z : Int32) : Prop := (580 < a ∧ z = -1 ∧ a2 = a) ∨ (a ≤ 580 ∧ z = a2 ∧ a2 = a20 a)
def FEM (a a2 z : Int32) : Prop := (600 < a + 20 ∧ z = -1 ∧ a2 = a) ∨ (a + 20 ≤ 600 ∧ z = a2 ∧ a2 = a20 a)
def ENX (a a2 n z : Int32) : Prop := (¬ (0 ≤ n ∧ n ≤ a) ∧ z = -1 ∧ a2 = a) ∨ ((0 ≤ n ∧ n ≤ a) ∧ z = n ∧ a2 = n)
theorem enx_1 {a n : Int32} (h : n < 0) : ENX a a n (-1) := Or.inl ⟨fun q => lt_le_no h q.1, rfl, rfl⟩
theorem enx_2 {a n : Int32} (h : a < n) : ENX a a n (-1) := Or.inl ⟨fun q => lt_le_no h q.2, rfl, rfl⟩
end
section
/-! what is left of a program, and the row that says what it answers -/
def xq_lt {α β : Type} (x : α) (K : α → β) : β := K x
theorem xq_le {α β : Type} {x v : α} {K : α → β} {R : β} (q : v = x) (E : xq_lt x K = R) : K v = R := by subst q; exact E
def xq_c2 {α β γ : Type} (p : α × β) (K : α → β → γ) : γ := K p.1 p.2
theorem xq_e2 {α β γ : Type} {p : α × β} {a : α} {b : β} {K : α → β → γ} {R : γ} (h : (a, b) = p) (E : xq_c2 p K = R) : K a b = R := by subst h; exact E
def xq_c3 {α β γ δ : Type} (p : α × β × γ) (K : α → β → γ → δ) : δ := K p.1 p.2.1 p.2.2
theorem xq_e3 {α β γ δ : Type} {p : α × β × γ} {a : α} {b : β} {c : γ} {K : α → β → γ → δ} {R : δ} (h : (a, b, c) = p) (E : xq_c3 p K = R) : K a b c = R := by subst h; exact E
theorem xq_ep {α : Type} {c : Prop} {i : Decidable c} {A B R : α} (h : c) (E : (if c then A else B) = R) : A = R := (if_pos h).symm.trans E
theorem xq_en {α : Type} {c : Prop} {i : Decidable c} {A B R : α} (h : ¬ c) (E : (if c then A else B) = R) : B = R := (if_neg h).symm.trans E
theorem xq_ef {α : Type} {b : Bool} {i : Decidable (b = true)} {A B R : α} (h : b = false) (E : (if b = true then A else B) = R) : B = R := (if_neg (by rw [h]; decide)).symm.trans E
end
section
set_option maxRecDepth 100000 in
noncomputable def Fx_Tk_isBlankX (sign : Int32) (u : Nat → Nat → Int32) (g : Nat → Nat → Int64) : Bool := if sign = (10 : Int32) then (true) else (if sign = (32 : Int32) then (true) else (false))
set_option maxHeartbeats 4000000 in
set_option maxRecDepth 100000 in
theorem c_Tk_isBlankX {d : Nat} {u : Nat → Nat → Int32} {g : Nat → Nat → Int64} {ex : List MC} {sign : Int32} (hd : 0 ≤ d)  : CT con0 d 0 0 yX6_isBlank cX6_isBlank 1 (some .boolean) [.int sign] (Wd u g ex) (fun r h2 => ∃ (z : Bool), r = some (.int (bI z)) ∧ h2 = Wd u g ex ∧ z = Fx_Tk_isBlankX sign u g) := by
  refine CT_of (by decide) (Nat.le_of_ble_eq_true rfl) (fun x hq => ?_)
  show J x yX6_isBlank cX6_isBlank 1 (some .boolean) d 0 0 (Wd u g ex).length 0 [(0, .int sign)] [] (Wd u g ex) 0 0
  have E : Fx_Tk_isBlankX sign u g = Fx_Tk_isBlankX sign u g := rfl
  refine J_iload_n (i := 0) (j := 0) dX6_isBlank_0 rfl rfl ?_
  refine J_bipush (v := 10) dX6_isBlank_1 (by decide) ?_
  refine J_icmp_eq (tgt := 12) dX6_isBlank_3 (by decide) (fun c1 => ?_) (fun c1 => ?_)
  · replace E := xq_ep c1 E
    refine J_iconst (v := 1) dX6_isBlank_12 (by decide) ?_
    refine J_goto (tgt := 17) dX6_isBlank_13 (by decide) ?_
    exact J_zret hq dX6_isBlank_17 rfl rfl wlen (Nat.le_refl _) (Nat.le_refl _) ⟨true, rfl, rfl, E⟩
  · replace E := xq_en c1 E
    refine J_iload_n (i := 0) (j := 0) dX6_isBlank_6 rfl rfl ?_
    refine J_bipush (v := 32) dX6_isBlank_7 (by decide) ?_
    refine J_icmp_ne (tgt := 16) dX6_isBlank_9 (by decide) (fun c2 => ?_) (fun c2 => ?_)
    · replace E := xq_en c2 E
      refine J_iconst (v := 0) dX6_isBlank_16 (by decide) ?_
      exact J_zret hq dX6_isBlank_17 rfl rfl wlen (Nat.le_refl _) (Nat.le_refl _) ⟨false, rfl, rfl, E⟩
    · replace E := xq_ep c2 E
      refine J_iconst (v := 1) dX6_isBlank_12 (by decide) ?_
      refine J_goto (tgt := 17) dX6_isBlank_13 (by decide) ?_
      exact J_zret hq dX6_isBlank_17 rfl rfl wlen (Nat.le_refl _) (Nat.le_refl _) ⟨true, rfl, rfl, E⟩
set_option maxRecDepth 100000 in
noncomputable def Fx_Tk_isLetterX (sign : Int32) (u : Nat → Nat → Int32) (g : Nat → Nat → Int64) : Bool := if sign < (97 : Int32) then (false) else (if (122 : Int32) < sign then (false) else (true))
set_option maxHeartbeats 4000000 in
set_option maxRecDepth 100000 in
theorem c_Tk_isLetterX {d : Nat} {u : Nat → Nat → Int32} {g : Nat → Nat → Int64} {ex : List MC} {sign : Int32} (hd : 0 ≤ d)  : CT con0 d 0 0 yX6_isLetter cX6_isLetter 1 (some .boolean) [.int sign] (Wd u g ex) (fun r h2 => ∃ (z : Bool), r = some (.int (bI z)) ∧ h2 = Wd u g ex ∧ (z = true → Bd 97 122 sign) ∧ z = Fx_Tk_isLetterX sign u g) := by
  refine CT_of (by decide) (Nat.le_of_ble_eq_true rfl) (fun x hq => ?_)
  show J x yX6_isLetter cX6_isLetter 1 (some .boolean) d 0 0 (Wd u g ex).length 0 [(0, .int sign)] [] (Wd u g ex) 0 0
  have E : Fx_Tk_isLetterX sign u g = Fx_Tk_isLetterX sign u g := rfl
  refine J_iload_n (i := 0) (j := 0) dX6_isLetter_0 rfl rfl ?_
  refine J_bipush (v := 97) dX6_isLetter_1 (by decide) ?_
  refine J_icmp_lt (tgt := 16) dX6_isLetter_3 (by decide) (fun c1 => ?_) (fun c1 => ?_)
  · replace E := xq_ep c1 E
    refine J_iconst (v := 0) dX6_isLetter_16 (by decide) ?_
    exact J_zret hq dX6_isLetter_17 rfl rfl wlen (Nat.le_refl _) (Nat.le_refl _) ⟨false, rfl, rfl, (fun q => absurd q (by decide)), E⟩
  · replace E := xq_en c1 E
    refine J_iload_n (i := 0) (j := 0) dX6_isLetter_6 rfl rfl ?_
    refine J_bipush (v := 122) dX6_isLetter_7 (by decide) ?_
    refine J_icmp_gt (tgt := 16) dX6_isLetter_9 (by decide) (fun c2 => ?_) (fun c2 => ?_)
    · replace E := xq_ep c2 E
      refine J_iconst (v := 0) dX6_isLetter_16 (by decide) ?_
      exact J_zret hq dX6_isLetter_17 rfl rfl wlen (Nat.le_refl _) (Nat.le_refl _) ⟨false, rfl, rfl, (fun q => absurd q (by decide)), E⟩
    · replace E := xq_en c2 E
      refine J_iconst (v := 1) dX6_isLetter_12 (by decide) ?_
      refine J_goto (tgt := 17) dX6_isLetter_13 (by decide) ?_
      exact J_zret hq dX6_isLetter_17 rfl rfl wlen (Nat.le_refl _) (Nat.le_refl _) ⟨true, rfl, rfl, (fun qb => (bd_le_hi (bd_le_lo (bd_any sign) (i_nlt c1) (bd_c (v := 97) (lo := 97) (hi := 97) (by decide))) (i_nlt c2) (bd_c (v := 122) (lo := 122) (hi := 122) (by decide)))), E⟩
set_option maxRecDepth 100000 in
noncomputable def Fx_Tk_isDigitX (sign : Int32) (u : Nat → Nat → Int32) (g : Nat → Nat → Int64) : Bool := if sign < (48 : Int32) then (false) else (if (57 : Int32) < sign then (false) else (true))
set_option maxHeartbeats 4000000 in
set_option maxRecDepth 100000 in
theorem c_Tk_isDigitX {d : Nat} {u : Nat → Nat → Int32} {g : Nat → Nat → Int64} {ex : List MC} {sign : Int32} (hd : 0 ≤ d)  : CT con0 d 0 0 yX6_isDigit cX6_isDigit 1 (some .boolean) [.int sign] (Wd u g ex) (fun r h2 => ∃ (z : Bool), r = some (.int (bI z)) ∧ h2 = Wd u g ex ∧ (z = true → Bd 48 57 sign) ∧ z = Fx_Tk_isDigitX sign u g) := by
  refine CT_of (by decide) (Nat.le_of_ble_eq_true rfl) (fun x hq => ?_)
  show J x yX6_isDigit cX6_isDigit 1 (some .boolean) d 0 0 (Wd u g ex).length 0 [(0, .int sign)] [] (Wd u g ex) 0 0
  have E : Fx_Tk_isDigitX sign u g = Fx_Tk_isDigitX sign u g := rfl
  refine J_iload_n (i := 0) (j := 0) dX6_isDigit_0 rfl rfl ?_
  refine J_bipush (v := 48) dX6_isDigit_1 (by decide) ?_
  refine J_icmp_lt (tgt := 16) dX6_isDigit_3 (by decide) (fun c1 => ?_) (fun c1 => ?_)
  · replace E := xq_ep c1 E
    refine J_iconst (v := 0) dX6_isDigit_16 (by decide) ?_
    exact J_zret hq dX6_isDigit_17 rfl rfl wlen (Nat.le_refl _) (Nat.le_refl _) ⟨false, rfl, rfl, (fun q => absurd q (by decide)), E⟩
  · replace E := xq_en c1 E
    refine J_iload_n (i := 0) (j := 0) dX6_isDigit_6 rfl rfl ?_
    refine J_bipush (v := 57) dX6_isDigit_7 (by decide) ?_
    refine J_icmp_gt (tgt := 16) dX6_isDigit_9 (by decide) (fun c2 => ?_) (fun c2 => ?_)
    · replace E := xq_ep c2 E
      refine J_iconst (v := 0) dX6_isDigit_16 (by decide) ?_
      exact J_zret hq dX6_isDigit_17 rfl rfl wlen (Nat.le_refl _) (Nat.le_refl _) ⟨false, rfl, rfl, (fun q => absurd q (by decide)), E⟩
    · replace E := xq_en c2 E
      refine J_iconst (v := 1) dX6_isDigit_12 (by decide) ?_
      refine J_goto (tgt := 17) dX6_isDigit_13 (by decide) ?_
      exact J_zret hq dX6_isDigit_17 rfl rfl wlen (Nat.le_refl _) (Nat.le_refl _) ⟨true, rfl, rfl, (fun qb => (bd_le_hi (bd_le_lo (bd_any sign) (i_nlt c1) (bd_c (v := 48) (lo := 48) (hi := 48) (by decide))) (i_nlt c2) (bd_c (v := 57) (lo := 57) (hi := 57) (by decide)))), E⟩
set_option maxRecDepth 100000 in
noncomputable def Fx_Tk_beginX (count : Int32) (u : Nat → Nat → Int32) (g : Nat → Nat → Int64) : (Nat → Nat → Int32) := xq_lt (ms u 30 0 1) fun u1 => xq_lt (if 600 < count then 600 else count) fun v3 => xq_lt (ms u1 30 1 v3) fun u4 => xq_lt (ms u4 30 2 0) fun u6 => u6
set_option maxHeartbeats 4000000 in
set_option maxRecDepth 100000 in
theorem c_Tk_beginX {d : Nat} {u : Nat → Nat → Int32} {g : Nat → Nat → Int64} {ex : List MC} {count : Int32} (hd : 1 ≤ d) (hp0 : Bd 0 600 count) : CT con0 d 0 0 yX6_begin cX6_begin 3 none [.ref 30, .ref 2, .int count] (Wd u g ex) (fun r h2 => ∃ (u2 : Nat → Nat → Int32), r = none ∧ h2 = Wd u2 g ex ∧ (u2 30 0) = 1 ∧ Bd 0 600 (u2 30 1) ∧ Bd 0 0 (u2 30 2) ∧ u2 = Fx_Tk_beginX count u g ∧ (∀ c, c ≠ 30 → u2 c = u c) ∧ (∀ j, j ≠ 0 → j ≠ 1 → j ≠ 2 → u2 30 j = u 30 j)) := by
  refine CT_of (by decide) (Nat.le_of_ble_eq_true rfl) (fun x hq => ?_)
  show J x yX6_begin cX6_begin 3 none d 0 0 (Wd u g ex).length 0 [(0, .ref 30), (1, .ref 2), (2, .int count)] [] (Wd u g ex) 0 0
  have E : Fx_Tk_beginX count u g = Fx_Tk_beginX count u g := rfl
  refine J_aload_n (i := 0) (j := 0) dX6_begin_0 rfl rfl ?_
  refine J_aload_n (i := 1) (j := 1) dX6_begin_1 rfl rfl ?_
  obtain ⟨u1, e2⟩ : ∃ z, z = ms u 30 0 1 := ⟨_, rfl⟩
  refine J_put (C := RX6) (T := TX6) (Z := 6) (ci := 6) (f := 0) (ty0 := tyX6) dX6_begin_2 inG6 rfl tyX6_ok nmX6 (by decide) k232 rfl rfl wc_30 (Nat.le_of_ble_eq_true rfl) (fun _ _ => ⟨rfl, rfl⟩) (ws e2 wk_30 rfl) ?_
  replace E := xq_le e2 E
  refine J_aload_n (i := 0) (j := 0) dX6_begin_5 rfl rfl ?_
  refine J_iload_n (i := 2) (j := 2) dX6_begin_6 rfl rfl ?_
  refine J_aload_n (i := 1) (j := 1) dX6_begin_7 rfl rfl ?_
  refine J_alen dX6_begin_8 wc_2 (fun _ => rfl) ?_
  refine J_ci (v := 600) (by decide) ?_
  refine J_mmin dX6_begin_9 k493 k494 k99 k495 (Nat.le_trans (by decide) hd) (Nat.le_of_ble_eq_true rfl) (Nat.zero_le _) (Nat.zero_le _) ?_
  refine J_topi (fun v3 qv3 => ?_)
  replace E := xq_le qv3 E
  obtain ⟨u4, e5⟩ : ∃ z, z = ms u1 30 1 v3 := ⟨_, rfl⟩
  refine J_put (C := RX6) (T := TX6) (Z := 6) (ci := 6) (f := 1) (ty0 := tyX6) dX6_begin_12 inG6 rfl tyX6_ok nmX6 (by decide) k233 rfl rfl wc_30 (Nat.le_of_ble_eq_true rfl) (fun _ _ => ⟨rfl, rfl⟩) (ws e5 wk_30 rfl) ?_
  replace E := xq_le e5 E
  refine J_aload_n (i := 0) (j := 0) dX6_begin_15 rfl rfl ?_
  refine J_iconst (v := 0) dX6_begin_16 (by decide) ?_
  obtain ⟨u6, e7⟩ : ∃ z, z = ms u4 30 2 0 := ⟨_, rfl⟩
  refine J_put (C := RX6) (T := TX6) (Z := 6) (ci := 6) (f := 2) (ty0 := tyX6) dX6_begin_17 inG6 rfl tyX6_ok nmX6 (by decide) k235 rfl rfl wc_30 (Nat.le_of_ble_eq_true rfl) (fun _ _ => ⟨rfl, rfl⟩) (ws e7 wk_30 rfl) ?_
  replace E := xq_le e7 E
  exact J_vret hq dX6_begin_20 rfl wlen (Nat.le_refl _) (Nat.le_refl _) ⟨u6, rfl, rfl, (((ms_i e7 (Nat.ne_of_beq_eq_false rfl)).trans ((ms_i e5 (Nat.ne_of_beq_eq_false rfl)).trans (ms_e e2))).trans rfl), (bd_r ((ms_i e7 (Nat.ne_of_beq_eq_false rfl)).trans (ms_e e5)) (bd_r qv3 (bd_min (l := 0) (h := 600) hp0 (bd_c (v := 600) (lo := 600) (hi := 600) (by decide)) (by decide)))), (bd_r (ms_e e7) (bd_c (v := 0) (lo := 0) (hi := 0) (by decide))), E, (fun c k0_ => ((ms_c e7 k0_).trans ((ms_c e5 k0_).trans (ms_c e2 k0_)))), (fun j k0_ k1_ k2_ => ((ms_i e7 k2_).trans ((ms_i e5 k1_).trans (ms_i e2 k0_))))⟩
set_option maxRecDepth 100000 in
noncomputable def Fx_Tk_takeWordX_L5 (u : Nat → Nat → Int32) (g : Nat → Nat → Int64) (n_ : Nat) : (Nat → Nat → Int32) → (Nat → Nat → Int32) := Nat.rec (motive := fun _ => (Nat → Nat → Int32) → (Nat → Nat → Int32)) (fun _ => default) (fun n_ ih_ u12 => if (u 30 1) ≤ (u12 30 2) then (u12) else (xq_lt (u12 2 (u12 30 2).toNatClampNeg) fun v30 => xq_lt (Fx_Tk_isLetterX v30 u12 g) fun t32 => if t32 = true then (xq_lt (ms u12 30 2 ((u12 30 2) + 1)) fun u36 => ih_ u36) else (u12))) n_
set_option maxRecDepth 100000 in
theorem Fx_Tk_takeWordX_L5_s {u : Nat → Nat → Int32} {g : Nat → Nat → Int64} {u12 : Nat → Nat → Int32} {n_ : Nat} : Fx_Tk_takeWordX_L5 u g (n_ + 1) u12 = if (u 30 1) ≤ (u12 30 2) then (u12) else (xq_lt (u12 2 (u12 30 2).toNatClampNeg) fun v30 => xq_lt (Fx_Tk_isLetterX v30 u12 g) fun t32 => if t32 = true then (xq_lt (ms u12 30 2 ((u12 30 2) + 1)) fun u36 => (Fx_Tk_takeWordX_L5 u g n_) u36) else (u12)) := rfl
set_option maxRecDepth 100000 in
noncomputable def Fx_Tk_takeWordX (u : Nat → Nat → Int32) (g : Nat → Nat → Int64) : (Nat → Nat → Int32) := xq_lt (ms u 30 3 1) fun u1 => Fx_Tk_takeWordX_L5 u g ((600 - (u1 30 2).toInt).toNat + 1) u1
set_option maxHeartbeats 4000000 in
set_option maxRecDepth 100000 in
theorem c_Tk_takeWordX {d : Nat} {u : Nat → Nat → Int32} {g : Nat → Nat → Int64} {ex : List MC}  (hd : 1 ≤ d) (hp0 : (u 30 0) = 1) (hp1 : Bd 0 600 (u 30 1)) (hp2 : Bd 0 600 (u 30 2)) : CT con0 d 0 0 yX6_takeWord cX6_takeWord 1 none [.ref 30] (Wd u g ex) (fun r h2 => ∃ (u2 : Nat → Nat → Int32), r = none ∧ h2 = Wd u2 g ex ∧ Bd 0 600 (u2 30 2) ∧ (u2 30 3) = 1 ∧ u2 = Fx_Tk_takeWordX u g ∧ (∀ c, c ≠ 30 → u2 c = u c) ∧ (∀ j, j ≠ 2 → j ≠ 3 → u2 30 j = u 30 j)) := by
  refine CT_of (by decide) (Nat.le_of_ble_eq_true rfl) (fun x hq => ?_)
  show J x yX6_takeWord cX6_takeWord 1 none d 0 0 (Wd u g ex).length 0 [(0, .ref 30)] [] (Wd u g ex) 0 0
  have E : Fx_Tk_takeWordX u g = Fx_Tk_takeWordX u g := rfl
  refine J_aload_n (i := 0) (j := 0) dX6_takeWord_0 rfl rfl ?_
  refine J_iconst (v := 1) dX6_takeWord_1 (by decide) ?_
  obtain ⟨u1, e2⟩ : ∃ z, z = ms u 30 3 1 := ⟨_, rfl⟩
  refine J_put (C := RX6) (T := TX6) (Z := 6) (ci := 6) (f := 3) (ty0 := tyX6) dX6_takeWord_2 inG6 rfl tyX6_ok nmX6 (by decide) k236 rfl rfl wc_30 (Nat.le_of_ble_eq_true rfl) (fun _ _ => ⟨rfl, rfl⟩) (ws e2 wk_30 rfl) ?_
  replace E := xq_le e2 E
  have lp25 : ∀ (n26 : Nat) (u12 : Nat → Nat → Int32), (∀ c, c ≠ 30 → u12 c = u1 c) → (∀ j, j ≠ 2 → u12 30 j = u1 30 j) → Bd 0 600 (u12 30 2) → (600 - (u12 30 2).toInt).toNat < n26 → Fx_Tk_takeWordX_L5 u g n26 u12 = Fx_Tk_takeWordX u g → J x yX6_takeWord cX6_takeWord 1 none d 0 0 (Wd u g ex).length 5 [(0, .ref 30)] [] (Wd u12 g ex) 0 0 := by
    intro n26
    induction n26 with
    | zero => intro u12 fr13 fc14 bm15 hm28 _; exact absurd hm28 (Nat.not_lt_zero _)
    | succ n26 ih27 =>
      intro u12 fr13 fc14 bm15 hm28 E
      replace E := Fx_Tk_takeWordX_L5_s.symm.trans E
      refine J_aload_n (i := 0) (j := 0) dX6_takeWord_5 rfl rfl ?_
      refine J_get (C := RX6) (T := TX6) (Z := 6) (ci := 6) (f := 2) dX6_takeWord_6 inG6 rfl (by decide) k235 wc_30 rfl ?_
      refine J_aload_n (i := 0) (j := 0) dX6_takeWord_9 rfl rfl ?_
      refine J_get (C := RX6) (T := TX6) (Z := 6) (ci := 6) (f := 1) dX6_takeWord_10 inG6 rfl (by decide) k233 wc_30 rfl ?_
      refine J_ci (v := u 30 1) ((fc14 1 (Nat.ne_of_beq_eq_false rfl)).trans (ms_i e2 (Nat.ne_of_beq_eq_false rfl))) ?_
      refine J_icmp_ge (tgt := 44) dX6_takeWord_13 (by decide) (fun c29 => ?_) (fun c29 => ?_)
      · replace E := xq_ep c29 E
        exact J_vret hq dX6_takeWord_44 rfl wlen (Nat.le_refl _) (Nat.le_refl _) ⟨u12, rfl, rfl, bm15, (((fc14 3 (Nat.ne_of_beq_eq_false rfl)).trans (ms_e e2)).trans rfl), E, (fun c k0_ => ((fr13 c k0_).trans (ms_c e2 k0_))), (fun j k2_ k3_ => ((fc14 j k2_).trans (ms_i e2 k3_)))⟩
      · replace E := xq_en c29 E
        refine J_aload_n (i := 0) (j := 0) dX6_takeWord_16 rfl rfl ?_
        refine J_get (C := RX6) (T := TX6) (Z := 6) (ci := 6) (f := 0) dX6_takeWord_17 inG6 rfl (by decide) k232 wc_30 rfl ?_
        refine J_cr (v := 2) (by rw [(((fc14 0 (Nat.ne_of_beq_eq_false rfl)).trans (ms_i e2 (Nat.ne_of_beq_eq_false rfl))).trans hp0)]; rfl) ?_
        refine J_aload_n (i := 0) (j := 0) dX6_takeWord_20 rfl rfl ?_
        refine J_get (C := RX6) (T := TX6) (Z := 6) (ci := 6) (f := 2) dX6_takeWord_21 inG6 rfl (by decide) k235 wc_30 rfl ?_
        refine J_bald dX6_takeWord_24 wc_2 (vin (bd_lt_hi bm15 (i_nle c29) hp1) (by decide)) ?_
        refine J_topi (fun v30 qv30 => ?_)
        replace E := xq_le qv30 E
        refine J_callS (As := [.int v30]) (rest := []) dX6_takeWord_25 (c_Tk_isLetterX (d := 0) (u := u12) (g := g) (ex := ex) (sign := v30)  (by decide) ) hq.n k507 k508 k92 k509 np_X6_isLetter (Nat.le_trans (by decide) hd) (by decide) (Nat.le_refl _) (Nat.le_refl _) wlen rfl (Nat.le_of_ble_eq_true rfl) (fun r_ h_ p31 => ?_)
        obtain ⟨t32, rfl, rfl, h33, hx34⟩ := p31
        replace E := xq_le hx34 E
        refine J_ifB_eq (tgt := 44) dX6_takeWord_28 (by decide) (fun c35 => ?_) (fun c35 => ?_)
        · replace E := xq_ef c35 E
          exact J_vret hq dX6_takeWord_44 rfl wlen (Nat.le_refl _) (Nat.le_refl _) ⟨u12, rfl, rfl, (bd_w (l := 0) (h := 600) (bd_lt_hi bm15 (i_nle c29) hp1) (by decide)), (((fc14 3 (Nat.ne_of_beq_eq_false rfl)).trans (ms_e e2)).trans rfl), E, (fun c k0_ => ((fr13 c k0_).trans (ms_c e2 k0_))), (fun j k2_ k3_ => ((fc14 j k2_).trans (ms_i e2 k3_)))⟩
        · replace E := xq_ep c35 E
          refine J_aload_n (i := 0) (j := 0) dX6_takeWord_31 rfl rfl ?_
          refine J_dup dX6_takeWord_32 rfl ?_
          refine J_get (C := RX6) (T := TX6) (Z := 6) (ci := 6) (f := 2) dX6_takeWord_33 inG6 rfl (by decide) k235 wc_30 rfl ?_
          refine J_iconst (v := 1) dX6_takeWord_36 (by decide) ?_
          refine J_iadd dX6_takeWord_37 ?_
          obtain ⟨u36, e37⟩ : ∃ z, z = ms u12 30 2 ((u12 30 2) + 1) := ⟨_, rfl⟩
          refine J_put (C := RX6) (T := TX6) (Z := 6) (ci := 6) (f := 2) (ty0 := tyX6) dX6_takeWord_38 inG6 rfl tyX6_ok nmX6 (by decide) k235 rfl rfl wc_30 (Nat.le_of_ble_eq_true rfl) (fun _ _ => ⟨rfl, rfl⟩) (ws e37 wk_30 rfl) ?_
          replace E := xq_le e37 E
          refine J_goto (tgt := 5) dX6_takeWord_41 (by decide) ?_
          refine J_lv [0] rfl ?_
          exact ih27 u36 (fun c k0_ => ((ms_c e37 k0_).trans (fr13 c k0_))) (fun j k2_ => ((ms_i e37 k2_).trans (fc14 j k2_))) (bd_r (ms_e e37) (bd_w (l := 0) (h := 600) (bd_add (l := 1) (h := 600) (bd_lt_hi bm15 (i_nle c29) hp1) (bd_c (v := 1) (lo := 1) (hi := 1) (by decide)) (by decide)) (by decide))) (mu_up 1 bm15 (ms_e e37) (by decide) (bd_w (l := 1) (h := 600) (bd_r (ms_e e37) (bd_add (l := 1) (h := 600) (bd_lt_hi bm15 (i_nle c29) hp1) (bd_c (v := 1) (lo := 1) (hi := 1) (by decide)) (by decide))) (by decide)) hm28) E
  refine J_lv [0] rfl ?_
  exact lp25 ((600 - (u1 30 2).toInt).toNat + 1) u1 (fun c k0_ => rfl) (fun j k2_ => rfl) (bd_r (ms_i e2 (Nat.ne_of_beq_eq_false rfl)) hp2) (Nat.lt_succ_self _) E
set_option maxRecDepth 100000 in
noncomputable def Fx_Tk_takeNumberX_J68 (u : Nat → Nat → Int32) (u158 : Nat → Nat → Int32) : (Nat → Nat → Int32) := if ((u158 30 2) - (u 30 4)) ≤ (3 : Int32) then (xq_lt (ms u158 30 3 2) fun u207 => u207) else (xq_lt (ms u158 30 3 4) fun u209 => u209)
set_option maxRecDepth 100000 in
noncomputable def Fx_Tk_takeNumberX_L5 (u : Nat → Nat → Int32) (g : Nat → Nat → Int64) (n_ : Nat) : (Nat → Nat → Int32) → (Nat → Nat → Int32) := Nat.rec (motive := fun _ => (Nat → Nat → Int32) → (Nat → Nat → Int32)) (fun _ => default) (fun n_ ih_ u158 => if (u 30 1) ≤ (u158 30 2) then (Fx_Tk_takeNumberX_J68 u u158) else (xq_lt (u158 2 (u158 30 2).toNatClampNeg) fun v211 => xq_lt (Fx_Tk_isDigitX v211 u158 g) fun t213 => if t213 = true then (xq_lt (ms u158 30 5 (((u158 30 5) * 10) + (v211 - 48))) fun u217 => xq_lt (ms u217 30 2 ((u158 30 2) + 1)) fun u219 => ih_ u219) else (Fx_Tk_takeNumberX_J68 u u158))) n_
set_option maxRecDepth 100000 in
theorem Fx_Tk_takeNumberX_L5_s {u : Nat → Nat → Int32} {g : Nat → Nat → Int64} {u158 : Nat → Nat → Int32} {n_ : Nat} : Fx_Tk_takeNumberX_L5 u g (n_ + 1) u158 = if (u 30 1) ≤ (u158 30 2) then (Fx_Tk_takeNumberX_J68 u u158) else (xq_lt (u158 2 (u158 30 2).toNatClampNeg) fun v211 => xq_lt (Fx_Tk_isDigitX v211 u158 g) fun t213 => if t213 = true then (xq_lt (ms u158 30 5 (((u158 30 5) * 10) + (v211 - 48))) fun u217 => xq_lt (ms u217 30 2 ((u158 30 2) + 1)) fun u219 => (Fx_Tk_takeNumberX_L5 u g n_) u219) else (Fx_Tk_takeNumberX_J68 u u158)) := rfl
set_option maxRecDepth 100000 in
noncomputable def Fx_Tk_takeNumberX (u : Nat → Nat → Int32) (g : Nat → Nat → Int64) : (Nat → Nat → Int32) := xq_lt (ms u 30 5 0) fun u1 => Fx_Tk_takeNumberX_L5 u g ((600 - (u1 30 2).toInt).toNat + 1) u1
set_option maxHeartbeats 4000000 in
set_option maxRecDepth 100000 in
theorem c_Tk_takeNumberX {d : Nat} {u : Nat → Nat → Int32} {g : Nat → Nat → Int64} {ex : List MC}  (hd : 1 ≤ d) (hp0 : (u 30 0) = 1) (hp1 : Bd 0 600 (u 30 1)) (hp2 : Bd 0 600 (u 30 2)) (hp3 : Bd 0 600 (u 30 4)) (hp4 : (u 30 2 = u 30 4)) : CT con0 d 0 0 yX6_takeNumber cX6_takeNumber 1 none [.ref 30] (Wd u g ex) (fun r h2 => ∃ (u2 : Nat → Nat → Int32), r = none ∧ h2 = Wd u2 g ex ∧ Bd 0 600 (u2 30 2) ∧ (NV u2) ∧ u2 = Fx_Tk_takeNumberX u g ∧ (∀ c, c ≠ 30 → u2 c = u c) ∧ (∀ j, j ≠ 2 → j ≠ 3 → j ≠ 5 → u2 30 j = u 30 j)) := by
  refine CT_of (by decide) (Nat.le_of_ble_eq_true rfl) (fun x hq => ?_)
  show J x yX6_takeNumber cX6_takeNumber 1 none d 0 0 (Wd u g ex).length 0 [(0, .ref 30)] [] (Wd u g ex) 0 0
  have E : Fx_Tk_takeNumberX u g = Fx_Tk_takeNumberX u g := rfl
  refine J_aload_n (i := 0) (j := 0) dX6_takeNumber_0 rfl rfl ?_
  refine J_iconst (v := 0) dX6_takeNumber_1 (by decide) ?_
  obtain ⟨u1, e2⟩ : ∃ z, z = ms u 30 5 0 := ⟨_, rfl⟩
  refine J_put (C := RX6) (T := TX6) (Z := 6) (ci := 6) (f := 5) (ty0 := tyX6) dX6_takeNumber_2 inG6 rfl tyX6_ok nmX6 (by decide) k240 rfl rfl wc_30 (Nat.le_of_ble_eq_true rfl) (fun _ _ => ⟨rfl, rfl⟩) (ws e2 wk_30 rfl) ?_
  replace E := xq_le e2 E
  have lp189 : ∀ (n190 : Nat) (u158 : Nat → Nat → Int32), (∀ c, c ≠ 30 → u158 c = u1 c) → (∀ j, j ≠ 2 → j ≠ 5 → u158 30 j = u1 30 j) → Bd 0 600 (u158 30 2) → NVI (u158 30 2) (u 30 4) (u158 30 5) → (600 - (u158 30 2).toInt).toNat < n190 → Fx_Tk_takeNumberX_L5 u g n190 u158 = Fx_Tk_takeNumberX u g → J x yX6_takeNumber cX6_takeNumber 1 none d 0 0 (Wd u g ex).length 5 [(0, .ref 30)] [] (Wd u158 g ex) 0 0 := by
    intro n190
    induction n190 with
    | zero => intro u158 fr159 fc160 bm161 hI193 hm192 _; exact absurd hm192 (Nat.not_lt_zero _)
    | succ n190 ih191 =>
      intro u158 fr159 fc160 bm161 hI193 hm192 E
      replace E := Fx_Tk_takeNumberX_L5_s.symm.trans E
      refine J_aload_n (i := 0) (j := 0) dX6_takeNumber_5 rfl rfl ?_
      refine J_get (C := RX6) (T := TX6) (Z := 6) (ci := 6) (f := 2) dX6_takeNumber_6 inG6 rfl (by decide) k235 wc_30 rfl ?_
      refine J_aload_n (i := 0) (j := 0) dX6_takeNumber_9 rfl rfl ?_
      refine J_get (C := RX6) (T := TX6) (Z := 6) (ci := 6) (f := 1) dX6_takeNumber_10 inG6 rfl (by decide) k233 wc_30 rfl ?_
      refine J_ci (v := u 30 1) ((fc160 1 (Nat.ne_of_beq_eq_false rfl) (Nat.ne_of_beq_eq_false rfl)).trans (ms_i e2 (Nat.ne_of_beq_eq_false rfl))) ?_
      have jn205 : ∀ (_ : Unit), Fx_Tk_takeNumberX_J68 u u158 = Fx_Tk_takeNumberX u g → J x yX6_takeNumber cX6_takeNumber 1 none d 0 0 (Wd u g ex).length 68 [(0, .ref 30)] [] (Wd u158 g ex) 0 0 := by
        intro _ E
        refine J_aload_n (i := 0) (j := 0) dX6_takeNumber_68 rfl rfl ?_
        refine J_aload_n (i := 0) (j := 0) dX6_takeNumber_69 rfl rfl ?_
        refine J_get (C := RX6) (T := TX6) (Z := 6) (ci := 6) (f := 2) dX6_takeNumber_70 inG6 rfl (by decide) k235 wc_30 rfl ?_
        refine J_aload_n (i := 0) (j := 0) dX6_takeNumber_73 rfl rfl ?_
        refine J_get (C := RX6) (T := TX6) (Z := 6) (ci := 6) (f := 4) dX6_takeNumber_74 inG6 rfl (by decide) k238 wc_30 rfl ?_
        refine J_ci (v := u 30 4) ((fc160 4 (Nat.ne_of_beq_eq_false rfl) (Nat.ne_of_beq_eq_false rfl)).trans (ms_i e2 (Nat.ne_of_beq_eq_false rfl))) ?_
        refine J_isub dX6_takeNumber_77 ?_
        refine J_iconst (v := 3) dX6_takeNumber_78 (by decide) ?_
        refine J_icmp_le (tgt := 86) dX6_takeNumber_79 (by decide) (fun c206 => ?_) (fun c206 => ?_)
        · replace E := xq_ep c206 E
          refine J_iconst (v := 2) dX6_takeNumber_86 (by decide) ?_
          obtain ⟨u207, e208⟩ : ∃ z, z = ms u158 30 3 2 := ⟨_, rfl⟩
          refine J_put (C := RX6) (T := TX6) (Z := 6) (ci := 6) (f := 3) (ty0 := tyX6) dX6_takeNumber_87 inG6 rfl tyX6_ok nmX6 (by decide) k236 rfl rfl wc_30 (Nat.le_of_ble_eq_true rfl) (fun _ _ => ⟨rfl, rfl⟩) (ws e208 wk_30 rfl) ?_
          replace E := xq_le e208 E
          exact J_vret hq dX6_takeNumber_90 rfl wlen (Nat.le_refl _) (Nat.le_refl _) ⟨u207, rfl, rfl, (bd_r (ms_i e208 (Nat.ne_of_beq_eq_false rfl)) bm161), (fun _ => (bd_r (ms_i e208 (Nat.ne_of_beq_eq_false rfl)) (nvi_e hI193 bm161 hp3 c206))), E, (fun c k0_ => ((ms_c e208 k0_).trans ((fr159 c k0_).trans (ms_c e2 k0_)))), (fun j k2_ k3_ k5_ => ((ms_i e208 k3_).trans ((fc160 j k2_ k5_).trans (ms_i e2 k5_))))⟩
        · replace E := xq_en c206 E
          refine J_iconst (v := 4) dX6_takeNumber_82 (by decide) ?_
          refine J_goto (tgt := 87) dX6_takeNumber_83 (by decide) ?_
          obtain ⟨u209, e210⟩ : ∃ z, z = ms u158 30 3 4 := ⟨_, rfl⟩
          refine J_put (C := RX6) (T := TX6) (Z := 6) (ci := 6) (f := 3) (ty0 := tyX6) dX6_takeNumber_87 inG6 rfl tyX6_ok nmX6 (by decide) k236 rfl rfl wc_30 (Nat.le_of_ble_eq_true rfl) (fun _ _ => ⟨rfl, rfl⟩) (ws e210 wk_30 rfl) ?_
          replace E := xq_le e210 E
          exact J_vret hq dX6_takeNumber_90 rfl wlen (Nat.le_refl _) (Nat.le_refl _) ⟨u209, rfl, rfl, (bd_r (ms_i e210 (Nat.ne_of_beq_eq_false rfl)) bm161), (fun q => absurd ((ms_e e210).symm.trans q) (by decide)), E, (fun c k0_ => ((ms_c e210 k0_).trans ((fr159 c k0_).trans (ms_c e2 k0_)))), (fun j k2_ k3_ k5_ => ((ms_i e210 k3_).trans ((fc160 j k2_ k5_).trans (ms_i e2 k5_))))⟩
      refine J_icmp_ge (tgt := 68) dX6_takeNumber_13 (by decide) (fun c194 => ?_) (fun c194 => ?_)
      · replace E := xq_ep c194 E
        refine J_lv [0] rfl ?_
        exact jn205 ()  E
      · replace E := xq_en c194 E
        refine J_aload_n (i := 0) (j := 0) dX6_takeNumber_16 rfl rfl ?_
        refine J_get (C := RX6) (T := TX6) (Z := 6) (ci := 6) (f := 0) dX6_takeNumber_17 inG6 rfl (by decide) k232 wc_30 rfl ?_
        refine J_cr (v := 2) (by rw [(((fc160 0 (Nat.ne_of_beq_eq_false rfl) (Nat.ne_of_beq_eq_false rfl)).trans (ms_i e2 (Nat.ne_of_beq_eq_false rfl))).trans hp0)]; rfl) ?_
        refine J_aload_n (i := 0) (j := 0) dX6_takeNumber_20 rfl rfl ?_
        refine J_get (C := RX6) (T := TX6) (Z := 6) (ci := 6) (f := 2) dX6_takeNumber_21 inG6 rfl (by decide) k235 wc_30 rfl ?_
        refine J_bald dX6_takeNumber_24 wc_2 (vin (bd_lt_hi bm161 (i_nle c194) hp1) (by decide)) ?_
        refine J_topi (fun v211 qv211 => ?_)
        replace E := xq_le qv211 E
        refine J_callS (As := [.int v211]) (rest := []) dX6_takeNumber_25 (c_Tk_isDigitX (d := 0) (u := u158) (g := g) (ex := ex) (sign := v211)  (by decide) ) hq.n k514 k515 k92 k516 np_X6_isDigit (Nat.le_trans (by decide) hd) (by decide) (Nat.le_refl _) (Nat.le_refl _) wlen rfl (Nat.le_of_ble_eq_true rfl) (fun r_ h_ p212 => ?_)
        obtain ⟨t213, rfl, rfl, h214, hx215⟩ := p212
        replace E := xq_le hx215 E
        refine J_ifB_eq (tgt := 68) dX6_takeNumber_28 (by decide) (fun c216 => ?_) (fun c216 => ?_)
        · replace E := xq_ef c216 E
          refine J_lv [0] rfl ?_
          exact jn205 ()  E
        · replace E := xq_ep c216 E
          refine J_aload_n (i := 0) (j := 0) dX6_takeNumber_31 rfl rfl ?_
          refine J_aload_n (i := 0) (j := 0) dX6_takeNumber_32 rfl rfl ?_
          refine J_get (C := RX6) (T := TX6) (Z := 6) (ci := 6) (f := 5) dX6_takeNumber_33 inG6 rfl (by decide) k240 wc_30 rfl ?_
          refine J_bipush (v := 10) dX6_takeNumber_36 (by decide) ?_
          refine J_imul dX6_takeNumber_38 ?_
          refine J_aload_n (i := 0) (j := 0) dX6_takeNumber_39 rfl rfl ?_
          refine J_get (C := RX6) (T := TX6) (Z := 6) (ci := 6) (f := 0) dX6_takeNumber_40 inG6 rfl (by decide) k232 wc_30 rfl ?_
          refine J_cr (v := 2) (by rw [(((fc160 0 (Nat.ne_of_beq_eq_false rfl) (Nat.ne_of_beq_eq_false rfl)).trans (ms_i e2 (Nat.ne_of_beq_eq_false rfl))).trans hp0)]; rfl) ?_
          refine J_aload_n (i := 0) (j := 0) dX6_takeNumber_43 rfl rfl ?_
          refine J_get (C := RX6) (T := TX6) (Z := 6) (ci := 6) (f := 2) dX6_takeNumber_44 inG6 rfl (by decide) k235 wc_30 rfl ?_
          refine J_bald dX6_takeNumber_47 wc_2 (vin (bd_lt_hi bm161 (i_nle c194) hp1) (by decide)) ?_
          refine J_ci (v := v211) qv211.symm ?_
          refine J_bipush (v := 48) dX6_takeNumber_48 (by decide) ?_
          refine J_isub dX6_takeNumber_50 ?_
          refine J_iadd dX6_takeNumber_51 ?_
          obtain ⟨u217, e218⟩ : ∃ z, z = ms u158 30 5 (((u158 30 5) * 10) + (v211 - 48)) := ⟨_, rfl⟩
          refine J_put (C := RX6) (T := TX6) (Z := 6) (ci := 6) (f := 5) (ty0 := tyX6) dX6_takeNumber_52 inG6 rfl tyX6_ok nmX6 (by decide) k240 rfl rfl wc_30 (Nat.le_of_ble_eq_true rfl) (fun _ _ => ⟨rfl, rfl⟩) (ws e218 wk_30 rfl) ?_
          replace E := xq_le e218 E
          refine J_aload_n (i := 0) (j := 0) dX6_takeNumber_55 rfl rfl ?_
          refine J_dup dX6_takeNumber_56 rfl ?_
          refine J_get (C := RX6) (T := TX6) (Z := 6) (ci := 6) (f := 2) dX6_takeNumber_57 inG6 rfl (by decide) k235 wc_30 rfl ?_
          refine J_ci (v := u158 30 2) (ms_i e218 (Nat.ne_of_beq_eq_false rfl)) ?_
          refine J_iconst (v := 1) dX6_takeNumber_60 (by decide) ?_
          refine J_iadd dX6_takeNumber_61 ?_
          obtain ⟨u219, e220⟩ : ∃ z, z = ms u217 30 2 ((u158 30 2) + 1) := ⟨_, rfl⟩
          refine J_put (C := RX6) (T := TX6) (Z := 6) (ci := 6) (f := 2) (ty0 := tyX6) dX6_takeNumber_62 inG6 rfl tyX6_ok nmX6 (by decide) k235 rfl rfl wc_30 (Nat.le_of_ble_eq_true rfl) (fun _ _ => ⟨rfl, rfl⟩) (ws e220 wk_30 rfl) ?_
          replace E := xq_le e220 E
          refine J_goto (tgt := 5) dX6_takeNumber_65 (by decide) ?_
          refine J_lv [0] rfl ?_
          exact ih191 u219 (fun c k0_ => ((ms_c e220 k0_).trans ((ms_c e218 k0_).trans (fr159 c k0_)))) (fun j k2_ k5_ => ((ms_i e220 k2_).trans ((ms_i e218 k5_).trans (fc160 j k2_ k5_)))) (bd_r (ms_e e220) (bd_w (l := 0) (h := 600) (bd_add (l := 1) (h := 600) (bd_lt_hi bm161 (i_nle c194) hp1) (bd_c (v := 1) (lo := 1) (hi := 1) (by decide)) (by decide)) (by decide))) (nvi_r (ms_e e220) rfl ((ms_i e220 (Nat.ne_of_beq_eq_false rfl)).trans (ms_e e218)) (nvi_s hI193 (bd_lt_hi bm161 (i_nle c194) hp1) (h214 c216))) (mu_up 1 bm161 (ms_e e220) (by decide) (bd_w (l := 1) (h := 600) (bd_r (ms_e e220) (bd_add (l := 1) (h := 600) (bd_lt_hi bm161 (i_nle c194) hp1) (bd_c (v := 1) (lo := 1) (hi := 1) (by decide)) (by decide))) (by decide)) hm192) E
  refine J_lv [0] rfl ?_
  exact lp189 ((600 - (u1 30 2).toInt).toNat + 1) u1 (fun c k0_ => rfl) (fun j k2_ k5_ => rfl) (bd_r (ms_i e2 (Nat.ne_of_beq_eq_false rfl)) hp2) (nvi_r (ms_i e2 (Nat.ne_of_beq_eq_false rfl)) rfl (ms_e e2) (nvi_0 hp4 rfl)) (Nat.lt_succ_self _) E
set_option maxRecDepth 100000 in
noncomputable def Fx_Tk_advanceX_L0 (u : Nat → Nat → Int32) (g : Nat → Nat → Int64) (n_ : Nat) : (Nat → Nat → Int32) → (Nat → Nat → Int32) := Nat.rec (motive := fun _ => (Nat → Nat → Int32) → (Nat → Nat → Int32)) (fun _ => default) (fun n_ ih_ u51 => if (u 30 1) ≤ (u51 30 2) then (xq_lt (ms u51 30 4 (u51 30 2)) fun u110 => if (u51 30 2) < (u 30 1) then (default) else (xq_lt (ms u110 30 3 0) fun u113 => u113)) else (xq_lt (u51 2 (u51 30 2).toNatClampNeg) fun v115 => xq_lt (Fx_Tk_isBlankX v115 u51 g) fun t117 => if t117 = true then (xq_lt (ms u51 30 2 ((u51 30 2) + 1)) fun u157 => ih_ u157) else (xq_lt (ms u51 30 4 (u51 30 2)) fun u120 => if (u51 30 2) < (u 30 1) then (xq_lt (u120 2 (u51 30 2).toNatClampNeg) fun v123 => xq_lt (Fx_Tk_isLetterX v123 u120 g) fun t125 => if t125 = true then (xq_lt (Fx_Tk_takeWordX u120 g) fun u151 => u151) else (xq_lt (Fx_Tk_isDigitX v123 u120 g) fun t130 => if t130 = true then (xq_lt (Fx_Tk_takeNumberX u120 g) fun u144 => u144) else (if v123 = (59 : Int32) then (xq_lt (ms u120 30 3 3) fun u139 => xq_lt (ms u139 30 2 ((u51 30 2) + 1)) fun u141 => u141) else (xq_lt (ms u120 30 3 4) fun u135 => xq_lt (ms u135 30 2 ((u51 30 2) + 1)) fun u137 => u137)))) else (default)))) n_
set_option maxRecDepth 100000 in
theorem Fx_Tk_advanceX_L0_s {u : Nat → Nat → Int32} {g : Nat → Nat → Int64} {u51 : Nat → Nat → Int32} {n_ : Nat} : Fx_Tk_advanceX_L0 u g (n_ + 1) u51 = if (u 30 1) ≤ (u51 30 2) then (xq_lt (ms u51 30 4 (u51 30 2)) fun u110 => if (u51 30 2) < (u 30 1) then (default) else (xq_lt (ms u110 30 3 0) fun u113 => u113)) else (xq_lt (u51 2 (u51 30 2).toNatClampNeg) fun v115 => xq_lt (Fx_Tk_isBlankX v115 u51 g) fun t117 => if t117 = true then (xq_lt (ms u51 30 2 ((u51 30 2) + 1)) fun u157 => (Fx_Tk_advanceX_L0 u g n_) u157) else (xq_lt (ms u51 30 4 (u51 30 2)) fun u120 => if (u51 30 2) < (u 30 1) then (xq_lt (u120 2 (u51 30 2).toNatClampNeg) fun v123 => xq_lt (Fx_Tk_isLetterX v123 u120 g) fun t125 => if t125 = true then (xq_lt (Fx_Tk_takeWordX u120 g) fun u151 => u151) else (xq_lt (Fx_Tk_isDigitX v123 u120 g) fun t130 => if t130 = true then (xq_lt (Fx_Tk_takeNumberX u120 g) fun u144 => u144) else (if v123 = (59 : Int32) then (xq_lt (ms u120 30 3 3) fun u139 => xq_lt (ms u139 30 2 ((u51 30 2) + 1)) fun u141 => u141) else (xq_lt (ms u120 30 3 4) fun u135 => xq_lt (ms u135 30 2 ((u51 30 2) + 1)) fun u137 => u137)))) else (default))) := rfl
set_option maxRecDepth 100000 in
noncomputable def Fx_Tk_advanceX (u : Nat → Nat → Int32) (g : Nat → Nat → Int64) : (Nat → Nat → Int32) := Fx_Tk_advanceX_L0 u g ((600 - (u 30 2).toInt).toNat + 1) u
set_option maxHeartbeats 4000000 in
set_option maxRecDepth 100000 in
theorem c_Tk_advanceX {d : Nat} {u : Nat → Nat → Int32} {g : Nat → Nat → Int64} {ex : List MC}  (hd : 2 ≤ d) (hp0 : (u 30 0) = 1) (hp1 : Bd 0 600 (u 30 1)) (hp2 : Bd 0 600 (u 30 2)) : CT con0 d 0 0 yX6_advance cX6_advance 1 none [.ref 30] (Wd u g ex) (fun r h2 => ∃ (u2 : Nat → Nat → Int32), r = none ∧ h2 = Wd u2 g ex ∧ Bd 0 600 (u2 30 2) ∧ Bd 0 600 (u2 30 4) ∧ (NV u2) ∧ u2 = Fx_Tk_advanceX u g ∧ (∀ c, c ≠ 30 → u2 c = u c) ∧ (∀ j, j ≠ 2 → j ≠ 3 → j ≠ 4 → j ≠ 5 → u2 30 j = u 30 j)) := by
  refine CT_of (by decide) (Nat.le_of_ble_eq_true rfl) (fun x hq => ?_)
  show J x yX6_advance cX6_advance 1 none d 0 0 (Wd u g ex).length 0 [(0, .ref 30)] [] (Wd u g ex) 0 0
  have E : Fx_Tk_advanceX u g = Fx_Tk_advanceX u g := rfl
  have lp105 : ∀ (n106 : Nat) (u51 : Nat → Nat → Int32), (∀ c, c ≠ 30 → u51 c = u c) → (∀ j, j ≠ 2 → u51 30 j = u 30 j) → Bd 0 600 (u51 30 2) → (600 - (u51 30 2).toInt).toNat < n106 → Fx_Tk_advanceX_L0 u g n106 u51 = Fx_Tk_advanceX u g → J x yX6_advance cX6_advance 1 none d 0 0 (Wd u g ex).length 0 [(0, .ref 30)] [] (Wd u51 g ex) 0 0 := by
    intro n106
    induction n106 with
    | zero => intro u51 fr52 fc53 bm54 hm108 _; exact absurd hm108 (Nat.not_lt_zero _)
    | succ n106 ih107 =>
      intro u51 fr52 fc53 bm54 hm108 E
      replace E := Fx_Tk_advanceX_L0_s.symm.trans E
      refine J_aload_n (i := 0) (j := 0) dX6_advance_0 rfl rfl ?_
      refine J_get (C := RX6) (T := TX6) (Z := 6) (ci := 6) (f := 2) dX6_advance_1 inG6 rfl (by decide) k235 wc_30 rfl ?_
      refine J_aload_n (i := 0) (j := 0) dX6_advance_4 rfl rfl ?_
      refine J_get (C := RX6) (T := TX6) (Z := 6) (ci := 6) (f := 1) dX6_advance_5 inG6 rfl (by decide) k233 wc_30 rfl ?_
      refine J_ci (v := u 30 1) (fc53 1 (Nat.ne_of_beq_eq_false rfl)) ?_
      refine J_icmp_ge (tgt := 39) dX6_advance_8 (by decide) (fun c109 => ?_) (fun c109 => ?_)
      · replace E := xq_ep c109 E
        refine J_aload_n (i := 0) (j := 0) dX6_advance_39 rfl rfl ?_
        refine J_aload_n (i := 0) (j := 0) dX6_advance_40 rfl rfl ?_
        refine J_get (C := RX6) (T := TX6) (Z := 6) (ci := 6) (f := 2) dX6_advance_41 inG6 rfl (by decide) k235 wc_30 rfl ?_
        obtain ⟨u110, e111⟩ : ∃ z, z = ms u51 30 4 (u51 30 2) := ⟨_, rfl⟩
        refine J_put (C := RX6) (T := TX6) (Z := 6) (ci := 6) (f := 4) (ty0 := tyX6) dX6_advance_44 inG6 rfl tyX6_ok nmX6 (by decide) k238 rfl rfl wc_30 (Nat.le_of_ble_eq_true rfl) (fun _ _ => ⟨rfl, rfl⟩) (ws e111 wk_30 rfl) ?_
        replace E := xq_le e111 E
        refine J_aload_n (i := 0) (j := 0) dX6_advance_47 rfl rfl ?_
        refine J_get (C := RX6) (T := TX6) (Z := 6) (ci := 6) (f := 4) dX6_advance_48 inG6 rfl (by decide) k238 wc_30 rfl ?_
        refine J_ci (v := u51 30 2) (ms_e e111) ?_
        refine J_aload_n (i := 0) (j := 0) dX6_advance_51 rfl rfl ?_
        refine J_get (C := RX6) (T := TX6) (Z := 6) (ci := 6) (f := 1) dX6_advance_52 inG6 rfl (by decide) k233 wc_30 rfl ?_
        refine J_ci (v := u 30 1) ((ms_i e111 (Nat.ne_of_beq_eq_false rfl)).trans (fc53 1 (Nat.ne_of_beq_eq_false rfl))) ?_
        refine J_icmp_lt (tgt := 66) dX6_advance_55 (by decide) (fun c112 => ?_) (fun c112 => ?_)
        · exact (lt_le_no c112 c109).elim
        · replace E := xq_en c112 E
          refine J_aload_n (i := 0) (j := 0) dX6_advance_58 rfl rfl ?_
          refine J_iconst (v := 0) dX6_advance_59 (by decide) ?_
          obtain ⟨u113, e114⟩ : ∃ z, z = ms u110 30 3 0 := ⟨_, rfl⟩
          refine J_put (C := RX6) (T := TX6) (Z := 6) (ci := 6) (f := 3) (ty0 := tyX6) dX6_advance_60 inG6 rfl tyX6_ok nmX6 (by decide) k236 rfl rfl wc_30 (Nat.le_of_ble_eq_true rfl) (fun _ _ => ⟨rfl, rfl⟩) (ws e114 wk_30 rfl) ?_
          replace E := xq_le e114 E
          refine J_goto (tgt := 143) dX6_advance_63 (by decide) ?_
          exact J_vret hq dX6_advance_143 rfl wlen (Nat.le_refl _) (Nat.le_refl _) ⟨u113, rfl, rfl, (bd_r ((ms_i e114 (Nat.ne_of_beq_eq_false rfl)).trans (ms_i e111 (Nat.ne_of_beq_eq_false rfl))) bm54), (bd_r ((ms_i e114 (Nat.ne_of_beq_eq_false rfl)).trans (ms_e e111)) bm54), (fun q => absurd ((ms_e e114).symm.trans q) (by decide)), E, (fun c k0_ => ((ms_c e114 k0_).trans ((ms_c e111 k0_).trans (fr52 c k0_)))), (fun j k2_ k3_ k4_ k5_ => ((ms_i e114 k3_).trans ((ms_i e111 k4_).trans (fc53 j k2_))))⟩
      · replace E := xq_en c109 E
        refine J_aload_n (i := 0) (j := 0) dX6_advance_11 rfl rfl ?_
        refine J_get (C := RX6) (T := TX6) (Z := 6) (ci := 6) (f := 0) dX6_advance_12 inG6 rfl (by decide) k232 wc_30 rfl ?_
        refine J_cr (v := 2) (by rw [((fc53 0 (Nat.ne_of_beq_eq_false rfl)).trans hp0)]; rfl) ?_
        refine J_aload_n (i := 0) (j := 0) dX6_advance_15 rfl rfl ?_
        refine J_get (C := RX6) (T := TX6) (Z := 6) (ci := 6) (f := 2) dX6_advance_16 inG6 rfl (by decide) k235 wc_30 rfl ?_
        refine J_bald dX6_advance_19 wc_2 (vin (bd_lt_hi bm54 (i_nle c109) hp1) (by decide)) ?_
        refine J_topi (fun v115 qv115 => ?_)
        replace E := xq_le qv115 E
        refine J_callS (As := [.int v115]) (rest := []) dX6_advance_20 (c_Tk_isBlankX (d := 0) (u := u51) (g := g) (ex := ex) (sign := v115)  (by decide) ) hq.n k504 k505 k92 k506 np_X6_isBlank (Nat.le_trans (by decide) hd) (by decide) (Nat.le_refl _) (Nat.le_refl _) wlen rfl (Nat.le_of_ble_eq_true rfl) (fun r_ h_ p116 => ?_)
        obtain ⟨t117, rfl, rfl, hx118⟩ := p116
        replace E := xq_le hx118 E
        refine J_ifB_eq (tgt := 39) dX6_advance_23 (by decide) (fun c119 => ?_) (fun c119 => ?_)
        · replace E := xq_ef c119 E
          refine J_aload_n (i := 0) (j := 0) dX6_advance_39 rfl rfl ?_
          refine J_aload_n (i := 0) (j := 0) dX6_advance_40 rfl rfl ?_
          refine J_get (C := RX6) (T := TX6) (Z := 6) (ci := 6) (f := 2) dX6_advance_41 inG6 rfl (by decide) k235 wc_30 rfl ?_
          obtain ⟨u120, e121⟩ : ∃ z, z = ms u51 30 4 (u51 30 2) := ⟨_, rfl⟩
          refine J_put (C := RX6) (T := TX6) (Z := 6) (ci := 6) (f := 4) (ty0 := tyX6) dX6_advance_44 inG6 rfl tyX6_ok nmX6 (by decide) k238 rfl rfl wc_30 (Nat.le_of_ble_eq_true rfl) (fun _ _ => ⟨rfl, rfl⟩) (ws e121 wk_30 rfl) ?_
          replace E := xq_le e121 E
          refine J_aload_n (i := 0) (j := 0) dX6_advance_47 rfl rfl ?_
          refine J_get (C := RX6) (T := TX6) (Z := 6) (ci := 6) (f := 4) dX6_advance_48 inG6 rfl (by decide) k238 wc_30 rfl ?_
          refine J_ci (v := u51 30 2) (ms_e e121) ?_
          refine J_aload_n (i := 0) (j := 0) dX6_advance_51 rfl rfl ?_
          refine J_get (C := RX6) (T := TX6) (Z := 6) (ci := 6) (f := 1) dX6_advance_52 inG6 rfl (by decide) k233 wc_30 rfl ?_
          refine J_ci (v := u 30 1) ((ms_i e121 (Nat.ne_of_beq_eq_false rfl)).trans (fc53 1 (Nat.ne_of_beq_eq_false rfl))) ?_
          refine J_icmp_lt (tgt := 66) dX6_advance_55 (by decide) (fun c122 => ?_) (fun c122 => ?_)
          · replace E := xq_ep c122 E
            refine J_aload_n (i := 0) (j := 0) dX6_advance_66 rfl rfl ?_
            refine J_get (C := RX6) (T := TX6) (Z := 6) (ci := 6) (f := 0) dX6_advance_67 inG6 rfl (by decide) k232 wc_30 rfl ?_
            refine J_cr (v := 2) (by rw [(((ms_i e121 (Nat.ne_of_beq_eq_false rfl)).trans (fc53 0 (Nat.ne_of_beq_eq_false rfl))).trans hp0)]; rfl) ?_
            refine J_aload_n (i := 0) (j := 0) dX6_advance_70 rfl rfl ?_
            refine J_get (C := RX6) (T := TX6) (Z := 6) (ci := 6) (f := 4) dX6_advance_71 inG6 rfl (by decide) k238 wc_30 rfl ?_
            refine J_ci (v := u51 30 2) (ms_e e121) ?_
            refine J_bald dX6_advance_74 wc_2 (vin (bd_lt_hi bm54 (i_nle c109) (bd_lt_lo hp1 c122 bm54)) (by decide)) ?_
            refine J_topi (fun v123 qv123 => ?_)
            replace E := xq_le qv123 E
            refine J_callS (As := [.int v123]) (rest := []) dX6_advance_75 (c_Tk_isLetterX (d := 0) (u := u120) (g := g) (ex := ex) (sign := v123)  (by decide) ) hq.n k507 k508 k92 k509 np_X6_isLetter (Nat.le_trans (by decide) hd) (by decide) (Nat.le_refl _) (Nat.le_refl _) wlen rfl (Nat.le_of_ble_eq_true rfl) (fun r_ h_ p124 => ?_)
            obtain ⟨t125, rfl, rfl, h126, hx127⟩ := p124
            replace E := xq_le hx127 E
            refine J_ifB_eq (tgt := 88) dX6_advance_78 (by decide) (fun c128 => ?_) (fun c128 => ?_)
            · replace E := xq_ef c128 E
              refine J_aload_n (i := 0) (j := 0) dX6_advance_88 rfl rfl ?_
              refine J_get (C := RX6) (T := TX6) (Z := 6) (ci := 6) (f := 0) dX6_advance_89 inG6 rfl (by decide) k232 wc_30 rfl ?_
              refine J_cr (v := 2) (by rw [(((ms_i e121 (Nat.ne_of_beq_eq_false rfl)).trans (fc53 0 (Nat.ne_of_beq_eq_false rfl))).trans hp0)]; rfl) ?_
              refine J_aload_n (i := 0) (j := 0) dX6_advance_92 rfl rfl ?_
              refine J_get (C := RX6) (T := TX6) (Z := 6) (ci := 6) (f := 4) dX6_advance_93 inG6 rfl (by decide) k238 wc_30 rfl ?_
              refine J_ci (v := u51 30 2) (ms_e e121) ?_
              refine J_bald dX6_advance_96 wc_2 (vin (bd_lt_hi bm54 (i_nle c109) (bd_lt_lo hp1 c122 bm54)) (by decide)) ?_
              refine J_ci (v := v123) qv123.symm ?_
              refine J_callS (As := [.int v123]) (rest := []) dX6_advance_97 (c_Tk_isDigitX (d := 0) (u := u120) (g := g) (ex := ex) (sign := v123)  (by decide) ) hq.n k514 k515 k92 k516 np_X6_isDigit (Nat.le_trans (by decide) hd) (by decide) (Nat.le_refl _) (Nat.le_refl _) wlen rfl (Nat.le_of_ble_eq_true rfl) (fun r_ h_ p129 => ?_)
              obtain ⟨t130, rfl, rfl, h131, hx132⟩ := p129
              replace E := xq_le hx132 E
              refine J_ifB_eq (tgt := 110) dX6_advance_100 (by decide) (fun c133 => ?_) (fun c133 => ?_)
              · replace E := xq_ef c133 E
                refine J_aload_n (i := 0) (j := 0) dX6_advance_110 rfl rfl ?_
                refine J_aload_n (i := 0) (j := 0) dX6_advance_111 rfl rfl ?_
                refine J_get (C := RX6) (T := TX6) (Z := 6) (ci := 6) (f := 0) dX6_advance_112 inG6 rfl (by decide) k232 wc_30 rfl ?_
                refine J_cr (v := 2) (by rw [(((ms_i e121 (Nat.ne_of_beq_eq_false rfl)).trans (fc53 0 (Nat.ne_of_beq_eq_false rfl))).trans hp0)]; rfl) ?_
                refine J_aload_n (i := 0) (j := 0) dX6_advance_115 rfl rfl ?_
                refine J_get (C := RX6) (T := TX6) (Z := 6) (ci := 6) (f := 4) dX6_advance_116 inG6 rfl (by decide) k238 wc_30 rfl ?_
                refine J_ci (v := u51 30 2) (ms_e e121) ?_
                refine J_bald dX6_advance_119 wc_2 (vin (bd_lt_hi bm54 (i_nle c109) (bd_lt_lo hp1 c122 bm54)) (by decide)) ?_
                refine J_ci (v := v123) qv123.symm ?_
                refine J_bipush (v := 59) dX6_advance_120 (by decide) ?_
                refine J_icmp_ne (tgt := 129) dX6_advance_122 (by decide) (fun c134 => ?_) (fun c134 => ?_)
                · replace E := xq_en c134 E
                  refine J_iconst (v := 4) dX6_advance_129 (by decide) ?_
                  obtain ⟨u135, e136⟩ : ∃ z, z = ms u120 30 3 4 := ⟨_, rfl⟩
                  refine J_put (C := RX6) (T := TX6) (Z := 6) (ci := 6) (f := 3) (ty0 := tyX6) dX6_advance_130 inG6 rfl tyX6_ok nmX6 (by decide) k236 rfl rfl wc_30 (Nat.le_of_ble_eq_true rfl) (fun _ _ => ⟨rfl, rfl⟩) (ws e136 wk_30 rfl) ?_
                  replace E := xq_le e136 E
                  refine J_aload_n (i := 0) (j := 0) dX6_advance_133 rfl rfl ?_
                  refine J_dup dX6_advance_134 rfl ?_
                  refine J_get (C := RX6) (T := TX6) (Z := 6) (ci := 6) (f := 2) dX6_advance_135 inG6 rfl (by decide) k235 wc_30 rfl ?_
                  refine J_ci (v := u51 30 2) ((ms_i e136 (Nat.ne_of_beq_eq_false rfl)).trans (ms_i e121 (Nat.ne_of_beq_eq_false rfl))) ?_
                  refine J_iconst (v := 1) dX6_advance_138 (by decide) ?_
                  refine J_iadd dX6_advance_139 ?_
                  obtain ⟨u137, e138⟩ : ∃ z, z = ms u135 30 2 ((u51 30 2) + 1) := ⟨_, rfl⟩
                  refine J_put (C := RX6) (T := TX6) (Z := 6) (ci := 6) (f := 2) (ty0 := tyX6) dX6_advance_140 inG6 rfl tyX6_ok nmX6 (by decide) k235 rfl rfl wc_30 (Nat.le_of_ble_eq_true rfl) (fun _ _ => ⟨rfl, rfl⟩) (ws e138 wk_30 rfl) ?_
                  replace E := xq_le e138 E
                  exact J_vret hq dX6_advance_143 rfl wlen (Nat.le_refl _) (Nat.le_refl _) ⟨u137, rfl, rfl, (bd_r (ms_e e138) (bd_w (l := 0) (h := 600) (bd_add (l := 1) (h := 600) (bd_lt_hi bm54 (i_nle c109) (bd_lt_lo hp1 c122 bm54)) (bd_c (v := 1) (lo := 1) (hi := 1) (by decide)) (by decide)) (by decide))), (bd_r ((ms_i e138 (Nat.ne_of_beq_eq_false rfl)).trans ((ms_i e136 (Nat.ne_of_beq_eq_false rfl)).trans (ms_e e121))) (bd_w (l := 0) (h := 600) (bd_lt_hi bm54 (i_nle c109) (bd_lt_lo hp1 c122 bm54)) (by decide))), (fun q => absurd (((ms_i e138 (Nat.ne_of_beq_eq_false rfl)).trans (ms_e e136)).symm.trans q) (by decide)), E, (fun c k0_ => ((ms_c e138 k0_).trans ((ms_c e136 k0_).trans ((ms_c e121 k0_).trans (fr52 c k0_))))), (fun j k2_ k3_ k4_ k5_ => ((ms_i e138 k2_).trans ((ms_i e136 k3_).trans ((ms_i e121 k4_).trans (fc53 j k2_)))))⟩
                · replace E := xq_ep c134 E
                  refine J_iconst (v := 3) dX6_advance_125 (by decide) ?_
                  refine J_goto (tgt := 130) dX6_advance_126 (by decide) ?_
                  obtain ⟨u139, e140⟩ : ∃ z, z = ms u120 30 3 3 := ⟨_, rfl⟩
                  refine J_put (C := RX6) (T := TX6) (Z := 6) (ci := 6) (f := 3) (ty0 := tyX6) dX6_advance_130 inG6 rfl tyX6_ok nmX6 (by decide) k236 rfl rfl wc_30 (Nat.le_of_ble_eq_true rfl) (fun _ _ => ⟨rfl, rfl⟩) (ws e140 wk_30 rfl) ?_
                  replace E := xq_le e140 E
                  refine J_aload_n (i := 0) (j := 0) dX6_advance_133 rfl rfl ?_
                  refine J_dup dX6_advance_134 rfl ?_
                  refine J_get (C := RX6) (T := TX6) (Z := 6) (ci := 6) (f := 2) dX6_advance_135 inG6 rfl (by decide) k235 wc_30 rfl ?_
                  refine J_ci (v := u51 30 2) ((ms_i e140 (Nat.ne_of_beq_eq_false rfl)).trans (ms_i e121 (Nat.ne_of_beq_eq_false rfl))) ?_
                  refine J_iconst (v := 1) dX6_advance_138 (by decide) ?_
                  refine J_iadd dX6_advance_139 ?_
                  obtain ⟨u141, e142⟩ : ∃ z, z = ms u139 30 2 ((u51 30 2) + 1) := ⟨_, rfl⟩
                  refine J_put (C := RX6) (T := TX6) (Z := 6) (ci := 6) (f := 2) (ty0 := tyX6) dX6_advance_140 inG6 rfl tyX6_ok nmX6 (by decide) k235 rfl rfl wc_30 (Nat.le_of_ble_eq_true rfl) (fun _ _ => ⟨rfl, rfl⟩) (ws e142 wk_30 rfl) ?_
                  replace E := xq_le e142 E
                  exact J_vret hq dX6_advance_143 rfl wlen (Nat.le_refl _) (Nat.le_refl _) ⟨u141, rfl, rfl, (bd_r (ms_e e142) (bd_w (l := 0) (h := 600) (bd_add (l := 1) (h := 600) (bd_lt_hi bm54 (i_nle c109) (bd_lt_lo hp1 c122 bm54)) (bd_c (v := 1) (lo := 1) (hi := 1) (by decide)) (by decide)) (by decide))), (bd_r ((ms_i e142 (Nat.ne_of_beq_eq_false rfl)).trans ((ms_i e140 (Nat.ne_of_beq_eq_false rfl)).trans (ms_e e121))) (bd_w (l := 0) (h := 600) (bd_lt_hi bm54 (i_nle c109) (bd_lt_lo hp1 c122 bm54)) (by decide))), (fun q => absurd (((ms_i e142 (Nat.ne_of_beq_eq_false rfl)).trans (ms_e e140)).symm.trans q) (by decide)), E, (fun c k0_ => ((ms_c e142 k0_).trans ((ms_c e140 k0_).trans ((ms_c e121 k0_).trans (fr52 c k0_))))), (fun j k2_ k3_ k4_ k5_ => ((ms_i e142 k2_).trans ((ms_i e140 k3_).trans ((ms_i e121 k4_).trans (fc53 j k2_)))))⟩
              · replace E := xq_ep c133 E
                refine J_aload_n (i := 0) (j := 0) dX6_advance_103 rfl rfl ?_
                refine J_callV (As := []) (rest := []) dX6_advance_104 (c_Tk_takeNumberX (d := 1) (u := u120) (g := g) (ex := ex)   (by decide) (((ms_i e121 (Nat.ne_of_beq_eq_false rfl)).trans (fc53 0 (Nat.ne_of_beq_eq_false rfl))).trans hp0) (bd_r ((ms_i e121 (Nat.ne_of_beq_eq_false rfl)).trans (fc53 1 (Nat.ne_of_beq_eq_false rfl))) (bd_w (l := 0) (h := 600) (bd_lt_lo hp1 (i_nle c109) (bd_lt_hi bm54 c122 hp1)) (by decide))) (bd_r (ms_i e121 (Nat.ne_of_beq_eq_false rfl)) (bd_w (l := 0) (h := 600) (bd_lt_hi bm54 (i_nle c109) (bd_lt_lo hp1 c122 bm54)) (by decide))) (bd_r (ms_e e121) (bd_w (l := 0) (h := 600) (bd_lt_hi bm54 (i_nle c109) (bd_lt_lo hp1 c122 bm54)) (by decide))) ((ms_i e121 (Nat.ne_of_beq_eq_false rfl)).trans (ms_e e121).symm)) hq.n k517 k519 k2 wc_30 rfl rfl k92 k520 np_X6_takeNumber (Nat.le_trans (by decide) hd) (by decide) (Nat.le_refl _) (Nat.le_refl _) wlen rfl (Nat.le_of_ble_eq_true rfl) (fun r_ h_ p143 => ?_)
                obtain ⟨u144, rfl, rfl, h145, h146, hx147, fr148, fc149⟩ := p143
                replace E := xq_le hx147 E
                refine J_goto (tgt := 143) dX6_advance_107 (by decide) ?_
                exact J_vret hq dX6_advance_143 rfl wlen (Nat.le_refl _) (Nat.le_refl _) ⟨u144, rfl, rfl, h145, (bd_r ((fc149 4 (Nat.ne_of_beq_eq_false rfl) (Nat.ne_of_beq_eq_false rfl) (Nat.ne_of_beq_eq_false rfl)).trans (ms_e e121)) (bd_w (l := 0) (h := 600) (bd_lt_hi bm54 (i_nle c109) (bd_lt_lo hp1 c122 bm54)) (by decide))), h146, E, (fun c k0_ => ((fr148 c k0_).trans ((ms_c e121 k0_).trans (fr52 c k0_)))), (fun j k2_ k3_ k4_ k5_ => ((fc149 j k2_ k3_ k5_).trans ((ms_i e121 k4_).trans (fc53 j k2_))))⟩
            · replace E := xq_ep c128 E
              refine J_aload_n (i := 0) (j := 0) dX6_advance_81 rfl rfl ?_
              refine J_callV (As := []) (rest := []) dX6_advance_82 (c_Tk_takeWordX (d := 1) (u := u120) (g := g) (ex := ex)   (by decide) (((ms_i e121 (Nat.ne_of_beq_eq_false rfl)).trans (fc53 0 (Nat.ne_of_beq_eq_false rfl))).trans hp0) (bd_r ((ms_i e121 (Nat.ne_of_beq_eq_false rfl)).trans (fc53 1 (Nat.ne_of_beq_eq_false rfl))) (bd_w (l := 0) (h := 600) (bd_lt_lo hp1 (i_nle c109) (bd_lt_hi bm54 c122 hp1)) (by decide))) (bd_r (ms_i e121 (Nat.ne_of_beq_eq_false rfl)) (bd_w (l := 0) (h := 600) (bd_lt_hi bm54 (i_nle c109) (bd_lt_lo hp1 c122 bm54)) (by decide)))) hq.n k510 k512 k1 wc_30 rfl rfl k92 k513 np_X6_takeWord (Nat.le_trans (by decide) hd) (by decide) (Nat.le_refl _) (Nat.le_refl _) wlen rfl (Nat.le_of_ble_eq_true rfl) (fun r_ h_ p150 => ?_)
              obtain ⟨u151, rfl, rfl, h152, h153, hx154, fr155, fc156⟩ := p150
              replace E := xq_le hx154 E
              refine J_goto (tgt := 143) dX6_advance_85 (by decide) ?_
              exact J_vret hq dX6_advance_143 rfl wlen (Nat.le_refl _) (Nat.le_refl _) ⟨u151, rfl, rfl, h152, (bd_r ((fc156 4 (Nat.ne_of_beq_eq_false rfl) (Nat.ne_of_beq_eq_false rfl)).trans (ms_e e121)) (bd_w (l := 0) (h := 600) (bd_lt_hi bm54 (i_nle c109) (bd_lt_lo hp1 c122 bm54)) (by decide))), (fun q => absurd (h153.symm.trans q) (by decide)), E, (fun c k0_ => ((fr155 c k0_).trans ((ms_c e121 k0_).trans (fr52 c k0_)))), (fun j k2_ k3_ k4_ k5_ => ((fc156 j k2_ k3_).trans ((ms_i e121 k4_).trans (fc53 j k2_))))⟩
          · exact (lt_le_no (i_nle c109) (i_nlt c122)).elim
        · replace E := xq_ep c119 E
          refine J_aload_n (i := 0) (j := 0) dX6_advance_26 rfl rfl ?_
          refine J_dup dX6_advance_27 rfl ?_
          refine J_get (C := RX6) (T := TX6) (Z := 6) (ci := 6) (f := 2) dX6_advance_28 inG6 rfl (by decide) k235 wc_30 rfl ?_
          refine J_iconst (v := 1) dX6_advance_31 (by decide) ?_
          refine J_iadd dX6_advance_32 ?_
          obtain ⟨u157, e158⟩ : ∃ z, z = ms u51 30 2 ((u51 30 2) + 1) := ⟨_, rfl⟩
          refine J_put (C := RX6) (T := TX6) (Z := 6) (ci := 6) (f := 2) (ty0 := tyX6) dX6_advance_33 inG6 rfl tyX6_ok nmX6 (by decide) k235 rfl rfl wc_30 (Nat.le_of_ble_eq_true rfl) (fun _ _ => ⟨rfl, rfl⟩) (ws e158 wk_30 rfl) ?_
          replace E := xq_le e158 E
          refine J_goto (tgt := 0) dX6_advance_36 (by decide) ?_
          refine J_lv [0] rfl ?_
          exact ih107 u157 (fun c k0_ => ((ms_c e158 k0_).trans (fr52 c k0_))) (fun j k2_ => ((ms_i e158 k2_).trans (fc53 j k2_))) (bd_r (ms_e e158) (bd_w (l := 0) (h := 600) (bd_add (l := 1) (h := 600) (bd_lt_hi bm54 (i_nle c109) hp1) (bd_c (v := 1) (lo := 1) (hi := 1) (by decide)) (by decide)) (by decide))) (mu_up 1 bm54 (ms_e e158) (by decide) (bd_w (l := 1) (h := 600) (bd_r (ms_e e158) (bd_add (l := 1) (h := 600) (bd_lt_hi bm54 (i_nle c109) hp1) (bd_c (v := 1) (lo := 1) (hi := 1) (by decide)) (by decide))) (by decide)) hm108) E
  refine J_lv [0] rfl ?_
  exact lp105 ((600 - (u 30 2).toInt).toNat + 1) u (fun c k0_ => rfl) (fun j k2_ => rfl) hp2 (Nat.lt_succ_self _) E
set_option maxRecDepth 100000 in
noncomputable def Fx_St_charAtLX (i : Nat) (k : Int32) (u : Nat → Nat → Int32) (g : Nat → Nat → Int64) : Int32 := xq_lt ((sBy.getD i []).getD k.toNatClampNeg 0) fun v2 => xq_lt (((v2 &&& 255).toUInt32 % 65536).toInt32) fun v3 => v3
set_option maxHeartbeats 4000000 in
set_option maxRecDepth 100000 in
theorem c_St_charAtLX {d : Nat} {u : Nat → Nat → Int32} {g : Nat → Nat → Int64} {ex : List MC} {i : Nat} {k : Int32} (hd : 2 ≤ d) (hi_i : i < 18) (hp0 : (vp_in k (sLn.getD i 0))) : CT con0 d 0 0 yJ1_charAt_3b067 cJ1_charAt_3b067 2 (some .char) [.retAddr (40 + i), .int k] (Wd u g ex) (fun r h2 => ∃ (z : Int32), r = some (.int z) ∧ h2 = Wd u g ex ∧ (narrow .char (.int z) = .int z) ∧ z = Fx_St_charAtLX i k u g) := by
  refine CT_of (by decide) (Nat.le_of_ble_eq_true rfl) (fun x hq => ?_)
  show J x yJ1_charAt_3b067 cJ1_charAt_3b067 2 (some .char) d 0 0 (Wd u g ex).length 0 [(0, .retAddr (40 + i)), (1, .int k)] [] (Wd u g ex) 0 0
  have E : Fx_St_charAtLX i k u g = Fx_St_charAtLX i k u g := rfl
  refine J_iload_n (i := 1) (j := 1) dJ1_charAt_3b067_0 rfl rfl ?_
  refine J_aload_nC (i := 0) (j := 0) dJ1_charAt_3b067_1 rfl rfl ?_
  refine J_sbln (i := i) dJ1_charAt_3b067_2 hi_i ?_
  refine J_callS (As := [.int k, .int (Int32.ofNat (sLn.getD i 0))]) (rest := []) dJ1_charAt_3b067_3 (c_St_checkIndex (d := 1) (u := u) (g := g) (ex := ex) (index := k) (length := (Int32.ofNat (sLn.getD i 0)))  (by decide) (vin_sl hp0).1 (vin_sl hp0).2) hq.n k574 k575 k100 k576 np_J0_checkIndex_df160 (Nat.le_trans (by decide) hd) (by decide) (Nat.le_refl _) (Nat.le_refl _) wlen rfl (Nat.le_of_ble_eq_true rfl) (fun r_ h_ p1 => ?_)
  obtain ⟨rfl, rfl⟩ := p1
  refine J_aload_nC (i := 0) (j := 0) dJ1_charAt_3b067_6 rfl rfl ?_
  refine J_iload_n (i := 1) (j := 1) dJ1_charAt_3b067_7 rfl rfl ?_
  refine J_sbld (i := i) dJ1_charAt_3b067_8 hi_i hp0 ?_
  refine J_topi (fun v2 qv2 => ?_)
  replace E := xq_le qv2 E
  refine J_sipush (v := 255) dJ1_charAt_3b067_9 (by decide) ?_
  refine J_iand dJ1_charAt_3b067_12 ?_
  obtain ⟨v3, qv3⟩ : ∃ z : Int32, z = ((v2 &&& 255).toUInt32 % 65536).toInt32 := ⟨_, rfl⟩
  refine J_i2c dJ1_charAt_3b067_13 qv3.symm ?_
  replace E := xq_le qv3 E
  exact J_cret hq dJ1_charAt_3b067_14 rfl (nar_c qv3) wlen (Nat.le_refl _) (Nat.le_refl _) ⟨v3, rfl, rfl, (nar_c qv3), E⟩
set_option maxRecDepth 100000 in
noncomputable def Fx_St_charAtX (i : Nat) (k : Int32) (u : Nat → Nat → Int32) (g : Nat → Nat → Int64) : Int32 := xq_lt (Fx_St_charAtLX i k u g) fun v3 => v3
set_option maxHeartbeats 4000000 in
set_option maxRecDepth 100000 in
theorem c_St_charAtX {d : Nat} {u : Nat → Nat → Int32} {g : Nat → Nat → Int64} {ex : List MC} {i : Nat} {k : Int32} (hd : 3 ≤ d) (hi_i : i < 18) (hp0 : (vp_in k (sLn.getD i 0))) : CT con0 d 0 0 yJ0_charAt_5068e cJ0_charAt_5068e 2 (some .char) [.retAddr (10 + i), .int k] (Wd u g ex) (fun r h2 => ∃ (z : Int32), r = some (.int z) ∧ h2 = Wd u g ex ∧ z = Fx_St_charAtX i k u g) := by
  refine CT_of (by decide) (Nat.le_of_ble_eq_true rfl) (fun x hq => ?_)
  show J x yJ0_charAt_5068e cJ0_charAt_5068e 2 (some .char) d 0 0 (Wd u g ex).length 0 [(0, .retAddr (10 + i)), (1, .int k)] [] (Wd u g ex) 0 0
  have E : Fx_St_charAtX i k u g = Fx_St_charAtX i k u g := rfl
  refine J_aload_nC (i := 0) (j := 0) dJ0_charAt_5068e_0 rfl rfl ?_
  refine J_callVC (i := i) (As := []) (rest := []) dJ0_charAt_5068e_1 (c_St_isLatin1 (d := 0) (u := u) (g := g) (ex := ex)  (i := i)  (by decide) hi_i) hq.n k567 k568 k569 hi_i rfl k100 k570 np_J0_isLatin1_aae02 (Nat.le_trans (by decide) hd) (by decide) (Nat.le_refl _) (Nat.le_refl _) wlen rfl (Nat.le_of_ble_eq_true rfl) (fun r_ h_ p1 => ?_)
  obtain ⟨rfl, rfl⟩ := p1
  refine J_if_eq (tgt := 16) dJ0_charAt_5068e_4 (by decide) (fun q => absurd q (by decide)) (fun _ => ?_)
  refine J_aload_nC (i := 0) (j := 0) dJ0_charAt_5068e_7 rfl rfl ?_
  refine J_sval (i := i) dJ0_charAt_5068e_8 hi_i k1813 ?_
  refine J_iload_n (i := 1) (j := 1) dJ0_charAt_5068e_11 rfl rfl ?_
  refine J_callS (As := [.retAddr (40 + i), .int k]) (rest := []) dJ0_charAt_5068e_12 (c_St_charAtLX (d := 2) (u := u) (g := g) (ex := ex) (k := k) (i := i)  (by decide) hi_i (sl_vin (bd_lt_hi (bd_le_lo (bd_any k) (vin_sl hp0).1 (bd_c (v := 0) (lo := 0) (hi := 0) (by decide))) (vin_sl hp0).2 (sln_b i)) (by decide) (vin_sl hp0).2)) hq.n k571 k572 k101 k573 np_J1_charAt_3b067 (Nat.le_trans (by decide) hd) (by decide) (Nat.le_refl _) (Nat.le_refl _) wlen rfl (Nat.le_of_ble_eq_true rfl) (fun r_ h_ p2 => ?_)
  obtain ⟨v3, rfl, rfl, h4, hx5⟩ := p2
  replace E := xq_le hx5 E
  exact J_cret hq dJ0_charAt_5068e_15 rfl h4 wlen (Nat.le_refl _) (Nat.le_refl _) ⟨v3, rfl, rfl, E⟩
set_option maxRecDepth 100000 in
noncomputable def Fx_Tk_isWordX_L28 (i : Nat) (u : Nat → Nat → Int32) (g : Nat → Nat → Int64) (n_ : Nat) : (Int32) → Bool := Nat.rec (motive := fun _ => (Int32) → Bool) (fun _ => default) (fun n_ ih_ w30 => if (Int32.ofNat (sLn.getD i 0)) ≤ w30 then (true) else (if (u 30 1) ≤ ((u 30 4) + w30) then (true) else (xq_lt (u 2 ((u 30 4) + w30).toNatClampNeg) fun v46 => xq_lt (Fx_St_charAtX i w30 u g) fun v48 => if v46 = v48 then (ih_ (w30 + 1)) else (false)))) n_
set_option maxRecDepth 100000 in
theorem Fx_Tk_isWordX_L28_s {i : Nat} {u : Nat → Nat → Int32} {g : Nat → Nat → Int64} {w30 : Int32} {n_ : Nat} : Fx_Tk_isWordX_L28 i u g (n_ + 1) w30 = if (Int32.ofNat (sLn.getD i 0)) ≤ w30 then (true) else (if (u 30 1) ≤ ((u 30 4) + w30) then (true) else (xq_lt (u 2 ((u 30 4) + w30).toNatClampNeg) fun v46 => xq_lt (Fx_St_charAtX i w30 u g) fun v48 => if v46 = v48 then ((Fx_Tk_isWordX_L28 i u g n_) (w30 + 1)) else (false))) := rfl
set_option maxRecDepth 100000 in
noncomputable def Fx_Tk_isWordX (i : Nat) (u : Nat → Nat → Int32) (g : Nat → Nat → Int64) : Bool := if (u 30 3) = (1 : Int32) then (if ((u 30 2) - (u 30 4)) = (Int32.ofNat (sLn.getD i 0)) then (Fx_Tk_isWordX_L28 i u g ((5 - (0 : Int32).toInt).toNat + 1) (0 : Int32)) else (false)) else (false)
set_option maxHeartbeats 4000000 in
set_option maxRecDepth 100000 in
theorem c_Tk_isWordX {d : Nat} {u : Nat → Nat → Int32} {g : Nat → Nat → Int64} {ex : List MC} {i : Nat} (hd : 4 ≤ d) (hi_i : i < 18) (hp0 : (u 30 0) = 1) (hp1 : Bd 0 600 (u 30 1)) (hp2 : Bd 0 600 (u 30 2)) (hp3 : Bd 0 600 (u 30 4)) : CT con0 d 0 0 yX6_isWord cX6_isWord 3 (some .boolean) [.ref 30, .retAddr (10 + i)] (Wd u g ex) (fun r h2 => ∃ (z : Bool), r = some (.int (bI z)) ∧ h2 = Wd u g ex ∧ z = Fx_Tk_isWordX i u g) := by
  refine CT_of (by decide) (Nat.le_of_ble_eq_true rfl) (fun x hq => ?_)
  show J x yX6_isWord cX6_isWord 3 (some .boolean) d 0 0 (Wd u g ex).length 0 [(0, .ref 30), (1, .retAddr (10 + i))] [] (Wd u g ex) 0 0
  have E : Fx_Tk_isWordX i u g = Fx_Tk_isWordX i u g := rfl
  refine J_aload_n (i := 0) (j := 0) dX6_isWord_0 rfl rfl ?_
  refine J_get (C := RX6) (T := TX6) (Z := 6) (ci := 6) (f := 3) dX6_isWord_1 inG6 rfl (by decide) k236 wc_30 rfl ?_
  refine J_iconst (v := 1) dX6_isWord_4 (by decide) ?_
  refine J_icmp_ne (tgt := 24) dX6_isWord_5 (by decide) (fun c1 => ?_) (fun c1 => ?_)
  · replace E := xq_en c1 E
    refine J_iconst (v := 0) dX6_isWord_24 (by decide) ?_
    exact J_zret hq dX6_isWord_25 rfl rfl wlen (Nat.le_refl _) (Nat.le_refl _) ⟨false, rfl, rfl, E⟩
  · replace E := xq_ep c1 E
    refine J_aload_n (i := 0) (j := 0) dX6_isWord_8 rfl rfl ?_
    refine J_get (C := RX6) (T := TX6) (Z := 6) (ci := 6) (f := 2) dX6_isWord_9 inG6 rfl (by decide) k235 wc_30 rfl ?_
    refine J_aload_n (i := 0) (j := 0) dX6_isWord_12 rfl rfl ?_
    refine J_get (C := RX6) (T := TX6) (Z := 6) (ci := 6) (f := 4) dX6_isWord_13 inG6 rfl (by decide) k238 wc_30 rfl ?_
    refine J_isub dX6_isWord_16 ?_
    refine J_aload_nC (i := 1) (j := 1) dX6_isWord_17 rfl rfl ?_
    refine J_callVC (i := i) (As := []) (rest := [.int ((u 30 2) - (u 30 4))]) dX6_isWord_18 (c_St_length (d := 1) (u := u) (g := g) (ex := ex)  (i := i)  (by decide) hi_i) hq.n k553 k554 k555 hi_i rfl k100 k556 np_J0_length_8abf5 (Nat.le_trans (by decide) hd) (by decide) (Nat.le_refl _) (Nat.le_refl _) wlen rfl (Nat.le_of_ble_eq_true rfl) (fun r_ h_ p2 => ?_)
    obtain ⟨rfl, rfl⟩ := p2
    refine J_icmp_eq (tgt := 26) dX6_isWord_21 (by decide) (fun c3 => ?_) (fun c3 => ?_)
    · replace E := xq_ep c3 E
      refine J_iconst (v := 0) dX6_isWord_26 (by decide) ?_
      refine J_istore_n (i := 2) (lw := [(2, .int 0), (0, .ref 30), (1, .retAddr (10 + i))]) dX6_isWord_27 rfl (by decide) rfl ?_
      have lp39 : ∀ (n40 : Nat) (w30 : Int32), Bd 0 5 w30 → (5 - w30.toInt).toNat < n40 → Fx_Tk_isWordX_L28 i u g n40 w30 = Fx_Tk_isWordX i u g → J x yX6_isWord cX6_isWord 3 (some .boolean) d 0 0 (Wd u g ex).length 28 [(0, .ref 30), (1, .retAddr (10 + i)), (2, .int w30)] [] (Wd u g ex) 0 0 := by
        intro n40
        induction n40 with
        | zero => intro w30 bw30 hm42 _; exact absurd hm42 (Nat.not_lt_zero _)
        | succ n40 ih41 =>
          intro w30 bw30 hm42 E
          replace E := Fx_Tk_isWordX_L28_s.symm.trans E
          refine J_iload_n (i := 2) (j := 2) dX6_isWord_28 rfl rfl ?_
          refine J_aload_nC (i := 1) (j := 1) dX6_isWord_29 rfl rfl ?_
          refine J_callVC (i := i) (As := []) (rest := [.int w30]) dX6_isWord_30 (c_St_length (d := 1) (u := u) (g := g) (ex := ex)  (i := i)  (by decide) hi_i) hq.n k553 k554 k555 hi_i rfl k100 k556 np_J0_length_8abf5 (Nat.le_trans (by decide) hd) (by decide) (Nat.le_refl _) (Nat.le_refl _) wlen rfl (Nat.le_of_ble_eq_true rfl) (fun r_ h_ p43 => ?_)
          obtain ⟨rfl, rfl⟩ := p43
          refine J_icmp_ge (tgt := 76) dX6_isWord_33 (by decide) (fun c44 => ?_) (fun c44 => ?_)
          · replace E := xq_ep c44 E
            refine J_iconst (v := 1) dX6_isWord_76 (by decide) ?_
            exact J_zret hq dX6_isWord_77 rfl rfl wlen (Nat.le_refl _) (Nat.le_refl _) ⟨true, rfl, rfl, E⟩
          · replace E := xq_en c44 E
            refine J_aload_n (i := 0) (j := 0) dX6_isWord_36 rfl rfl ?_
            refine J_get (C := RX6) (T := TX6) (Z := 6) (ci := 6) (f := 4) dX6_isWord_37 inG6 rfl (by decide) k238 wc_30 rfl ?_
            refine J_iload_n (i := 2) (j := 2) dX6_isWord_40 rfl rfl ?_
            refine J_iadd dX6_isWord_41 ?_
            refine J_aload_n (i := 0) (j := 0) dX6_isWord_42 rfl rfl ?_
            refine J_get (C := RX6) (T := TX6) (Z := 6) (ci := 6) (f := 1) dX6_isWord_43 inG6 rfl (by decide) k233 wc_30 rfl ?_
            refine J_icmp_ge (tgt := 76) dX6_isWord_46 (by decide) (fun c45 => ?_) (fun c45 => ?_)
            · replace E := xq_ep c45 E
              refine J_iconst (v := 1) dX6_isWord_76 (by decide) ?_
              exact J_zret hq dX6_isWord_77 rfl rfl wlen (Nat.le_refl _) (Nat.le_refl _) ⟨true, rfl, rfl, E⟩
            · replace E := xq_en c45 E
              refine J_aload_n (i := 0) (j := 0) dX6_isWord_49 rfl rfl ?_
              refine J_get (C := RX6) (T := TX6) (Z := 6) (ci := 6) (f := 0) dX6_isWord_50 inG6 rfl (by decide) k232 wc_30 rfl ?_
              refine J_cr (v := 2) (by rw [hp0]; rfl) ?_
              refine J_aload_n (i := 0) (j := 0) dX6_isWord_53 rfl rfl ?_
              refine J_get (C := RX6) (T := TX6) (Z := 6) (ci := 6) (f := 4) dX6_isWord_54 inG6 rfl (by decide) k238 wc_30 rfl ?_
              refine J_iload_n (i := 2) (j := 2) dX6_isWord_57 rfl rfl ?_
              refine J_iadd dX6_isWord_58 ?_
              refine J_bald dX6_isWord_59 wc_2 (vin (bd_lt_hi (bd_add (l := 0) (h := 604) hp3 (bd_lt_hi bw30 (i_nle c44) (sln_b i)) (by decide)) (i_nle c45) hp1) (by decide)) ?_
              refine J_topi (fun v46 qv46 => ?_)
              replace E := xq_le qv46 E
              refine J_aload_nC (i := 1) (j := 1) dX6_isWord_60 rfl rfl ?_
              refine J_iload_n (i := 2) (j := 2) dX6_isWord_61 rfl rfl ?_
              refine J_callVC (i := i) (As := [.int w30]) (rest := [.int v46]) dX6_isWord_62 (c_St_charAtX (d := 3) (u := u) (g := g) (ex := ex) (k := w30) (i := i)  (by decide) hi_i (sl_vin (bd_lt_hi bw30 (i_nle c44) (sln_b i)) (by decide) (i_nle c44))) hq.n k563 k564 k565 hi_i rfl k100 k566 np_J0_charAt_5068e (Nat.le_trans (by decide) hd) (by decide) (Nat.le_refl _) (Nat.le_refl _) wlen rfl (Nat.le_of_ble_eq_true rfl) (fun r_ h_ p47 => ?_)
              obtain ⟨v48, rfl, rfl, hx49⟩ := p47
              replace E := xq_le hx49 E
              refine J_icmp_eq (tgt := 70) dX6_isWord_65 (by decide) (fun c50 => ?_) (fun c50 => ?_)
              · replace E := xq_ep c50 E
                refine J_iinc (i := 2) (j := 2) (v := (w30 + 1)) (lw := [(2, .int (w30 + 1)), (0, .ref 30), (1, .retAddr (10 + i))]) dX6_isWord_70 rfl rfl (by decide) rfl ?_
                refine J_goto (tgt := 28) dX6_isWord_73 (by decide) ?_
                refine J_lv [1, 2, 0] rfl ?_
                exact ih41 (w30 + 1) (bd_w (l := 0) (h := 5) (bd_add (l := 1) (h := 5) (bd_lt_hi bw30 (i_nle c44) (sln_b i)) (bd_c (v := 1) (lo := 1) (hi := 1) (by decide)) (by decide)) (by decide)) (mu_up 1 bw30 rfl (by decide) (bd_w (l := 1) (h := 5) (bd_add (l := 1) (h := 5) (bd_lt_hi bw30 (i_nle c44) (sln_b i)) (bd_c (v := 1) (lo := 1) (hi := 1) (by decide)) (by decide)) (by decide)) hm42) E
              · replace E := xq_en c50 E
                refine J_iconst (v := 0) dX6_isWord_68 (by decide) ?_
                exact J_zret hq dX6_isWord_69 rfl rfl wlen (Nat.le_refl _) (Nat.le_refl _) ⟨false, rfl, rfl, E⟩
      refine J_lv [1, 2, 0] rfl ?_
      exact lp39 ((5 - (0 : Int32).toInt).toNat + 1) (0 : Int32) (bd_w (l := 0) (h := 5) (bd_c (v := 0) (lo := 0) (hi := 0) (by decide)) (by decide)) (Nat.lt_succ_self _) E
    · replace E := xq_en c3 E
      refine J_iconst (v := 0) dX6_isWord_24 (by decide) ?_
      exact J_zret hq dX6_isWord_25 rfl rfl wlen (Nat.le_refl _) (Nat.le_refl _) ⟨false, rfl, rfl, E⟩
set_option maxRecDepth 100000 in
noncomputable def Fx_Rd_hillWordX (line : Int32) (u : Nat → Nat → Int32) (g : Nat → Nat → Int64) : Nat := if line = 0 then (0) else (if line = 1 then (1) else (if line = 2 then (2) else (if line = 3 then (3) else (if line = 4 then (4) else (if line = 5 then (5) else (if line = 6 then (6) else (if line = 7 then (7) else (if line = 8 then (8) else (if line = 9 then (9) else (if line = 10 then (10) else (if line = 11 then (11) else (if line = 12 then (12) else (if line = 13 then (13) else (14))))))))))))))
set_option maxHeartbeats 4000000 in
set_option maxRecDepth 100000 in
theorem c_Rd_hillWordX {d : Nat} {u : Nat → Nat → Int32} {g : Nat → Nat → Int64} {ex : List MC} {line : Int32} (hd : 0 ≤ d)  : CT con0 d 0 0 yX3_hillWord cX3_hillWord 1 (some (.object "java/lang/String")) [.int line] (Wd u g ex) (fun r h2 => ∃ (z : Nat), r = some (.retAddr (10 + z)) ∧ h2 = Wd u g ex ∧ z < 18 ∧ z = Fx_Rd_hillWordX line u g) := by
  refine CT_of (by decide) (Nat.le_of_ble_eq_true rfl) (fun x hq => ?_)
  show J x yX3_hillWord cX3_hillWord 1 (some (.object "java/lang/String")) d 0 0 (Wd u g ex).length 0 [(0, .int line)] [] (Wd u g ex) 0 0
  have E : Fx_Rd_hillWordX line u g = Fx_Rd_hillWordX line u g := rfl
  refine J_iload_n (i := 0) (j := 0) dX3_hillWord_0 rfl rfl ?_
  by_cases c1 : line = 0
  · replace E := xq_ep c1 E
    refine J_ci (v := 0) c1 ?_
    refine J_tableIn (tgt := 72) (off := 71) dX3_hillWord_1 (by decide) (by decide) (by decide) (by decide) ?_
    refine J_ldcS (i := 0) dX3_hillWord_72 (by decide) rfl rfl ?_
    exact J_aretC hq dX3_hillWord_74 rfl wlen (Nat.le_refl _) (Nat.le_refl _) ⟨0, rfl, rfl, (by decide), E⟩
  replace E := xq_en c1 E
  by_cases c2 : line = 1
  · replace E := xq_ep c2 E
    refine J_ci (v := 1) c2 ?_
    refine J_tableIn (tgt := 75) (off := 74) dX3_hillWord_1 (by decide) (by decide) (by decide) (by decide) ?_
    refine J_ldcS (i := 1) dX3_hillWord_75 (by decide) rfl rfl ?_
    exact J_aretC hq dX3_hillWord_77 rfl wlen (Nat.le_refl _) (Nat.le_refl _) ⟨1, rfl, rfl, (by decide), E⟩
  replace E := xq_en c2 E
  by_cases c3 : line = 2
  · replace E := xq_ep c3 E
    refine J_ci (v := 2) c3 ?_
    refine J_tableIn (tgt := 78) (off := 77) dX3_hillWord_1 (by decide) (by decide) (by decide) (by decide) ?_
    refine J_ldcS (i := 2) dX3_hillWord_78 (by decide) rfl rfl ?_
    exact J_aretC hq dX3_hillWord_80 rfl wlen (Nat.le_refl _) (Nat.le_refl _) ⟨2, rfl, rfl, (by decide), E⟩
  replace E := xq_en c3 E
  by_cases c4 : line = 3
  · replace E := xq_ep c4 E
    refine J_ci (v := 3) c4 ?_
    refine J_tableIn (tgt := 81) (off := 80) dX3_hillWord_1 (by decide) (by decide) (by decide) (by decide) ?_
    refine J_ldcS (i := 3) dX3_hillWord_81 (by decide) rfl rfl ?_
    exact J_aretC hq dX3_hillWord_83 rfl wlen (Nat.le_refl _) (Nat.le_refl _) ⟨3, rfl, rfl, (by decide), E⟩
  replace E := xq_en c4 E
  by_cases c5 : line = 4
  · replace E := xq_ep c5 E
    refine J_ci (v := 4) c5 ?_
    refine J_tableIn (tgt := 84) (off := 83) dX3_hillWord_1 (by decide) (by decide) (by decide) (by decide) ?_
    refine J_ldcS (i := 4) dX3_hillWord_84 (by decide) rfl rfl ?_
    exact J_aretC hq dX3_hillWord_86 rfl wlen (Nat.le_refl _) (Nat.le_refl _) ⟨4, rfl, rfl, (by decide), E⟩
  replace E := xq_en c5 E
  by_cases c6 : line = 5
  · replace E := xq_ep c6 E
    refine J_ci (v := 5) c6 ?_
    refine J_tableIn (tgt := 87) (off := 86) dX3_hillWord_1 (by decide) (by decide) (by decide) (by decide) ?_
    refine J_ldcS (i := 5) dX3_hillWord_87 (by decide) rfl rfl ?_
    exact J_aretC hq dX3_hillWord_89 rfl wlen (Nat.le_refl _) (Nat.le_refl _) ⟨5, rfl, rfl, (by decide), E⟩
  replace E := xq_en c6 E
  by_cases c7 : line = 6
  · replace E := xq_ep c7 E
    refine J_ci (v := 6) c7 ?_
    refine J_tableIn (tgt := 90) (off := 89) dX3_hillWord_1 (by decide) (by decide) (by decide) (by decide) ?_
    refine J_ldcS (i := 6) dX3_hillWord_90 (by decide) rfl rfl ?_
    exact J_aretC hq dX3_hillWord_92 rfl wlen (Nat.le_refl _) (Nat.le_refl _) ⟨6, rfl, rfl, (by decide), E⟩
  replace E := xq_en c7 E
  by_cases c8 : line = 7
  · replace E := xq_ep c8 E
    refine J_ci (v := 7) c8 ?_
    refine J_tableIn (tgt := 93) (off := 92) dX3_hillWord_1 (by decide) (by decide) (by decide) (by decide) ?_
    refine J_ldcS (i := 7) dX3_hillWord_93 (by decide) rfl rfl ?_
    exact J_aretC hq dX3_hillWord_95 rfl wlen (Nat.le_refl _) (Nat.le_refl _) ⟨7, rfl, rfl, (by decide), E⟩
  replace E := xq_en c8 E
  by_cases c9 : line = 8
  · replace E := xq_ep c9 E
    refine J_ci (v := 8) c9 ?_
    refine J_tableIn (tgt := 96) (off := 95) dX3_hillWord_1 (by decide) (by decide) (by decide) (by decide) ?_
    refine J_ldcS (i := 8) dX3_hillWord_96 (by decide) rfl rfl ?_
    exact J_aretC hq dX3_hillWord_98 rfl wlen (Nat.le_refl _) (Nat.le_refl _) ⟨8, rfl, rfl, (by decide), E⟩
  replace E := xq_en c9 E
  by_cases c10 : line = 9
  · replace E := xq_ep c10 E
    refine J_ci (v := 9) c10 ?_
    refine J_tableIn (tgt := 99) (off := 98) dX3_hillWord_1 (by decide) (by decide) (by decide) (by decide) ?_
    refine J_ldcS (i := 9) dX3_hillWord_99 (by decide) rfl rfl ?_
    exact J_aretC hq dX3_hillWord_101 rfl wlen (Nat.le_refl _) (Nat.le_refl _) ⟨9, rfl, rfl, (by decide), E⟩
  replace E := xq_en c10 E
  by_cases c11 : line = 10
  · replace E := xq_ep c11 E
    refine J_ci (v := 10) c11 ?_
    refine J_tableIn (tgt := 102) (off := 101) dX3_hillWord_1 (by decide) (by decide) (by decide) (by decide) ?_
    refine J_ldcS (i := 10) dX3_hillWord_102 (by decide) rfl rfl ?_
    exact J_aretC hq dX3_hillWord_104 rfl wlen (Nat.le_refl _) (Nat.le_refl _) ⟨10, rfl, rfl, (by decide), E⟩
  replace E := xq_en c11 E
  by_cases c12 : line = 11
  · replace E := xq_ep c12 E
    refine J_ci (v := 11) c12 ?_
    refine J_tableIn (tgt := 105) (off := 104) dX3_hillWord_1 (by decide) (by decide) (by decide) (by decide) ?_
    refine J_ldcS (i := 11) dX3_hillWord_105 (by decide) rfl rfl ?_
    exact J_aretC hq dX3_hillWord_107 rfl wlen (Nat.le_refl _) (Nat.le_refl _) ⟨11, rfl, rfl, (by decide), E⟩
  replace E := xq_en c12 E
  by_cases c13 : line = 12
  · replace E := xq_ep c13 E
    refine J_ci (v := 12) c13 ?_
    refine J_tableIn (tgt := 108) (off := 107) dX3_hillWord_1 (by decide) (by decide) (by decide) (by decide) ?_
    refine J_ldcS (i := 12) dX3_hillWord_108 (by decide) rfl rfl ?_
    exact J_aretC hq dX3_hillWord_110 rfl wlen (Nat.le_refl _) (Nat.le_refl _) ⟨12, rfl, rfl, (by decide), E⟩
  replace E := xq_en c13 E
  by_cases c14 : line = 13
  · replace E := xq_ep c14 E
    refine J_ci (v := 13) c14 ?_
    refine J_tableIn (tgt := 111) (off := 110) dX3_hillWord_1 (by decide) (by decide) (by decide) (by decide) ?_
    refine J_ldcS (i := 13) dX3_hillWord_111 (by decide) rfl rfl ?_
    exact J_aretC hq dX3_hillWord_113 rfl wlen (Nat.le_refl _) (Nat.le_refl _) ⟨13, rfl, rfl, (by decide), E⟩
  replace E := xq_en c14 E
  · refine J_tableOut (tgt := 114) dX3_hillWord_1 (by have e0 := int_ne (k := 0) c1 (by decide); have e1 := int_ne (k := 1) c2 (by decide); have e2 := int_ne (k := 2) c3 (by decide); have e3 := int_ne (k := 3) c4 (by decide); have e4 := int_ne (k := 4) c5 (by decide); have e5 := int_ne (k := 5) c6 (by decide); have e6 := int_ne (k := 6) c7 (by decide); have e7 := int_ne (k := 7) c8 (by decide); have e8 := int_ne (k := 8) c9 (by decide); have e9 := int_ne (k := 9) c10 (by decide); have e10 := int_ne (k := 10) c11 (by decide); have e11 := int_ne (k := 11) c12 (by decide); have e12 := int_ne (k := 12) c13 (by decide); have e13 := int_ne (k := 13) c14 (by decide); omega) (by decide) ?_
    refine J_ldcS (i := 14) dX3_hillWord_114 (by decide) rfl rfl ?_
    exact J_aretC hq dX3_hillWord_116 rfl wlen (Nat.le_refl _) (Nat.le_refl _) ⟨14, rfl, rfl, (by decide), E⟩
set_option maxRecDepth 100000 in
noncomputable def Fx_Rd_planWordX (line : Int32) (u : Nat → Nat → Int32) (g : Nat → Nat → Int64) : Nat := if line = 0 then (12) else (if line = 1 then (15) else (if line = 2 then (16) else (if line = 3 then (14) else (17))))
set_option maxHeartbeats 4000000 in
set_option maxRecDepth 100000 in
theorem c_Rd_planWordX {d : Nat} {u : Nat → Nat → Int32} {g : Nat → Nat → Int64} {ex : List MC} {line : Int32} (hd : 0 ≤ d)  : CT con0 d 0 0 yX3_planWord cX3_planWord 1 (some (.object "java/lang/String")) [.int line] (Wd u g ex) (fun r h2 => ∃ (z : Nat), r = some (.retAddr (10 + z)) ∧ h2 = Wd u g ex ∧ z < 18 ∧ z = Fx_Rd_planWordX line u g) := by
  refine CT_of (by decide) (Nat.le_of_ble_eq_true rfl) (fun x hq => ?_)
  show J x yX3_planWord cX3_planWord 1 (some (.object "java/lang/String")) d 0 0 (Wd u g ex).length 0 [(0, .int line)] [] (Wd u g ex) 0 0
  have E : Fx_Rd_planWordX line u g = Fx_Rd_planWordX line u g := rfl
  refine J_iload_n (i := 0) (j := 0) dX3_planWord_0 rfl rfl ?_
  by_cases c1 : line = 0
  · replace E := xq_ep c1 E
    refine J_ci (v := 0) c1 ?_
    refine J_tableIn (tgt := 32) (off := 31) dX3_planWord_1 (by decide) (by decide) (by decide) (by decide) ?_
    refine J_ldcS (i := 12) dX3_planWord_32 (by decide) rfl rfl ?_
    exact J_aretC hq dX3_planWord_34 rfl wlen (Nat.le_refl _) (Nat.le_refl _) ⟨12, rfl, rfl, (by decide), E⟩
  replace E := xq_en c1 E
  by_cases c2 : line = 1
  · replace E := xq_ep c2 E
    refine J_ci (v := 1) c2 ?_
    refine J_tableIn (tgt := 35) (off := 34) dX3_planWord_1 (by decide) (by decide) (by decide) (by decide) ?_
    refine J_ldcS (i := 15) dX3_planWord_35 (by decide) rfl rfl ?_
    exact J_aretC hq dX3_planWord_37 rfl wlen (Nat.le_refl _) (Nat.le_refl _) ⟨15, rfl, rfl, (by decide), E⟩
  replace E := xq_en c2 E
  by_cases c3 : line = 2
  · replace E := xq_ep c3 E
    refine J_ci (v := 2) c3 ?_
    refine J_tableIn (tgt := 38) (off := 37) dX3_planWord_1 (by decide) (by decide) (by decide) (by decide) ?_
    refine J_ldcS (i := 16) dX3_planWord_38 (by decide) rfl rfl ?_
    exact J_aretC hq dX3_planWord_40 rfl wlen (Nat.le_refl _) (Nat.le_refl _) ⟨16, rfl, rfl, (by decide), E⟩
  replace E := xq_en c3 E
  by_cases c4 : line = 3
  · replace E := xq_ep c4 E
    refine J_ci (v := 3) c4 ?_
    refine J_tableIn (tgt := 41) (off := 40) dX3_planWord_1 (by decide) (by decide) (by decide) (by decide) ?_
    refine J_ldcS (i := 14) dX3_planWord_41 (by decide) rfl rfl ?_
    exact J_aretC hq dX3_planWord_43 rfl wlen (Nat.le_refl _) (Nat.le_refl _) ⟨14, rfl, rfl, (by decide), E⟩
  replace E := xq_en c4 E
  · refine J_tableOut (tgt := 44) dX3_planWord_1 (by have e0 := int_ne (k := 0) c1 (by decide); have e1 := int_ne (k := 1) c2 (by decide); have e2 := int_ne (k := 2) c3 (by decide); have e3 := int_ne (k := 3) c4 (by decide); omega) (by decide) ?_
    refine J_ldcS (i := 17) dX3_planWord_44 (by decide) rfl rfl ?_
    exact J_aretC hq dX3_planWord_46 rfl wlen (Nat.le_refl _) (Nat.le_refl _) ⟨17, rfl, rfl, (by decide), E⟩
set_option maxRecDepth 100000 in
noncomputable def Fx_Rd_lineOfX_L13 (sort : Int32) (u : Nat → Nat → Int32) (g : Nat → Nat → Int64) (n_ : Nat) : (Int32) → Int32 := Nat.rec (motive := fun _ => (Int32) → Int32) (fun _ => default) (fun n_ ih_ w45 => if (5 : Int32) ≤ w45 then (((-1) : Int32)) else (if sort = (0 : Int32) then (default) else (xq_lt (Fx_Rd_planWordX w45 u g) fun i71 => xq_lt (Fx_Tk_isWordX i71 u g) fun t75 => if t75 = true then (w45) else (ih_ (w45 + 1))))) n_
set_option maxRecDepth 100000 in
theorem Fx_Rd_lineOfX_L13_s {sort : Int32} {u : Nat → Nat → Int32} {g : Nat → Nat → Int64} {w45 : Int32} {n_ : Nat} : Fx_Rd_lineOfX_L13 sort u g (n_ + 1) w45 = if (5 : Int32) ≤ w45 then (((-1) : Int32)) else (if sort = (0 : Int32) then (default) else (xq_lt (Fx_Rd_planWordX w45 u g) fun i71 => xq_lt (Fx_Tk_isWordX i71 u g) fun t75 => if t75 = true then (w45) else ((Fx_Rd_lineOfX_L13 sort u g n_) (w45 + 1)))) := rfl
set_option maxRecDepth 100000 in
noncomputable def Fx_Rd_lineOfX_L13b (sort : Int32) (u : Nat → Nat → Int32) (g : Nat → Nat → Int64) (n_ : Nat) : (Int32) → Int32 := Nat.rec (motive := fun _ => (Int32) → Int32) (fun _ => default) (fun n_ ih_ w136 => if (15 : Int32) ≤ w136 then (((-1) : Int32)) else (if sort = (0 : Int32) then (xq_lt (Fx_Rd_hillWordX w136 u g) fun i162 => xq_lt (Fx_Tk_isWordX i162 u g) fun t166 => if t166 = true then (w136) else (ih_ (w136 + 1))) else (default))) n_
set_option maxRecDepth 100000 in
theorem Fx_Rd_lineOfX_L13b_s {sort : Int32} {u : Nat → Nat → Int32} {g : Nat → Nat → Int64} {w136 : Int32} {n_ : Nat} : Fx_Rd_lineOfX_L13b sort u g (n_ + 1) w136 = if (15 : Int32) ≤ w136 then (((-1) : Int32)) else (if sort = (0 : Int32) then (xq_lt (Fx_Rd_hillWordX w136 u g) fun i162 => xq_lt (Fx_Tk_isWordX i162 u g) fun t166 => if t166 = true then (w136) else ((Fx_Rd_lineOfX_L13b sort u g n_) (w136 + 1))) else (default)) := rfl
set_option maxRecDepth 100000 in
noncomputable def Fx_Rd_lineOfX (sort : Int32) (u : Nat → Nat → Int32) (g : Nat → Nat → Int64) : Int32 := if sort = (0 : Int32) then (Fx_Rd_lineOfX_L13b sort u g ((15 - (0 : Int32).toInt).toNat + 1) (0 : Int32)) else (Fx_Rd_lineOfX_L13 sort u g ((5 - (0 : Int32).toInt).toNat + 1) (0 : Int32))
set_option maxHeartbeats 4000000 in
set_option maxRecDepth 100000 in
theorem c_Rd_lineOfX {d : Nat} {u : Nat → Nat → Int32} {g : Nat → Nat → Int64} {ex : List MC} {sort : Int32} (hd : 5 ≤ d) (hp0 : (u 30 0) = 1) (hp1 : Bd 0 600 (u 30 1)) (hp2 : Bd 0 600 (u 30 2)) (hp3 : Bd 0 600 (u 30 4)) : CT con0 d 0 0 yX3_lineOf cX3_lineOf 4 (some .int) [.ref 29, .int sort] (Wd u g ex) (fun r h2 => ∃ (z : Int32), r = some (.int z) ∧ h2 = Wd u g ex ∧ Bd (-1) 14 z ∧ (sort = 0 ∨ Bd (-1) 4 z) ∧ z = Fx_Rd_lineOfX sort u g) := by
  refine CT_of (by decide) (Nat.le_of_ble_eq_true rfl) (fun x hq => ?_)
  show J x yX3_lineOf cX3_lineOf 4 (some .int) d 0 0 (Wd u g ex).length 0 [(0, .ref 29), (1, .int sort)] [] (Wd u g ex) 0 0
  have E : Fx_Rd_lineOfX sort u g = Fx_Rd_lineOfX sort u g := rfl
  refine J_iload_n (i := 1) (j := 1) dX3_lineOf_0 rfl rfl ?_
  refine J_if_ne (tgt := 9) dX3_lineOf_1 (by decide) (fun c1 => ?_) (fun c1 => ?_)
  · replace E := xq_en c1 E
    refine J_iconst (v := 5) dX3_lineOf_9 (by decide) ?_
    refine J_istore_n (i := 2) (lw := [(2, .int 5), (0, .ref 29), (1, .int sort)]) dX3_lineOf_10 rfl (by decide) rfl ?_
    refine J_iconst (v := 0) dX3_lineOf_11 (by decide) ?_
    refine J_istore_n (i := 3) (lw := [(3, .int 0), (2, .int 5), (0, .ref 29), (1, .int sort)]) dX3_lineOf_12 rfl (by decide) rfl ?_
    have lp60 : ∀ (n61 : Nat) (w45 : Int32), Bd 0 5 w45 → (5 - w45.toInt).toNat < n61 → Fx_Rd_lineOfX_L13 sort u g n61 w45 = Fx_Rd_lineOfX sort u g → J x yX3_lineOf cX3_lineOf 4 (some .int) d 0 0 (Wd u g ex).length 13 [(0, .ref 29), (1, .int sort), (2, .int 5), (3, .int w45)] [] (Wd u g ex) 0 0 := by
      intro n61
      induction n61 with
      | zero => intro w45 bw45 hm63 _; exact absurd hm63 (Nat.not_lt_zero _)
      | succ n61 ih62 =>
        intro w45 bw45 hm63 E
        replace E := Fx_Rd_lineOfX_L13_s.symm.trans E
        refine J_iload_n (i := 3) (j := 3) dX3_lineOf_13 rfl rfl ?_
        refine J_iload_n (i := 2) (j := 2) dX3_lineOf_14 rfl rfl ?_
        refine J_icmp_ge (tgt := 51) dX3_lineOf_15 (by decide) (fun c64 => ?_) (fun c64 => ?_)
        · replace E := xq_ep c64 E
          refine J_iconst (v := (-1)) dX3_lineOf_51 (by decide) ?_
          exact J_iret hq dX3_lineOf_52 rfl wlen (Nat.le_refl _) (Nat.le_refl _) ⟨((-1) : Int32), rfl, rfl, (bd_w (l := (-1)) (h := 14) (bd_c (v := (-1)) (lo := (-1)) (hi := (-1)) (by decide)) (by decide)), (Or.inr (bd_w (l := (-1)) (h := 4) (bd_c (v := (-1)) (lo := (-1)) (hi := (-1)) (by decide)) (by decide))), E⟩
        · replace E := xq_en c64 E
          refine J_aload_n (i := 0) (j := 0) dX3_lineOf_18 rfl rfl ?_
          refine J_get (C := RX3) (T := TX3) (Z := 7) (ci := 3) (f := 0) dX3_lineOf_19 inG3 rfl (by decide) k260 wc_29 rfl ?_
          refine J_iload_n (i := 1) (j := 1) dX3_lineOf_22 rfl rfl ?_
          refine J_if_ne (tgt := 33) dX3_lineOf_23 (by decide) (fun c65 => ?_) (fun c65 => ?_)
          · replace E := xq_en c65 E
            refine J_iload_n (i := 3) (j := 3) dX3_lineOf_33 rfl rfl ?_
            refine J_callS (As := [.int w45]) (rest := [.ref 30]) dX3_lineOf_34 (c_Rd_planWordX (d := 0) (u := u) (g := g) (ex := ex) (line := w45)  (by decide) ) hq.n k543 k544 k91 k545 np_X3_planWord (Nat.le_trans (by decide) hd) (by decide) (Nat.le_refl _) (Nat.le_refl _) wlen rfl (Nat.le_of_ble_eq_true rfl) (fun r_ h_ p70 => ?_)
            obtain ⟨i71, rfl, rfl, h72, hx73⟩ := p70
            replace E := xq_le hx73 E
            refine J_callV (As := [.retAddr (10 + i71)]) (rest := []) dX3_lineOf_37 (c_Tk_isWordX (d := 4) (u := u) (g := g) (ex := ex)  (i := i71)  (by decide) h72 hp0 hp1 hp2 hp3) hq.n k549 k550 k551 wc_30 rfl rfl k92 k552 np_X6_isWord (Nat.le_trans (by decide) hd) (by decide) (Nat.le_refl _) (Nat.le_refl _) wlen rfl (Nat.le_of_ble_eq_true rfl) (fun r_ h_ p74 => ?_)
            obtain ⟨t75, rfl, rfl, hx76⟩ := p74
            replace E := xq_le hx76 E
            refine J_ifB_eq (tgt := 45) dX3_lineOf_40 (by decide) (fun c77 => ?_) (fun c77 => ?_)
            · replace E := xq_ef c77 E
              refine J_iinc (i := 3) (j := 3) (v := (w45 + 1)) (lw := [(3, .int (w45 + 1)), (0, .ref 29), (1, .int sort), (2, .int 5)]) dX3_lineOf_45 rfl rfl (by decide) rfl ?_
              refine J_goto (tgt := 13) dX3_lineOf_48 (by decide) ?_
              refine J_lv [1, 2, 3, 0] rfl ?_
              exact ih62 (w45 + 1) (bd_w (l := 0) (h := 5) (bd_add (l := 1) (h := 5) (bd_lt_hi bw45 (i_nle c64) (bd_c (v := 5) (lo := 5) (hi := 5) (by decide))) (bd_c (v := 1) (lo := 1) (hi := 1) (by decide)) (by decide)) (by decide)) (mu_up 1 bw45 rfl (by decide) (bd_w (l := 1) (h := 5) (bd_add (l := 1) (h := 5) (bd_lt_hi bw45 (i_nle c64) (bd_c (v := 5) (lo := 5) (hi := 5) (by decide))) (bd_c (v := 1) (lo := 1) (hi := 1) (by decide)) (by decide)) (by decide)) hm63) E
            · replace E := xq_ep c77 E
              refine J_iload_n (i := 3) (j := 3) dX3_lineOf_43 rfl rfl ?_
              exact J_iret hq dX3_lineOf_44 rfl wlen (Nat.le_refl _) (Nat.le_refl _) ⟨w45, rfl, rfl, (bd_w (l := (-1)) (h := 14) (bd_lt_hi bw45 (i_nle c64) (bd_c (v := 5) (lo := 5) (hi := 5) (by decide))) (by decide)), (Or.inr (bd_w (l := (-1)) (h := 4) (bd_lt_hi bw45 (i_nle c64) (bd_c (v := 5) (lo := 5) (hi := 5) (by decide))) (by decide))), E⟩
          · exact absurd c65 c1
    refine J_lv [2, 3, 1, 0] rfl ?_
    exact lp60 ((5 - (0 : Int32).toInt).toNat + 1) (0 : Int32) (bd_w (l := 0) (h := 5) (bd_c (v := 0) (lo := 0) (hi := 0) (by decide)) (by decide)) (Nat.lt_succ_self _) E
  · replace E := xq_ep c1 E
    refine J_bipush (v := 15) dX3_lineOf_4 (by decide) ?_
    refine J_goto (tgt := 10) dX3_lineOf_6 (by decide) ?_
    refine J_istore_n (i := 2) (lw := [(2, .int 15), (0, .ref 29), (1, .int sort)]) dX3_lineOf_10 rfl (by decide) rfl ?_
    refine J_iconst (v := 0) dX3_lineOf_11 (by decide) ?_
    refine J_istore_n (i := 3) (lw := [(3, .int 0), (2, .int 15), (0, .ref 29), (1, .int sort)]) dX3_lineOf_12 rfl (by decide) rfl ?_
    have lp151 : ∀ (n152 : Nat) (w136 : Int32), Bd 0 15 w136 → (15 - w136.toInt).toNat < n152 → Fx_Rd_lineOfX_L13b sort u g n152 w136 = Fx_Rd_lineOfX sort u g → J x yX3_lineOf cX3_lineOf 4 (some .int) d 0 0 (Wd u g ex).length 13 [(0, .ref 29), (1, .int sort), (2, .int 15), (3, .int w136)] [] (Wd u g ex) 0 0 := by
      intro n152
      induction n152 with
      | zero => intro w136 bw136 hm154 _; exact absurd hm154 (Nat.not_lt_zero _)
      | succ n152 ih153 =>
        intro w136 bw136 hm154 E
        replace E := Fx_Rd_lineOfX_L13b_s.symm.trans E
        refine J_iload_n (i := 3) (j := 3) dX3_lineOf_13 rfl rfl ?_
        refine J_iload_n (i := 2) (j := 2) dX3_lineOf_14 rfl rfl ?_
        refine J_icmp_ge (tgt := 51) dX3_lineOf_15 (by decide) (fun c155 => ?_) (fun c155 => ?_)
        · replace E := xq_ep c155 E
          refine J_iconst (v := (-1)) dX3_lineOf_51 (by decide) ?_
          exact J_iret hq dX3_lineOf_52 rfl wlen (Nat.le_refl _) (Nat.le_refl _) ⟨((-1) : Int32), rfl, rfl, (bd_w (l := (-1)) (h := 14) (bd_c (v := (-1)) (lo := (-1)) (hi := (-1)) (by decide)) (by decide)), (Or.inl c1), E⟩
        · replace E := xq_en c155 E
          refine J_aload_n (i := 0) (j := 0) dX3_lineOf_18 rfl rfl ?_
          refine J_get (C := RX3) (T := TX3) (Z := 7) (ci := 3) (f := 0) dX3_lineOf_19 inG3 rfl (by decide) k260 wc_29 rfl ?_
          refine J_iload_n (i := 1) (j := 1) dX3_lineOf_22 rfl rfl ?_
          refine J_if_ne (tgt := 33) dX3_lineOf_23 (by decide) (fun c156 => ?_) (fun c156 => ?_)
          · exact (bd_no (bd_ne_lo (bd_r c1 (bd_c (v := 0) (lo := 0) (hi := 0) (by decide))) c156 (by decide)) (by decide)).elim
          · replace E := xq_ep c156 E
            refine J_iload_n (i := 3) (j := 3) dX3_lineOf_26 rfl rfl ?_
            refine J_callS (As := [.int w136]) (rest := [.ref 30]) dX3_lineOf_27 (c_Rd_hillWordX (d := 0) (u := u) (g := g) (ex := ex) (line := w136)  (by decide) ) hq.n k525 k526 k91 k527 np_X3_hillWord (Nat.le_trans (by decide) hd) (by decide) (Nat.le_refl _) (Nat.le_refl _) wlen rfl (Nat.le_of_ble_eq_true rfl) (fun r_ h_ p161 => ?_)
            obtain ⟨i162, rfl, rfl, h163, hx164⟩ := p161
            replace E := xq_le hx164 E
            refine J_goto (tgt := 37) dX3_lineOf_30 (by decide) ?_
            refine J_callV (As := [.retAddr (10 + i162)]) (rest := []) dX3_lineOf_37 (c_Tk_isWordX (d := 4) (u := u) (g := g) (ex := ex)  (i := i162)  (by decide) h163 hp0 hp1 hp2 hp3) hq.n k549 k550 k551 wc_30 rfl rfl k92 k552 np_X6_isWord (Nat.le_trans (by decide) hd) (by decide) (Nat.le_refl _) (Nat.le_refl _) wlen rfl (Nat.le_of_ble_eq_true rfl) (fun r_ h_ p165 => ?_)
            obtain ⟨t166, rfl, rfl, hx167⟩ := p165
            replace E := xq_le hx167 E
            refine J_ifB_eq (tgt := 45) dX3_lineOf_40 (by decide) (fun c168 => ?_) (fun c168 => ?_)
            · replace E := xq_ef c168 E
              refine J_iinc (i := 3) (j := 3) (v := (w136 + 1)) (lw := [(3, .int (w136 + 1)), (0, .ref 29), (1, .int sort), (2, .int 15)]) dX3_lineOf_45 rfl rfl (by decide) rfl ?_
              refine J_goto (tgt := 13) dX3_lineOf_48 (by decide) ?_
              refine J_lv [1, 2, 3, 0] rfl ?_
              exact ih153 (w136 + 1) (bd_w (l := 0) (h := 15) (bd_add (l := 1) (h := 15) (bd_lt_hi bw136 (i_nle c155) (bd_c (v := 15) (lo := 15) (hi := 15) (by decide))) (bd_c (v := 1) (lo := 1) (hi := 1) (by decide)) (by decide)) (by decide)) (mu_up 1 bw136 rfl (by decide) (bd_w (l := 1) (h := 15) (bd_add (l := 1) (h := 15) (bd_lt_hi bw136 (i_nle c155) (bd_c (v := 15) (lo := 15) (hi := 15) (by decide))) (bd_c (v := 1) (lo := 1) (hi := 1) (by decide)) (by decide)) (by decide)) hm154) E
            · replace E := xq_ep c168 E
              refine J_iload_n (i := 3) (j := 3) dX3_lineOf_43 rfl rfl ?_
              exact J_iret hq dX3_lineOf_44 rfl wlen (Nat.le_refl _) (Nat.le_refl _) ⟨w136, rfl, rfl, (bd_w (l := (-1)) (h := 14) (bd_lt_hi bw136 (i_nle c155) (bd_c (v := 15) (lo := 15) (hi := 15) (by decide))) (by decide)), (Or.inl c1), E⟩
    refine J_lv [2, 3, 1, 0] rfl ?_
    exact lp151 ((15 - (0 : Int32).toInt).toNat + 1) (0 : Int32) (bd_w (l := 0) (h := 15) (bd_c (v := 0) (lo := 0) (hi := 0) (by decide)) (by decide)) (Nat.lt_succ_self _) E
set_option maxRecDepth 100000 in
noncomputable def Fx_Rd_breaksOffX (u : Nat → Nat → Int32) (g : Nat → Nat → Int64) : Bool × (Nat → Nat → Int32) := xq_lt (ms u 29 5 1) fun u1 => xq_lt (ms u1 29 6 (u 30 4)) fun u3 => (false, u3)
set_option maxHeartbeats 4000000 in
set_option maxRecDepth 100000 in
theorem c_Rd_breaksOffX {d : Nat} {u : Nat → Nat → Int32} {g : Nat → Nat → Int64} {ex : List MC}  (hd : 0 ≤ d)  : CT con0 d 0 0 yX3_breaksOff cX3_breaksOff 1 (some .boolean) [.ref 29] (Wd u g ex) (fun r h2 => ∃ (z : Bool) (u2 : Nat → Nat → Int32), r = some (.int (bI z)) ∧ h2 = Wd u2 g ex ∧ (z, u2) = Fx_Rd_breaksOffX u g ∧ (∀ c, c ≠ 29 → u2 c = u c) ∧ (∀ j, j ≠ 5 → j ≠ 6 → u2 29 j = u 29 j)) := by
  refine CT_of (by decide) (Nat.le_of_ble_eq_true rfl) (fun x hq => ?_)
  show J x yX3_breaksOff cX3_breaksOff 1 (some .boolean) d 0 0 (Wd u g ex).length 0 [(0, .ref 29)] [] (Wd u g ex) 0 0
  have E : Fx_Rd_breaksOffX u g = Fx_Rd_breaksOffX u g := rfl
  refine J_aload_n (i := 0) (j := 0) dX3_breaksOff_0 rfl rfl ?_
  refine J_iconst (v := 1) dX3_breaksOff_1 (by decide) ?_
  obtain ⟨u1, e2⟩ : ∃ z, z = ms u 29 5 1 := ⟨_, rfl⟩
  refine J_put (C := RX3) (T := TX3) (Z := 7) (ci := 3) (f := 5) (ty0 := tyX3) dX3_breaksOff_2 inG3 rfl tyX3_ok nmX3 (by decide) k267 rfl rfl wc_29 (Nat.le_of_ble_eq_true rfl) (fun _ _ => ⟨rfl, rfl⟩) (ws e2 wk_29 rfl) ?_
  replace E := xq_le e2 E
  refine J_aload_n (i := 0) (j := 0) dX3_breaksOff_5 rfl rfl ?_
  refine J_aload_n (i := 0) (j := 0) dX3_breaksOff_6 rfl rfl ?_
  refine J_get (C := RX3) (T := TX3) (Z := 7) (ci := 3) (f := 0) dX3_breaksOff_7 inG3 rfl (by decide) k260 wc_29 rfl ?_
  refine J_getN (C := RX6) (T := TX6) (Z := 6) (ci := 6) (f := 4) dX3_breaksOff_10 inG6 rfl (by decide) k239 wc_30 rfl ?_
  refine J_ci (v := u 30 4) (congrFun (ms_c e2 (Nat.ne_of_beq_eq_false rfl)) 4) ?_
  obtain ⟨u3, e4⟩ : ∃ z, z = ms u1 29 6 (u 30 4) := ⟨_, rfl⟩
  refine J_put (C := RX3) (T := TX3) (Z := 7) (ci := 3) (f := 6) (ty0 := tyX3) dX3_breaksOff_13 inG3 rfl tyX3_ok nmX3 (by decide) k269 rfl rfl wc_29 (Nat.le_of_ble_eq_true rfl) (fun _ _ => ⟨rfl, rfl⟩) (ws e4 wk_29 rfl) ?_
  replace E := xq_le e4 E
  refine J_iconst (v := 0) dX3_breaksOff_16 (by decide) ?_
  exact J_zret hq dX3_breaksOff_17 rfl rfl wlen (Nat.le_refl _) (Nat.le_refl _) ⟨false, u3, rfl, rfl, E, (fun c k0_ => ((ms_c e4 k0_).trans (ms_c e2 k0_))), (fun j k5_ k6_ => ((ms_i e4 k6_).trans (ms_i e2 k5_)))⟩
set_option maxRecDepth 100000 in
noncomputable def Fx_Rd_rememberX (newFault : Int32) (newPlace : Int32) (u : Nat → Nat → Int32) (g : Nat → Nat → Int64) : (Nat → Nat → Int32) := if (u 29 5) = (0 : Int32) then (xq_lt (ms u 29 5 newFault) fun u2 => xq_lt (ms u2 29 6 newPlace) fun u4 => u4) else (u)
set_option maxHeartbeats 4000000 in
set_option maxRecDepth 100000 in
theorem c_Rd_rememberX {d : Nat} {u : Nat → Nat → Int32} {g : Nat → Nat → Int64} {ex : List MC} {newFault : Int32} {newPlace : Int32} (hd : 0 ≤ d)  : CT con0 d 0 0 yX3_remember cX3_remember 3 none [.ref 29, .int newFault, .int newPlace] (Wd u g ex) (fun r h2 => ∃ (u2 : Nat → Nat → Int32), r = none ∧ h2 = Wd u2 g ex ∧ u2 = Fx_Rd_rememberX newFault newPlace u g ∧ (∀ c, c ≠ 29 → u2 c = u c) ∧ (∀ j, j ≠ 5 → j ≠ 6 → u2 29 j = u 29 j)) := by
  refine CT_of (by decide) (Nat.le_of_ble_eq_true rfl) (fun x hq => ?_)
  show J x yX3_remember cX3_remember 3 none d 0 0 (Wd u g ex).length 0 [(0, .ref 29), (1, .int newFault), (2, .int newPlace)] [] (Wd u g ex) 0 0
  have E : Fx_Rd_rememberX newFault newPlace u g = Fx_Rd_rememberX newFault newPlace u g := rfl
  refine J_aload_n (i := 0) (j := 0) dX3_remember_0 rfl rfl ?_
  refine J_get (C := RX3) (T := TX3) (Z := 7) (ci := 3) (f := 5) dX3_remember_1 inG3 rfl (by decide) k267 wc_29 rfl ?_
  refine J_if_ne (tgt := 17) dX3_remember_4 (by decide) (fun c1 => ?_) (fun c1 => ?_)
  · replace E := xq_en c1 E
    exact J_vret hq dX3_remember_17 rfl wlen (Nat.le_refl _) (Nat.le_refl _) ⟨u, rfl, rfl, E, (fun c k0_ => rfl), (fun j k5_ k6_ => rfl)⟩
  · replace E := xq_ep c1 E
    refine J_aload_n (i := 0) (j := 0) dX3_remember_7 rfl rfl ?_
    refine J_iload_n (i := 1) (j := 1) dX3_remember_8 rfl rfl ?_
    obtain ⟨u2, e3⟩ : ∃ z, z = ms u 29 5 newFault := ⟨_, rfl⟩
    refine J_put (C := RX3) (T := TX3) (Z := 7) (ci := 3) (f := 5) (ty0 := tyX3) dX3_remember_9 inG3 rfl tyX3_ok nmX3 (by decide) k267 rfl rfl wc_29 (Nat.le_of_ble_eq_true rfl) (fun _ _ => ⟨rfl, rfl⟩) (ws e3 wk_29 rfl) ?_
    replace E := xq_le e3 E
    refine J_aload_n (i := 0) (j := 0) dX3_remember_12 rfl rfl ?_
    refine J_iload_n (i := 2) (j := 2) dX3_remember_13 rfl rfl ?_
    obtain ⟨u4, e5⟩ : ∃ z, z = ms u2 29 6 newPlace := ⟨_, rfl⟩
    refine J_put (C := RX3) (T := TX3) (Z := 7) (ci := 3) (f := 6) (ty0 := tyX3) dX3_remember_14 inG3 rfl tyX3_ok nmX3 (by decide) k269 rfl rfl wc_29 (Nat.le_of_ble_eq_true rfl) (fun _ _ => ⟨rfl, rfl⟩) (ws e5 wk_29 rfl) ?_
    replace E := xq_le e5 E
    exact J_vret hq dX3_remember_17 rfl wlen (Nat.le_refl _) (Nat.le_refl _) ⟨u4, rfl, rfl, E, (fun c k0_ => ((ms_c e5 k0_).trans (ms_c e3 k0_))), (fun j k5_ k6_ => ((ms_i e5 k6_).trans (ms_i e3 k5_)))⟩
set_option maxRecDepth 100000 in
noncomputable def Fx_Rd_isFullX (line : Int32) (u : Nat → Nat → Int32) (g : Nat → Nat → Int64) : Bool := if line = (0 : Int32) then (if (9 : Int32) ≤ (u 32 0) then (true) else (if line = (11 : Int32) then (default) else (false))) else (if line = (11 : Int32) then (if (u 32 2) < (4 : Int32) then (false) else (true)) else (false))
set_option maxHeartbeats 4000000 in
set_option maxRecDepth 100000 in
theorem c_Rd_isFullX {d : Nat} {u : Nat → Nat → Int32} {g : Nat → Nat → Int64} {ex : List MC} {line : Int32} (hd : 0 ≤ d)  : CT con0 d 0 0 yX3_isFull cX3_isFull 2 (some .boolean) [.ref 29, .int line] (Wd u g ex) (fun r h2 => ∃ (z : Bool), r = some (.int (bI z)) ∧ h2 = Wd u g ex ∧ z = Fx_Rd_isFullX line u g) := by
  refine CT_of (by decide) (Nat.le_of_ble_eq_true rfl) (fun x hq => ?_)
  show J x yX3_isFull cX3_isFull 2 (some .boolean) d 0 0 (Wd u g ex).length 0 [(0, .ref 29), (1, .int line)] [] (Wd u g ex) 0 0
  have E : Fx_Rd_isFullX line u g = Fx_Rd_isFullX line u g := rfl
  refine J_iload_n (i := 1) (j := 1) dX3_isFull_0 rfl rfl ?_
  refine J_if_ne (tgt := 16) dX3_isFull_1 (by decide) (fun c1 => ?_) (fun c1 => ?_)
  · replace E := xq_en c1 E
    refine J_iload_n (i := 1) (j := 1) dX3_isFull_16 rfl rfl ?_
    refine J_bipush (v := 11) dX3_isFull_17 (by decide) ?_
    refine J_icmp_ne (tgt := 37) dX3_isFull_19 (by decide) (fun c2 => ?_) (fun c2 => ?_)
    · replace E := xq_en c2 E
      refine J_iconst (v := 0) dX3_isFull_37 (by decide) ?_
      exact J_zret hq dX3_isFull_38 rfl rfl wlen (Nat.le_refl _) (Nat.le_refl _) ⟨false, rfl, rfl, E⟩
    · replace E := xq_ep c2 E
      refine J_aload_n (i := 0) (j := 0) dX3_isFull_22 rfl rfl ?_
      refine J_get (C := RX3) (T := TX3) (Z := 7) (ci := 3) (f := 1) dX3_isFull_23 inG3 rfl (by decide) k261 wc_29 rfl ?_
      refine J_getN (C := RX1) (T := TX1) (Z := 6) (ci := 1) (f := 2) dX3_isFull_26 inG1 rfl (by decide) k140 wc_32 rfl ?_
      refine J_iconst (v := 4) dX3_isFull_29 (by decide) ?_
      refine J_icmp_lt (tgt := 37) dX3_isFull_30 (by decide) (fun c3 => ?_) (fun c3 => ?_)
      · replace E := xq_ep c3 E
        refine J_iconst (v := 0) dX3_isFull_37 (by decide) ?_
        exact J_zret hq dX3_isFull_38 rfl rfl wlen (Nat.le_refl _) (Nat.le_refl _) ⟨false, rfl, rfl, E⟩
      · replace E := xq_en c3 E
        refine J_iconst (v := 1) dX3_isFull_33 (by decide) ?_
        refine J_goto (tgt := 38) dX3_isFull_34 (by decide) ?_
        exact J_zret hq dX3_isFull_38 rfl rfl wlen (Nat.le_refl _) (Nat.le_refl _) ⟨true, rfl, rfl, E⟩
  · replace E := xq_ep c1 E
    refine J_aload_n (i := 0) (j := 0) dX3_isFull_4 rfl rfl ?_
    refine J_get (C := RX3) (T := TX3) (Z := 7) (ci := 3) (f := 1) dX3_isFull_5 inG3 rfl (by decide) k261 wc_29 rfl ?_
    refine J_getN (C := RX1) (T := TX1) (Z := 6) (ci := 1) (f := 0) dX3_isFull_8 inG1 rfl (by decide) k135 wc_32 rfl ?_
    refine J_bipush (v := 9) dX3_isFull_11 (by decide) ?_
    refine J_icmp_ge (tgt := 33) dX3_isFull_13 (by decide) (fun c4 => ?_) (fun c4 => ?_)
    · replace E := xq_ep c4 E
      refine J_iconst (v := 1) dX3_isFull_33 (by decide) ?_
      refine J_goto (tgt := 38) dX3_isFull_34 (by decide) ?_
      exact J_zret hq dX3_isFull_38 rfl rfl wlen (Nat.le_refl _) (Nat.le_refl _) ⟨true, rfl, rfl, E⟩
    · replace E := xq_en c4 E
      refine J_iload_n (i := 1) (j := 1) dX3_isFull_16 rfl rfl ?_
      refine J_bipush (v := 11) dX3_isFull_17 (by decide) ?_
      refine J_icmp_ne (tgt := 37) dX3_isFull_19 (by decide) (fun c5 => ?_) (fun c5 => ?_)
      · replace E := xq_en c5 E
        refine J_iconst (v := 0) dX3_isFull_37 (by decide) ?_
        exact J_zret hq dX3_isFull_38 rfl rfl wlen (Nat.le_refl _) (Nat.le_refl _) ⟨false, rfl, rfl, E⟩
      · exact (bd_neq c5 (bd_r c1 (bd_c (v := 0) (lo := 0) (hi := 0) (by decide))) (bd_c (v := 11) (lo := 11) (hi := 11) (by decide)) (by decide)).elim
set_option maxRecDepth 100000 in
noncomputable def Fx_Rd_canBeInHillX (line : Int32) (i : Int32) (u : Nat → Nat → Int32) (g : Nat → Nat → Int64) : Bool := xq_lt (u 41 i.toNatClampNeg) fun v1 => xq_lt ((sAr 2).getD (((3 : Int32) * line) + i).toNatClampNeg 0) fun v2 => if v1 ≤ v2 then (if line = (0 : Int32) then (if i = (1 : Int32) then (if (u 41 0) < v1 then (false) else (true)) else (true)) else (if line ≤ (10 : Int32) then (if i = (0 : Int32) then (if (u 32 0) ≤ v1 then (false) else (true)) else (if (1 : Int32) < i then (true) else (if (2 : Int32) < line then (true) else (if v1 ≤ (u 41 0) then (false) else (if (u 32 0) ≤ v1 then (false) else (true)))))) else (true))) else (false)
set_option maxHeartbeats 4000000 in
set_option maxRecDepth 100000 in
theorem c_Rd_canBeInHillX {d : Nat} {u : Nat → Nat → Int32} {g : Nat → Nat → Int64} {ex : List MC} {line : Int32} {i : Int32} (hd : 0 ≤ d) (hp0 : Bd 0 14 line) (hp1 : Bd 0 2 i) (hp2 : AB u 41 0 999) : CT con0 d 0 0 yX3_canBeInHill cX3_canBeInHill 4 (some .boolean) [.ref 29, .int line, .int i] (Wd u g ex) (fun r h2 => ∃ (z : Bool), r = some (.int (bI z)) ∧ h2 = Wd u g ex ∧ z = Fx_Rd_canBeInHillX line i u g) := by
  refine CT_of (by decide) (Nat.le_of_ble_eq_true rfl) (fun x hq => ?_)
  show J x yX3_canBeInHill cX3_canBeInHill 4 (some .boolean) d 0 0 (Wd u g ex).length 0 [(0, .ref 29), (1, .int line), (2, .int i)] [] (Wd u g ex) 0 0
  have E : Fx_Rd_canBeInHillX line i u g = Fx_Rd_canBeInHillX line i u g := rfl
  refine J_aload_n (i := 0) (j := 0) dX3_canBeInHill_0 rfl rfl ?_
  refine J_get (C := RX3) (T := TX3) (Z := 7) (ci := 3) (f := 3) dX3_canBeInHill_1 inG3 rfl (by decide) k265 wc_29 rfl ?_
  refine J_iload_n (i := 2) (j := 2) dX3_canBeInHill_4 rfl rfl ?_
  refine J_iald dX3_canBeInHill_5 wc_41 (vin hp1 (by decide)) ?_
  refine J_topi (fun v1 qv1 => ?_)
  replace E := xq_le qv1 E
  refine J_istore_n (i := 3) (lw := [(3, .int v1), (0, .ref 29), (1, .int line), (2, .int i)]) dX3_canBeInHill_6 rfl (by decide) rfl ?_
  refine J_iload_n (i := 3) (j := 0) dX3_canBeInHill_7 rfl rfl ?_
  refine J_gets (i := 2) dX3_canBeInHill_8 (by decide) rfl k625 ?_
  refine J_iconst (v := 3) dX3_canBeInHill_11 (by decide) ?_
  refine J_iload_n (i := 1) (j := 2) dX3_canBeInHill_12 rfl rfl ?_
  refine J_imul dX3_canBeInHill_13 ?_
  refine J_iload_n (i := 2) (j := 3) dX3_canBeInHill_14 rfl rfl ?_
  refine J_iadd dX3_canBeInHill_15 ?_
  refine J_sald (i := 2) dX3_canBeInHill_16 (by decide) (vin (bd_add (l := 0) (h := 44) (bd_mul (l := 0) (h := 42) (bd_c (v := 3) (lo := 3) (hi := 3) (by decide)) hp0 (by decide)) hp1 (by decide)) (by decide)) ?_
  refine J_topi (fun v2 qv2 => ?_)
  replace E := xq_le qv2 E
  refine J_icmp_le (tgt := 22) dX3_canBeInHill_17 (by decide) (fun c3 => ?_) (fun c3 => ?_)
  · replace E := xq_ep c3 E
    refine J_iload_n (i := 1) (j := 2) dX3_canBeInHill_22 rfl rfl ?_
    refine J_if_ne (tgt := 47) dX3_canBeInHill_23 (by decide) (fun c4 => ?_) (fun c4 => ?_)
    · replace E := xq_en c4 E
      refine J_iload_n (i := 1) (j := 2) dX3_canBeInHill_47 rfl rfl ?_
      refine J_bipush (v := 10) dX3_canBeInHill_48 (by decide) ?_
      refine J_icmp_le (tgt := 55) dX3_canBeInHill_50 (by decide) (fun c5 => ?_) (fun c5 => ?_)
      · replace E := xq_ep c5 E
        refine J_iload_n (i := 2) (j := 3) dX3_canBeInHill_55 rfl rfl ?_
        refine J_if_ne (tgt := 76) dX3_canBeInHill_56 (by decide) (fun c6 => ?_) (fun c6 => ?_)
        · replace E := xq_en c6 E
          refine J_iload_n (i := 2) (j := 3) dX3_canBeInHill_76 rfl rfl ?_
          refine J_iconst (v := 1) dX3_canBeInHill_77 (by decide) ?_
          refine J_icmp_gt (tgt := 107) dX3_canBeInHill_78 (by decide) (fun c7 => ?_) (fun c7 => ?_)
          · replace E := xq_ep c7 E
            refine J_iconst (v := 1) dX3_canBeInHill_107 (by decide) ?_
            refine J_goto (tgt := 112) dX3_canBeInHill_108 (by decide) ?_
            exact J_zret hq dX3_canBeInHill_112 rfl rfl wlen (Nat.le_refl _) (Nat.le_refl _) ⟨true, rfl, rfl, E⟩
          · replace E := xq_en c7 E
            refine J_iload_n (i := 1) (j := 2) dX3_canBeInHill_81 rfl rfl ?_
            refine J_iconst (v := 2) dX3_canBeInHill_82 (by decide) ?_
            refine J_icmp_gt (tgt := 107) dX3_canBeInHill_83 (by decide) (fun c8 => ?_) (fun c8 => ?_)
            · replace E := xq_ep c8 E
              refine J_iconst (v := 1) dX3_canBeInHill_107 (by decide) ?_
              refine J_goto (tgt := 112) dX3_canBeInHill_108 (by decide) ?_
              exact J_zret hq dX3_canBeInHill_112 rfl rfl wlen (Nat.le_refl _) (Nat.le_refl _) ⟨true, rfl, rfl, E⟩
            · replace E := xq_en c8 E
              refine J_iload_n (i := 3) (j := 0) dX3_canBeInHill_86 rfl rfl ?_
              refine J_aload_n (i := 0) (j := 1) dX3_canBeInHill_87 rfl rfl ?_
              refine J_get (C := RX3) (T := TX3) (Z := 7) (ci := 3) (f := 3) dX3_canBeInHill_88 inG3 rfl (by decide) k265 wc_29 rfl ?_
              refine J_iconst (v := 0) dX3_canBeInHill_91 (by decide) ?_
              refine J_iald dX3_canBeInHill_92 wc_41 (vin (bd_c (v := 0) (lo := 0) (hi := 0) (by decide)) (by decide)) ?_
              refine J_ci (v := u 41 0) rfl ?_
              refine J_icmp_le (tgt := 111) dX3_canBeInHill_93 (by decide) (fun c9 => ?_) (fun c9 => ?_)
              · replace E := xq_ep c9 E
                refine J_iconst (v := 0) dX3_canBeInHill_111 (by decide) ?_
                exact J_zret hq dX3_canBeInHill_112 rfl rfl wlen (Nat.le_refl _) (Nat.le_refl _) ⟨false, rfl, rfl, E⟩
              · replace E := xq_en c9 E
                refine J_iload_n (i := 3) (j := 0) dX3_canBeInHill_96 rfl rfl ?_
                refine J_aload_n (i := 0) (j := 1) dX3_canBeInHill_97 rfl rfl ?_
                refine J_get (C := RX3) (T := TX3) (Z := 7) (ci := 3) (f := 1) dX3_canBeInHill_98 inG3 rfl (by decide) k261 wc_29 rfl ?_
                refine J_getN (C := RX1) (T := TX1) (Z := 6) (ci := 1) (f := 0) dX3_canBeInHill_101 inG1 rfl (by decide) k135 wc_32 rfl ?_
                refine J_icmp_ge (tgt := 111) dX3_canBeInHill_104 (by decide) (fun c10 => ?_) (fun c10 => ?_)
                · replace E := xq_ep c10 E
                  refine J_iconst (v := 0) dX3_canBeInHill_111 (by decide) ?_
                  exact J_zret hq dX3_canBeInHill_112 rfl rfl wlen (Nat.le_refl _) (Nat.le_refl _) ⟨false, rfl, rfl, E⟩
                · replace E := xq_en c10 E
                  refine J_iconst (v := 1) dX3_canBeInHill_107 (by decide) ?_
                  refine J_goto (tgt := 112) dX3_canBeInHill_108 (by decide) ?_
                  exact J_zret hq dX3_canBeInHill_112 rfl rfl wlen (Nat.le_refl _) (Nat.le_refl _) ⟨true, rfl, rfl, E⟩
        · replace E := xq_ep c6 E
          refine J_iload_n (i := 3) (j := 0) dX3_canBeInHill_59 rfl rfl ?_
          refine J_aload_n (i := 0) (j := 1) dX3_canBeInHill_60 rfl rfl ?_
          refine J_get (C := RX3) (T := TX3) (Z := 7) (ci := 3) (f := 1) dX3_canBeInHill_61 inG3 rfl (by decide) k261 wc_29 rfl ?_
          refine J_getN (C := RX1) (T := TX1) (Z := 6) (ci := 1) (f := 0) dX3_canBeInHill_64 inG1 rfl (by decide) k135 wc_32 rfl ?_
          refine J_icmp_ge (tgt := 74) dX3_canBeInHill_67 (by decide) (fun c11 => ?_) (fun c11 => ?_)
          · replace E := xq_ep c11 E
            refine J_iconst (v := 0) dX3_canBeInHill_74 (by decide) ?_
            exact J_zret hq dX3_canBeInHill_75 rfl rfl wlen (Nat.le_refl _) (Nat.le_refl _) ⟨false, rfl, rfl, E⟩
          · replace E := xq_en c11 E
            refine J_iconst (v := 1) dX3_canBeInHill_70 (by decide) ?_
            refine J_goto (tgt := 75) dX3_canBeInHill_71 (by decide) ?_
            exact J_zret hq dX3_canBeInHill_75 rfl rfl wlen (Nat.le_refl _) (Nat.le_refl _) ⟨true, rfl, rfl, E⟩
      · replace E := xq_en c5 E
        refine J_iconst (v := 1) dX3_canBeInHill_53 (by decide) ?_
        exact J_zret hq dX3_canBeInHill_54 rfl rfl wlen (Nat.le_refl _) (Nat.le_refl _) ⟨true, rfl, rfl, E⟩
    · replace E := xq_ep c4 E
      refine J_iload_n (i := 2) (j := 3) dX3_canBeInHill_26 rfl rfl ?_
      refine J_iconst (v := 1) dX3_canBeInHill_27 (by decide) ?_
      refine J_icmp_ne (tgt := 41) dX3_canBeInHill_28 (by decide) (fun c12 => ?_) (fun c12 => ?_)
      · replace E := xq_en c12 E
        refine J_iconst (v := 1) dX3_canBeInHill_41 (by decide) ?_
        refine J_goto (tgt := 46) dX3_canBeInHill_42 (by decide) ?_
        exact J_zret hq dX3_canBeInHill_46 rfl rfl wlen (Nat.le_refl _) (Nat.le_refl _) ⟨true, rfl, rfl, E⟩
      · replace E := xq_ep c12 E
        refine J_iload_n (i := 3) (j := 0) dX3_canBeInHill_31 rfl rfl ?_
        refine J_aload_n (i := 0) (j := 1) dX3_canBeInHill_32 rfl rfl ?_
        refine J_get (C := RX3) (T := TX3) (Z := 7) (ci := 3) (f := 3) dX3_canBeInHill_33 inG3 rfl (by decide) k265 wc_29 rfl ?_
        refine J_iconst (v := 0) dX3_canBeInHill_36 (by decide) ?_
        refine J_iald dX3_canBeInHill_37 wc_41 (vin (bd_c (v := 0) (lo := 0) (hi := 0) (by decide)) (by decide)) ?_
        refine J_ci (v := u 41 0) rfl ?_
        refine J_icmp_gt (tgt := 45) dX3_canBeInHill_38 (by decide) (fun c13 => ?_) (fun c13 => ?_)
        · replace E := xq_ep c13 E
          refine J_iconst (v := 0) dX3_canBeInHill_45 (by decide) ?_
          exact J_zret hq dX3_canBeInHill_46 rfl rfl wlen (Nat.le_refl _) (Nat.le_refl _) ⟨false, rfl, rfl, E⟩
        · replace E := xq_en c13 E
          refine J_iconst (v := 1) dX3_canBeInHill_41 (by decide) ?_
          refine J_goto (tgt := 46) dX3_canBeInHill_42 (by decide) ?_
          exact J_zret hq dX3_canBeInHill_46 rfl rfl wlen (Nat.le_refl _) (Nat.le_refl _) ⟨true, rfl, rfl, E⟩
  · replace E := xq_en c3 E
    refine J_iconst (v := 0) dX3_canBeInHill_20 (by decide) ?_
    exact J_zret hq dX3_canBeInHill_21 rfl rfl wlen (Nat.le_refl _) (Nat.le_refl _) ⟨false, rfl, rfl, E⟩
set_option maxRecDepth 100000 in
noncomputable def Fx_Rd_canBeInPlanX (line : Int32) (i : Int32) (u : Nat → Nat → Int32) (g : Nat → Nat → Int64) : Bool := xq_lt (u 41 i.toNatClampNeg) fun v1 => xq_lt ((sAr 4).getD (((3 : Int32) * line) + i).toNatClampNeg 0) fun v2 => if v1 < v2 then (false) else (xq_lt (u 41 i.toNatClampNeg) fun v4 => xq_lt ((sAr 5).getD (((3 : Int32) * line) + i).toNatClampNeg 0) fun v5 => if v5 < v4 then (false) else (true))
set_option maxHeartbeats 4000000 in
set_option maxRecDepth 100000 in
theorem c_Rd_canBeInPlanX {d : Nat} {u : Nat → Nat → Int32} {g : Nat → Nat → Int64} {ex : List MC} {line : Int32} {i : Int32} (hd : 0 ≤ d) (hp0 : Bd 0 4 line) (hp1 : Bd 0 2 i) (hp2 : AB u 41 0 999) : CT con0 d 0 0 yX3_canBeInPlan cX3_canBeInPlan 4 (some .boolean) [.ref 29, .int line, .int i] (Wd u g ex) (fun r h2 => ∃ (z : Bool), r = some (.int (bI z)) ∧ h2 = Wd u g ex ∧ z = Fx_Rd_canBeInPlanX line i u g) := by
  refine CT_of (by decide) (Nat.le_of_ble_eq_true rfl) (fun x hq => ?_)
  show J x yX3_canBeInPlan cX3_canBeInPlan 4 (some .boolean) d 0 0 (Wd u g ex).length 0 [(0, .ref 29), (1, .int line), (2, .int i)] [] (Wd u g ex) 0 0
  have E : Fx_Rd_canBeInPlanX line i u g = Fx_Rd_canBeInPlanX line i u g := rfl
  refine J_iconst (v := 3) dX3_canBeInPlan_0 (by decide) ?_
  refine J_iload_n (i := 1) (j := 1) dX3_canBeInPlan_1 rfl rfl ?_
  refine J_imul dX3_canBeInPlan_2 ?_
  refine J_iload_n (i := 2) (j := 2) dX3_canBeInPlan_3 rfl rfl ?_
  refine J_iadd dX3_canBeInPlan_4 ?_
  refine J_istore_n (i := 3) (lw := [(3, .int (((3 : Int32) * line) + i)), (0, .ref 29), (1, .int line), (2, .int i)]) dX3_canBeInPlan_5 rfl (by decide) rfl ?_
  refine J_aload_n (i := 0) (j := 1) dX3_canBeInPlan_6 rfl rfl ?_
  refine J_get (C := RX3) (T := TX3) (Z := 7) (ci := 3) (f := 3) dX3_canBeInPlan_7 inG3 rfl (by decide) k265 wc_29 rfl ?_
  refine J_iload_n (i := 2) (j := 3) dX3_canBeInPlan_10 rfl rfl ?_
  refine J_iald dX3_canBeInPlan_11 wc_41 (vin hp1 (by decide)) ?_
  refine J_topi (fun v1 qv1 => ?_)
  replace E := xq_le qv1 E
  refine J_gets (i := 4) dX3_canBeInPlan_12 (by decide) rfl k631 ?_
  refine J_iload_n (i := 3) (j := 0) dX3_canBeInPlan_15 rfl rfl ?_
  refine J_sald (i := 4) dX3_canBeInPlan_16 (by decide) (vin (bd_add (l := 0) (h := 14) (bd_mul (l := 0) (h := 12) (bd_c (v := 3) (lo := 3) (hi := 3) (by decide)) hp0 (by decide)) hp1 (by decide)) (by decide)) ?_
  refine J_topi (fun v2 qv2 => ?_)
  replace E := xq_le qv2 E
  refine J_icmp_lt (tgt := 38) dX3_canBeInPlan_17 (by decide) (fun c3 => ?_) (fun c3 => ?_)
  · replace E := xq_ep c3 E
    refine J_iconst (v := 0) dX3_canBeInPlan_38 (by decide) ?_
    exact J_zret hq dX3_canBeInPlan_39 rfl rfl wlen (Nat.le_refl _) (Nat.le_refl _) ⟨false, rfl, rfl, E⟩
  · replace E := xq_en c3 E
    refine J_aload_n (i := 0) (j := 1) dX3_canBeInPlan_20 rfl rfl ?_
    refine J_get (C := RX3) (T := TX3) (Z := 7) (ci := 3) (f := 3) dX3_canBeInPlan_21 inG3 rfl (by decide) k265 wc_29 rfl ?_
    refine J_iload_n (i := 2) (j := 3) dX3_canBeInPlan_24 rfl rfl ?_
    refine J_iald dX3_canBeInPlan_25 wc_41 (vin hp1 (by decide)) ?_
    refine J_topi (fun v4 qv4 => ?_)
    replace E := xq_le qv4 E
    refine J_gets (i := 5) dX3_canBeInPlan_26 (by decide) rfl k633 ?_
    refine J_iload_n (i := 3) (j := 0) dX3_canBeInPlan_29 rfl rfl ?_
    refine J_sald (i := 5) dX3_canBeInPlan_30 (by decide) (vin (bd_add (l := 0) (h := 14) (bd_mul (l := 0) (h := 12) (bd_c (v := 3) (lo := 3) (hi := 3) (by decide)) hp0 (by decide)) hp1 (by decide)) (by decide)) ?_
    refine J_topi (fun v5 qv5 => ?_)
    replace E := xq_le qv5 E
    refine J_icmp_gt (tgt := 38) dX3_canBeInPlan_31 (by decide) (fun c6 => ?_) (fun c6 => ?_)
    · replace E := xq_ep c6 E
      refine J_iconst (v := 0) dX3_canBeInPlan_38 (by decide) ?_
      exact J_zret hq dX3_canBeInPlan_39 rfl rfl wlen (Nat.le_refl _) (Nat.le_refl _) ⟨false, rfl, rfl, E⟩
    · replace E := xq_en c6 E
      refine J_iconst (v := 1) dX3_canBeInPlan_34 (by decide) ?_
      refine J_goto (tgt := 39) dX3_canBeInPlan_35 (by decide) ?_
      exact J_zret hq dX3_canBeInPlan_39 rfl rfl wlen (Nat.le_refl _) (Nat.le_refl _) ⟨true, rfl, rfl, E⟩
end
