theorem k1109 : Cond.methodLink RX9 3 objectInit ∈ gt := gt_t5 (i := 63) rfl rfl
theorem k1110 : Cond.fieldLink RX9 9 "PondStair$Years" "x" "I" ∈ gt := gt_t5 (i := 64) rfl rfl
theorem k1126 : Cond.constant RX9 15 1103515245 ∈ gt := gt_t5 (i := 80) rfl rfl
theorem k1122 : Cond.methodLink RX9 41 yX9_draw ∈ gt := gt_t5 (i := 76) rfl rfl
theorem k1124 : Cond.instanceMethod yX9_draw ∈ gt := gt_t5 (i := 78) rfl rfl
theorem k34 : Cond.selects RX9 yX9_draw yX9_draw ∈ gt := gt_in 34 (by decide +kernel) (by decide +kernel)
theorem k106 : Cond.initialized RX9 ∈ gt := gt_t1 (i := 20) rfl rfl
theorem k1125 : Cond.code yX9_draw cX9_draw 2 (some .int) ∈ gt := gt_t5 (i := 79) rfl rfl
theorem np_X9_draw : yX9_draw.cls ≠ "java/lang/invoke/MethodHandle" ∧ yX9_draw.cls ≠ "java/lang/invoke/VarHandle" ∧ (parseMethodDescriptor yX9_draw.desc).map (fun d => d.parameters.length) = some 1 := by decide +kernel
theorem k141 : Cond.fieldLinkNest RX9 44 "PondStair$Hill" "rains" "I" "PondStair" ∈ nt := nt_t1 (i := 55) rfl rfl
theorem k1127 : Cond.methodLink RX9 47 yX1_chanceOf ∈ gt := gt_t5 (i := 81) rfl rfl
theorem k133 : Cond.fieldLinkNest RX9 50 "PondStair$Hill" "ponds" "I" "PondStair" ∈ nt := nt_t1 (i := 47) rfl rfl
theorem k1133 : Cond.methodLink RX9 53 yX1_of ∈ gt := gt_t5 (i := 87) rfl rfl
theorem k1134 : Cond.methodLinkNest RX9 57 yX10_bit "PondStair" ∈ nt := nt_t5 (i := 88) rfl rfl
theorem k1118 : Cond.methodLink RX9 16 yX9_drawRain ∈ gt := gt_t5 (i := 72) rfl rfl
theorem k1120 : Cond.instanceMethod yX9_drawRain ∈ gt := gt_t5 (i := 74) rfl rfl
theorem k33 : Cond.selects RX9 yX9_drawRain yX9_drawRain ∈ gt := gt_in 33 (by decide +kernel) (by decide +kernel)
theorem k1121 : Cond.code yX9_drawRain cX9_drawRain 5 (some .int) ∈ gt := gt_t5 (i := 75) rfl rfl
theorem np_X9_drawRain : yX9_drawRain.cls ≠ "java/lang/invoke/MethodHandle" ∧ yX9_drawRain.cls ≠ "java/lang/invoke/VarHandle" ∧ (parseMethodDescriptor yX9_drawRain.desc).map (fun d => d.parameters.length) = some 1 := by decide +kernel
theorem k1128 : Cond.methodLink RX9 20 yX1_stepsOf ∈ gt := gt_t5 (i := 82) rfl rfl
theorem k1129 : Cond.methodLink RX9 26 yX9_drawBanks ∈ gt := gt_t5 (i := 83) rfl rfl
theorem k1131 : Cond.instanceMethod yX9_drawBanks ∈ gt := gt_t5 (i := 85) rfl rfl
theorem k35 : Cond.selects RX9 yX9_drawBanks yX9_drawBanks ∈ gt := gt_in 35 (by decide +kernel) (by decide +kernel)
theorem k1132 : Cond.code yX9_drawBanks cX9_drawBanks 4 (some .int) ∈ gt := gt_t5 (i := 86) rfl rfl
theorem np_X9_drawBanks : yX9_drawBanks.cls ≠ "java/lang/invoke/MethodHandle" ∧ yX9_drawBanks.cls ≠ "java/lang/invoke/VarHandle" ∧ (parseMethodDescriptor yX9_drawBanks.desc).map (fun d => d.parameters.length) = some 1 := by decide +kernel
theorem k1135 : Cond.methodLink RX9 29 yX5_run ∈ gt := gt_t5 (i := 89) rfl rfl
theorem k322 : Cond.fieldLinkNest RX9 38 "PondStair$Storm" "went" "I" "PondStair" ∈ nt := nt_t1 (i := 236) rfl rfl
theorem k325 : Cond.fieldLinkNest RX9 35 "PondStair$Storm" "harm" "I" "PondStair" ∈ nt := nt_t1 (i := 239) rfl rfl
theorem k1104 : Cond.classLink RX10 290 RX9 ∈ gt := gt_t5 (i := 58) rfl rfl
theorem k1105 : Cond.instantiable RX9 1 ∈ gt := gt_t5 (i := 59) rfl rfl
theorem k1106 : Cond.methodLink RX10 292 yX9_init ∈ gt := gt_t5 (i := 60) rfl rfl
theorem k1107 : Cond.instanceMethod yX9_init ∈ gt := gt_t5 (i := 61) rfl rfl
theorem k1108 : Cond.code yX9_init cX9_init 2 none ∈ gt := gt_t5 (i := 62) rfl rfl
theorem np_X9_init : yX9_init.cls ≠ "java/lang/invoke/MethodHandle" ∧ yX9_init.cls ≠ "java/lang/invoke/VarHandle" ∧ (parseMethodDescriptor yX9_init.desc).map (fun d => d.parameters.length) = some 1 := by decide +kernel
theorem k1114 : Cond.methodLink RX10 294 yX9_tally ∈ gt := gt_t5 (i := 68) rfl rfl
theorem k1115 : Cond.instanceMethod yX9_tally ∈ gt := gt_t5 (i := 69) rfl rfl
theorem k1116 : Cond.selects RX9 yX9_tally yX9_tally ∈ gt := gt_t5 (i := 70) rfl rfl
theorem k1117 : Cond.code yX9_tally cX9_tally 9 (some .long) ∈ gt := gt_t5 (i := 71) rfl rfl
theorem np_X9_tally : yX9_tally.cls ≠ "java/lang/invoke/MethodHandle" ∧ yX9_tally.cls ≠ "java/lang/invoke/VarHandle" ∧ (parseMethodDescriptor yX9_tally.desc).map (fun d => d.parameters.length) = some 4 := by decide +kernel
theorem dX9_init_0 : decode cX9_init 0 = .ok (.aload_n 0, 1) := dc_42 rfl
theorem dX9_init_1 : decode cX9_init 1 = .ok (.invokespecial 3, 3) := dc_183 rfl rfl rfl rfl
theorem dX9_init_4 : decode cX9_init 4 = .ok (.aload_n 0, 1) := dc_42 rfl
theorem dX9_init_5 : decode cX9_init 5 = .ok (.iload_n 1, 1) := dc_27 rfl
theorem dX9_init_6 : decode cX9_init 6 = .ok (.putfield 9, 3) := dc_181 rfl rfl rfl rfl
theorem dX9_init_9 : decode cX9_init 9 = .ok (.return_, 1) := dc_177 rfl
theorem dX9_draw_0 : decode cX9_draw 0 = .ok (.aload_n 0, 1) := dc_42 rfl
theorem dX9_draw_1 : decode cX9_draw 1 = .ok (.aload_n 0, 1) := dc_42 rfl
theorem dX9_draw_2 : decode cX9_draw 2 = .ok (.getfield 9, 3) := dc_180 rfl rfl rfl rfl
theorem dX9_draw_5 : decode cX9_draw 5 = .ok (.ldc 15, 2) := dc_18 rfl rfl rfl
theorem dX9_draw_7 : decode cX9_draw 7 = .ok (.imul, 1) := dc_104 rfl
theorem dX9_draw_8 : decode cX9_draw 8 = .ok (.sipush 12345, 3) := dc_17 rfl rfl rfl (sg_p rfl rfl)
theorem dX9_draw_11 : decode cX9_draw 11 = .ok (.iadd, 1) := dc_96 rfl
theorem dX9_draw_12 : decode cX9_draw 12 = .ok (.putfield 9, 3) := dc_181 rfl rfl rfl rfl
theorem dX9_draw_15 : decode cX9_draw 15 = .ok (.iload_n 1, 1) := dc_27 rfl
theorem dX9_draw_16 : decode cX9_draw 16 = .ok (.ifCond .le 15, 3) := dc_158 rfl rfl rfl (sg_p rfl rfl)
theorem dX9_draw_19 : decode cX9_draw 19 = .ok (.aload_n 0, 1) := dc_42 rfl
theorem dX9_draw_20 : decode cX9_draw 20 = .ok (.getfield 9, 3) := dc_180 rfl rfl rfl rfl
theorem dX9_draw_23 : decode cX9_draw 23 = .ok (.bipush 16, 2) := dc_16 rfl rfl (by decide)
theorem dX9_draw_25 : decode cX9_draw 25 = .ok (.iushr, 1) := dc_124 rfl
theorem dX9_draw_26 : decode cX9_draw 26 = .ok (.iload_n 1, 1) := dc_27 rfl
theorem dX9_draw_27 : decode cX9_draw 27 = .ok (.irem, 1) := dc_112 rfl
theorem dX9_draw_28 : decode cX9_draw 28 = .ok (.goto 4, 3) := dc_167 rfl rfl rfl (sg_p rfl rfl)
theorem dX9_draw_31 : decode cX9_draw 31 = .ok (.iconst 0, 1) := dc_3 rfl
theorem dX9_draw_32 : decode cX9_draw 32 = .ok (.ireturn, 1) := dc_172 rfl
theorem dX9_drawRain_0 : decode cX9_drawRain 0 = .ok (.aload_n 0, 1) := dc_42 rfl
theorem dX9_drawRain_1 : decode cX9_drawRain 1 = .ok (.bipush 100, 2) := dc_16 rfl rfl (by decide)
theorem dX9_drawRain_3 : decode cX9_drawRain 3 = .ok (.invokevirtual 41, 3) := dc_182 rfl rfl rfl rfl
theorem dX9_drawRain_6 : decode cX9_drawRain 6 = .ok (.istore_n 2, 1) := dc_61 rfl
theorem dX9_drawRain_7 : decode cX9_drawRain 7 = .ok (.iconst 0, 1) := dc_3 rfl
theorem dX9_drawRain_8 : decode cX9_drawRain 8 = .ok (.istore_n 3, 1) := dc_62 rfl
theorem dX9_drawRain_9 : decode cX9_drawRain 9 = .ok (.iconst 0, 1) := dc_3 rfl
theorem dX9_drawRain_10 : decode cX9_drawRain 10 = .ok (.istore 4, 2) := dc_54 rfl rfl rfl
theorem dX9_drawRain_12 : decode cX9_drawRain 12 = .ok (.iload 4, 2) := dc_21 rfl rfl rfl
theorem dX9_drawRain_14 : decode cX9_drawRain 14 = .ok (.aload_n 1, 1) := dc_43 rfl
theorem dX9_drawRain_15 : decode cX9_drawRain 15 = .ok (.getfield 44, 3) := dc_180 rfl rfl rfl rfl
theorem dX9_drawRain_18 : decode cX9_drawRain 18 = .ok (.if_icmp .ge 26, 3) := dc_162 rfl rfl rfl (sg_p rfl rfl)
theorem dX9_drawRain_21 : decode cX9_drawRain 21 = .ok (.iload_n 3, 1) := dc_29 rfl
theorem dX9_drawRain_22 : decode cX9_drawRain 22 = .ok (.aload_n 1, 1) := dc_43 rfl
theorem dX9_drawRain_23 : decode cX9_drawRain 23 = .ok (.iload 4, 2) := dc_21 rfl rfl rfl
theorem dX9_drawRain_25 : decode cX9_drawRain 25 = .ok (.invokevirtual 47, 3) := dc_182 rfl rfl rfl rfl
theorem dX9_drawRain_28 : decode cX9_drawRain 28 = .ok (.iadd, 1) := dc_96 rfl
theorem dX9_drawRain_29 : decode cX9_drawRain 29 = .ok (.istore_n 3, 1) := dc_62 rfl
theorem dX9_drawRain_30 : decode cX9_drawRain 30 = .ok (.iload_n 2, 1) := dc_28 rfl
theorem dX9_drawRain_31 : decode cX9_drawRain 31 = .ok (.iload_n 3, 1) := dc_29 rfl
theorem dX9_drawRain_32 : decode cX9_drawRain 32 = .ok (.if_icmp .ge 6, 3) := dc_162 rfl rfl rfl (sg_p rfl rfl)
theorem dX9_drawRain_35 : decode cX9_drawRain 35 = .ok (.iload 4, 2) := dc_21 rfl rfl rfl
theorem dX9_drawRain_37 : decode cX9_drawRain 37 = .ok (.ireturn, 1) := dc_172 rfl
theorem dX9_drawRain_38 : decode cX9_drawRain 38 = .ok (.iinc 4 1, 3) := dc_132 rfl rfl rfl rfl (by decide)
theorem dX9_drawRain_41 : decode cX9_drawRain 41 = .ok (.goto (-29), 3) := dc_167 rfl rfl rfl (sg_n (k := 29) rfl rfl rfl)
theorem dX9_drawRain_44 : decode cX9_drawRain 44 = .ok (.iconst (-1), 1) := dc_2 rfl
theorem dX9_drawRain_45 : decode cX9_drawRain 45 = .ok (.ireturn, 1) := dc_172 rfl
theorem dX9_drawBanks_0 : decode cX9_drawBanks 0 = .ok (.iconst 0, 1) := dc_3 rfl
theorem dX9_drawBanks_1 : decode cX9_drawBanks 1 = .ok (.istore_n 2, 1) := dc_61 rfl
theorem dX9_drawBanks_2 : decode cX9_drawBanks 2 = .ok (.iconst 0, 1) := dc_3 rfl
theorem dX9_drawBanks_3 : decode cX9_drawBanks 3 = .ok (.istore_n 3, 1) := dc_62 rfl
theorem dX9_drawBanks_4 : decode cX9_drawBanks 4 = .ok (.iload_n 3, 1) := dc_29 rfl
theorem dX9_drawBanks_5 : decode cX9_drawBanks 5 = .ok (.aload_n 1, 1) := dc_43 rfl
theorem dX9_drawBanks_6 : decode cX9_drawBanks 6 = .ok (.getfield 50, 3) := dc_180 rfl rfl rfl rfl
theorem dX9_drawBanks_9 : decode cX9_drawBanks 9 = .ok (.if_icmp .ge 31, 3) := dc_162 rfl rfl rfl (sg_p rfl rfl)
theorem dX9_drawBanks_12 : decode cX9_drawBanks 12 = .ok (.aload_n 0, 1) := dc_42 rfl
theorem dX9_drawBanks_13 : decode cX9_drawBanks 13 = .ok (.bipush 10, 2) := dc_16 rfl rfl (by decide)
theorem dX9_drawBanks_15 : decode cX9_drawBanks 15 = .ok (.invokevirtual 41, 3) := dc_182 rfl rfl rfl rfl
theorem dX9_drawBanks_18 : decode cX9_drawBanks 18 = .ok (.aload_n 1, 1) := dc_43 rfl
theorem dX9_drawBanks_19 : decode cX9_drawBanks 19 = .ok (.iload_n 3, 1) := dc_29 rfl
theorem dX9_drawBanks_20 : decode cX9_drawBanks 20 = .ok (.iconst 4, 1) := dc_7 rfl
theorem dX9_drawBanks_21 : decode cX9_drawBanks 21 = .ok (.invokevirtual 53, 3) := dc_182 rfl rfl rfl rfl
theorem dX9_drawBanks_24 : decode cX9_drawBanks 24 = .ok (.if_icmp .ge 10, 3) := dc_162 rfl rfl rfl (sg_p rfl rfl)
theorem dX9_drawBanks_27 : decode cX9_drawBanks 27 = .ok (.iload_n 2, 1) := dc_28 rfl
theorem dX9_drawBanks_28 : decode cX9_drawBanks 28 = .ok (.iload_n 3, 1) := dc_29 rfl
theorem dX9_drawBanks_29 : decode cX9_drawBanks 29 = .ok (.invokestatic 57, 3) := dc_184 rfl rfl rfl rfl
theorem dX9_drawBanks_32 : decode cX9_drawBanks 32 = .ok (.ior, 1) := dc_128 rfl
theorem dX9_drawBanks_33 : decode cX9_drawBanks 33 = .ok (.istore_n 2, 1) := dc_61 rfl
theorem dX9_drawBanks_34 : decode cX9_drawBanks 34 = .ok (.iinc 3 1, 3) := dc_132 rfl rfl rfl rfl (by decide)
theorem dX9_drawBanks_37 : decode cX9_drawBanks 37 = .ok (.goto (-33), 3) := dc_167 rfl rfl rfl (sg_n (k := 33) rfl rfl rfl)
theorem dX9_drawBanks_40 : decode cX9_drawBanks 40 = .ok (.iload_n 2, 1) := dc_28 rfl
theorem dX9_drawBanks_41 : decode cX9_drawBanks 41 = .ok (.ireturn, 1) := dc_172 rfl
theorem dX9_tally_0 : decode cX9_tally 0 = .ok (.lconst 0, 1) := dc_9 rfl
theorem dX9_tally_1 : decode cX9_tally 1 = .ok (.lstore 5, 2) := dc_55 rfl rfl rfl
theorem dX9_tally_3 : decode cX9_tally 3 = .ok (.iconst 0, 1) := dc_3 rfl
theorem dX9_tally_4 : decode cX9_tally 4 = .ok (.istore 7, 2) := dc_54 rfl rfl rfl
theorem dX9_tally_6 : decode cX9_tally 6 = .ok (.iload 7, 2) := dc_21 rfl rfl rfl
theorem dX9_tally_8 : decode cX9_tally 8 = .ok (.iload_n 3, 1) := dc_29 rfl
theorem dX9_tally_9 : decode cX9_tally 9 = .ok (.if_icmp .ge 111, 3) := dc_162 rfl rfl rfl (sg_p rfl rfl)
theorem dX9_tally_12 : decode cX9_tally 12 = .ok (.aload_n 0, 1) := dc_42 rfl
theorem dX9_tally_13 : decode cX9_tally 13 = .ok (.aload_n 1, 1) := dc_43 rfl
theorem dX9_tally_14 : decode cX9_tally 14 = .ok (.invokevirtual 16, 3) := dc_182 rfl rfl rfl rfl
theorem dX9_tally_17 : decode cX9_tally 17 = .ok (.istore 8, 2) := dc_54 rfl rfl rfl
theorem dX9_tally_19 : decode cX9_tally 19 = .ok (.aload_n 2, 1) := dc_44 rfl
theorem dX9_tally_20 : decode cX9_tally 20 = .ok (.aload_n 1, 1) := dc_43 rfl
theorem dX9_tally_21 : decode cX9_tally 21 = .ok (.aload_n 1, 1) := dc_43 rfl
theorem dX9_tally_22 : decode cX9_tally 22 = .ok (.iload 8, 2) := dc_21 rfl rfl rfl
theorem dX9_tally_24 : decode cX9_tally 24 = .ok (.invokevirtual 20, 3) := dc_182 rfl rfl rfl rfl
theorem dX9_tally_27 : decode cX9_tally 27 = .ok (.aload_n 0, 1) := dc_42 rfl
theorem dX9_tally_28 : decode cX9_tally 28 = .ok (.aload_n 1, 1) := dc_43 rfl
theorem dX9_tally_29 : decode cX9_tally 29 = .ok (.invokevirtual 26, 3) := dc_182 rfl rfl rfl rfl
theorem dX9_tally_32 : decode cX9_tally 32 = .ok (.iconst (-1), 1) := dc_2 rfl
theorem dX9_tally_33 : decode cX9_tally 33 = .ok (.invokevirtual 29, 3) := dc_182 rfl rfl rfl rfl
theorem dX9_tally_36 : decode cX9_tally 36 = .ok (.iload 4, 2) := dc_21 rfl rfl rfl
theorem dX9_tally_38 : decode cX9_tally 38 = .ok (.ifCond .ne 16, 3) := dc_154 rfl rfl rfl (sg_p rfl rfl)
theorem dX9_tally_41 : decode cX9_tally 41 = .ok (.lload 5, 2) := dc_22 rfl rfl rfl
theorem dX9_tally_43 : decode cX9_tally 43 = .ok (.aload_n 2, 1) := dc_44 rfl
theorem dX9_tally_44 : decode cX9_tally 44 = .ok (.getfield 35, 3) := dc_180 rfl rfl rfl rfl
theorem dX9_tally_47 : decode cX9_tally 47 = .ok (.i2l, 1) := dc_133 rfl
theorem dX9_tally_48 : decode cX9_tally 48 = .ok (.ladd, 1) := dc_97 rfl
theorem dX9_tally_49 : decode cX9_tally 49 = .ok (.lstore 5, 2) := dc_55 rfl rfl rfl
theorem dX9_tally_51 : decode cX9_tally 51 = .ok (.goto 63, 3) := dc_167 rfl rfl rfl (sg_p rfl rfl)
theorem dX9_tally_54 : decode cX9_tally 54 = .ok (.iload 4, 2) := dc_21 rfl rfl rfl
theorem dX9_tally_56 : decode cX9_tally 56 = .ok (.iconst 1, 1) := dc_4 rfl
theorem dX9_tally_57 : decode cX9_tally 57 = .ok (.if_icmp .ne 23, 3) := dc_160 rfl rfl rfl (sg_p rfl rfl)
theorem dX9_tally_60 : decode cX9_tally 60 = .ok (.lload 5, 2) := dc_22 rfl rfl rfl
theorem dX9_tally_62 : decode cX9_tally 62 = .ok (.aload_n 2, 1) := dc_44 rfl
theorem dX9_tally_63 : decode cX9_tally 63 = .ok (.getfield 38, 3) := dc_180 rfl rfl rfl rfl
theorem dX9_tally_66 : decode cX9_tally 66 = .ok (.ifCond .ne 7, 3) := dc_154 rfl rfl rfl (sg_p rfl rfl)
theorem dX9_tally_69 : decode cX9_tally 69 = .ok (.lconst 0, 1) := dc_9 rfl
theorem dX9_tally_70 : decode cX9_tally 70 = .ok (.goto 4, 3) := dc_167 rfl rfl rfl (sg_p rfl rfl)
theorem dX9_tally_73 : decode cX9_tally 73 = .ok (.lconst 1, 1) := dc_10 rfl
theorem dX9_tally_74 : decode cX9_tally 74 = .ok (.ladd, 1) := dc_97 rfl
theorem dX9_tally_75 : decode cX9_tally 75 = .ok (.lstore 5, 2) := dc_55 rfl rfl rfl
theorem dX9_tally_77 : decode cX9_tally 77 = .ok (.goto 37, 3) := dc_167 rfl rfl rfl (sg_p rfl rfl)
theorem dX9_tally_80 : decode cX9_tally 80 = .ok (.iload 4, 2) := dc_21 rfl rfl rfl
theorem dX9_tally_82 : decode cX9_tally 82 = .ok (.iconst 2, 1) := dc_5 rfl
theorem dX9_tally_83 : decode cX9_tally 83 = .ok (.if_icmp .ne 13, 3) := dc_160 rfl rfl rfl (sg_p rfl rfl)
theorem dX9_tally_86 : decode cX9_tally 86 = .ok (.aload_n 2, 1) := dc_44 rfl
theorem dX9_tally_87 : decode cX9_tally 87 = .ok (.getfield 38, 3) := dc_180 rfl rfl rfl rfl
theorem dX9_tally_90 : decode cX9_tally 90 = .ok (.i2l, 1) := dc_133 rfl
theorem dX9_tally_91 : decode cX9_tally 91 = .ok (.lstore 5, 2) := dc_55 rfl rfl rfl
theorem dX9_tally_93 : decode cX9_tally 93 = .ok (.goto 21, 3) := dc_167 rfl rfl rfl (sg_p rfl rfl)
theorem dX9_tally_96 : decode cX9_tally 96 = .ok (.lload 5, 2) := dc_22 rfl rfl rfl
theorem dX9_tally_98 : decode cX9_tally 98 = .ok (.aload_n 2, 1) := dc_44 rfl
theorem dX9_tally_99 : decode cX9_tally 99 = .ok (.getfield 38, 3) := dc_180 rfl rfl rfl rfl
theorem dX9_tally_102 : decode cX9_tally 102 = .ok (.iload 4, 2) := dc_21 rfl rfl rfl
theorem dX9_tally_104 : decode cX9_tally 104 = .ok (.bipush 10, 2) := dc_16 rfl rfl (by decide)
theorem dX9_tally_106 : decode cX9_tally 106 = .ok (.isub, 1) := dc_100 rfl
theorem dX9_tally_107 : decode cX9_tally 107 = .ok (.ishr, 1) := dc_122 rfl
theorem dX9_tally_108 : decode cX9_tally 108 = .ok (.iconst 1, 1) := dc_4 rfl
theorem dX9_tally_109 : decode cX9_tally 109 = .ok (.iand, 1) := dc_126 rfl
theorem dX9_tally_110 : decode cX9_tally 110 = .ok (.i2l, 1) := dc_133 rfl
theorem dX9_tally_111 : decode cX9_tally 111 = .ok (.ladd, 1) := dc_97 rfl
theorem dX9_tally_112 : decode cX9_tally 112 = .ok (.lstore 5, 2) := dc_55 rfl rfl rfl
theorem dX9_tally_114 : decode cX9_tally 114 = .ok (.iinc 7 1, 3) := dc_132 rfl rfl rfl rfl (by decide)
theorem dX9_tally_117 : decode cX9_tally 117 = .ok (.goto (-111), 3) := dc_167 rfl rfl rfl (sg_n (k := 111) rfl rfl rfl)
theorem dX9_tally_120 : decode cX9_tally 120 = .ok (.lload 5, 2) := dc_22 rfl rfl rfl
theorem dX9_tally_122 : decode cX9_tally 122 = .ok (.lreturn, 1) := dc_173 rfl
theorem dX10_years_0 : decode cX10_years 0 = .ok (.aload_n 0, 1) := dc_42 rfl
theorem dX10_years_1 : decode cX10_years 1 = .ok (.iload_n 1, 1) := dc_27 rfl
theorem dX10_years_2 : decode cX10_years 2 = .ok (.iload_n 2, 1) := dc_28 rfl
theorem dX10_years_3 : decode cX10_years 3 = .ok (.invokevirtual 114, 3) := dc_182 rfl rfl rfl rfl
theorem dX10_years_6 : decode cX10_years 6 = .ok (.ifCond .eq 16, 3) := dc_153 rfl rfl rfl (sg_p rfl rfl)
theorem dX10_years_9 : decode cX10_years 9 = .ok (.iload 4, 2) := dc_21 rfl rfl rfl
theorem dX10_years_11 : decode cX10_years 11 = .ok (.iconst 1, 1) := dc_4 rfl
theorem dX10_years_12 : decode cX10_years 12 = .ok (.if_icmp .lt 10, 3) := dc_161 rfl rfl rfl (sg_p rfl rfl)
theorem dX10_years_15 : decode cX10_years 15 = .ok (.iload 4, 2) := dc_21 rfl rfl rfl
theorem dX10_years_17 : decode cX10_years 17 = .ok (.bipush 99, 2) := dc_16 rfl rfl (by decide)
theorem dX10_years_19 : decode cX10_years 19 = .ok (.if_icmp .le 7, 3) := dc_164 rfl rfl rfl (sg_p rfl rfl)
theorem dX10_years_22 : decode cX10_years 22 = .ok (.ldc2_w 159, 3) := dc_20 rfl rfl rfl rfl
theorem dX10_years_25 : decode cX10_years 25 = .ok (.lreturn, 1) := dc_173 rfl
theorem dX10_years_26 : decode cX10_years 26 = .ok (.iload 5, 2) := dc_21 rfl rfl rfl
theorem dX10_years_28 : decode cX10_years 28 = .ok (.ifCond .eq 44, 3) := dc_153 rfl rfl rfl (sg_p rfl rfl)
theorem dX10_years_31 : decode cX10_years 31 = .ok (.iload 5, 2) := dc_21 rfl rfl rfl
theorem dX10_years_33 : decode cX10_years 33 = .ok (.iconst 1, 1) := dc_4 rfl
theorem dX10_years_34 : decode cX10_years 34 = .ok (.if_icmp .eq 38, 3) := dc_159 rfl rfl rfl (sg_p rfl rfl)
theorem dX10_years_37 : decode cX10_years 37 = .ok (.iload 5, 2) := dc_21 rfl rfl rfl
theorem dX10_years_39 : decode cX10_years 39 = .ok (.iconst 2, 1) := dc_5 rfl
theorem dX10_years_40 : decode cX10_years 40 = .ok (.if_icmp .eq 32, 3) := dc_159 rfl rfl rfl (sg_p rfl rfl)
theorem dX10_years_43 : decode cX10_years 43 = .ok (.iload 5, 2) := dc_21 rfl rfl rfl
theorem dX10_years_45 : decode cX10_years 45 = .ok (.bipush 10, 2) := dc_16 rfl rfl (by decide)
theorem dX10_years_47 : decode cX10_years 47 = .ok (.if_icmp .lt 21, 3) := dc_161 rfl rfl rfl (sg_p rfl rfl)
theorem dX10_years_50 : decode cX10_years 50 = .ok (.aload_n 0, 1) := dc_42 rfl
theorem dX10_years_51 : decode cX10_years 51 = .ok (.getfield 34, 3) := dc_180 rfl rfl rfl rfl
theorem dX10_years_54 : decode cX10_years 54 = .ok (.getfield 118, 3) := dc_180 rfl rfl rfl rfl
theorem dX10_years_57 : decode cX10_years 57 = .ok (.iload 5, 2) := dc_21 rfl rfl rfl
theorem dX10_years_59 : decode cX10_years 59 = .ok (.bipush 10, 2) := dc_16 rfl rfl (by decide)
theorem dX10_years_61 : decode cX10_years 61 = .ok (.isub, 1) := dc_100 rfl
theorem dX10_years_62 : decode cX10_years 62 = .ok (.invokevirtual 121, 3) := dc_182 rfl rfl rfl rfl
theorem dX10_years_65 : decode cX10_years 65 = .ok (.ifCond .ne 7, 3) := dc_154 rfl rfl rfl (sg_p rfl rfl)
theorem dX10_years_68 : decode cX10_years 68 = .ok (.ldc2_w 159, 3) := dc_20 rfl rfl rfl rfl
theorem dX10_years_71 : decode cX10_years 71 = .ok (.lreturn, 1) := dc_173 rfl
theorem dX10_years_72 : decode cX10_years 72 = .ok (.new 290, 3) := dc_187 rfl rfl rfl rfl
theorem dX10_years_75 : decode cX10_years 75 = .ok (.dup, 1) := dc_89 rfl
theorem dX10_years_76 : decode cX10_years 76 = .ok (.iload_n 3, 1) := dc_29 rfl
theorem dX10_years_77 : decode cX10_years 77 = .ok (.invokespecial 292, 3) := dc_183 rfl rfl rfl rfl
theorem dX10_years_80 : decode cX10_years 80 = .ok (.aload_n 0, 1) := dc_42 rfl
theorem dX10_years_81 : decode cX10_years 81 = .ok (.getfield 34, 3) := dc_180 rfl rfl rfl rfl
theorem dX10_years_84 : decode cX10_years 84 = .ok (.getfield 118, 3) := dc_180 rfl rfl rfl rfl
theorem dX10_years_87 : decode cX10_years 87 = .ok (.aload_n 0, 1) := dc_42 rfl
theorem dX10_years_88 : decode cX10_years 88 = .ok (.getfield 48, 3) := dc_180 rfl rfl rfl rfl
theorem dX10_years_91 : decode cX10_years 91 = .ok (.iload 4, 2) := dc_21 rfl rfl rfl
theorem dX10_years_93 : decode cX10_years 93 = .ok (.iload 5, 2) := dc_21 rfl rfl rfl
theorem dX10_years_95 : decode cX10_years 95 = .ok (.invokevirtual 294, 3) := dc_182 rfl rfl rfl rfl
theorem dX10_years_98 : decode cX10_years 98 = .ok (.lreturn, 1) := dc_173 rfl
/-! years: one cell more -/
def yX (ex : List MC) (x : Int32) : List MC := ex ++ [(Sum.inr (9, [Value.int x]) : MC)]
theorem yX_len {ex : List MC} {x : Int32} : (yX ex x).length = ex.length + 1 := by unfold yX; rw [List.length_append]; rfl
theorem wapp {u : Nat → Nat → Int32} {g : Nat → Nat → Int64} {ex : List MC} {x : Int32} : Wd u g ex ++ [(Sum.inr (9, [Value.int x]) : MC)] = Wd u g (yX ex x) := by unfold Wd yX; rw [List.append_assoc]
theorem yx_get {u : Nat → Nat → Int32} {g : Nat → Nat → Int64} {ex : List MC} {x : Int32} {yp : Nat} (hy : yp = 182 + ex.length) : (Wd u g (yX ex x))[yp]? = some (Sum.inr (9, [Value.int x])) := by
  rw [← wapp, hy, ← Wd_len (u := u) (g := g), List.getElem?_append_right (Nat.le_refl _), Nat.sub_self]
  rfl
theorem yx_set {u : Nat → Nat → Int32} {g : Nat → Nat → Int64} {ex : List MC} {x v w : Int32} {yp : Nat} (hy : yp = 182 + ex.length) (e : w = v) : (Wd u g (yX ex x)).set yp (Sum.inr (9, [Value.int v])) = Wd u g (yX ex w) := by
  rw [e, ← wapp, ← wapp, hy, ← Wd_len (u := u) (g := g), List.set_append_right _ _ (Nat.le_refl _), Nat.sub_self]
  rfl
theorem wlenx {u u2 : Nat → Nat → Int32} {g g2 : Nat → Nat → Int64} {ex : List MC} {c c2 : Int32} : 0 + (Wd u g (yX ex c)).length = (Wd u2 g2 (yX ex c2)).length := by rw [Wd_len, Wd_len, yX_len, yX_len, Nat.zero_add]
theorem wlen1 {u u2 : Nat → Nat → Int32} {g g2 : Nat → Nat → Int64} {ex : List MC} {c : Int32} : 1 + (Wd u g ex).length = (Wd u2 g2 (yX ex c)).length := by rw [Wd_len, Wd_len, yX_len]; omega
set_option maxHeartbeats 4000000 in
set_option maxRecDepth 100000 in
theorem c_Y_init {d : Nat} {u : Nat → Nat → Int32} {g : Nat → Nat → Int64} {ex : List MC} {yp : Nat} {x0 : Int32} {seed : Int32} (hd : 1 ≤ d) (hy : yp = 182 + ex.length)  : CT con0 d 0 0 yX9_init cX9_init 2 none [.ref yp, .int seed] (Wd u g (yX ex x0)) (fun r h2 => ∃ (x2 : Int32), r = none ∧ h2 = Wd u g (yX ex x2)) := by
  refine CT_of (by decide) (Nat.le_of_ble_eq_true rfl) (fun x hq => ?_)
  show J x yX9_init cX9_init 2 none d 0 0 (Wd u g (yX ex x0)).length 0 [(0, .ref yp), (1, .int seed)] [] (Wd u g (yX ex x0)) 0 0
  refine J_aload_n (i := 0) (j := 0) dX9_init_0 rfl rfl ?_
  refine J_obj dX9_init_1 k1109 k113 k114 (Nat.le_trans (by decide) hd) (Nat.le_of_ble_eq_true rfl) ?_
  refine J_aload_n (i := 0) (j := 0) dX9_init_4 rfl rfl ?_
  refine J_iload_n (i := 1) (j := 1) dX9_init_5 rfl rfl ?_
  obtain ⟨y1, qy1⟩ : ∃ z : Int32, z = seed := ⟨_, rfl⟩
  refine J_put (C := RX9) (T := TX9) (Z := 1) (ci := 9) (f := 0) (ty0 := tyX9) dX9_init_6 inG9 rfl tyX9_ok nmX9 (by decide) k1110 rfl rfl (yx_get hy) (Nat.le_of_ble_eq_true rfl) (fun _ _ => ⟨rfl, rfl⟩) (yx_set hy qy1) ?_
  exact J_vret hq dX9_init_9 rfl wlenx (Nat.le_refl _) (Nat.le_refl _) ⟨y1, rfl, rfl⟩
set_option maxHeartbeats 4000000 in
set_option maxRecDepth 100000 in
theorem c_Y_draw {d : Nat} {u : Nat → Nat → Int32} {g : Nat → Nat → Int64} {ex : List MC} {yp : Nat} {x0 : Int32} {n : Int32} (hd : 0 ≤ d) (hy : yp = 182 + ex.length)  : CT con0 d 0 0 yX9_draw cX9_draw 2 (some .int) [.ref yp, .int n] (Wd u g (yX ex x0)) (fun r h2 => ∃ (z : Int32) (x2 : Int32), r = some (.int z) ∧ h2 = Wd u g (yX ex x2)) := by
  refine CT_of (by decide) (Nat.le_of_ble_eq_true rfl) (fun x hq => ?_)
  show J x yX9_draw cX9_draw 2 (some .int) d 0 0 (Wd u g (yX ex x0)).length 0 [(0, .ref yp), (1, .int n)] [] (Wd u g (yX ex x0)) 0 0
  refine J_aload_n (i := 0) (j := 0) dX9_draw_0 rfl rfl ?_
  refine J_aload_n (i := 0) (j := 0) dX9_draw_1 rfl rfl ?_
  refine J_get (C := RX9) (T := TX9) (Z := 1) (ci := 9) (f := 0) dX9_draw_2 inG9 rfl (by decide) k1110 (yx_get hy) rfl ?_
  refine J_ldc (v := 1103515245) dX9_draw_5 k1126 ?_
  refine J_imul dX9_draw_7 ?_
  refine J_sipush (v := 12345) dX9_draw_8 (by decide) ?_
  refine J_iadd dX9_draw_11 ?_
  obtain ⟨y1, qy1⟩ : ∃ z : Int32, z = ((x0 * 1103515245) + 12345) := ⟨_, rfl⟩
  refine J_put (C := RX9) (T := TX9) (Z := 1) (ci := 9) (f := 0) (ty0 := tyX9) dX9_draw_12 inG9 rfl tyX9_ok nmX9 (by decide) k1110 rfl rfl (yx_get hy) (Nat.le_of_ble_eq_true rfl) (fun _ _ => ⟨rfl, rfl⟩) (yx_set hy qy1) ?_
  refine J_iload_n (i := 1) (j := 1) dX9_draw_15 rfl rfl ?_
  refine J_if_le (tgt := 31) dX9_draw_16 (by decide) (fun c2 => ?_) (fun c2 => ?_)
  · refine J_iconst (v := 0) dX9_draw_31 (by decide) ?_
    exact J_iret hq dX9_draw_32 rfl wlenx (Nat.le_refl _) (Nat.le_refl _) ⟨(0 : Int32), y1, rfl, rfl⟩
  · refine J_aload_n (i := 0) (j := 0) dX9_draw_19 rfl rfl ?_
    refine J_get (C := RX9) (T := TX9) (Z := 1) (ci := 9) (f := 0) dX9_draw_20 inG9 rfl (by decide) k1110 (yx_get hy) rfl ?_
    refine J_bipush (v := 16) dX9_draw_23 (by decide) ?_
    obtain ⟨v3, qv3⟩ : ∃ z : Int32, z = (y1.toUInt32 >>> ((16 : Int32).toUInt32 &&& Int32.toUInt32 31)).toInt32 := ⟨_, rfl⟩
    refine J_iushr dX9_draw_25 qv3.symm ?_
    refine J_iload_n (i := 1) (j := 1) dX9_draw_26 rfl rfl ?_
    refine J_irem dX9_draw_27 (bd_nz (bd_lt_lo (bd_any n) (i_nle c2) (bd_c (v := 0) (lo := 0) (hi := 0) (by decide))) (by decide)) ?_
    refine J_goto (tgt := 32) dX9_draw_28 (by decide) ?_
    exact J_iret hq dX9_draw_32 rfl wlenx (Nat.le_refl _) (Nat.le_refl _) ⟨(v3 - v3 / n * n), y1, rfl, rfl⟩
set_option maxHeartbeats 4000000 in
set_option maxRecDepth 100000 in
theorem c_Y_drawRain {d : Nat} {u : Nat → Nat → Int32} {g : Nat → Nat → Int64} {ex : List MC} {yp : Nat} {x0 : Int32}  (hd : 1 ≤ d) (hy : yp = 182 + ex.length) (hp0 : Bd 0 9 (u 44 0)) (hp1 : Bd 0 4 (u 44 2)) : CT con0 d 0 0 yX9_drawRain cX9_drawRain 5 (some .int) [.ref yp, .ref 44] (Wd u g (yX ex x0)) (fun r h2 => ∃ (z : Int32) (x2 : Int32), r = some (.int z) ∧ h2 = Wd u g (yX ex x2)) := by
  refine CT_of (by decide) (Nat.le_of_ble_eq_true rfl) (fun x hq => ?_)
  show J x yX9_drawRain cX9_drawRain 5 (some .int) d 0 0 (Wd u g (yX ex x0)).length 0 [(0, .ref yp), (1, .ref 44)] [] (Wd u g (yX ex x0)) 0 0
  refine J_aload_n (i := 0) (j := 0) dX9_drawRain_0 rfl rfl ?_
  refine J_bipush (v := 100) dX9_drawRain_1 (by decide) ?_
  refine J_callV (As := [.int 100]) (rest := []) dX9_drawRain_3 (c_Y_draw (d := 0) (u := u) (g := g) (ex := ex) (yp := yp) (x0 := x0) (n := 100)  (by decide) hy) hq.n k1122 k1124 k34 (yx_get hy) rfl rfl k106 k1125 np_X9_draw (Nat.le_trans (by decide) hd) (by decide) (Nat.le_refl _) (Nat.le_refl _) wlenx rfl (Nat.le_of_ble_eq_true rfl) (fun r_ h_ p1 => ?_)
  obtain ⟨v2, y3, rfl, rfl⟩ := p1
  refine J_istore_n (i := 2) (lw := [(2, .int v2), (0, .ref yp), (1, .ref 44)]) dX9_drawRain_6 rfl (by decide) rfl ?_
  refine J_iconst (v := 0) dX9_drawRain_7 (by decide) ?_
  refine J_istore_n (i := 3) (lw := [(3, .int 0), (2, .int v2), (0, .ref yp), (1, .ref 44)]) dX9_drawRain_8 rfl (by decide) rfl ?_
  refine J_iconst (v := 0) dX9_drawRain_9 (by decide) ?_
  refine J_istore (i := 4) (lw := [(4, .int 0), (3, .int 0), (2, .int v2), (0, .ref yp), (1, .ref 44)]) dX9_drawRain_10 (by decide) rfl ?_
  have lp26 : ∀ (n27 : Nat) (w20 : Int32) (w21 : Int32), Bd 0 4 w21 → (4 - w21.toInt).toNat < n27 → J x yX9_drawRain cX9_drawRain 5 (some .int) d 0 0 (Wd u g (yX ex x0)).length 12 [(1, .ref 44), (2, .int v2), (3, .int w20), (4, .int w21)] [] (Wd u g (yX ex y3)) 0 0 := by
    intro n27
    induction n27 with
    | zero => intro w20 w21 bw21 hm29; exact absurd hm29 (Nat.not_lt_zero _)
    | succ n27 ih28 =>
      intro w20 w21 bw21 hm29
      refine J_iload (i := 4) (j := 3) dX9_drawRain_12 rfl ?_
      refine J_aload_n (i := 1) (j := 0) dX9_drawRain_14 rfl rfl ?_
      refine J_getN (C := RX1) (T := TX1) (Z := 6) (ci := 1) (f := 2) dX9_drawRain_15 inG1 rfl (by decide) k141 wc_44 rfl ?_
      refine J_icmp_ge (tgt := 44) dX9_drawRain_18 (by decide) (fun c30 => ?_) (fun c30 => ?_)
      · refine J_iconst (v := (-1)) dX9_drawRain_44 (by decide) ?_
        exact J_iret hq dX9_drawRain_45 rfl wlenx (Nat.le_refl _) (Nat.le_refl _) ⟨((-1) : Int32), y3, rfl, rfl⟩
      · refine J_iload_n (i := 3) (j := 2) dX9_drawRain_21 rfl rfl ?_
        refine J_aload_n (i := 1) (j := 0) dX9_drawRain_22 rfl rfl ?_
        refine J_iload (i := 4) (j := 3) dX9_drawRain_23 rfl ?_
        refine J_callV (As := [.int w21]) (rest := [.int w20]) dX9_drawRain_25 (c_H_chanceOf (d := 0) (u := u) (g := g) (ex := (yX ex y3)) (rain := w21) (t := 44) (by decide) (by decide) hp0 (bd_w (l := 0) (h := 4) (bd_lt_lo hp1 (i_nle c30) bw21) (by decide))) hq.n k1127 k673 k674 wc_44 rfl rfl k89 k675 np_X1_chanceOf (Nat.le_trans (by decide) hd) (by decide) (Nat.le_refl _) (Nat.le_refl _) wlenx rfl (Nat.le_of_ble_eq_true rfl) (fun r_ h_ p31 => ?_)
        obtain ⟨v32, rfl, rfl⟩ := p31
        refine J_iadd dX9_drawRain_28 ?_
        refine J_istore_n (i := 3) (lw := [(3, .int (w20 + v32)), (1, .ref 44), (2, .int v2), (4, .int w21)]) dX9_drawRain_29 rfl (by decide) rfl ?_
        refine J_iload_n (i := 2) (j := 2) dX9_drawRain_30 rfl rfl ?_
        refine J_iload_n (i := 3) (j := 0) dX9_drawRain_31 rfl rfl ?_
        refine J_icmp_ge (tgt := 38) dX9_drawRain_32 (by decide) (fun c33 => ?_) (fun c33 => ?_)
        · refine J_iinc (i := 4) (j := 3) (v := (w21 + 1)) (lw := [(4, .int (w21 + 1)), (3, .int (w20 + v32)), (1, .ref 44), (2, .int v2)]) dX9_drawRain_38 rfl rfl (by decide) rfl ?_
          refine J_goto (tgt := 12) dX9_drawRain_41 (by decide) ?_
          refine J_lv [2, 3, 1, 0] rfl ?_
          exact ih28 (w20 + v32) (w21 + 1) (bd_w (l := 0) (h := 4) (bd_add (l := 1) (h := 4) (bd_lt_hi bw21 (i_nle c30) hp1) (bd_c (v := 1) (lo := 1) (hi := 1) (by decide)) (by decide)) (by decide)) (mu_up 1 bw21 rfl (by decide) (bd_w (l := 1) (h := 4) (bd_add (l := 1) (h := 4) (bd_lt_hi bw21 (i_nle c30) hp1) (bd_c (v := 1) (lo := 1) (hi := 1) (by decide)) (by decide)) (by decide)) hm29)
        · refine J_iload (i := 4) (j := 3) dX9_drawRain_35 rfl ?_
          exact J_iret hq dX9_drawRain_37 rfl wlenx (Nat.le_refl _) (Nat.le_refl _) ⟨w21, y3, rfl, rfl⟩
  refine J_lv [4, 2, 1, 0] rfl ?_
  exact lp26 _ (0 : Int32) (0 : Int32) (bd_w (l := 0) (h := 4) (bd_c (v := 0) (lo := 0) (hi := 0) (by decide)) (by decide)) (Nat.lt_succ_self _)
set_option maxHeartbeats 4000000 in
set_option maxRecDepth 100000 in
theorem c_Y_drawBanks {d : Nat} {u : Nat → Nat → Int32} {g : Nat → Nat → Int64} {ex : List MC} {yp : Nat} {x0 : Int32}  (hd : 1 ≤ d) (hy : yp = 182 + ex.length) (hp0 : Bd 0 9 (u 44 0)) (hp1 : Bd 0 4 (u 44 2)) : CT con0 d 0 0 yX9_drawBanks cX9_drawBanks 4 (some .int) [.ref yp, .ref 44] (Wd u g (yX ex x0)) (fun r h2 => ∃ (z : Int32) (x2 : Int32), r = some (.int z) ∧ h2 = Wd u g (yX ex x2)) := by
  refine CT_of (by decide) (Nat.le_of_ble_eq_true rfl) (fun x hq => ?_)
  show J x yX9_drawBanks cX9_drawBanks 4 (some .int) d 0 0 (Wd u g (yX ex x0)).length 0 [(0, .ref yp), (1, .ref 44)] [] (Wd u g (yX ex x0)) 0 0
  refine J_iconst (v := 0) dX9_drawBanks_0 (by decide) ?_
  refine J_istore_n (i := 2) (lw := [(2, .int 0), (0, .ref yp), (1, .ref 44)]) dX9_drawBanks_1 rfl (by decide) rfl ?_
  refine J_iconst (v := 0) dX9_drawBanks_2 (by decide) ?_
  refine J_istore_n (i := 3) (lw := [(3, .int 0), (2, .int 0), (0, .ref yp), (1, .ref 44)]) dX9_drawBanks_3 rfl (by decide) rfl ?_
  have lp118 : ∀ (n119 : Nat) (w88 : Int32) (w89 : Int32) (w90 : Int32), Bd 0 511 w88 → Bd 0 9 w89 → (9 - w89.toInt).toNat < n119 → J x yX9_drawBanks cX9_drawBanks 4 (some .int) d 0 0 (Wd u g (yX ex x0)).length 4 [(0, .ref yp), (1, .ref 44), (2, .int w88), (3, .int w89)] [] (Wd u g (yX ex w90)) 0 0 := by
    intro n119
    induction n119 with
    | zero => intro w88 w89 w90 bw88 bw89 hm121; exact absurd hm121 (Nat.not_lt_zero _)
    | succ n119 ih120 =>
      intro w88 w89 w90 bw88 bw89 hm121
      refine J_iload_n (i := 3) (j := 3) dX9_drawBanks_4 rfl rfl ?_
      refine J_aload_n (i := 1) (j := 1) dX9_drawBanks_5 rfl rfl ?_
      refine J_getN (C := RX1) (T := TX1) (Z := 6) (ci := 1) (f := 0) dX9_drawBanks_6 inG1 rfl (by decide) k133 wc_44 rfl ?_
      refine J_icmp_ge (tgt := 40) dX9_drawBanks_9 (by decide) (fun c122 => ?_) (fun c122 => ?_)
      · refine J_iload_n (i := 2) (j := 2) dX9_drawBanks_40 rfl rfl ?_
        exact J_iret hq dX9_drawBanks_41 rfl wlenx (Nat.le_refl _) (Nat.le_refl _) ⟨w88, w90, rfl, rfl⟩
      · refine J_aload_n (i := 0) (j := 0) dX9_drawBanks_12 rfl rfl ?_
        refine J_bipush (v := 10) dX9_drawBanks_13 (by decide) ?_
        refine J_callV (As := [.int 10]) (rest := []) dX9_drawBanks_15 (c_Y_draw (d := 0) (u := u) (g := g) (ex := ex) (yp := yp) (x0 := w90) (n := 10)  (by decide) hy) hq.n k1122 k1124 k34 (yx_get hy) rfl rfl k106 k1125 np_X9_draw (Nat.le_trans (by decide) hd) (by decide) (Nat.le_refl _) (Nat.le_refl _) wlenx rfl (Nat.le_of_ble_eq_true rfl) (fun r_ h_ p136 => ?_)
        obtain ⟨v137, y138, rfl, rfl⟩ := p136
        refine J_aload_n (i := 1) (j := 1) dX9_drawBanks_18 rfl rfl ?_
        refine J_iload_n (i := 3) (j := 3) dX9_drawBanks_19 rfl rfl ?_
        refine J_iconst (v := 4) dX9_drawBanks_20 (by decide) ?_
        refine J_callV (As := [.int w89, .int 4]) (rest := [.int v137]) dX9_drawBanks_21 (c_H_of (d := 0) (u := u) (g := g) (ex := (yX ex y138)) (pond := w89) (column := 4) (t := 44) (by decide) (by decide)) hq.n k1133 k749 k750 wc_44 rfl rfl k89 k751 np_X1_of (Nat.le_trans (by decide) hd) (by decide) (Nat.le_refl _) (Nat.le_refl _) wlenx rfl (Nat.le_of_ble_eq_true rfl) (fun r_ h_ p139 => ?_)
        obtain ⟨rfl, rfl⟩ := p139
        have jn145 : ∀ (w144 : Int32), Bd 0 511 w144 → J x yX9_drawBanks cX9_drawBanks 4 (some .int) d 0 0 (Wd u g (yX ex x0)).length 34 [(0, .ref yp), (1, .ref 44), (2, .int w144), (3, .int w89)] [] (Wd u g (yX ex y138)) 0 0 := by
          intro w144 bw144
          refine J_iinc (i := 3) (j := 3) (v := (w89 + 1)) (lw := [(3, .int (w89 + 1)), (0, .ref yp), (1, .ref 44), (2, .int w144)]) dX9_drawBanks_34 rfl rfl (by decide) rfl ?_
          refine J_goto (tgt := 4) dX9_drawBanks_37 (by decide) ?_
          refine J_lv [1, 2, 3, 0] rfl ?_
          exact ih120 w144 (w89 + 1) y138 bw144 (bd_w (l := 0) (h := 9) (bd_add (l := 1) (h := 9) (bd_lt_hi bw89 (i_nle c122) hp0) (bd_c (v := 1) (lo := 1) (hi := 1) (by decide)) (by decide)) (by decide)) (mu_up 1 bw89 rfl (by decide) (bd_w (l := 1) (h := 9) (bd_add (l := 1) (h := 9) (bd_lt_hi bw89 (i_nle c122) hp0) (bd_c (v := 1) (lo := 1) (hi := 1) (by decide)) (by decide)) (by decide)) hm121)
        refine J_icmp_ge (tgt := 34) dX9_drawBanks_24 (by decide) (fun c140 => ?_) (fun c140 => ?_)
        · refine J_lv [0, 1, 2, 3] rfl ?_
          exact jn145 w88 bw88
        · refine J_iload_n (i := 2) (j := 2) dX9_drawBanks_27 rfl rfl ?_
          refine J_iload_n (i := 3) (j := 3) dX9_drawBanks_28 rfl rfl ?_
          refine J_callSN (As := [.int w89]) (rest := [.int w88]) dX9_drawBanks_29 (c_bit9 (d := 0) (u := u) (g := g) (ex := (yX ex y138)) (pond := w89)  (by decide) (bd_w (l := (-1)) (h := 8) (bd_lt_hi bw89 (i_nle c122) hp0) (by decide))) hq.n k1134 k819 k87 k820 np_X10_bit (Nat.le_trans (by decide) hd) (by decide) (Nat.le_refl _) (Nat.le_refl _) wlenx rfl (Nat.le_of_ble_eq_true rfl) (fun r_ h_ p146 => ?_)
          obtain ⟨v147, rfl, rfl, h148⟩ := p146
          refine J_ior dX9_drawBanks_32 ?_
          refine J_istore_n (i := 2) (lw := [(2, .int (w88 ||| v147)), (0, .ref yp), (1, .ref 44), (3, .int w89)]) dX9_drawBanks_33 rfl (by decide) rfl ?_
          refine J_lv [1, 2, 0, 3] rfl ?_
          exact jn145 (w88 ||| v147) (bd_or (k := 9) (h := 511) bw88 h148 (by decide))
  refine J_lv [2, 3, 1, 0] rfl ?_
  exact lp118 _ (0 : Int32) (0 : Int32) x0 (bd_w (l := 0) (h := 511) (bd_c (v := 0) (lo := 0) (hi := 0) (by decide)) (by decide)) (bd_w (l := 0) (h := 9) (bd_c (v := 0) (lo := 0) (hi := 0) (by decide)) (by decide)) (Nat.lt_succ_self _)
set_option maxHeartbeats 4000000 in
set_option maxRecDepth 100000 in
theorem c_Y_tally {d : Nat} {u : Nat → Nat → Int32} {g : Nat → Nat → Int64} {ex : List MC} {yp : Nat} {x0 : Int32} {n : Int32} {what : Int32} (hd : 3 ≤ d) (hy : yp = 182 + ex.length) (hp0 : Bd 0 9 (u 44 0)) (hp1 : Bd 0 4 (u 44 2)) (hp2 : Bd 0 9 (u 53 0)) (hp3 : Bd 0 511 (u 53 1)) (hp4 : Bd 1 99 n) : CT con0 d 0 0 yX9_tally cX9_tally 9 (some .long) [.ref yp, .ref 44, .ref 53, .int n, .int what] (Wd u g (yX ex x0)) (fun r h2 => ∃ (z : Int64) (u2 : Nat → Nat → Int32) (x2 : Int32), r = some (.long z) ∧ h2 = Wd u2 g (yX ex x2) ∧ Bd 0 9 (u2 53 0) ∧ Bd 0 511 (u2 53 1) ∧ (∀ c, nin c [(53, 55)] = true → u2 c = u c) ∧ (∀ j, j ≠ 0 → j ≠ 1 → j ≠ 2 → j ≠ 3 → j ≠ 4 → u2 53 j = u 53 j)) := by
  refine CT_of (by decide) (Nat.le_of_ble_eq_true rfl) (fun x hq => ?_)
  show J x yX9_tally cX9_tally 9 (some .long) d 0 0 (Wd u g (yX ex x0)).length 0 [(0, .ref yp), (1, .ref 44), (2, .ref 53), (3, .int n), (4, .int what)] [] (Wd u g (yX ex x0)) 0 0
  refine J_lconst (v := 0) dX9_tally_0 (by decide) ?_
  refine J_lstore (i := 5) (lw := [(5, .long 0), (0, .ref yp), (1, .ref 44), (2, .ref 53), (3, .int n), (4, .int what)]) dX9_tally_1 (by decide) rfl ?_
  refine J_iconst (v := 0) dX9_tally_3 (by decide) ?_
  refine J_istore (i := 7) (lw := [(7, .int 0), (5, .long 0), (0, .ref yp), (1, .ref 44), (2, .ref 53), (3, .int n), (4, .int what)]) dX9_tally_4 (by decide) rfl ?_
  have lp515 : ∀ (n516 : Nat) (w428 : Int64) (w429 : Int32) (w435 : Int32) (u430 : Nat → Nat → Int32), Bd 0 99 w429 → (∀ c, nin c [(53, 55)] = true → u430 c = u c) → (∀ j, j ≠ 0 → j ≠ 1 → j ≠ 2 → j ≠ 3 → j ≠ 4 → u430 53 j = u 53 j) → Bd 0 9 (u430 53 0) → Bd 0 511 (u430 53 1) → (99 - w429.toInt).toNat < n516 → J x yX9_tally cX9_tally 9 (some .long) d 0 0 (Wd u g (yX ex x0)).length 6 [(0, .ref yp), (1, .ref 44), (2, .ref 53), (3, .int n), (4, .int what), (5, .long w428), (7, .int w429)] [] (Wd u430 g (yX ex w435)) 0 0 := by
    intro n516
    induction n516 with
    | zero => intro w428 w429 w435 u430 bw429 fr431 fc432 bm433 bm434 hm518; exact absurd hm518 (Nat.not_lt_zero _)
    | succ n516 ih517 =>
      intro w428 w429 w435 u430 bw429 fr431 fc432 bm433 bm434 hm518
      refine J_iload (i := 7) (j := 6) dX9_tally_6 rfl ?_
      refine J_iload_n (i := 3) (j := 3) dX9_tally_8 rfl rfl ?_
      refine J_icmp_ge (tgt := 120) dX9_tally_9 (by decide) (fun c519 => ?_) (fun c519 => ?_)
      · refine J_lload (i := 5) (j := 5) dX9_tally_120 rfl ?_
        exact J_lret hq dX9_tally_122 rfl wlenx (Nat.le_refl _) (Nat.le_refl _) ⟨w428, u430, w435, rfl, rfl, bm433, bm434, (fun c k_ => (fr431 c (nin_sub (M := [(53, 55)]) k_ rfl))), (fun j k0_ k1_ k2_ k3_ k4_ => (fc432 j k0_ k1_ k2_ k3_ k4_))⟩
      · refine J_aload_n (i := 0) (j := 0) dX9_tally_12 rfl rfl ?_
        refine J_aload_n (i := 1) (j := 1) dX9_tally_13 rfl rfl ?_
        refine J_callV (As := [.ref 44]) (rest := []) dX9_tally_14 (c_Y_drawRain (d := 1) (u := u430) (g := g) (ex := ex) (yp := yp) (x0 := w435)   (by decide) hy (bd_r (congrFun (fr431 44 rfl) 0) hp0) (bd_r (congrFun (fr431 44 rfl) 2) hp1)) hq.n k1118 k1120 k33 (yx_get hy) rfl rfl k106 k1121 np_X9_drawRain (Nat.le_trans (by decide) hd) (by decide) (Nat.le_refl _) (Nat.le_refl _) wlenx rfl (Nat.le_of_ble_eq_true rfl) (fun r_ h_ p559 => ?_)
        obtain ⟨v560, y561, rfl, rfl⟩ := p559
        refine J_istore (i := 8) (lw := [(8, .int v560), (0, .ref yp), (1, .ref 44), (2, .ref 53), (3, .int n), (4, .int what), (5, .long w428), (7, .int w429)]) dX9_tally_17 (by decide) rfl ?_
        refine J_aload_n (i := 2) (j := 3) dX9_tally_19 rfl rfl ?_
        refine J_aload_n (i := 1) (j := 2) dX9_tally_20 rfl rfl ?_
        refine J_aload_n (i := 1) (j := 2) dX9_tally_21 rfl rfl ?_
        refine J_iload (i := 8) (j := 0) dX9_tally_22 rfl ?_
        refine J_callV (As := [.int v560]) (rest := [.ref 44, .ref 53]) dX9_tally_24 (c_H_stepsOf (d := 0) (u := u430) (g := g) (ex := (yX ex y561)) (rain := v560) (t := 44) (by decide) (by decide) (bd_r (congrFun (fr431 44 rfl) 0) hp0) (bd_r (congrFun (fr431 44 rfl) 2) hp1)) hq.n k1128 k716 k717 wc_44 rfl rfl k89 k718 np_X1_stepsOf (Nat.le_trans (by decide) hd) (by decide) (Nat.le_refl _) (Nat.le_refl _) wlenx rfl (Nat.le_of_ble_eq_true rfl) (fun r_ h_ p562 => ?_)
        obtain ⟨v563, rfl, rfl⟩ := p562
        refine J_aload_n (i := 0) (j := 1) dX9_tally_27 rfl rfl ?_
        refine J_aload_n (i := 1) (j := 2) dX9_tally_28 rfl rfl ?_
        refine J_callV (As := [.ref 44]) (rest := [.int v563, .ref 44, .ref 53]) dX9_tally_29 (c_Y_drawBanks (d := 1) (u := u430) (g := g) (ex := ex) (yp := yp) (x0 := y561)   (by decide) hy (bd_r (congrFun (fr431 44 rfl) 0) hp0) (bd_r (congrFun (fr431 44 rfl) 2) hp1)) hq.n k1129 k1131 k35 (yx_get hy) rfl rfl k106 k1132 np_X9_drawBanks (Nat.le_trans (by decide) hd) (by decide) (Nat.le_refl _) (Nat.le_refl _) wlenx rfl (Nat.le_of_ble_eq_true rfl) (fun r_ h_ p564 => ?_)
        obtain ⟨v565, y566, rfl, rfl⟩ := p564
        refine J_iconst (v := (-1)) dX9_tally_32 (by decide) ?_
        refine J_callV (As := [.ref 44, .int v563, .int v565, .int (-1)]) (rest := []) dX9_tally_33 (c_S53_run (d := 2) (u := u430) (g := g) (ex := (yX ex y566)) (steps := v563) (banks := v565) (keeper := (-1)) (t := 44) (by decide) (by decide) (bd_r (congrFun (fr431 44 rfl) 0) hp0) (bd_r (congrFun (fr431 44 rfl) 2) hp1)) hq.n k1135 k806 k807 wc_53 rfl rfl k94 k808 np_X5_run (Nat.le_trans (by decide) hd) (by decide) (Nat.le_refl _) (Nat.le_refl _) wlenx rfl (Nat.le_of_ble_eq_true rfl) (fun r_ h_ p567 => ?_)
        obtain ⟨u568, rfl, rfl, h569, h570, fr571, fc572⟩ := p567
        refine J_iload (i := 4) (j := 5) dX9_tally_36 rfl ?_
        have jn586 : ∀ (w585 : Int64), J x yX9_tally cX9_tally 9 (some .long) d 0 0 (Wd u g (yX ex x0)).length 114 [(0, .ref yp), (1, .ref 44), (2, .ref 53), (3, .int n), (4, .int what), (5, .long w585), (7, .int w429)] [] (Wd u568 g (yX ex y566)) 0 0 := by
          intro w585
          refine J_iinc (i := 7) (j := 6) (v := (w429 + 1)) (lw := [(7, .int (w429 + 1)), (0, .ref yp), (1, .ref 44), (2, .ref 53), (3, .int n), (4, .int what), (5, .long w585)]) dX9_tally_114 rfl rfl (by decide) rfl ?_
          refine J_goto (tgt := 6) dX9_tally_117 (by decide) ?_
          refine J_lv [1, 2, 3, 4, 5, 6, 0] rfl ?_
          exact ih517 w585 (w429 + 1) y566 u568 (bd_w (l := 0) (h := 99) (bd_add (l := 1) (h := 99) (bd_lt_hi bw429 (i_nle c519) hp4) (bd_c (v := 1) (lo := 1) (hi := 1) (by decide)) (by decide)) (by decide)) (fun c k_ => ((fr571 c (nin_sub (M := [(53, 55)]) k_ rfl)).trans (fr431 c (nin_sub (M := [(53, 55)]) k_ rfl)))) (fun j k0_ k1_ k2_ k3_ k4_ => ((fc572 j k0_ k1_ k2_ k3_ k4_).trans (fc432 j k0_ k1_ k2_ k3_ k4_))) h569 h570 (mu_up 1 bw429 rfl (by decide) (bd_w (l := 1) (h := 99) (bd_add (l := 1) (h := 99) (bd_lt_hi bw429 (i_nle c519) hp4) (bd_c (v := 1) (lo := 1) (hi := 1) (by decide)) (by decide)) (by decide)) hm518)
        refine J_if_ne (tgt := 54) dX9_tally_38 (by decide) (fun c573 => ?_) (fun c573 => ?_)
        · refine J_iload (i := 4) (j := 5) dX9_tally_54 rfl ?_
          refine J_iconst (v := 1) dX9_tally_56 (by decide) ?_
          refine J_icmp_ne (tgt := 80) dX9_tally_57 (by decide) (fun c587 => ?_) (fun c587 => ?_)
          · refine J_iload (i := 4) (j := 5) dX9_tally_80 rfl ?_
            refine J_iconst (v := 2) dX9_tally_82 (by decide) ?_
            refine J_icmp_ne (tgt := 96) dX9_tally_83 (by decide) (fun c588 => ?_) (fun c588 => ?_)
            · refine J_lload (i := 5) (j := 6) dX9_tally_96 rfl ?_
              refine J_aload_n (i := 2) (j := 3) dX9_tally_98 rfl rfl ?_
              refine J_getN (C := RX5) (T := TX5) (Z := 7) (ci := 5) (f := 1) dX9_tally_99 inG5 rfl (by decide) k322 wc_53 rfl ?_
              refine J_iload (i := 4) (j := 5) dX9_tally_102 rfl ?_
              refine J_bipush (v := 10) dX9_tally_104 (by decide) ?_
              refine J_isub dX9_tally_106 ?_
              refine J_ishr dX9_tally_107 ?_
              refine J_iconst (v := 1) dX9_tally_108 (by decide) ?_
              refine J_iand dX9_tally_109 ?_
              refine J_i2l dX9_tally_110 rfl ?_
              refine J_topl (fun l589 _ => ?_)
              refine J_ladd dX9_tally_111 ?_
              refine J_topl (fun l590 _ => ?_)
              refine J_lstore (i := 5) (lw := [(5, .long l590), (8, .int v560), (0, .ref yp), (1, .ref 44), (2, .ref 53), (3, .int n), (4, .int what), (7, .int w429)]) dX9_tally_112 (by decide) rfl ?_
              refine J_lv [2, 3, 4, 5, 6, 0, 7] rfl ?_
              exact jn586 l590 
            · refine J_aload_n (i := 2) (j := 3) dX9_tally_86 rfl rfl ?_
              refine J_getN (C := RX5) (T := TX5) (Z := 7) (ci := 5) (f := 1) dX9_tally_87 inG5 rfl (by decide) k322 wc_53 rfl ?_
              refine J_i2l dX9_tally_90 rfl ?_
              refine J_topl (fun l591 _ => ?_)
              refine J_lstore (i := 5) (lw := [(5, .long l591), (8, .int v560), (0, .ref yp), (1, .ref 44), (2, .ref 53), (3, .int n), (4, .int what), (7, .int w429)]) dX9_tally_91 (by decide) rfl ?_
              refine J_goto (tgt := 114) dX9_tally_93 (by decide) ?_
              refine J_lv [2, 3, 4, 5, 6, 0, 7] rfl ?_
              exact jn586 l591 
          · refine J_lload (i := 5) (j := 6) dX9_tally_60 rfl ?_
            refine J_aload_n (i := 2) (j := 3) dX9_tally_62 rfl rfl ?_
            refine J_getN (C := RX5) (T := TX5) (Z := 7) (ci := 5) (f := 1) dX9_tally_63 inG5 rfl (by decide) k322 wc_53 rfl ?_
            have jn594 : ∀ (w593 : Int64), J x yX9_tally cX9_tally 9 (some .long) d 0 0 (Wd u g (yX ex x0)).length 74 [(0, .ref yp), (1, .ref 44), (2, .ref 53), (3, .int n), (4, .int what), (7, .int w429)] [.long w593, .long w428] (Wd u568 g (yX ex y566)) 0 0 := by
              intro w593
              refine J_ladd dX9_tally_74 ?_
              refine J_topl (fun l595 _ => ?_)
              refine J_lstore (i := 5) (lw := [(5, .long l595), (0, .ref yp), (1, .ref 44), (2, .ref 53), (3, .int n), (4, .int what), (7, .int w429)]) dX9_tally_75 (by decide) rfl ?_
              refine J_goto (tgt := 114) dX9_tally_77 (by decide) ?_
              refine J_lv [1, 2, 3, 4, 5, 0, 6] rfl ?_
              exact jn586 l595 
            refine J_if_ne (tgt := 73) dX9_tally_66 (by decide) (fun c592 => ?_) (fun c592 => ?_)
            · refine J_lconst (v := 1) dX9_tally_73 (by decide) ?_
              refine J_lv [1, 2, 3, 4, 5, 7] rfl ?_
              exact jn594 (1 : Int64) 
            · refine J_lconst (v := 0) dX9_tally_69 (by decide) ?_
              refine J_goto (tgt := 74) dX9_tally_70 (by decide) ?_
              refine J_lv [1, 2, 3, 4, 5, 7] rfl ?_
              exact jn594 (0 : Int64) 
        · refine J_lload (i := 5) (j := 6) dX9_tally_41 rfl ?_
          refine J_aload_n (i := 2) (j := 3) dX9_tally_43 rfl rfl ?_
          refine J_getN (C := RX5) (T := TX5) (Z := 7) (ci := 5) (f := 2) dX9_tally_44 inG5 rfl (by decide) k325 wc_53 rfl ?_
          refine J_i2l dX9_tally_47 rfl ?_
          refine J_topl (fun l596 _ => ?_)
          refine J_ladd dX9_tally_48 ?_
          refine J_topl (fun l597 _ => ?_)
          refine J_lstore (i := 5) (lw := [(5, .long l597), (8, .int v560), (0, .ref yp), (1, .ref 44), (2, .ref 53), (3, .int n), (4, .int what), (7, .int w429)]) dX9_tally_49 (by decide) rfl ?_
          refine J_goto (tgt := 114) dX9_tally_51 (by decide) ?_
          refine J_lv [2, 3, 4, 5, 6, 0, 7] rfl ?_
          exact jn586 l597 
  refine J_lv [2, 3, 4, 5, 6, 1, 0] rfl ?_
  exact lp515 _ (0 : Int64) (0 : Int32) x0 u (bd_w (l := 0) (h := 99) (bd_c (v := 0) (lo := 0) (hi := 0) (by decide)) (by decide)) (fun c k_ => rfl) (fun j k0_ k1_ k2_ k3_ k4_ => rfl) hp2 hp3 (Nat.lt_succ_self _)
set_option maxHeartbeats 4000000 in
set_option maxRecDepth 100000 in
theorem c_P_years {d : Nat} {u : Nat → Nat → Int32} {g : Nat → Nat → Int64} {ex : List MC} {hill : Int32} {plan : Int32} {seed : Int32} {n : Int32} {what : Int32} (hd : 5 ≤ d) (hp0 : Bd 0 2 (u 1 5)) (hp1 : Bd 0 3 (u 1 7)) (hp2 : Bd 0 9 (u 44 0)) (hp3 : Bd 0 4 (u 44 2)) (hp4 : Bd 0 9 (u 5 0)) (hp5 : Bd 0 4 (u 5 2)) (hp6 : Bd 0 9 (u 10 0)) (hp7 : Bd 0 4 (u 10 2)) (hp8 : Bd 0 12 (u 15 0)) (hp9 : Bd 0 12 (u 19 0)) (hp10 : Bd 0 12 (u 23 0)) (hp11 : Bd 0 12 (u 49 0)) (hp12 : AB u 45 (-1) 999) (hp13 : AB u 6 (-1) 999) (hp14 : AB u 11 (-1) 999) (hp15 : (KM u 15)) (hp16 : (KM u 19)) (hp17 : (KM u 23)) (hp18 : (KM u 49)) (hp19 : Bd 0 9 (u 53 0)) (hp20 : Bd 0 511 (u 53 1)) : CT con0 d 1 1 yX10_years cX10_years 6 (some .long) [.ref 0, .int hill, .int plan, .int seed, .int n, .int what] (Wd u g ex) (fun r h2 => ∃ (z : Int64) (u2 : Nat → Nat → Int32) (ex2 : List MC), r = some (.long z) ∧ h2 = Wd u2 g ex2 ∧ Bd 0 9 (u2 44 0) ∧ Bd 0 4 (u2 44 2) ∧ AB u2 45 (-1) 999 ∧ Bd 0 9 (u2 53 0) ∧ Bd 0 511 (u2 53 1) ∧ (∀ c, nin c [(43, 48), (53, 55)] = true → u2 c = u c) ∧ (∀ j, j ≠ 1 → j ≠ 2 → j ≠ 3 → u2 43 j = u 43 j) ∧ (∀ j, j ≠ 0 → j ≠ 2 → u2 44 j = u 44 j) ∧ (∀ j, j ≠ 0 → j ≠ 1 → j ≠ 2 → j ≠ 3 → j ≠ 4 → u2 53 j = u 53 j)) := by
  refine CT_of (by decide) (Nat.le_of_ble_eq_true rfl) (fun x hq => ?_)
  show J x yX10_years cX10_years 6 (some .long) d 1 1 (Wd u g ex).length 0 [(0, .ref 0), (1, .int hill), (2, .int plan), (3, .int seed), (4, .int n), (5, .int what)] [] (Wd u g ex) 0 0
  refine J_aload_n (i := 0) (j := 0) dX10_years_0 rfl rfl ?_
  refine J_iload_n (i := 1) (j := 1) dX10_years_1 rfl rfl ?_
  refine J_iload_n (i := 2) (j := 2) dX10_years_2 rfl rfl ?_
  refine J_callV (As := [.int hill, .int plan]) (rest := []) dX10_years_3 (c_P_lays (d := 4) (u := u) (g := g) (ex := ex) (hill := hill) (plan := plan)  (by decide) hp0 hp1 hp2 hp3 hp4 hp5 hp6 hp7 hp8 hp9 hp10 hp11 hp12 hp13 hp14 hp15 hp16 hp17 hp18) hq.n k723 k725 k12 wc_0 rfl rfl k87 k726 np_X10_lays (Nat.le_trans (by decide) hd) (by decide) (Nat.zero_le _) (Nat.zero_le _) wlen rfl (Nat.le_of_ble_eq_true rfl) (fun r_ h_ p1 => ?_)
  obtain ⟨t2, u3, rfl, rfl, h4, h5, h6, fr7, fc8, fc9⟩ := p1
  refine J_ifB_eq (tgt := 22) dX10_years_6 (by decide) (fun c10 => ?_) (fun c10 => ?_)
  · refine J_ldc2 (v := (-1)) dX10_years_22 k877 ?_
    exact J_lret hq dX10_years_25 rfl wlen (Nat.zero_le _) (Nat.zero_le _) ⟨((-1) : Int64), u3, ex, rfl, rfl, h4, h5, h6, (bd_r (congrFun (fr7 53 rfl) 0) hp19), (bd_r (congrFun (fr7 53 rfl) 1) hp20), (fun c k_ => (fr7 c (nin_sub (M := [(43, 48)]) k_ rfl))), (fun j k1_ k2_ k3_ => (fc8 j k1_ k2_ k3_)), (fun j k0_ k2_ => (fc9 j k0_ k2_)), (fun j k0_ k1_ k2_ k3_ k4_ => (congrFun (fr7 53 rfl) j))⟩
  · refine J_iload (i := 4) (j := 4) dX10_years_9 rfl ?_
    refine J_iconst (v := 1) dX10_years_11 (by decide) ?_
    refine J_icmp_lt (tgt := 22) dX10_years_12 (by decide) (fun c11 => ?_) (fun c11 => ?_)
    · refine J_ldc2 (v := (-1)) dX10_years_22 k877 ?_
      exact J_lret hq dX10_years_25 rfl wlen (Nat.zero_le _) (Nat.zero_le _) ⟨((-1) : Int64), u3, ex, rfl, rfl, h4, h5, h6, (bd_r (congrFun (fr7 53 rfl) 0) hp19), (bd_r (congrFun (fr7 53 rfl) 1) hp20), (fun c k_ => (fr7 c (nin_sub (M := [(43, 48)]) k_ rfl))), (fun j k1_ k2_ k3_ => (fc8 j k1_ k2_ k3_)), (fun j k0_ k2_ => (fc9 j k0_ k2_)), (fun j k0_ k1_ k2_ k3_ k4_ => (congrFun (fr7 53 rfl) j))⟩
    · refine J_iload (i := 4) (j := 4) dX10_years_15 rfl ?_
      refine J_bipush (v := 99) dX10_years_17 (by decide) ?_
      refine J_icmp_le (tgt := 26) dX10_years_19 (by decide) (fun c12 => ?_) (fun c12 => ?_)
      · refine J_iload (i := 5) (j := 5) dX10_years_26 rfl ?_
        refine J_if_eq (tgt := 72) dX10_years_28 (by decide) (fun c13 => ?_) (fun c13 => ?_)
        · refine J_new (C := RX9) (T := TX9) (Z := 1) (ci := 9) (fs := [.int 0]) (ty0 := tyX9) dX10_years_72 inG9 rfl tyX9_ok k1104 k1105 k106 fsX9 wlen (by decide) (by decide) ?_
          obtain ⟨yp, hyp⟩ : ∃ z, z = (Wd u3 g ex).length := ⟨_, rfl⟩
          rw [← hyp, wapp]
          have hy : yp = 182 + ex.length := hyp.trans Wd_len
          refine J_dup dX10_years_75 rfl ?_
          refine J_iload_n (i := 3) (j := 3) dX10_years_76 rfl rfl ?_
          refine J_callI (As := [.int seed]) (rest := [.ref yp]) dX10_years_77 (c_Y_init (d := 1) (u := u3) (g := g) (ex := ex) (yp := yp) (x0 := 0) (seed := seed)  (by decide) hy) hq.n k1106 k1107 rfl rfl k106 k1108 np_X9_init (Nat.le_trans (by decide) hd) (by decide) (Nat.le_refl _) (Nat.le_refl _) wlen1 rfl (Nat.le_of_ble_eq_true rfl) (fun r_ h_ p14 => ?_)
          obtain ⟨y15, rfl, rfl⟩ := p14
          refine J_aload_n (i := 0) (j := 0) dX10_years_80 rfl rfl ?_
          refine J_get (C := RX10) (T := TX10) (Z := 10) (ci := 10) (f := 4) dX10_years_81 inG10 rfl (by decide) k427 wc_0 rfl ?_
          refine J_getN (C := RX4) (T := TX4) (Z := 4) (ci := 4) (f := 0) dX10_years_84 inG4 rfl (by decide) k295 wc_43 rfl ?_
          refine J_aload_n (i := 0) (j := 0) dX10_years_87 rfl rfl ?_
          refine J_get (C := RX10) (T := TX10) (Z := 10) (ci := 10) (f := 6) dX10_years_88 inG10 rfl (by decide) k429 wc_0 rfl ?_
          refine J_iload (i := 4) (j := 4) dX10_years_91 rfl ?_
          refine J_iload (i := 5) (j := 5) dX10_years_93 rfl ?_
          refine J_callV (As := [.ref 44, .ref 53, .int n, .int what]) (rest := []) dX10_years_95 (c_Y_tally (d := 3) (u := u3) (g := g) (ex := ex) (yp := yp) (x0 := y15) (n := n) (what := what)  (by decide) hy h4 h5 (bd_r (congrFun (fr7 53 rfl) 0) hp19) (bd_r (congrFun (fr7 53 rfl) 1) hp20) (bd_le_hi (bd_le_lo (bd_any n) (i_nlt c11) (bd_c (v := 1) (lo := 1) (hi := 1) (by decide))) c12 (bd_c (v := 99) (lo := 99) (hi := 99) (by decide)))) hq.n k1114 k1115 k1116 (yx_get hy) rfl rfl k106 k1117 np_X9_tally (Nat.le_trans (by decide) hd) (by decide) (Nat.le_refl _) (Nat.le_refl _) wlen1 rfl (Nat.le_of_ble_eq_true rfl) (fun r_ h_ p16 => ?_)
          obtain ⟨l17, u18, y19, rfl, rfl, h20, h21, fr22, fc23⟩ := p16
          exact J_lret hq dX10_years_98 rfl wlen1 (Nat.le_refl _) (Nat.le_refl _) ⟨l17, u18, (yX ex y19), rfl, rfl, (bd_r (congrFun (fr22 44 rfl) 0) h4), (bd_r (congrFun (fr22 44 rfl) 2) h5), (ab_c (fr22 45 rfl) h6), h20, h21, (fun c k_ => ((fr22 c (nin_sub (M := [(53, 55)]) k_ rfl)).trans (fr7 c (nin_sub (M := [(43, 48)]) k_ rfl)))), (fun j k1_ k2_ k3_ => ((congrFun (fr22 43 rfl) j).trans (fc8 j k1_ k2_ k3_))), (fun j k0_ k2_ => ((congrFun (fr22 44 rfl) j).trans (fc9 j k0_ k2_))), (fun j k0_ k1_ k2_ k3_ k4_ => ((fc23 j k0_ k1_ k2_ k3_ k4_).trans (congrFun (fr7 53 rfl) j)))⟩
        · refine J_iload (i := 5) (j := 5) dX10_years_31 rfl ?_
          refine J_iconst (v := 1) dX10_years_33 (by decide) ?_
          refine J_icmp_eq (tgt := 72) dX10_years_34 (by decide) (fun c24 => ?_) (fun c24 => ?_)
          · refine J_new (C := RX9) (T := TX9) (Z := 1) (ci := 9) (fs := [.int 0]) (ty0 := tyX9) dX10_years_72 inG9 rfl tyX9_ok k1104 k1105 k106 fsX9 wlen (by decide) (by decide) ?_
            obtain ⟨yp, hyp⟩ : ∃ z, z = (Wd u3 g ex).length := ⟨_, rfl⟩
            rw [← hyp, wapp]
            have hy : yp = 182 + ex.length := hyp.trans Wd_len
            refine J_dup dX10_years_75 rfl ?_
            refine J_iload_n (i := 3) (j := 3) dX10_years_76 rfl rfl ?_
            refine J_callI (As := [.int seed]) (rest := [.ref yp]) dX10_years_77 (c_Y_init (d := 1) (u := u3) (g := g) (ex := ex) (yp := yp) (x0 := 0) (seed := seed)  (by decide) hy) hq.n k1106 k1107 rfl rfl k106 k1108 np_X9_init (Nat.le_trans (by decide) hd) (by decide) (Nat.le_refl _) (Nat.le_refl _) wlen1 rfl (Nat.le_of_ble_eq_true rfl) (fun r_ h_ p25 => ?_)
            obtain ⟨y26, rfl, rfl⟩ := p25
            refine J_aload_n (i := 0) (j := 0) dX10_years_80 rfl rfl ?_
            refine J_get (C := RX10) (T := TX10) (Z := 10) (ci := 10) (f := 4) dX10_years_81 inG10 rfl (by decide) k427 wc_0 rfl ?_
            refine J_getN (C := RX4) (T := TX4) (Z := 4) (ci := 4) (f := 0) dX10_years_84 inG4 rfl (by decide) k295 wc_43 rfl ?_
            refine J_aload_n (i := 0) (j := 0) dX10_years_87 rfl rfl ?_
            refine J_get (C := RX10) (T := TX10) (Z := 10) (ci := 10) (f := 6) dX10_years_88 inG10 rfl (by decide) k429 wc_0 rfl ?_
            refine J_iload (i := 4) (j := 4) dX10_years_91 rfl ?_
            refine J_iload (i := 5) (j := 5) dX10_years_93 rfl ?_
            refine J_callV (As := [.ref 44, .ref 53, .int n, .int what]) (rest := []) dX10_years_95 (c_Y_tally (d := 3) (u := u3) (g := g) (ex := ex) (yp := yp) (x0 := y26) (n := n) (what := what)  (by decide) hy h4 h5 (bd_r (congrFun (fr7 53 rfl) 0) hp19) (bd_r (congrFun (fr7 53 rfl) 1) hp20) (bd_le_hi (bd_le_lo (bd_any n) (i_nlt c11) (bd_c (v := 1) (lo := 1) (hi := 1) (by decide))) c12 (bd_c (v := 99) (lo := 99) (hi := 99) (by decide)))) hq.n k1114 k1115 k1116 (yx_get hy) rfl rfl k106 k1117 np_X9_tally (Nat.le_trans (by decide) hd) (by decide) (Nat.le_refl _) (Nat.le_refl _) wlen1 rfl (Nat.le_of_ble_eq_true rfl) (fun r_ h_ p27 => ?_)
            obtain ⟨l28, u29, y30, rfl, rfl, h31, h32, fr33, fc34⟩ := p27
            exact J_lret hq dX10_years_98 rfl wlen1 (Nat.le_refl _) (Nat.le_refl _) ⟨l28, u29, (yX ex y30), rfl, rfl, (bd_r (congrFun (fr33 44 rfl) 0) h4), (bd_r (congrFun (fr33 44 rfl) 2) h5), (ab_c (fr33 45 rfl) h6), h31, h32, (fun c k_ => ((fr33 c (nin_sub (M := [(53, 55)]) k_ rfl)).trans (fr7 c (nin_sub (M := [(43, 48)]) k_ rfl)))), (fun j k1_ k2_ k3_ => ((congrFun (fr33 43 rfl) j).trans (fc8 j k1_ k2_ k3_))), (fun j k0_ k2_ => ((congrFun (fr33 44 rfl) j).trans (fc9 j k0_ k2_))), (fun j k0_ k1_ k2_ k3_ k4_ => ((fc34 j k0_ k1_ k2_ k3_ k4_).trans (congrFun (fr7 53 rfl) j)))⟩
          · refine J_iload (i := 5) (j := 5) dX10_years_37 rfl ?_
            refine J_iconst (v := 2) dX10_years_39 (by decide) ?_
            refine J_icmp_eq (tgt := 72) dX10_years_40 (by decide) (fun c35 => ?_) (fun c35 => ?_)
            · refine J_new (C := RX9) (T := TX9) (Z := 1) (ci := 9) (fs := [.int 0]) (ty0 := tyX9) dX10_years_72 inG9 rfl tyX9_ok k1104 k1105 k106 fsX9 wlen (by decide) (by decide) ?_
              obtain ⟨yp, hyp⟩ : ∃ z, z = (Wd u3 g ex).length := ⟨_, rfl⟩
              rw [← hyp, wapp]
              have hy : yp = 182 + ex.length := hyp.trans Wd_len
              refine J_dup dX10_years_75 rfl ?_
              refine J_iload_n (i := 3) (j := 3) dX10_years_76 rfl rfl ?_
              refine J_callI (As := [.int seed]) (rest := [.ref yp]) dX10_years_77 (c_Y_init (d := 1) (u := u3) (g := g) (ex := ex) (yp := yp) (x0 := 0) (seed := seed)  (by decide) hy) hq.n k1106 k1107 rfl rfl k106 k1108 np_X9_init (Nat.le_trans (by decide) hd) (by decide) (Nat.le_refl _) (Nat.le_refl _) wlen1 rfl (Nat.le_of_ble_eq_true rfl) (fun r_ h_ p36 => ?_)
              obtain ⟨y37, rfl, rfl⟩ := p36
              refine J_aload_n (i := 0) (j := 0) dX10_years_80 rfl rfl ?_
              refine J_get (C := RX10) (T := TX10) (Z := 10) (ci := 10) (f := 4) dX10_years_81 inG10 rfl (by decide) k427 wc_0 rfl ?_
              refine J_getN (C := RX4) (T := TX4) (Z := 4) (ci := 4) (f := 0) dX10_years_84 inG4 rfl (by decide) k295 wc_43 rfl ?_
              refine J_aload_n (i := 0) (j := 0) dX10_years_87 rfl rfl ?_
              refine J_get (C := RX10) (T := TX10) (Z := 10) (ci := 10) (f := 6) dX10_years_88 inG10 rfl (by decide) k429 wc_0 rfl ?_
              refine J_iload (i := 4) (j := 4) dX10_years_91 rfl ?_
              refine J_iload (i := 5) (j := 5) dX10_years_93 rfl ?_
              refine J_callV (As := [.ref 44, .ref 53, .int n, .int what]) (rest := []) dX10_years_95 (c_Y_tally (d := 3) (u := u3) (g := g) (ex := ex) (yp := yp) (x0 := y37) (n := n) (what := what)  (by decide) hy h4 h5 (bd_r (congrFun (fr7 53 rfl) 0) hp19) (bd_r (congrFun (fr7 53 rfl) 1) hp20) (bd_le_hi (bd_le_lo (bd_any n) (i_nlt c11) (bd_c (v := 1) (lo := 1) (hi := 1) (by decide))) c12 (bd_c (v := 99) (lo := 99) (hi := 99) (by decide)))) hq.n k1114 k1115 k1116 (yx_get hy) rfl rfl k106 k1117 np_X9_tally (Nat.le_trans (by decide) hd) (by decide) (Nat.le_refl _) (Nat.le_refl _) wlen1 rfl (Nat.le_of_ble_eq_true rfl) (fun r_ h_ p38 => ?_)
              obtain ⟨l39, u40, y41, rfl, rfl, h42, h43, fr44, fc45⟩ := p38
              exact J_lret hq dX10_years_98 rfl wlen1 (Nat.le_refl _) (Nat.le_refl _) ⟨l39, u40, (yX ex y41), rfl, rfl, (bd_r (congrFun (fr44 44 rfl) 0) h4), (bd_r (congrFun (fr44 44 rfl) 2) h5), (ab_c (fr44 45 rfl) h6), h42, h43, (fun c k_ => ((fr44 c (nin_sub (M := [(53, 55)]) k_ rfl)).trans (fr7 c (nin_sub (M := [(43, 48)]) k_ rfl)))), (fun j k1_ k2_ k3_ => ((congrFun (fr44 43 rfl) j).trans (fc8 j k1_ k2_ k3_))), (fun j k0_ k2_ => ((congrFun (fr44 44 rfl) j).trans (fc9 j k0_ k2_))), (fun j k0_ k1_ k2_ k3_ k4_ => ((fc45 j k0_ k1_ k2_ k3_ k4_).trans (congrFun (fr7 53 rfl) j)))⟩
            · refine J_iload (i := 5) (j := 5) dX10_years_43 rfl ?_
              refine J_bipush (v := 10) dX10_years_45 (by decide) ?_
              refine J_icmp_lt (tgt := 68) dX10_years_47 (by decide) (fun c46 => ?_) (fun c46 => ?_)
              · refine J_ldc2 (v := (-1)) dX10_years_68 k877 ?_
                exact J_lret hq dX10_years_71 rfl wlen (Nat.zero_le _) (Nat.zero_le _) ⟨((-1) : Int64), u3, ex, rfl, rfl, h4, h5, h6, (bd_r (congrFun (fr7 53 rfl) 0) hp19), (bd_r (congrFun (fr7 53 rfl) 1) hp20), (fun c k_ => (fr7 c (nin_sub (M := [(43, 48)]) k_ rfl))), (fun j k1_ k2_ k3_ => (fc8 j k1_ k2_ k3_)), (fun j k0_ k2_ => (fc9 j k0_ k2_)), (fun j k0_ k1_ k2_ k3_ k4_ => (congrFun (fr7 53 rfl) j))⟩
              · refine J_aload_n (i := 0) (j := 0) dX10_years_50 rfl rfl ?_
                refine J_get (C := RX10) (T := TX10) (Z := 10) (ci := 10) (f := 4) dX10_years_51 inG10 rfl (by decide) k427 wc_0 rfl ?_
                refine J_getN (C := RX4) (T := TX4) (Z := 4) (ci := 4) (f := 0) dX10_years_54 inG4 rfl (by decide) k295 wc_43 rfl ?_
                refine J_iload (i := 5) (j := 5) dX10_years_57 rfl ?_
                refine J_bipush (v := 10) dX10_years_59 (by decide) ?_
                refine J_isub dX10_years_61 ?_
                refine J_callV (As := [.int (what - 10)]) (rest := []) dX10_years_62 (c_H_has (d := 0) (u := u3) (g := g) (ex := ex) (pond := (what - 10)) (t := 44) (by decide) (by decide) h4 h5) hq.n k774 k741 k742 wc_44 rfl rfl k89 k743 np_X1_has (Nat.le_trans (by decide) hd) (by decide) (Nat.zero_le _) (Nat.zero_le _) wlen rfl (Nat.le_of_ble_eq_true rfl) (fun r_ h_ p47 => ?_)
                obtain ⟨t48, rfl, rfl, h49⟩ := p47
                refine J_ifB_ne (tgt := 72) dX10_years_65 (by decide) (fun c50 => ?_) (fun c50 => ?_)
                · refine J_new (C := RX9) (T := TX9) (Z := 1) (ci := 9) (fs := [.int 0]) (ty0 := tyX9) dX10_years_72 inG9 rfl tyX9_ok k1104 k1105 k106 fsX9 wlen (by decide) (by decide) ?_
                  obtain ⟨yp, hyp⟩ : ∃ z, z = (Wd u3 g ex).length := ⟨_, rfl⟩
                  rw [← hyp, wapp]
                  have hy : yp = 182 + ex.length := hyp.trans Wd_len
                  refine J_dup dX10_years_75 rfl ?_
                  refine J_iload_n (i := 3) (j := 3) dX10_years_76 rfl rfl ?_
                  refine J_callI (As := [.int seed]) (rest := [.ref yp]) dX10_years_77 (c_Y_init (d := 1) (u := u3) (g := g) (ex := ex) (yp := yp) (x0 := 0) (seed := seed)  (by decide) hy) hq.n k1106 k1107 rfl rfl k106 k1108 np_X9_init (Nat.le_trans (by decide) hd) (by decide) (Nat.le_refl _) (Nat.le_refl _) wlen1 rfl (Nat.le_of_ble_eq_true rfl) (fun r_ h_ p51 => ?_)
                  obtain ⟨y52, rfl, rfl⟩ := p51
                  refine J_aload_n (i := 0) (j := 0) dX10_years_80 rfl rfl ?_
                  refine J_get (C := RX10) (T := TX10) (Z := 10) (ci := 10) (f := 4) dX10_years_81 inG10 rfl (by decide) k427 wc_0 rfl ?_
                  refine J_getN (C := RX4) (T := TX4) (Z := 4) (ci := 4) (f := 0) dX10_years_84 inG4 rfl (by decide) k295 wc_43 rfl ?_
                  refine J_aload_n (i := 0) (j := 0) dX10_years_87 rfl rfl ?_
                  refine J_get (C := RX10) (T := TX10) (Z := 10) (ci := 10) (f := 6) dX10_years_88 inG10 rfl (by decide) k429 wc_0 rfl ?_
                  refine J_iload (i := 4) (j := 4) dX10_years_91 rfl ?_
                  refine J_iload (i := 5) (j := 5) dX10_years_93 rfl ?_
                  refine J_callV (As := [.ref 44, .ref 53, .int n, .int what]) (rest := []) dX10_years_95 (c_Y_tally (d := 3) (u := u3) (g := g) (ex := ex) (yp := yp) (x0 := y52) (n := n) (what := what)  (by decide) hy h4 h5 (bd_r (congrFun (fr7 53 rfl) 0) hp19) (bd_r (congrFun (fr7 53 rfl) 1) hp20) (bd_le_hi (bd_le_lo (bd_any n) (i_nlt c11) (bd_c (v := 1) (lo := 1) (hi := 1) (by decide))) c12 (bd_c (v := 99) (lo := 99) (hi := 99) (by decide)))) hq.n k1114 k1115 k1116 (yx_get hy) rfl rfl k106 k1117 np_X9_tally (Nat.le_trans (by decide) hd) (by decide) (Nat.le_refl _) (Nat.le_refl _) wlen1 rfl (Nat.le_of_ble_eq_true rfl) (fun r_ h_ p53 => ?_)
                  obtain ⟨l54, u55, y56, rfl, rfl, h57, h58, fr59, fc60⟩ := p53
                  exact J_lret hq dX10_years_98 rfl wlen1 (Nat.le_refl _) (Nat.le_refl _) ⟨l54, u55, (yX ex y56), rfl, rfl, (bd_r (congrFun (fr59 44 rfl) 0) h4), (bd_r (congrFun (fr59 44 rfl) 2) h5), (ab_c (fr59 45 rfl) h6), h57, h58, (fun c k_ => ((fr59 c (nin_sub (M := [(53, 55)]) k_ rfl)).trans (fr7 c (nin_sub (M := [(43, 48)]) k_ rfl)))), (fun j k1_ k2_ k3_ => ((congrFun (fr59 43 rfl) j).trans (fc8 j k1_ k2_ k3_))), (fun j k0_ k2_ => ((congrFun (fr59 44 rfl) j).trans (fc9 j k0_ k2_))), (fun j k0_ k1_ k2_ k3_ k4_ => ((fc60 j k0_ k1_ k2_ k3_ k4_).trans (congrFun (fr7 53 rfl) j)))⟩
                · refine J_ldc2 (v := (-1)) dX10_years_68 k877 ?_
                  exact J_lret hq dX10_years_71 rfl wlen (Nat.zero_le _) (Nat.zero_le _) ⟨((-1) : Int64), u3, ex, rfl, rfl, h4, h5, h6, (bd_r (congrFun (fr7 53 rfl) 0) hp19), (bd_r (congrFun (fr7 53 rfl) 1) hp20), (fun c k_ => (fr7 c (nin_sub (M := [(43, 48)]) k_ rfl))), (fun j k1_ k2_ k3_ => (fc8 j k1_ k2_ k3_)), (fun j k0_ k2_ => (fc9 j k0_ k2_)), (fun j k0_ k1_ k2_ k3_ k4_ => (congrFun (fr7 53 rfl) j))⟩
      · refine J_ldc2 (v := (-1)) dX10_years_22 k877 ?_
        exact J_lret hq dX10_years_25 rfl wlen (Nat.zero_le _) (Nat.zero_le _) ⟨((-1) : Int64), u3, ex, rfl, rfl, h4, h5, h6, (bd_r (congrFun (fr7 53 rfl) 0) hp19), (bd_r (congrFun (fr7 53 rfl) 1) hp20), (fun c k_ => (fr7 c (nin_sub (M := [(43, 48)]) k_ rfl))), (fun j k1_ k2_ k3_ => (fc8 j k1_ k2_ k3_)), (fun j k0_ k2_ => (fc9 j k0_ k2_)), (fun j k0_ k1_ k2_ k3_ k4_ => (congrFun (fr7 53 rfl) j))⟩
