section
theorem k1425 : Cond.methodLink RX11 193 yX11_hillLine ∈ gt := gt_6_5 (i := 19) rfl rfl
theorem k1427 : Cond.instanceMethod yX11_hillLine ∈ gt := gt_6_5 (i := 21) rfl rfl
theorem k40 : Cond.selects RX11 yX11_hillLine yX11_hillLine ∈ gt := gs_3 (i := 8) rfl rfl
theorem k1428 : Cond.code yX11_hillLine cX11_hillLine 7 (some .boolean) ∈ gt := gt_6_5 (i := 22) rfl rfl
theorem np_X11_hillLine : yX11_hillLine.cls ≠ "java/lang/invoke/MethodHandle" ∧ yX11_hillLine.cls ≠ "java/lang/invoke/VarHandle" ∧ (parseMethodDescriptor yX11_hillLine.desc).map (fun d => d.parameters.length) = some 1 := ⟨cq_RX11.1, cq_RX11.2, pd_10⟩
theorem k1483 : Cond.methodLink RX11 199 yX11_endsHill ∈ gt := gt_6_8 (i := 5) rfl rfl
theorem k1485 : Cond.instanceMethod yX11_endsHill ∈ gt := gt_6_8 (i := 7) rfl rfl
theorem k50 : Cond.selects RX11 yX11_endsHill yX11_endsHill ∈ gt := gs_4 (i := 2) rfl rfl
theorem k1486 : Cond.code yX11_endsHill cX11_endsHill 3 none ∈ gt := gt_6_8 (i := 8) rfl rfl
theorem np_X11_endsHill : yX11_endsHill.cls ≠ "java/lang/invoke/MethodHandle" ∧ yX11_endsHill.cls ≠ "java/lang/invoke/VarHandle" ∧ (parseMethodDescriptor yX11_endsHill.desc).map (fun d => d.parameters.length) = some 0 := ⟨cq_RX11.1, cq_RX11.2, pd_3⟩
theorem k1476 : Cond.methodLink RX11 196 yX11_workLine ∈ gt := gt_6_7 (i := 22) rfl rfl
theorem k1478 : Cond.instanceMethod yX11_workLine ∈ gt := gt_6_8 (i := 0) rfl rfl
theorem k49 : Cond.selects RX11 yX11_workLine yX11_workLine ∈ gt := gs_4 (i := 1) rfl rfl
theorem k1479 : Cond.code yX11_workLine cX11_workLine 6 (some .boolean) ∈ gt := gt_6_8 (i := 1) rfl rfl
theorem np_X11_workLine : yX11_workLine.cls ≠ "java/lang/invoke/MethodHandle" ∧ yX11_workLine.cls ≠ "java/lang/invoke/VarHandle" ∧ (parseMethodDescriptor yX11_workLine.desc).map (fun d => d.parameters.length) = some 1 := ⟨cq_RX11.1, cq_RX11.2, pd_10⟩
theorem dX11_endsHill_0 : decode cX11_endsHill 0 = .ok (.iconst 0, 1) := dqn_3 (k := 98) qh_cX11_endsHill rfl rfl
theorem dX11_endsHill_1 : decode cX11_endsHill 1 = .ok (.istore_n 1, 1) := dqn_60 (k := 97) qh_cX11_endsHill rfl rfl
theorem dX11_endsHill_2 : decode cX11_endsHill 2 = .ok (.iconst 0, 1) := dqn_3 (k := 96) qh_cX11_endsHill rfl rfl
theorem dX11_endsHill_3 : decode cX11_endsHill 3 = .ok (.istore_n 2, 1) := dqn_61 (k := 95) qh_cX11_endsHill rfl rfl
theorem dX11_endsHill_4 : decode cX11_endsHill 4 = .ok (.iload_n 2, 1) := dqn_28 (k := 94) qh_cX11_endsHill rfl rfl
theorem dX11_endsHill_5 : decode cX11_endsHill 5 = .ok (.aload_n 0, 1) := dqn_42 (k := 93) qh_cX11_endsHill rfl rfl
theorem dX11_endsHill_6 : decode cX11_endsHill 6 = .ok (.getfield 32, 3) := dqn_180 (k := 90) qh_cX11_endsHill rfl rfl rfl
theorem dX11_endsHill_9 : decode cX11_endsHill 9 = .ok (.iconst 1, 1) := dqn_4 (k := 89) qh_cX11_endsHill rfl rfl
theorem dX11_endsHill_10 : decode cX11_endsHill 10 = .ok (.iaload, 1) := dqn_46 (k := 88) qh_cX11_endsHill rfl rfl
theorem dX11_endsHill_11 : decode cX11_endsHill 11 = .ok (.if_icmp .ge 24, 3) := dqn_162 (k := 85) (u := 24) qh_cX11_endsHill rfl rfl rfl (sg_p rfl rfl)
theorem dX11_endsHill_14 : decode cX11_endsHill 14 = .ok (.iload_n 1, 1) := dqn_27 (k := 84) qh_cX11_endsHill rfl rfl
theorem dX11_endsHill_15 : decode cX11_endsHill 15 = .ok (.aload_n 0, 1) := dqn_42 (k := 83) qh_cX11_endsHill rfl rfl
theorem dX11_endsHill_16 : decode cX11_endsHill 16 = .ok (.getfield 32, 3) := dqn_180 (k := 80) qh_cX11_endsHill rfl rfl rfl
theorem dX11_endsHill_19 : decode cX11_endsHill 19 = .ok (.iconst 5, 1) := dqn_8 (k := 79) qh_cX11_endsHill rfl rfl
theorem dX11_endsHill_20 : decode cX11_endsHill 20 = .ok (.iconst 2, 1) := dqn_5 (k := 78) qh_cX11_endsHill rfl rfl
theorem dX11_endsHill_21 : decode cX11_endsHill 21 = .ok (.iload_n 2, 1) := dqn_28 (k := 77) qh_cX11_endsHill rfl rfl
theorem dX11_endsHill_22 : decode cX11_endsHill 22 = .ok (.imul, 1) := dqn_104 (k := 76) qh_cX11_endsHill rfl rfl
theorem dX11_endsHill_23 : decode cX11_endsHill 23 = .ok (.iadd, 1) := dqn_96 (k := 75) qh_cX11_endsHill rfl rfl
theorem dX11_endsHill_24 : decode cX11_endsHill 24 = .ok (.iconst 1, 1) := dqn_4 (k := 74) qh_cX11_endsHill rfl rfl
theorem dX11_endsHill_25 : decode cX11_endsHill 25 = .ok (.iadd, 1) := dqn_96 (k := 73) qh_cX11_endsHill rfl rfl
theorem dX11_endsHill_26 : decode cX11_endsHill 26 = .ok (.iaload, 1) := dqn_46 (k := 72) qh_cX11_endsHill rfl rfl
theorem dX11_endsHill_27 : decode cX11_endsHill 27 = .ok (.iadd, 1) := dqn_96 (k := 71) qh_cX11_endsHill rfl rfl
theorem dX11_endsHill_28 : decode cX11_endsHill 28 = .ok (.istore_n 1, 1) := dqn_60 (k := 70) qh_cX11_endsHill rfl rfl
theorem dX11_endsHill_29 : decode cX11_endsHill 29 = .ok (.iinc 2 1, 3) := dqn_132 (k := 67) (u := 1) qh_cX11_endsHill rfl rfl rfl rfl (by decide)
theorem dX11_endsHill_32 : decode cX11_endsHill 32 = .ok (.goto (-28), 3) := dqn_167 (k := 64) (u := 65508) qh_cX11_endsHill rfl rfl rfl (sg_n (k := 28) rfl rfl rfl)
theorem dX11_endsHill_35 : decode cX11_endsHill 35 = .ok (.aload_n 0, 1) := dqn_42 (k := 63) qh_cX11_endsHill rfl rfl
theorem dX11_endsHill_36 : decode cX11_endsHill 36 = .ok (.getfield 32, 3) := dqn_180 (k := 60) qh_cX11_endsHill rfl rfl rfl
theorem dX11_endsHill_39 : decode cX11_endsHill 39 = .ok (.iconst 1, 1) := dqn_4 (k := 59) qh_cX11_endsHill rfl rfl
theorem dX11_endsHill_40 : decode cX11_endsHill 40 = .ok (.iaload, 1) := dqn_46 (k := 58) qh_cX11_endsHill rfl rfl
theorem dX11_endsHill_41 : decode cX11_endsHill 41 = .ok (.ifCond .le 25, 3) := dqn_158 (k := 55) (u := 25) qh_cX11_endsHill rfl rfl rfl (sg_p rfl rfl)
theorem dX11_endsHill_44 : decode cX11_endsHill 44 = .ok (.iload_n 1, 1) := dqn_27 (k := 54) qh_cX11_endsHill rfl rfl
theorem dX11_endsHill_45 : decode cX11_endsHill 45 = .ok (.bipush 100, 2) := dqn_16 (k := 52) (u := 100) qh_cX11_endsHill rfl rfl rfl (by decide)
theorem dX11_endsHill_47 : decode cX11_endsHill 47 = .ok (.if_icmp .eq 19, 3) := dqn_159 (k := 49) (u := 19) qh_cX11_endsHill rfl rfl rfl (sg_p rfl rfl)
theorem dX11_endsHill_50 : decode cX11_endsHill 50 = .ok (.aload_n 0, 1) := dqn_42 (k := 48) qh_cX11_endsHill rfl rfl
theorem dX11_endsHill_51 : decode cX11_endsHill 51 = .ok (.getfield 112, 3) := dqn_180 (k := 45) qh_cX11_endsHill rfl rfl rfl
theorem dX11_endsHill_54 : decode cX11_endsHill 54 = .ok (.ifCond .ne 12, 3) := dqn_154 (k := 42) (u := 12) qh_cX11_endsHill rfl rfl rfl (sg_p rfl rfl)
theorem dX11_endsHill_57 : decode cX11_endsHill 57 = .ok (.aload_n 0, 1) := dqn_42 (k := 41) qh_cX11_endsHill rfl rfl
theorem dX11_endsHill_58 : decode cX11_endsHill 58 = .ok (.iconst 4, 1) := dqn_7 (k := 40) qh_cX11_endsHill rfl rfl
theorem dX11_endsHill_59 : decode cX11_endsHill 59 = .ok (.aload_n 0, 1) := dqn_42 (k := 39) qh_cX11_endsHill rfl rfl
theorem dX11_endsHill_60 : decode cX11_endsHill 60 = .ok (.getfield 96, 3) := dqn_180 (k := 36) qh_cX11_endsHill rfl rfl rfl
theorem dX11_endsHill_63 : decode cX11_endsHill 63 = .ok (.invokevirtual 125, 3) := dqn_182 (k := 33) qh_cX11_endsHill rfl rfl rfl
theorem dX11_endsHill_66 : decode cX11_endsHill 66 = .ok (.aload_n 0, 1) := dqn_42 (k := 32) qh_cX11_endsHill rfl rfl
theorem dX11_endsHill_67 : decode cX11_endsHill 67 = .ok (.getfield 32, 3) := dqn_180 (k := 29) qh_cX11_endsHill rfl rfl rfl
theorem dX11_endsHill_70 : decode cX11_endsHill 70 = .ok (.iconst 1, 1) := dqn_4 (k := 28) qh_cX11_endsHill rfl rfl
theorem dX11_endsHill_71 : decode cX11_endsHill 71 = .ok (.iaload, 1) := dqn_46 (k := 27) qh_cX11_endsHill rfl rfl
theorem dX11_endsHill_72 : decode cX11_endsHill 72 = .ok (.ifCond .ne 26, 3) := dqn_154 (k := 24) (u := 26) qh_cX11_endsHill rfl rfl rfl (sg_p rfl rfl)
theorem dX11_endsHill_75 : decode cX11_endsHill 75 = .ok (.aload_n 0, 1) := dqn_42 (k := 23) qh_cX11_endsHill rfl rfl
theorem dX11_endsHill_76 : decode cX11_endsHill 76 = .ok (.getfield 32, 3) := dqn_180 (k := 20) qh_cX11_endsHill rfl rfl rfl
theorem dX11_endsHill_79 : decode cX11_endsHill 79 = .ok (.iconst 1, 1) := dqn_4 (k := 19) qh_cX11_endsHill rfl rfl
theorem dX11_endsHill_80 : decode cX11_endsHill 80 = .ok (.iconst 1, 1) := dqn_4 (k := 18) qh_cX11_endsHill rfl rfl
theorem dX11_endsHill_81 : decode cX11_endsHill 81 = .ok (.iastore, 1) := dqn_79 (k := 17) qh_cX11_endsHill rfl rfl
theorem dX11_endsHill_82 : decode cX11_endsHill 82 = .ok (.aload_n 0, 1) := dqn_42 (k := 16) qh_cX11_endsHill rfl rfl
theorem dX11_endsHill_83 : decode cX11_endsHill 83 = .ok (.getfield 32, 3) := dqn_180 (k := 13) qh_cX11_endsHill rfl rfl rfl
theorem dX11_endsHill_86 : decode cX11_endsHill 86 = .ok (.iconst 5, 1) := dqn_8 (k := 12) qh_cX11_endsHill rfl rfl
theorem dX11_endsHill_87 : decode cX11_endsHill 87 = .ok (.iconst 0, 1) := dqn_3 (k := 11) qh_cX11_endsHill rfl rfl
theorem dX11_endsHill_88 : decode cX11_endsHill 88 = .ok (.iastore, 1) := dqn_79 (k := 10) qh_cX11_endsHill rfl rfl
theorem dX11_endsHill_89 : decode cX11_endsHill 89 = .ok (.aload_n 0, 1) := dqn_42 (k := 9) qh_cX11_endsHill rfl rfl
theorem dX11_endsHill_90 : decode cX11_endsHill 90 = .ok (.getfield 32, 3) := dqn_180 (k := 6) qh_cX11_endsHill rfl rfl rfl
theorem dX11_endsHill_93 : decode cX11_endsHill 93 = .ok (.bipush 6, 2) := dqn_16 (k := 4) (u := 6) qh_cX11_endsHill rfl rfl rfl (by decide)
theorem dX11_endsHill_95 : decode cX11_endsHill 95 = .ok (.bipush 100, 2) := dqn_16 (k := 2) (u := 100) qh_cX11_endsHill rfl rfl rfl (by decide)
theorem dX11_endsHill_97 : decode cX11_endsHill 97 = .ok (.iastore, 1) := dqn_79 (k := 1) qh_cX11_endsHill rfl rfl
theorem dX11_endsHill_98 : decode cX11_endsHill 98 = .ok (.return_, 1) := dqn_177 (k := 0) qh_cX11_endsHill rfl rfl
theorem dX11_readText_0 : decode cX11_readText 0 = .ok (.iconst 0, 1) := dqn_3 (k := 198) qh_cX11_readText rfl rfl
theorem dX11_readText_1 : decode cX11_readText 1 = .ok (.istore_n 2, 1) := dqn_61 (k := 197) qh_cX11_readText rfl rfl
theorem dX11_readText_2 : decode cX11_readText 2 = .ok (.iload_n 2, 1) := dqn_28 (k := 196) qh_cX11_readText rfl rfl
theorem dX11_readText_3 : decode cX11_readText 3 = .ok (.sipush 157, 3) := dqn_17 (k := 193) (u := 157) qh_cX11_readText rfl rfl rfl (sg_p rfl rfl)
theorem dX11_readText_6 : decode cX11_readText 6 = .ok (.if_icmp .ge 33, 3) := dqn_162 (k := 190) (u := 33) qh_cX11_readText rfl rfl rfl (sg_p rfl rfl)
theorem dX11_readText_9 : decode cX11_readText 9 = .ok (.aload_n 0, 1) := dqn_42 (k := 189) qh_cX11_readText rfl rfl
theorem dX11_readText_10 : decode cX11_readText 10 = .ok (.getfield 32, 3) := dqn_180 (k := 186) qh_cX11_readText rfl rfl rfl
theorem dX11_readText_13 : decode cX11_readText 13 = .ok (.iload_n 2, 1) := dqn_28 (k := 185) qh_cX11_readText rfl rfl
theorem dX11_readText_14 : decode cX11_readText 14 = .ok (.iload_n 1, 1) := dqn_27 (k := 184) qh_cX11_readText rfl rfl
theorem dX11_readText_15 : decode cX11_readText 15 = .ok (.ifCond .ne 16, 3) := dqn_154 (k := 181) (u := 16) qh_cX11_readText rfl rfl rfl (sg_p rfl rfl)
theorem dX11_readText_18 : decode cX11_readText 18 = .ok (.iload_n 2, 1) := dqn_28 (k := 180) qh_cX11_readText rfl rfl
theorem dX11_readText_19 : decode cX11_readText 19 = .ok (.iconst 2, 1) := dqn_5 (k := 179) qh_cX11_readText rfl rfl
theorem dX11_readText_20 : decode cX11_readText 20 = .ok (.iconst 4, 1) := dqn_7 (k := 178) qh_cX11_readText rfl rfl
theorem dX11_readText_21 : decode cX11_readText 21 = .ok (.invokestatic 78, 3) := dqn_184 (k := 175) qh_cX11_readText rfl rfl rfl
theorem dX11_readText_24 : decode cX11_readText 24 = .ok (.ifCond .eq 7, 3) := dqn_153 (k := 172) (u := 7) qh_cX11_readText rfl rfl rfl (sg_p rfl rfl)
theorem dX11_readText_27 : decode cX11_readText 27 = .ok (.iconst 1, 1) := dqn_4 (k := 171) qh_cX11_readText rfl rfl
theorem dX11_readText_28 : decode cX11_readText 28 = .ok (.goto 4, 3) := dqn_167 (k := 168) (u := 4) qh_cX11_readText rfl rfl rfl (sg_p rfl rfl)
theorem dX11_readText_31 : decode cX11_readText 31 = .ok (.iconst 0, 1) := dqn_3 (k := 167) qh_cX11_readText rfl rfl
theorem dX11_readText_32 : decode cX11_readText 32 = .ok (.iastore, 1) := dqn_79 (k := 166) qh_cX11_readText rfl rfl
theorem dX11_readText_33 : decode cX11_readText 33 = .ok (.iinc 2 1, 3) := dqn_132 (k := 163) (u := 1) qh_cX11_readText rfl rfl rfl rfl (by decide)
theorem dX11_readText_36 : decode cX11_readText 36 = .ok (.goto (-34), 3) := dqn_167 (k := 160) (u := 65502) qh_cX11_readText rfl rfl rfl (sg_n (k := 34) rfl rfl rfl)
theorem dX11_readText_39 : decode cX11_readText 39 = .ok (.aload_n 0, 1) := dqn_42 (k := 159) qh_cX11_readText rfl rfl
theorem dX11_readText_40 : decode cX11_readText 40 = .ok (.iconst 0, 1) := dqn_3 (k := 158) qh_cX11_readText rfl rfl
theorem dX11_readText_41 : decode cX11_readText 41 = .ok (.putfield 86, 3) := dqn_181 (k := 155) qh_cX11_readText rfl rfl rfl
theorem dX11_readText_44 : decode cX11_readText 44 = .ok (.aload_n 0, 1) := dqn_42 (k := 154) qh_cX11_readText rfl rfl
theorem dX11_readText_45 : decode cX11_readText 45 = .ok (.iconst 0, 1) := dqn_3 (k := 153) qh_cX11_readText rfl rfl
theorem dX11_readText_46 : decode cX11_readText 46 = .ok (.putfield 112, 3) := dqn_181 (k := 150) qh_cX11_readText rfl rfl rfl
theorem dX11_readText_49 : decode cX11_readText 49 = .ok (.iconst 1, 1) := dqn_4 (k := 149) qh_cX11_readText rfl rfl
theorem dX11_readText_50 : decode cX11_readText 50 = .ok (.istore_n 2, 1) := dqn_61 (k := 148) qh_cX11_readText rfl rfl
theorem dX11_readText_51 : decode cX11_readText 51 = .ok (.aload_n 0, 1) := dqn_42 (k := 147) qh_cX11_readText rfl rfl
theorem dX11_readText_52 : decode cX11_readText 52 = .ok (.invokevirtual 133, 3) := dqn_182 (k := 144) qh_cX11_readText rfl rfl rfl
theorem dX11_readText_55 : decode cX11_readText 55 = .ok (.iload_n 2, 1) := dqn_28 (k := 143) qh_cX11_readText rfl rfl
theorem dX11_readText_56 : decode cX11_readText 56 = .ok (.ifCond .eq 66, 3) := dqn_153 (k := 140) (u := 66) qh_cX11_readText rfl rfl rfl (sg_p rfl rfl)
theorem dX11_readText_59 : decode cX11_readText 59 = .ok (.aload_n 0, 1) := dqn_42 (k := 139) qh_cX11_readText rfl rfl
theorem dX11_readText_60 : decode cX11_readText 60 = .ok (.getfield 103, 3) := dqn_180 (k := 136) qh_cX11_readText rfl rfl rfl
theorem dX11_readText_63 : decode cX11_readText 63 = .ok (.ifCond .eq 59, 3) := dqn_153 (k := 133) (u := 59) qh_cX11_readText rfl rfl rfl (sg_p rfl rfl)
theorem dX11_readText_66 : decode cX11_readText 66 = .ok (.aload_n 0, 1) := dqn_42 (k := 132) qh_cX11_readText rfl rfl
theorem dX11_readText_67 : decode cX11_readText 67 = .ok (.getfield 96, 3) := dqn_180 (k := 129) qh_cX11_readText rfl rfl rfl
theorem dX11_readText_70 : decode cX11_readText 70 = .ok (.istore_n 3, 1) := dqn_62 (k := 128) qh_cX11_readText rfl rfl
theorem dX11_readText_71 : decode cX11_readText 71 = .ok (.aload_n 0, 1) := dqn_42 (k := 127) qh_cX11_readText rfl rfl
theorem dX11_readText_72 : decode cX11_readText 72 = .ok (.iconst 1, 1) := dqn_4 (k := 126) qh_cX11_readText rfl rfl
theorem dX11_readText_73 : decode cX11_readText 73 = .ok (.putfield 129, 3) := dqn_181 (k := 123) qh_cX11_readText rfl rfl rfl
theorem dX11_readText_76 : decode cX11_readText 76 = .ok (.iload_n 1, 1) := dqn_27 (k := 122) qh_cX11_readText rfl rfl
theorem dX11_readText_77 : decode cX11_readText 77 = .ok (.ifCond .ne 11, 3) := dqn_154 (k := 119) (u := 11) qh_cX11_readText rfl rfl rfl (sg_p rfl rfl)
theorem dX11_readText_80 : decode cX11_readText 80 = .ok (.aload_n 0, 1) := dqn_42 (k := 118) qh_cX11_readText rfl rfl
theorem dX11_readText_81 : decode cX11_readText 81 = .ok (.iload_n 3, 1) := dqn_29 (k := 117) qh_cX11_readText rfl rfl
theorem dX11_readText_82 : decode cX11_readText 82 = .ok (.invokevirtual 193, 3) := dqn_182 (k := 114) qh_cX11_readText rfl rfl rfl
theorem dX11_readText_85 : decode cX11_readText 85 = .ok (.goto 8, 3) := dqn_167 (k := 111) (u := 8) qh_cX11_readText rfl rfl rfl (sg_p rfl rfl)
theorem dX11_readText_88 : decode cX11_readText 88 = .ok (.aload_n 0, 1) := dqn_42 (k := 110) qh_cX11_readText rfl rfl
theorem dX11_readText_89 : decode cX11_readText 89 = .ok (.iload_n 3, 1) := dqn_29 (k := 109) qh_cX11_readText rfl rfl
theorem dX11_readText_90 : decode cX11_readText 90 = .ok (.invokevirtual 196, 3) := dqn_182 (k := 106) qh_cX11_readText rfl rfl rfl
theorem dX11_readText_93 : decode cX11_readText 93 = .ok (.istore_n 2, 1) := dqn_61 (k := 105) qh_cX11_readText rfl rfl
theorem dX11_readText_94 : decode cX11_readText 94 = .ok (.iload_n 2, 1) := dqn_28 (k := 104) qh_cX11_readText rfl rfl
theorem dX11_readText_95 : decode cX11_readText 95 = .ok (.ifCond .eq 16, 3) := dqn_153 (k := 101) (u := 16) qh_cX11_readText rfl rfl rfl (sg_p rfl rfl)
theorem dX11_readText_98 : decode cX11_readText 98 = .ok (.aload_n 0, 1) := dqn_42 (k := 100) qh_cX11_readText rfl rfl
theorem dX11_readText_99 : decode cX11_readText 99 = .ok (.getfield 103, 3) := dqn_180 (k := 97) qh_cX11_readText rfl rfl rfl
theorem dX11_readText_102 : decode cX11_readText 102 = .ok (.iconst 4, 1) := dqn_7 (k := 96) qh_cX11_readText rfl rfl
theorem dX11_readText_103 : decode cX11_readText 103 = .ok (.if_icmp .eq 8, 3) := dqn_159 (k := 93) (u := 8) qh_cX11_readText rfl rfl rfl (sg_p rfl rfl)
theorem dX11_readText_106 : decode cX11_readText 106 = .ok (.aload_n 0, 1) := dqn_42 (k := 92) qh_cX11_readText rfl rfl
theorem dX11_readText_107 : decode cX11_readText 107 = .ok (.invokevirtual 118, 3) := dqn_182 (k := 89) qh_cX11_readText rfl rfl rfl
theorem dX11_readText_110 : decode cX11_readText 110 = .ok (.istore_n 2, 1) := dqn_61 (k := 88) qh_cX11_readText rfl rfl
theorem dX11_readText_111 : decode cX11_readText 111 = .ok (.iload_n 2, 1) := dqn_28 (k := 87) qh_cX11_readText rfl rfl
theorem dX11_readText_112 : decode cX11_readText 112 = .ok (.ifCond .eq 7, 3) := dqn_153 (k := 84) (u := 7) qh_cX11_readText rfl rfl rfl (sg_p rfl rfl)
theorem dX11_readText_115 : decode cX11_readText 115 = .ok (.aload_n 0, 1) := dqn_42 (k := 83) qh_cX11_readText rfl rfl
theorem dX11_readText_116 : decode cX11_readText 116 = .ok (.invokevirtual 133, 3) := dqn_182 (k := 80) qh_cX11_readText rfl rfl rfl
theorem dX11_readText_119 : decode cX11_readText 119 = .ok (.goto (-64), 3) := dqn_167 (k := 77) (u := 65472) qh_cX11_readText rfl rfl rfl (sg_n (k := 64) rfl rfl rfl)
theorem dX11_readText_122 : decode cX11_readText 122 = .ok (.iload_n 2, 1) := dqn_28 (k := 76) qh_cX11_readText rfl rfl
theorem dX11_readText_123 : decode cX11_readText 123 = .ok (.ifCond .eq 11, 3) := dqn_153 (k := 73) (u := 11) qh_cX11_readText rfl rfl rfl (sg_p rfl rfl)
theorem dX11_readText_126 : decode cX11_readText 126 = .ok (.iload_n 1, 1) := dqn_27 (k := 72) qh_cX11_readText rfl rfl
theorem dX11_readText_127 : decode cX11_readText 127 = .ok (.ifCond .ne 7, 3) := dqn_154 (k := 69) (u := 7) qh_cX11_readText rfl rfl rfl (sg_p rfl rfl)
theorem dX11_readText_130 : decode cX11_readText 130 = .ok (.aload_n 0, 1) := dqn_42 (k := 68) qh_cX11_readText rfl rfl
theorem dX11_readText_131 : decode cX11_readText 131 = .ok (.invokevirtual 199, 3) := dqn_182 (k := 65) qh_cX11_readText rfl rfl rfl
theorem dX11_readText_134 : decode cX11_readText 134 = .ok (.aload_n 0, 1) := dqn_42 (k := 64) qh_cX11_readText rfl rfl
theorem dX11_readText_135 : decode cX11_readText 135 = .ok (.getfield 17, 3) := dqn_180 (k := 61) qh_cX11_readText rfl rfl rfl
theorem dX11_readText_138 : decode cX11_readText 138 = .ok (.iconst 0, 1) := dqn_3 (k := 60) qh_cX11_readText rfl rfl
theorem dX11_readText_139 : decode cX11_readText 139 = .ok (.iload_n 2, 1) := dqn_28 (k := 59) qh_cX11_readText rfl rfl
theorem dX11_readText_140 : decode cX11_readText 140 = .ok (.ifCond .eq 10, 3) := dqn_153 (k := 56) (u := 10) qh_cX11_readText rfl rfl rfl (sg_p rfl rfl)
theorem dX11_readText_143 : decode cX11_readText 143 = .ok (.aload_n 0, 1) := dqn_42 (k := 55) qh_cX11_readText rfl rfl
theorem dX11_readText_144 : decode cX11_readText 144 = .ok (.getfield 112, 3) := dqn_180 (k := 52) qh_cX11_readText rfl rfl rfl
theorem dX11_readText_147 : decode cX11_readText 147 = .ok (.goto 4, 3) := dqn_167 (k := 49) (u := 4) qh_cX11_readText rfl rfl rfl (sg_p rfl rfl)
theorem dX11_readText_150 : decode cX11_readText 150 = .ok (.iconst 1, 1) := dqn_4 (k := 48) qh_cX11_readText rfl rfl
theorem dX11_readText_151 : decode cX11_readText 151 = .ok (.iastore, 1) := dqn_79 (k := 47) qh_cX11_readText rfl rfl
theorem dX11_readText_152 : decode cX11_readText 152 = .ok (.aload_n 0, 1) := dqn_42 (k := 46) qh_cX11_readText rfl rfl
theorem dX11_readText_153 : decode cX11_readText 153 = .ok (.getfield 20, 3) := dqn_180 (k := 43) qh_cX11_readText rfl rfl rfl
theorem dX11_readText_156 : decode cX11_readText 156 = .ok (.iconst 0, 1) := dqn_3 (k := 42) qh_cX11_readText rfl rfl
theorem dX11_readText_157 : decode cX11_readText 157 = .ok (.iload_n 2, 1) := dqn_28 (k := 41) qh_cX11_readText rfl rfl
theorem dX11_readText_158 : decode cX11_readText 158 = .ok (.ifCond .ne 10, 3) := dqn_154 (k := 38) (u := 10) qh_cX11_readText rfl rfl rfl (sg_p rfl rfl)
theorem dX11_readText_161 : decode cX11_readText 161 = .ok (.aload_n 0, 1) := dqn_42 (k := 37) qh_cX11_readText rfl rfl
theorem dX11_readText_162 : decode cX11_readText 162 = .ok (.getfield 109, 3) := dqn_180 (k := 34) qh_cX11_readText rfl rfl rfl
theorem dX11_readText_165 : decode cX11_readText 165 = .ok (.goto 18, 3) := dqn_167 (k := 31) (u := 18) qh_cX11_readText rfl rfl rfl (sg_p rfl rfl)
theorem dX11_readText_168 : decode cX11_readText 168 = .ok (.aload_n 0, 1) := dqn_42 (k := 30) qh_cX11_readText rfl rfl
theorem dX11_readText_169 : decode cX11_readText 169 = .ok (.getfield 112, 3) := dqn_180 (k := 27) qh_cX11_readText rfl rfl rfl
theorem dX11_readText_172 : decode cX11_readText 172 = .ok (.ifCond .le 10, 3) := dqn_158 (k := 24) (u := 10) qh_cX11_readText rfl rfl rfl (sg_p rfl rfl)
theorem dX11_readText_175 : decode cX11_readText 175 = .ok (.aload_n 0, 1) := dqn_42 (k := 23) qh_cX11_readText rfl rfl
theorem dX11_readText_176 : decode cX11_readText 176 = .ok (.getfield 115, 3) := dqn_180 (k := 20) qh_cX11_readText rfl rfl rfl
theorem dX11_readText_179 : decode cX11_readText 179 = .ok (.goto 4, 3) := dqn_167 (k := 17) (u := 4) qh_cX11_readText rfl rfl rfl (sg_p rfl rfl)
theorem dX11_readText_182 : decode cX11_readText 182 = .ok (.iconst (-1), 1) := dqn_2 (k := 16) qh_cX11_readText rfl rfl
theorem dX11_readText_183 : decode cX11_readText 183 = .ok (.iastore, 1) := dqn_79 (k := 15) qh_cX11_readText rfl rfl
theorem dX11_readText_184 : decode cX11_readText 184 = .ok (.aload_n 0, 1) := dqn_42 (k := 14) qh_cX11_readText rfl rfl
theorem dX11_readText_185 : decode cX11_readText 185 = .ok (.getfield 17, 3) := dqn_180 (k := 11) qh_cX11_readText rfl rfl rfl
theorem dX11_readText_188 : decode cX11_readText 188 = .ok (.iconst 0, 1) := dqn_3 (k := 10) qh_cX11_readText rfl rfl
theorem dX11_readText_189 : decode cX11_readText 189 = .ok (.iaload, 1) := dqn_46 (k := 9) qh_cX11_readText rfl rfl
theorem dX11_readText_190 : decode cX11_readText 190 = .ok (.ifCond .ne 7, 3) := dqn_154 (k := 6) (u := 7) qh_cX11_readText rfl rfl rfl (sg_p rfl rfl)
theorem dX11_readText_193 : decode cX11_readText 193 = .ok (.iconst 1, 1) := dqn_4 (k := 5) qh_cX11_readText rfl rfl
theorem dX11_readText_194 : decode cX11_readText 194 = .ok (.goto 4, 3) := dqn_167 (k := 2) (u := 4) qh_cX11_readText rfl rfl rfl (sg_p rfl rfl)
theorem dX11_readText_197 : decode cX11_readText 197 = .ok (.iconst 0, 1) := dqn_3 (k := 1) qh_cX11_readText rfl rfl
theorem dX11_readText_198 : decode cX11_readText 198 = .ok (.ireturn, 1) := dqn_172 (k := 0) qh_cX11_readText rfl rfl
end
section
theorem k1413 : Cond.methodLink RX11 202 yX11_readText ∈ gt := gt_6_5 (i := 7) rfl rfl
theorem k1415 : Cond.instanceMethod yX11_readText ∈ gt := gt_6_5 (i := 9) rfl rfl
theorem k37 : Cond.selects RX11 yX11_readText yX11_readText ∈ gt := gs_3 (i := 5) rfl rfl
theorem k1416 : Cond.code yX11_readText cX11_readText 4 (some .boolean) ∈ gt := gt_6_5 (i := 10) rfl rfl
theorem np_X11_readText : yX11_readText.cls ≠ "java/lang/invoke/MethodHandle" ∧ yX11_readText.cls ≠ "java/lang/invoke/VarHandle" ∧ (parseMethodDescriptor yX11_readText.desc).map (fun d => d.parameters.length) = some 1 := ⟨cq_RX11.1, cq_RX11.2, pd_10⟩
theorem dX11_text_0 : decode cX11_text 0 = .ok (.aload_n 0, 1) := dqn_42 (k := 217) qh_cX11_text rfl rfl
theorem dX11_text_1 : decode cX11_text 1 = .ok (.iconst 0, 1) := dqn_3 (k := 216) qh_cX11_text rfl rfl
theorem dX11_text_2 : decode cX11_text 2 = .ok (.putfield 70, 3) := dqn_181 (k := 213) qh_cX11_text rfl rfl rfl
theorem dX11_text_5 : decode cX11_text 5 = .ok (.aload_n 0, 1) := dqn_42 (k := 212) qh_cX11_text rfl rfl
theorem dX11_text_6 : decode cX11_text 6 = .ok (.aload_n 0, 1) := dqn_42 (k := 211) qh_cX11_text rfl rfl
theorem dX11_text_7 : decode cX11_text 7 = .ok (.getfield 13, 3) := dqn_180 (k := 208) qh_cX11_text rfl rfl rfl
theorem dX11_text_10 : decode cX11_text 10 = .ok (.iconst 0, 1) := dqn_3 (k := 207) qh_cX11_text rfl rfl
theorem dX11_text_11 : decode cX11_text 11 = .ok (.iaload, 1) := dqn_46 (k := 206) qh_cX11_text rfl rfl
theorem dX11_text_12 : decode cX11_text 12 = .ok (.putfield 89, 3) := dqn_181 (k := 203) qh_cX11_text rfl rfl rfl
theorem dX11_text_15 : decode cX11_text 15 = .ok (.aload_n 0, 1) := dqn_42 (k := 202) qh_cX11_text rfl rfl
theorem dX11_text_16 : decode cX11_text 16 = .ok (.getfield 13, 3) := dqn_180 (k := 199) qh_cX11_text rfl rfl rfl
theorem dX11_text_19 : decode cX11_text 19 = .ok (.iconst 0, 1) := dqn_3 (k := 198) qh_cX11_text rfl rfl
theorem dX11_text_20 : decode cX11_text 20 = .ok (.iconst 0, 1) := dqn_3 (k := 197) qh_cX11_text rfl rfl
theorem dX11_text_21 : decode cX11_text 21 = .ok (.iastore, 1) := dqn_79 (k := 196) qh_cX11_text rfl rfl
theorem dX11_text_22 : decode cX11_text 22 = .ok (.aload_n 0, 1) := dqn_42 (k := 195) qh_cX11_text rfl rfl
theorem dX11_text_23 : decode cX11_text 23 = .ok (.getfield 17, 3) := dqn_180 (k := 192) qh_cX11_text rfl rfl rfl
theorem dX11_text_26 : decode cX11_text 26 = .ok (.iconst 0, 1) := dqn_3 (k := 191) qh_cX11_text rfl rfl
theorem dX11_text_27 : decode cX11_text 27 = .ok (.iconst 0, 1) := dqn_3 (k := 190) qh_cX11_text rfl rfl
theorem dX11_text_28 : decode cX11_text 28 = .ok (.iastore, 1) := dqn_79 (k := 189) qh_cX11_text rfl rfl
theorem dX11_text_29 : decode cX11_text 29 = .ok (.aload_n 0, 1) := dqn_42 (k := 188) qh_cX11_text rfl rfl
theorem dX11_text_30 : decode cX11_text 30 = .ok (.getfield 20, 3) := dqn_180 (k := 185) qh_cX11_text rfl rfl rfl
theorem dX11_text_33 : decode cX11_text 33 = .ok (.iconst 0, 1) := dqn_3 (k := 184) qh_cX11_text rfl rfl
theorem dX11_text_34 : decode cX11_text 34 = .ok (.iconst (-1), 1) := dqn_2 (k := 183) qh_cX11_text rfl rfl
theorem dX11_text_35 : decode cX11_text 35 = .ok (.iastore, 1) := dqn_79 (k := 182) qh_cX11_text rfl rfl
theorem dX11_text_36 : decode cX11_text 36 = .ok (.iload_n 1, 1) := dqn_27 (k := 181) qh_cX11_text rfl rfl
theorem dX11_text_37 : decode cX11_text 37 = .ok (.iconst 0, 1) := dqn_3 (k := 180) qh_cX11_text rfl rfl
theorem dX11_text_38 : decode cX11_text 38 = .ok (.iconst 1, 1) := dqn_4 (k := 179) qh_cX11_text rfl rfl
theorem dX11_text_39 : decode cX11_text 39 = .ok (.invokestatic 78, 3) := dqn_184 (k := 176) qh_cX11_text rfl rfl rfl
theorem dX11_text_42 : decode cX11_text 42 = .ok (.ifCond .eq 45, 3) := dqn_153 (k := 173) (u := 45) qh_cX11_text rfl rfl rfl (sg_p rfl rfl)
theorem dX11_text_45 : decode cX11_text 45 = .ok (.iload_n 2, 1) := dqn_28 (k := 172) qh_cX11_text rfl rfl
theorem dX11_text_46 : decode cX11_text 46 = .ok (.iconst (-1), 1) := dqn_2 (k := 171) qh_cX11_text rfl rfl
theorem dX11_text_47 : decode cX11_text 47 = .ok (.if_icmp .ne 24, 3) := dqn_160 (k := 168) (u := 24) qh_cX11_text rfl rfl rfl (sg_p rfl rfl)
theorem dX11_text_50 : decode cX11_text 50 = .ok (.aload_n 0, 1) := dqn_42 (k := 167) qh_cX11_text rfl rfl
theorem dX11_text_51 : decode cX11_text 51 = .ok (.getfield 23, 3) := dqn_180 (k := 164) qh_cX11_text rfl rfl rfl
theorem dX11_text_54 : decode cX11_text 54 = .ok (.iload_n 1, 1) := dqn_27 (k := 163) qh_cX11_text rfl rfl
theorem dX11_text_55 : decode cX11_text 55 = .ok (.iaload, 1) := dqn_46 (k := 162) qh_cX11_text rfl rfl
theorem dX11_text_56 : decode cX11_text 56 = .ok (.iload_n 1, 1) := dqn_27 (k := 161) qh_cX11_text rfl rfl
theorem dX11_text_57 : decode cX11_text 57 = .ok (.ifCond .ne 7, 3) := dqn_154 (k := 158) (u := 7) qh_cX11_text rfl rfl rfl (sg_p rfl rfl)
theorem dX11_text_60 : decode cX11_text 60 = .ok (.iconst 2, 1) := dqn_5 (k := 157) qh_cX11_text rfl rfl
theorem dX11_text_61 : decode cX11_text 61 = .ok (.goto 4, 3) := dqn_167 (k := 154) (u := 4) qh_cX11_text rfl rfl rfl (sg_p rfl rfl)
theorem dX11_text_64 : decode cX11_text 64 = .ok (.iconst 3, 1) := dqn_6 (k := 153) qh_cX11_text rfl rfl
theorem dX11_text_65 : decode cX11_text 65 = .ok (.if_icmp .ne 25, 3) := dqn_160 (k := 150) (u := 25) qh_cX11_text rfl rfl rfl (sg_p rfl rfl)
theorem dX11_text_68 : decode cX11_text 68 = .ok (.goto 19, 3) := dqn_167 (k := 147) (u := 19) qh_cX11_text rfl rfl rfl (sg_p rfl rfl)
theorem dX11_text_71 : decode cX11_text 71 = .ok (.iload_n 2, 1) := dqn_28 (k := 146) qh_cX11_text rfl rfl
theorem dX11_text_72 : decode cX11_text 72 = .ok (.iconst 0, 1) := dqn_3 (k := 145) qh_cX11_text rfl rfl
theorem dX11_text_73 : decode cX11_text 73 = .ok (.aload_n 0, 1) := dqn_42 (k := 144) qh_cX11_text rfl rfl
theorem dX11_text_74 : decode cX11_text 74 = .ok (.getfield 23, 3) := dqn_180 (k := 141) qh_cX11_text rfl rfl rfl
theorem dX11_text_77 : decode cX11_text 77 = .ok (.iload_n 1, 1) := dqn_27 (k := 140) qh_cX11_text rfl rfl
theorem dX11_text_78 : decode cX11_text 78 = .ok (.iaload, 1) := dqn_46 (k := 139) qh_cX11_text rfl rfl
theorem dX11_text_79 : decode cX11_text 79 = .ok (.iconst 1, 1) := dqn_4 (k := 138) qh_cX11_text rfl rfl
theorem dX11_text_80 : decode cX11_text 80 = .ok (.isub, 1) := dqn_100 (k := 137) qh_cX11_text rfl rfl
theorem dX11_text_81 : decode cX11_text 81 = .ok (.invokestatic 78, 3) := dqn_184 (k := 134) qh_cX11_text rfl rfl rfl
theorem dX11_text_84 : decode cX11_text 84 = .ok (.ifCond .ne 6, 3) := dqn_154 (k := 131) (u := 6) qh_cX11_text rfl rfl rfl (sg_p rfl rfl)
theorem dX11_text_87 : decode cX11_text 87 = .ok (.bipush (-2), 2) := dqn_16 (k := 129) (u := 254) qh_cX11_text rfl rfl rfl (by decide)
theorem dX11_text_89 : decode cX11_text 89 = .ok (.ireturn, 1) := dqn_172 (k := 128) qh_cX11_text rfl rfl
theorem dX11_text_90 : decode cX11_text 90 = .ok (.aload_n 0, 1) := dqn_42 (k := 127) qh_cX11_text rfl rfl
theorem dX11_text_91 : decode cX11_text 91 = .ok (.iload_n 1, 1) := dqn_27 (k := 126) qh_cX11_text rfl rfl
theorem dX11_text_92 : decode cX11_text 92 = .ok (.invokevirtual 202, 3) := dqn_182 (k := 123) qh_cX11_text rfl rfl rfl
theorem dX11_text_95 : decode cX11_text 95 = .ok (.ifCond .ne 5, 3) := dqn_154 (k := 120) (u := 5) qh_cX11_text rfl rfl rfl (sg_p rfl rfl)
theorem dX11_text_98 : decode cX11_text 98 = .ok (.iconst (-1), 1) := dqn_2 (k := 119) qh_cX11_text rfl rfl
theorem dX11_text_99 : decode cX11_text 99 = .ok (.ireturn, 1) := dqn_172 (k := 118) qh_cX11_text rfl rfl
theorem dX11_text_100 : decode cX11_text 100 = .ok (.iload_n 2, 1) := dqn_28 (k := 117) qh_cX11_text rfl rfl
theorem dX11_text_101 : decode cX11_text 101 = .ok (.iconst (-1), 1) := dqn_2 (k := 116) qh_cX11_text rfl rfl
theorem dX11_text_102 : decode cX11_text 102 = .ok (.if_icmp .ne 12, 3) := dqn_160 (k := 113) (u := 12) qh_cX11_text rfl rfl rfl (sg_p rfl rfl)
theorem dX11_text_105 : decode cX11_text 105 = .ok (.aload_n 0, 1) := dqn_42 (k := 112) qh_cX11_text rfl rfl
theorem dX11_text_106 : decode cX11_text 106 = .ok (.getfield 23, 3) := dqn_180 (k := 109) qh_cX11_text rfl rfl rfl
theorem dX11_text_109 : decode cX11_text 109 = .ok (.iload_n 1, 1) := dqn_27 (k := 108) qh_cX11_text rfl rfl
theorem dX11_text_110 : decode cX11_text 110 = .ok (.iaload, 1) := dqn_46 (k := 107) qh_cX11_text rfl rfl
theorem dX11_text_111 : decode cX11_text 111 = .ok (.goto 4, 3) := dqn_167 (k := 104) (u := 4) qh_cX11_text rfl rfl rfl (sg_p rfl rfl)
theorem dX11_text_114 : decode cX11_text 114 = .ok (.iload_n 2, 1) := dqn_28 (k := 103) qh_cX11_text rfl rfl
theorem dX11_text_115 : decode cX11_text 115 = .ok (.istore_n 3, 1) := dqn_62 (k := 102) qh_cX11_text rfl rfl
theorem dX11_text_116 : decode cX11_text 116 = .ok (.aload_n 0, 1) := dqn_42 (k := 101) qh_cX11_text rfl rfl
theorem dX11_text_117 : decode cX11_text 117 = .ok (.getfield 23, 3) := dqn_180 (k := 98) qh_cX11_text rfl rfl rfl
theorem dX11_text_120 : decode cX11_text 120 = .ok (.iload_n 1, 1) := dqn_27 (k := 97) qh_cX11_text rfl rfl
theorem dX11_text_121 : decode cX11_text 121 = .ok (.dup2, 1) := dqn_92 (k := 96) qh_cX11_text rfl rfl
theorem dX11_text_122 : decode cX11_text 122 = .ok (.iaload, 1) := dqn_46 (k := 95) qh_cX11_text rfl rfl
theorem dX11_text_123 : decode cX11_text 123 = .ok (.iload_n 2, 1) := dqn_28 (k := 94) qh_cX11_text rfl rfl
theorem dX11_text_124 : decode cX11_text 124 = .ok (.iconst (-1), 1) := dqn_2 (k := 93) qh_cX11_text rfl rfl
theorem dX11_text_125 : decode cX11_text 125 = .ok (.if_icmp .ne 7, 3) := dqn_160 (k := 90) (u := 7) qh_cX11_text rfl rfl rfl (sg_p rfl rfl)
theorem dX11_text_128 : decode cX11_text 128 = .ok (.iconst 1, 1) := dqn_4 (k := 89) qh_cX11_text rfl rfl
theorem dX11_text_129 : decode cX11_text 129 = .ok (.goto 4, 3) := dqn_167 (k := 86) (u := 4) qh_cX11_text rfl rfl rfl (sg_p rfl rfl)
theorem dX11_text_132 : decode cX11_text 132 = .ok (.iconst 0, 1) := dqn_3 (k := 85) qh_cX11_text rfl rfl
theorem dX11_text_133 : decode cX11_text 133 = .ok (.iadd, 1) := dqn_96 (k := 84) qh_cX11_text rfl rfl
theorem dX11_text_134 : decode cX11_text 134 = .ok (.iastore, 1) := dqn_79 (k := 83) qh_cX11_text rfl rfl
theorem dX11_text_135 : decode cX11_text 135 = .ok (.iconst 0, 1) := dqn_3 (k := 82) qh_cX11_text rfl rfl
theorem dX11_text_136 : decode cX11_text 136 = .ok (.istore 4, 2) := dqn_54 (k := 80) qh_cX11_text rfl rfl rfl
theorem dX11_text_138 : decode cX11_text 138 = .ok (.iload 4, 2) := dqn_21 (k := 78) qh_cX11_text rfl rfl rfl
theorem dX11_text_140 : decode cX11_text 140 = .ok (.sipush 157, 3) := dqn_17 (k := 75) (u := 157) qh_cX11_text rfl rfl rfl (sg_p rfl rfl)
theorem dX11_text_143 : decode cX11_text 143 = .ok (.if_icmp .ge 33, 3) := dqn_162 (k := 72) (u := 33) qh_cX11_text rfl rfl rfl (sg_p rfl rfl)
theorem dX11_text_146 : decode cX11_text 146 = .ok (.iload_n 1, 1) := dqn_27 (k := 71) qh_cX11_text rfl rfl
theorem dX11_text_147 : decode cX11_text 147 = .ok (.ifCond .ne 29, 3) := dqn_154 (k := 68) (u := 29) qh_cX11_text rfl rfl rfl (sg_p rfl rfl)
theorem dX11_text_150 : decode cX11_text 150 = .ok (.aload_n 0, 1) := dqn_42 (k := 67) qh_cX11_text rfl rfl
theorem dX11_text_151 : decode cX11_text 151 = .ok (.getfield 26, 3) := dqn_180 (k := 64) qh_cX11_text rfl rfl rfl
theorem dX11_text_154 : decode cX11_text 154 = .ok (.sipush 157, 3) := dqn_17 (k := 61) (u := 157) qh_cX11_text rfl rfl rfl (sg_p rfl rfl)
theorem dX11_text_157 : decode cX11_text 157 = .ok (.iload_n 3, 1) := dqn_29 (k := 60) qh_cX11_text rfl rfl
theorem dX11_text_158 : decode cX11_text 158 = .ok (.imul, 1) := dqn_104 (k := 59) qh_cX11_text rfl rfl
theorem dX11_text_159 : decode cX11_text 159 = .ok (.iload 4, 2) := dqn_21 (k := 57) qh_cX11_text rfl rfl rfl
theorem dX11_text_161 : decode cX11_text 161 = .ok (.iadd, 1) := dqn_96 (k := 56) qh_cX11_text rfl rfl
theorem dX11_text_162 : decode cX11_text 162 = .ok (.aload_n 0, 1) := dqn_42 (k := 55) qh_cX11_text rfl rfl
theorem dX11_text_163 : decode cX11_text 163 = .ok (.getfield 32, 3) := dqn_180 (k := 52) qh_cX11_text rfl rfl rfl
theorem dX11_text_166 : decode cX11_text 166 = .ok (.iload 4, 2) := dqn_21 (k := 50) qh_cX11_text rfl rfl rfl
theorem dX11_text_168 : decode cX11_text 168 = .ok (.iaload, 1) := dqn_46 (k := 49) qh_cX11_text rfl rfl
theorem dX11_text_169 : decode cX11_text 169 = .ok (.iastore, 1) := dqn_79 (k := 48) qh_cX11_text rfl rfl
theorem dX11_text_170 : decode cX11_text 170 = .ok (.iinc 4 1, 3) := dqn_132 (k := 45) (u := 1) qh_cX11_text rfl rfl rfl rfl (by decide)
theorem dX11_text_173 : decode cX11_text 173 = .ok (.goto (-35), 3) := dqn_167 (k := 42) (u := 65501) qh_cX11_text rfl rfl rfl (sg_n (k := 35) rfl rfl rfl)
theorem dX11_text_176 : decode cX11_text 176 = .ok (.iconst 0, 1) := dqn_3 (k := 41) qh_cX11_text rfl rfl
theorem dX11_text_177 : decode cX11_text 177 = .ok (.istore 4, 2) := dqn_54 (k := 39) qh_cX11_text rfl rfl rfl
theorem dX11_text_179 : decode cX11_text 179 = .ok (.iload 4, 2) := dqn_21 (k := 37) qh_cX11_text rfl rfl rfl
theorem dX11_text_181 : decode cX11_text 181 = .ok (.bipush 37, 2) := dqn_16 (k := 35) (u := 37) qh_cX11_text rfl rfl rfl (by decide)
theorem dX11_text_183 : decode cX11_text 183 = .ok (.if_icmp .ge 33, 3) := dqn_162 (k := 32) (u := 33) qh_cX11_text rfl rfl rfl (sg_p rfl rfl)
theorem dX11_text_186 : decode cX11_text 186 = .ok (.iload_n 1, 1) := dqn_27 (k := 31) qh_cX11_text rfl rfl
theorem dX11_text_187 : decode cX11_text 187 = .ok (.iconst 1, 1) := dqn_4 (k := 30) qh_cX11_text rfl rfl
theorem dX11_text_188 : decode cX11_text 188 = .ok (.if_icmp .ne 28, 3) := dqn_160 (k := 27) (u := 28) qh_cX11_text rfl rfl rfl (sg_p rfl rfl)
theorem dX11_text_191 : decode cX11_text 191 = .ok (.aload_n 0, 1) := dqn_42 (k := 26) qh_cX11_text rfl rfl
theorem dX11_text_192 : decode cX11_text 192 = .ok (.getfield 29, 3) := dqn_180 (k := 23) qh_cX11_text rfl rfl rfl
theorem dX11_text_195 : decode cX11_text 195 = .ok (.bipush 37, 2) := dqn_16 (k := 21) (u := 37) qh_cX11_text rfl rfl rfl (by decide)
theorem dX11_text_197 : decode cX11_text 197 = .ok (.iload_n 3, 1) := dqn_29 (k := 20) qh_cX11_text rfl rfl
theorem dX11_text_198 : decode cX11_text 198 = .ok (.imul, 1) := dqn_104 (k := 19) qh_cX11_text rfl rfl
theorem dX11_text_199 : decode cX11_text 199 = .ok (.iload 4, 2) := dqn_21 (k := 17) qh_cX11_text rfl rfl rfl
theorem dX11_text_201 : decode cX11_text 201 = .ok (.iadd, 1) := dqn_96 (k := 16) qh_cX11_text rfl rfl
theorem dX11_text_202 : decode cX11_text 202 = .ok (.aload_n 0, 1) := dqn_42 (k := 15) qh_cX11_text rfl rfl
theorem dX11_text_203 : decode cX11_text 203 = .ok (.getfield 32, 3) := dqn_180 (k := 12) qh_cX11_text rfl rfl rfl
theorem dX11_text_206 : decode cX11_text 206 = .ok (.iload 4, 2) := dqn_21 (k := 10) qh_cX11_text rfl rfl rfl
theorem dX11_text_208 : decode cX11_text 208 = .ok (.iaload, 1) := dqn_46 (k := 9) qh_cX11_text rfl rfl
theorem dX11_text_209 : decode cX11_text 209 = .ok (.iastore, 1) := dqn_79 (k := 8) qh_cX11_text rfl rfl
theorem dX11_text_210 : decode cX11_text 210 = .ok (.iinc 4 1, 3) := dqn_132 (k := 5) (u := 1) qh_cX11_text rfl rfl rfl rfl (by decide)
theorem dX11_text_213 : decode cX11_text 213 = .ok (.goto (-34), 3) := dqn_167 (k := 2) (u := 65502) qh_cX11_text rfl rfl rfl (sg_n (k := 34) rfl rfl rfl)
theorem dX11_text_216 : decode cX11_text 216 = .ok (.iload_n 3, 1) := dqn_29 (k := 1) qh_cX11_text rfl rfl
theorem dX11_text_217 : decode cX11_text 217 = .ok (.ireturn, 1) := dqn_172 (k := 0) qh_cX11_text rfl rfl
theorem hk2 {v : Int32} (b : Bd 0 1 v) : v.toInt.toNat < 2 := by have := b.1; have := b.2; omega
end
