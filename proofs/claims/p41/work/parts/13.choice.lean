theorem k953 : Cond.methodLink RX0 53 yX2_weigh ∈ gt := gt_4_6 (i := 3) rfl rfl
theorem k364 : Cond.fieldLinkNest RX0 57 "PondStair$Odds" "hill" "LPondStair$Hill;" "PondStair" ∈ nt := nt_2_1 (i := 14) rfl rfl
theorem k954 : Cond.methodLink RX0 60 yX1_all ∈ gt := gt_4_6 (i := 4) rfl rfl
theorem k955 : Cond.methodLink RX0 64 yX2_meanOf ∈ gt := gt_4_6 (i := 5) rfl rfl
theorem k947 : Cond.methodLink RX0 68 yX1_weak ∈ gt := gt_4_5 (i := 21) rfl rfl
theorem k948 : Cond.methodLink RX0 71 yX2_look ∈ gt := gt_4_5 (i := 22) rfl rfl
theorem k949 : Cond.methodLink RX0 75 yX0_meanMended ∈ gt := gt_4_5 (i := 23) rfl rfl
theorem k951 : Cond.instanceMethod yX0_meanMended ∈ gt := gt_4_6 (i := 1) rfl rfl
theorem k27 : Cond.selects RX0 yX0_meanMended yX0_meanMended ∈ gt := gs_2 (i := 11) rfl rfl
theorem k952 : Cond.code yX0_meanMended cX0_meanMended 2 (some .long) ∈ gt := gt_4_6 (i := 2) rfl rfl
theorem np_X0_meanMended : yX0_meanMended.cls ≠ "java/lang/invoke/MethodHandle" ∧ yX0_meanMended.cls ≠ "java/lang/invoke/VarHandle" ∧ (parseMethodDescriptor yX0_meanMended.desc).map (fun d => d.parameters.length) = some 1 := ⟨cq_RX0.1, cq_RX0.2, pd_7⟩
theorem k956 : Cond.methodLink RX0 78 yX1_daysToMend ∈ gt := gt_4_6 (i := 6) rfl rfl
theorem k957 : Cond.instanceMethod yX1_daysToMend ∈ gt := gt_4_6 (i := 7) rfl rfl
theorem k958 : Cond.selects RX1 yX1_daysToMend yX1_daysToMend ∈ gt := gt_4_6 (i := 8) rfl rfl
theorem k959 : Cond.code yX1_daysToMend cX1_daysToMend 4 (some .int) ∈ gt := gt_4_6 (i := 9) rfl rfl
theorem np_X1_daysToMend : yX1_daysToMend.cls ≠ "java/lang/invoke/MethodHandle" ∧ yX1_daysToMend.cls ≠ "java/lang/invoke/VarHandle" ∧ (parseMethodDescriptor yX1_daysToMend.desc).map (fun d => d.parameters.length) = some 1 := ⟨cq_RX1.1, cq_RX1.2, pd_6⟩
theorem k1240 : Cond.constantLong RX0 82 100 ∈ gt := gt_5_8 (i := 2) rfl rfl
theorem k978 : Cond.methodLink RX0 106 yJ9_max_f86c9 ∈ gt := gt_4_7 (i := 4) rfl rfl
theorem k979 : Cond.static yJ9_max_f86c9 ∈ gt := gt_4_7 (i := 5) rfl rfl
theorem k980 : Cond.code yJ9_max_f86c9 cJ9_max_f86c9 4 (some .long) ∈ gt := gt_4_7 (i := 6) rfl rfl
theorem np_J9_max_f86c9 : yJ9_max_f86c9.cls ≠ "java/lang/invoke/MethodHandle" ∧ yJ9_max_f86c9.cls ≠ "java/lang/invoke/VarHandle" ∧ (parseMethodDescriptor yJ9_max_f86c9.desc).map (fun d => d.parameters.length) = some 2 := ⟨cq_RJ9.1, cq_RJ9.2, pd_37⟩
theorem k134 : Cond.fieldLinkNest RX0 91 "PondStair$Hill" "ponds" "I" "PondStair" ∈ nt := nt_1_2 (i := 0) rfl rfl
theorem k972 : Cond.methodLinkNest RX0 88 yX10_bit "PondStair" ∈ nt := nt_4_6 (i := 22) rfl rfl
theorem k973 : Cond.methodLinkNest RX0 94 yX10_isIn "PondStair" ∈ nt := nt_4_6 (i := 23) rfl rfl
theorem k974 : Cond.methodLink RX0 98 yX1_of ∈ gt := gt_4_7 (i := 0) rfl rfl
theorem k975 : Cond.methodLink RX0 102 yX0_isBetterBuy ∈ gt := gt_4_7 (i := 1) rfl rfl
theorem k976 : Cond.static yX0_isBetterBuy ∈ gt := gt_4_7 (i := 2) rfl rfl
theorem k977 : Cond.code yX0_isBetterBuy cX0_isBetterBuy 8 (some .boolean) ∈ gt := gt_4_7 (i := 3) rfl rfl
theorem np_X0_isBetterBuy : yX0_isBetterBuy.cls ≠ "java/lang/invoke/MethodHandle" ∧ yX0_isBetterBuy.cls ≠ "java/lang/invoke/VarHandle" ∧ (parseMethodDescriptor yX0_isBetterBuy.desc).map (fun d => d.parameters.length) = some 4 := ⟨cq_RX0.1, cq_RX0.2, pd_38⟩
theorem k968 : Cond.methodLink RX0 84 yX0_nextStep ∈ gt := gt_4_6 (i := 18) rfl rfl
theorem k970 : Cond.instanceMethod yX0_nextStep ∈ gt := gt_4_6 (i := 20) rfl rfl
theorem k28 : Cond.selects RX0 yX0_nextStep yX0_nextStep ∈ gt := gs_2 (i := 12) rfl rfl
theorem k971 : Cond.code yX0_nextStep cX0_nextStep 16 (some .int) ∈ gt := gt_4_6 (i := 21) rfl rfl
theorem np_X0_nextStep : yX0_nextStep.cls ≠ "java/lang/invoke/MethodHandle" ∧ yX0_nextStep.cls ≠ "java/lang/invoke/VarHandle" ∧ (parseMethodDescriptor yX0_nextStep.desc).map (fun d => d.parameters.length) = some 4 := ⟨cq_RX0.1, cq_RX0.2, pd_49⟩
theorem k994 : Cond.methodLink RX0 112 yX2_wholeMean ∈ gt := gt_4_7 (i := 20) rfl rfl
theorem k995 : Cond.instanceMethod yX2_wholeMean ∈ gt := gt_4_7 (i := 21) rfl rfl
theorem k996 : Cond.selects RX2 yX2_wholeMean yX2_wholeMean ∈ gt := gt_4_7 (i := 22) rfl rfl
theorem k997 : Cond.code yX2_wholeMean cX2_wholeMean 3 (some .long) ∈ gt := gt_4_7 (i := 23) rfl rfl
theorem np_X2_wholeMean : yX2_wholeMean.cls ≠ "java/lang/invoke/MethodHandle" ∧ yX2_wholeMean.cls ≠ "java/lang/invoke/VarHandle" ∧ (parseMethodDescriptor yX2_wholeMean.desc).map (fun d => d.parameters.length) = some 2 := ⟨cq_RX2.1, cq_RX2.2, pd_43⟩
theorem k1013 : Cond.methodLink RX0 116 yX1_copy ∈ gt := gt_4_8 (i := 15) rfl rfl
theorem k1014 : Cond.methodLink RX0 120 yX1_put ∈ gt := gt_4_8 (i := 16) rfl rfl
theorem k1015 : Cond.methodLink RX0 124 yX2_partsOf ∈ gt := gt_4_8 (i := 17) rfl rfl
theorem k880 : Cond.instanceMethod yX2_partsOf ∈ gt := gt_4_3 (i := 2) rfl rfl
theorem k881 : Cond.selects RX2 yX2_partsOf yX2_partsOf ∈ gt := gt_4_3 (i := 3) rfl rfl
theorem k882 : Cond.code yX2_partsOf cX2_partsOf 6 (some .long) ∈ gt := gt_4_3 (i := 4) rfl rfl
theorem np_X2_partsOf : yX2_partsOf.cls ≠ "java/lang/invoke/MethodHandle" ∧ yX2_partsOf.cls ≠ "java/lang/invoke/VarHandle" ∧ (parseMethodDescriptor yX2_partsOf.desc).map (fun d => d.parameters.length) = some 1 := ⟨cq_RX2.1, cq_RX2.2, pd_7⟩
theorem k1098 : Cond.methodLink RX0 127 yX1_seenAndGoes ∈ gt := gt_5_2 (i := 4) rfl rfl
theorem k1099 : Cond.methodLink RX0 130 yX1_seen ∈ gt := gt_5_2 (i := 5) rfl rfl
theorem k1079 : Cond.instanceMethod yX1_seen ∈ gt := gt_5_1 (i := 9) rfl rfl
theorem k1080 : Cond.selects RX1 yX1_seen yX1_seen ∈ gt := gt_5_1 (i := 10) rfl rfl
theorem k1081 : Cond.code yX1_seen cX1_seen 2 (some .int) ∈ gt := gt_5_1 (i := 11) rfl rfl
theorem np_X1_seen : yX1_seen.cls ≠ "java/lang/invoke/MethodHandle" ∧ yX1_seen.cls ≠ "java/lang/invoke/VarHandle" ∧ (parseMethodDescriptor yX1_seen.desc).map (fun d => d.parameters.length) = some 1 := ⟨cq_RX1.1, cq_RX1.2, pd_6⟩
theorem k1215 : Cond.methodLink RX0 133 yX1_isOut ∈ gt := gt_5_7 (i := 1) rfl rfl
theorem k1049 : Cond.methodLink RX0 140 yX0_mayOfTried ∈ gt := gt_5_0 (i := 3) rfl rfl
theorem k1051 : Cond.instanceMethod yX0_mayOfTried ∈ gt := gt_5_0 (i := 5) rfl rfl
theorem k31 : Cond.selects RX0 yX0_mayOfTried yX0_mayOfTried ∈ gt := gs_2 (i := 15) rfl rfl
theorem k1052 : Cond.code yX0_mayOfTried cX0_mayOfTried 5 (some .long) ∈ gt := gt_5_0 (i := 6) rfl rfl
theorem np_X0_mayOfTried : yX0_mayOfTried.cls ≠ "java/lang/invoke/MethodHandle" ∧ yX0_mayOfTried.cls ≠ "java/lang/invoke/VarHandle" ∧ (parseMethodDescriptor yX0_mayOfTried.desc).map (fun d => d.parameters.length) = some 0 := ⟨cq_RX0.1, cq_RX0.2, pd_2⟩
theorem k1057 : Cond.methodLink RX0 137 yX0_takeOrder ∈ gt := gt_5_0 (i := 11) rfl rfl
theorem k1059 : Cond.instanceMethod yX0_takeOrder ∈ gt := gt_5_0 (i := 13) rfl rfl
theorem k32 : Cond.selects RX0 yX0_takeOrder yX0_takeOrder ∈ gt := gs_3 (i := 0) rfl rfl
theorem k1060 : Cond.code yX0_takeOrder cX0_takeOrder 4 (some .boolean) ∈ gt := gt_5_0 (i := 14) rfl rfl
theorem np_X0_takeOrder : yX0_takeOrder.cls ≠ "java/lang/invoke/MethodHandle" ∧ yX0_takeOrder.cls ≠ "java/lang/invoke/VarHandle" ∧ (parseMethodDescriptor yX0_takeOrder.desc).map (fun d => d.parameters.length) = some 1 := ⟨cq_RX0.1, cq_RX0.2, pd_10⟩
theorem k1061 : Cond.methodLink RX0 144 arraycopyName ∈ gt := gt_5_0 (i := 15) rfl rfl
theorem k142 : Cond.fieldLinkNest RX0 150 "PondStair$Hill" "rains" "I" "PondStair" ∈ nt := nt_1_2 (i := 8) rfl rfl
theorem k1044 : Cond.methodLink RX0 153 yX1_addRain ∈ gt := gt_4_9 (i := 22) rfl rfl
theorem k654 : Cond.instanceMethod yX1_addRain ∈ gt := gt_3_3 (i := 16) rfl rfl
theorem k655 : Cond.selects RX1 yX1_addRain yX1_addRain ∈ gt := gt_3_3 (i := 17) rfl rfl
theorem k656 : Cond.code yX1_addRain cX1_addRain 3 (some .boolean) ∈ gt := gt_3_3 (i := 18) rfl rfl
theorem np_X1_addRain : yX1_addRain.cls ≠ "java/lang/invoke/MethodHandle" ∧ yX1_addRain.cls ≠ "java/lang/invoke/VarHandle" ∧ (parseMethodDescriptor yX1_addRain.desc).map (fun d => d.parameters.length) = some 2 := ⟨cq_RX1.1, cq_RX1.2, pd_14⟩
theorem dX0_meanMended_0 : decode cX0_meanMended 0 = .ok (.aload_n 0, 1) := dqn_42 (k := 26) qh_cX0_meanMended rfl rfl
theorem dX0_meanMended_1 : decode cX0_meanMended 1 = .ok (.getfield 12, 3) := dqn_180 (k := 23) qh_cX0_meanMended rfl rfl rfl
theorem dX0_meanMended_4 : decode cX0_meanMended 4 = .ok (.iload_n 1, 1) := dqn_27 (k := 22) qh_cX0_meanMended rfl rfl
theorem dX0_meanMended_5 : decode cX0_meanMended 5 = .ok (.iconst 0, 1) := dqn_3 (k := 21) qh_cX0_meanMended rfl rfl
theorem dX0_meanMended_6 : decode cX0_meanMended 6 = .ok (.invokevirtual 53, 3) := dqn_182 (k := 18) qh_cX0_meanMended rfl rfl rfl
theorem dX0_meanMended_9 : decode cX0_meanMended 9 = .ok (.aload_n 0, 1) := dqn_42 (k := 17) qh_cX0_meanMended rfl rfl
theorem dX0_meanMended_10 : decode cX0_meanMended 10 = .ok (.getfield 12, 3) := dqn_180 (k := 14) qh_cX0_meanMended rfl rfl rfl
theorem dX0_meanMended_13 : decode cX0_meanMended 13 = .ok (.aload_n 0, 1) := dqn_42 (k := 13) qh_cX0_meanMended rfl rfl
theorem dX0_meanMended_14 : decode cX0_meanMended 14 = .ok (.getfield 12, 3) := dqn_180 (k := 10) qh_cX0_meanMended rfl rfl rfl
theorem dX0_meanMended_17 : decode cX0_meanMended 17 = .ok (.getfield 57, 3) := dqn_180 (k := 7) qh_cX0_meanMended rfl rfl rfl
theorem dX0_meanMended_20 : decode cX0_meanMended 20 = .ok (.invokevirtual 60, 3) := dqn_182 (k := 4) qh_cX0_meanMended rfl rfl rfl
theorem dX0_meanMended_23 : decode cX0_meanMended 23 = .ok (.invokevirtual 64, 3) := dqn_182 (k := 1) qh_cX0_meanMended rfl rfl rfl
theorem dX0_meanMended_26 : decode cX0_meanMended 26 = .ok (.lreturn, 1) := dqn_173 (k := 0) qh_cX0_meanMended rfl rfl
theorem dX0_bestSet_0 : decode cX0_bestSet 0 = .ok (.aload_n 0, 1) := dqn_42 (k := 114) qh_cX0_bestSet rfl rfl
theorem dX0_bestSet_1 : decode cX0_bestSet 1 = .ok (.getfield 12, 3) := dqn_180 (k := 111) qh_cX0_bestSet rfl rfl rfl
theorem dX0_bestSet_4 : decode cX0_bestSet 4 = .ok (.aload_n 1, 1) := dqn_43 (k := 110) qh_cX0_bestSet rfl rfl
theorem dX0_bestSet_5 : decode cX0_bestSet 5 = .ok (.iconst (-1), 1) := dqn_2 (k := 109) qh_cX0_bestSet rfl rfl
theorem dX0_bestSet_6 : decode cX0_bestSet 6 = .ok (.aload_n 1, 1) := dqn_43 (k := 108) qh_cX0_bestSet rfl rfl
theorem dX0_bestSet_7 : decode cX0_bestSet 7 = .ok (.invokevirtual 68, 3) := dqn_182 (k := 105) qh_cX0_bestSet rfl rfl rfl
theorem dX0_bestSet_10 : decode cX0_bestSet 10 = .ok (.invokevirtual 71, 3) := dqn_182 (k := 102) qh_cX0_bestSet rfl rfl rfl
theorem dX0_bestSet_13 : decode cX0_bestSet 13 = .ok (.iconst 0, 1) := dqn_3 (k := 101) qh_cX0_bestSet rfl rfl
theorem dX0_bestSet_14 : decode cX0_bestSet 14 = .ok (.istore 4, 2) := dqn_54 (k := 99) qh_cX0_bestSet rfl rfl rfl
theorem dX0_bestSet_16 : decode cX0_bestSet 16 = .ok (.aload_n 0, 1) := dqn_42 (k := 98) qh_cX0_bestSet rfl rfl
theorem dX0_bestSet_17 : decode cX0_bestSet 17 = .ok (.aload_n 0, 1) := dqn_42 (k := 97) qh_cX0_bestSet rfl rfl
theorem dX0_bestSet_18 : decode cX0_bestSet 18 = .ok (.iconst 0, 1) := dqn_3 (k := 96) qh_cX0_bestSet rfl rfl
theorem dX0_bestSet_19 : decode cX0_bestSet 19 = .ok (.invokevirtual 75, 3) := dqn_182 (k := 93) qh_cX0_bestSet rfl rfl rfl
theorem dX0_bestSet_22 : decode cX0_bestSet 22 = .ok (.putfield 32, 3) := dqn_181 (k := 90) qh_cX0_bestSet rfl rfl rfl
theorem dX0_bestSet_25 : decode cX0_bestSet 25 = .ok (.iconst 1, 1) := dqn_4 (k := 89) qh_cX0_bestSet rfl rfl
theorem dX0_bestSet_26 : decode cX0_bestSet 26 = .ok (.istore 5, 2) := dqn_54 (k := 87) qh_cX0_bestSet rfl rfl rfl
theorem dX0_bestSet_28 : decode cX0_bestSet 28 = .ok (.iload 5, 2) := dqn_21 (k := 85) qh_cX0_bestSet rfl rfl rfl
theorem dX0_bestSet_30 : decode cX0_bestSet 30 = .ok (.iload_n 2, 1) := dqn_28 (k := 84) qh_cX0_bestSet rfl rfl
theorem dX0_bestSet_31 : decode cX0_bestSet 31 = .ok (.if_icmp .gt 81, 3) := dqn_163 (k := 81) (u := 81) qh_cX0_bestSet rfl rfl rfl (sg_p rfl rfl)
theorem dX0_bestSet_34 : decode cX0_bestSet 34 = .ok (.aload_n 1, 1) := dqn_43 (k := 80) qh_cX0_bestSet rfl rfl
theorem dX0_bestSet_35 : decode cX0_bestSet 35 = .ok (.iload 5, 2) := dqn_21 (k := 78) qh_cX0_bestSet rfl rfl rfl
theorem dX0_bestSet_37 : decode cX0_bestSet 37 = .ok (.invokevirtual 78, 3) := dqn_182 (k := 75) qh_cX0_bestSet rfl rfl rfl
theorem dX0_bestSet_40 : decode cX0_bestSet 40 = .ok (.istore 6, 2) := dqn_54 (k := 73) qh_cX0_bestSet rfl rfl rfl
theorem dX0_bestSet_42 : decode cX0_bestSet 42 = .ok (.iload 5, 2) := dqn_21 (k := 71) qh_cX0_bestSet rfl rfl rfl
theorem dX0_bestSet_44 : decode cX0_bestSet 44 = .ok (.iload_n 2, 1) := dqn_28 (k := 70) qh_cX0_bestSet rfl rfl
theorem dX0_bestSet_45 : decode cX0_bestSet 45 = .ok (.iconst (-1), 1) := dqn_2 (k := 69) qh_cX0_bestSet rfl rfl
theorem dX0_bestSet_46 : decode cX0_bestSet 46 = .ok (.ixor, 1) := dqn_130 (k := 68) qh_cX0_bestSet rfl rfl
theorem dX0_bestSet_47 : decode cX0_bestSet 47 = .ok (.iand, 1) := dqn_126 (k := 67) qh_cX0_bestSet rfl rfl
theorem dX0_bestSet_48 : decode cX0_bestSet 48 = .ok (.ifCond .ne 58, 3) := dqn_154 (k := 64) (u := 58) qh_cX0_bestSet rfl rfl rfl (sg_p rfl rfl)
theorem dX0_bestSet_51 : decode cX0_bestSet 51 = .ok (.iload 6, 2) := dqn_21 (k := 62) qh_cX0_bestSet rfl rfl rfl
theorem dX0_bestSet_53 : decode cX0_bestSet 53 = .ok (.iload_n 3, 1) := dqn_29 (k := 61) qh_cX0_bestSet rfl rfl
theorem dX0_bestSet_54 : decode cX0_bestSet 54 = .ok (.if_icmp .gt 52, 3) := dqn_163 (k := 58) (u := 52) qh_cX0_bestSet rfl rfl rfl (sg_p rfl rfl)
theorem dX0_bestSet_57 : decode cX0_bestSet 57 = .ok (.aload_n 0, 1) := dqn_42 (k := 57) qh_cX0_bestSet rfl rfl
theorem dX0_bestSet_58 : decode cX0_bestSet 58 = .ok (.iload 5, 2) := dqn_21 (k := 55) qh_cX0_bestSet rfl rfl rfl
theorem dX0_bestSet_60 : decode cX0_bestSet 60 = .ok (.invokevirtual 75, 3) := dqn_182 (k := 52) qh_cX0_bestSet rfl rfl rfl
theorem dX0_bestSet_63 : decode cX0_bestSet 63 = .ok (.lstore 7, 2) := dqn_55 (k := 50) qh_cX0_bestSet rfl rfl rfl
theorem dX0_bestSet_65 : decode cX0_bestSet 65 = .ok (.lload 7, 2) := dqn_22 (k := 48) qh_cX0_bestSet rfl rfl rfl
theorem dX0_bestSet_67 : decode cX0_bestSet 67 = .ok (.aload_n 0, 1) := dqn_42 (k := 47) qh_cX0_bestSet rfl rfl
theorem dX0_bestSet_68 : decode cX0_bestSet 68 = .ok (.getfield 32, 3) := dqn_180 (k := 44) qh_cX0_bestSet rfl rfl rfl
theorem dX0_bestSet_71 : decode cX0_bestSet 71 = .ok (.lcmp, 1) := dqn_148 (k := 43) qh_cX0_bestSet rfl rfl
theorem dX0_bestSet_72 : decode cX0_bestSet 72 = .ok (.ifCond .lt 24, 3) := dqn_155 (k := 40) (u := 24) qh_cX0_bestSet rfl rfl rfl (sg_p rfl rfl)
theorem dX0_bestSet_75 : decode cX0_bestSet 75 = .ok (.lload 7, 2) := dqn_22 (k := 38) qh_cX0_bestSet rfl rfl rfl
theorem dX0_bestSet_77 : decode cX0_bestSet 77 = .ok (.aload_n 0, 1) := dqn_42 (k := 37) qh_cX0_bestSet rfl rfl
theorem dX0_bestSet_78 : decode cX0_bestSet 78 = .ok (.getfield 32, 3) := dqn_180 (k := 34) qh_cX0_bestSet rfl rfl rfl
theorem dX0_bestSet_81 : decode cX0_bestSet 81 = .ok (.lcmp, 1) := dqn_148 (k := 33) qh_cX0_bestSet rfl rfl
theorem dX0_bestSet_82 : decode cX0_bestSet 82 = .ok (.ifCond .ne 24, 3) := dqn_154 (k := 30) (u := 24) qh_cX0_bestSet rfl rfl rfl (sg_p rfl rfl)
theorem dX0_bestSet_85 : decode cX0_bestSet 85 = .ok (.iload 6, 2) := dqn_21 (k := 28) qh_cX0_bestSet rfl rfl rfl
theorem dX0_bestSet_87 : decode cX0_bestSet 87 = .ok (.aload_n 1, 1) := dqn_43 (k := 27) qh_cX0_bestSet rfl rfl
theorem dX0_bestSet_88 : decode cX0_bestSet 88 = .ok (.iload 4, 2) := dqn_21 (k := 25) qh_cX0_bestSet rfl rfl rfl
theorem dX0_bestSet_90 : decode cX0_bestSet 90 = .ok (.invokevirtual 78, 3) := dqn_182 (k := 22) qh_cX0_bestSet rfl rfl rfl
theorem dX0_bestSet_93 : decode cX0_bestSet 93 = .ok (.if_icmp .ge 13, 3) := dqn_162 (k := 19) (u := 13) qh_cX0_bestSet rfl rfl rfl (sg_p rfl rfl)
theorem dX0_bestSet_96 : decode cX0_bestSet 96 = .ok (.aload_n 0, 1) := dqn_42 (k := 18) qh_cX0_bestSet rfl rfl
theorem dX0_bestSet_97 : decode cX0_bestSet 97 = .ok (.lload 7, 2) := dqn_22 (k := 16) qh_cX0_bestSet rfl rfl rfl
theorem dX0_bestSet_99 : decode cX0_bestSet 99 = .ok (.putfield 32, 3) := dqn_181 (k := 13) qh_cX0_bestSet rfl rfl rfl
theorem dX0_bestSet_102 : decode cX0_bestSet 102 = .ok (.iload 5, 2) := dqn_21 (k := 11) qh_cX0_bestSet rfl rfl rfl
theorem dX0_bestSet_104 : decode cX0_bestSet 104 = .ok (.istore 4, 2) := dqn_54 (k := 9) qh_cX0_bestSet rfl rfl rfl
theorem dX0_bestSet_106 : decode cX0_bestSet 106 = .ok (.iinc 5 1, 3) := dqn_132 (k := 6) (u := 1) qh_cX0_bestSet rfl rfl rfl rfl (by decide)
theorem dX0_bestSet_109 : decode cX0_bestSet 109 = .ok (.goto (-81), 3) := dqn_167 (k := 3) (u := 65455) qh_cX0_bestSet rfl rfl rfl (sg_n (k := 81) rfl rfl rfl)
theorem dX0_bestSet_112 : decode cX0_bestSet 112 = .ok (.iload 4, 2) := dqn_21 (k := 1) qh_cX0_bestSet rfl rfl rfl
theorem dX0_bestSet_114 : decode cX0_bestSet 114 = .ok (.ireturn, 1) := dqn_172 (k := 0) qh_cX0_bestSet rfl rfl
theorem dX0_fewestDays_0 : decode cX0_fewestDays 0 = .ok (.aload_n 0, 1) := dqn_42 (k := 93) qh_cX0_fewestDays rfl rfl
theorem dX0_fewestDays_1 : decode cX0_fewestDays 1 = .ok (.getfield 12, 3) := dqn_180 (k := 90) qh_cX0_fewestDays rfl rfl rfl
theorem dX0_fewestDays_4 : decode cX0_fewestDays 4 = .ok (.aload_n 1, 1) := dqn_43 (k := 89) qh_cX0_fewestDays rfl rfl
theorem dX0_fewestDays_5 : decode cX0_fewestDays 5 = .ok (.iconst (-1), 1) := dqn_2 (k := 88) qh_cX0_fewestDays rfl rfl
theorem dX0_fewestDays_6 : decode cX0_fewestDays 6 = .ok (.aload_n 1, 1) := dqn_43 (k := 87) qh_cX0_fewestDays rfl rfl
theorem dX0_fewestDays_7 : decode cX0_fewestDays 7 = .ok (.invokevirtual 68, 3) := dqn_182 (k := 84) qh_cX0_fewestDays rfl rfl rfl
theorem dX0_fewestDays_10 : decode cX0_fewestDays 10 = .ok (.invokevirtual 71, 3) := dqn_182 (k := 81) qh_cX0_fewestDays rfl rfl rfl
theorem dX0_fewestDays_13 : decode cX0_fewestDays 13 = .ok (.aload_n 0, 1) := dqn_42 (k := 80) qh_cX0_fewestDays rfl rfl
theorem dX0_fewestDays_14 : decode cX0_fewestDays 14 = .ok (.iconst 0, 1) := dqn_3 (k := 79) qh_cX0_fewestDays rfl rfl
theorem dX0_fewestDays_15 : decode cX0_fewestDays 15 = .ok (.invokevirtual 75, 3) := dqn_182 (k := 76) qh_cX0_fewestDays rfl rfl rfl
theorem dX0_fewestDays_18 : decode cX0_fewestDays 18 = .ok (.iload_n 3, 1) := dqn_29 (k := 75) qh_cX0_fewestDays rfl rfl
theorem dX0_fewestDays_19 : decode cX0_fewestDays 19 = .ok (.i2l, 1) := dqn_133 (k := 74) qh_cX0_fewestDays rfl rfl
theorem dX0_fewestDays_20 : decode cX0_fewestDays 20 = .ok (.lmul, 1) := dqn_105 (k := 73) qh_cX0_fewestDays rfl rfl
theorem dX0_fewestDays_21 : decode cX0_fewestDays 21 = .ok (.lstore 4, 2) := dqn_55 (k := 71) qh_cX0_fewestDays rfl rfl rfl
theorem dX0_fewestDays_23 : decode cX0_fewestDays 23 = .ok (.iconst (-1), 1) := dqn_2 (k := 70) qh_cX0_fewestDays rfl rfl
theorem dX0_fewestDays_24 : decode cX0_fewestDays 24 = .ok (.istore 6, 2) := dqn_54 (k := 68) qh_cX0_fewestDays rfl rfl rfl
theorem dX0_fewestDays_26 : decode cX0_fewestDays 26 = .ok (.iconst 0, 1) := dqn_3 (k := 67) qh_cX0_fewestDays rfl rfl
theorem dX0_fewestDays_27 : decode cX0_fewestDays 27 = .ok (.istore 7, 2) := dqn_54 (k := 65) qh_cX0_fewestDays rfl rfl rfl
theorem dX0_fewestDays_29 : decode cX0_fewestDays 29 = .ok (.iload 7, 2) := dqn_21 (k := 63) qh_cX0_fewestDays rfl rfl rfl
theorem dX0_fewestDays_31 : decode cX0_fewestDays 31 = .ok (.iload_n 2, 1) := dqn_28 (k := 62) qh_cX0_fewestDays rfl rfl
theorem dX0_fewestDays_32 : decode cX0_fewestDays 32 = .ok (.if_icmp .gt 59, 3) := dqn_163 (k := 59) (u := 59) qh_cX0_fewestDays rfl rfl rfl (sg_p rfl rfl)
theorem dX0_fewestDays_35 : decode cX0_fewestDays 35 = .ok (.aload_n 1, 1) := dqn_43 (k := 58) qh_cX0_fewestDays rfl rfl
theorem dX0_fewestDays_36 : decode cX0_fewestDays 36 = .ok (.iload 7, 2) := dqn_21 (k := 56) qh_cX0_fewestDays rfl rfl rfl
theorem dX0_fewestDays_38 : decode cX0_fewestDays 38 = .ok (.invokevirtual 78, 3) := dqn_182 (k := 53) qh_cX0_fewestDays rfl rfl rfl
theorem dX0_fewestDays_41 : decode cX0_fewestDays 41 = .ok (.istore 8, 2) := dqn_54 (k := 51) qh_cX0_fewestDays rfl rfl rfl
theorem dX0_fewestDays_43 : decode cX0_fewestDays 43 = .ok (.iload 7, 2) := dqn_21 (k := 49) qh_cX0_fewestDays rfl rfl rfl
theorem dX0_fewestDays_45 : decode cX0_fewestDays 45 = .ok (.iload_n 2, 1) := dqn_28 (k := 48) qh_cX0_fewestDays rfl rfl
theorem dX0_fewestDays_46 : decode cX0_fewestDays 46 = .ok (.iconst (-1), 1) := dqn_2 (k := 47) qh_cX0_fewestDays rfl rfl
theorem dX0_fewestDays_47 : decode cX0_fewestDays 47 = .ok (.ixor, 1) := dqn_130 (k := 46) qh_cX0_fewestDays rfl rfl
theorem dX0_fewestDays_48 : decode cX0_fewestDays 48 = .ok (.iand, 1) := dqn_126 (k := 45) qh_cX0_fewestDays rfl rfl
theorem dX0_fewestDays_49 : decode cX0_fewestDays 49 = .ok (.ifCond .ne 36, 3) := dqn_154 (k := 42) (u := 36) qh_cX0_fewestDays rfl rfl rfl (sg_p rfl rfl)
theorem dX0_fewestDays_52 : decode cX0_fewestDays 52 = .ok (.iload 6, 2) := dqn_21 (k := 40) qh_cX0_fewestDays rfl rfl rfl
theorem dX0_fewestDays_54 : decode cX0_fewestDays 54 = .ok (.iconst (-1), 1) := dqn_2 (k := 39) qh_cX0_fewestDays rfl rfl
theorem dX0_fewestDays_55 : decode cX0_fewestDays 55 = .ok (.if_icmp .eq 10, 3) := dqn_159 (k := 36) (u := 10) qh_cX0_fewestDays rfl rfl rfl (sg_p rfl rfl)
theorem dX0_fewestDays_58 : decode cX0_fewestDays 58 = .ok (.iload 8, 2) := dqn_21 (k := 34) qh_cX0_fewestDays rfl rfl rfl
theorem dX0_fewestDays_60 : decode cX0_fewestDays 60 = .ok (.iload 6, 2) := dqn_21 (k := 32) qh_cX0_fewestDays rfl rfl rfl
theorem dX0_fewestDays_62 : decode cX0_fewestDays 62 = .ok (.if_icmp .ge 23, 3) := dqn_162 (k := 29) (u := 23) qh_cX0_fewestDays rfl rfl rfl (sg_p rfl rfl)
theorem dX0_fewestDays_65 : decode cX0_fewestDays 65 = .ok (.aload_n 0, 1) := dqn_42 (k := 28) qh_cX0_fewestDays rfl rfl
theorem dX0_fewestDays_66 : decode cX0_fewestDays 66 = .ok (.iload 7, 2) := dqn_21 (k := 26) qh_cX0_fewestDays rfl rfl rfl
theorem dX0_fewestDays_68 : decode cX0_fewestDays 68 = .ok (.invokevirtual 75, 3) := dqn_182 (k := 23) qh_cX0_fewestDays rfl rfl rfl
theorem dX0_fewestDays_71 : decode cX0_fewestDays 71 = .ok (.ldc2_w 82, 3) := dqn_20 (k := 20) qh_cX0_fewestDays rfl rfl rfl
theorem dX0_fewestDays_74 : decode cX0_fewestDays 74 = .ok (.lmul, 1) := dqn_105 (k := 19) qh_cX0_fewestDays rfl rfl
theorem dX0_fewestDays_75 : decode cX0_fewestDays 75 = .ok (.lload 4, 2) := dqn_22 (k := 17) qh_cX0_fewestDays rfl rfl rfl
theorem dX0_fewestDays_77 : decode cX0_fewestDays 77 = .ok (.lcmp, 1) := dqn_148 (k := 16) qh_cX0_fewestDays rfl rfl
theorem dX0_fewestDays_78 : decode cX0_fewestDays 78 = .ok (.ifCond .gt 7, 3) := dqn_157 (k := 13) (u := 7) qh_cX0_fewestDays rfl rfl rfl (sg_p rfl rfl)
theorem dX0_fewestDays_81 : decode cX0_fewestDays 81 = .ok (.iload 8, 2) := dqn_21 (k := 11) qh_cX0_fewestDays rfl rfl rfl
theorem dX0_fewestDays_83 : decode cX0_fewestDays 83 = .ok (.istore 6, 2) := dqn_54 (k := 9) qh_cX0_fewestDays rfl rfl rfl
theorem dX0_fewestDays_85 : decode cX0_fewestDays 85 = .ok (.iinc 7 1, 3) := dqn_132 (k := 6) (u := 1) qh_cX0_fewestDays rfl rfl rfl rfl (by decide)
theorem dX0_fewestDays_88 : decode cX0_fewestDays 88 = .ok (.goto (-59), 3) := dqn_167 (k := 3) (u := 65477) qh_cX0_fewestDays rfl rfl rfl (sg_n (k := 59) rfl rfl rfl)
theorem dX0_fewestDays_91 : decode cX0_fewestDays 91 = .ok (.iload 6, 2) := dqn_21 (k := 1) qh_cX0_fewestDays rfl rfl rfl
theorem dX0_fewestDays_93 : decode cX0_fewestDays 93 = .ok (.ireturn, 1) := dqn_172 (k := 0) qh_cX0_fewestDays rfl rfl
theorem dX0_isBetterBuy_0 : decode cX0_isBetterBuy 0 = .ok (.lload_n 0, 1) := dqn_30 (k := 25) qh_cX0_isBetterBuy rfl rfl
theorem dX0_isBetterBuy_1 : decode cX0_isBetterBuy 1 = .ok (.lload 6, 2) := dqn_22 (k := 23) qh_cX0_isBetterBuy rfl rfl rfl
theorem dX0_isBetterBuy_3 : decode cX0_isBetterBuy 3 = .ok (.lconst 1, 1) := dqn_10 (k := 22) qh_cX0_isBetterBuy rfl rfl
theorem dX0_isBetterBuy_4 : decode cX0_isBetterBuy 4 = .ok (.invokestatic 106, 3) := dqn_184 (k := 19) qh_cX0_isBetterBuy rfl rfl rfl
theorem dX0_isBetterBuy_7 : decode cX0_isBetterBuy 7 = .ok (.lmul, 1) := dqn_105 (k := 18) qh_cX0_isBetterBuy rfl rfl
theorem dX0_isBetterBuy_8 : decode cX0_isBetterBuy 8 = .ok (.lload 4, 2) := dqn_22 (k := 16) qh_cX0_isBetterBuy rfl rfl rfl
theorem dX0_isBetterBuy_10 : decode cX0_isBetterBuy 10 = .ok (.lload_n 2, 1) := dqn_32 (k := 15) qh_cX0_isBetterBuy rfl rfl
theorem dX0_isBetterBuy_11 : decode cX0_isBetterBuy 11 = .ok (.lconst 1, 1) := dqn_10 (k := 14) qh_cX0_isBetterBuy rfl rfl
theorem dX0_isBetterBuy_12 : decode cX0_isBetterBuy 12 = .ok (.invokestatic 106, 3) := dqn_184 (k := 11) qh_cX0_isBetterBuy rfl rfl rfl
theorem dX0_isBetterBuy_15 : decode cX0_isBetterBuy 15 = .ok (.lmul, 1) := dqn_105 (k := 10) qh_cX0_isBetterBuy rfl rfl
theorem dX0_isBetterBuy_16 : decode cX0_isBetterBuy 16 = .ok (.lcmp, 1) := dqn_148 (k := 9) qh_cX0_isBetterBuy rfl rfl
theorem dX0_isBetterBuy_17 : decode cX0_isBetterBuy 17 = .ok (.ifCond .le 7, 3) := dqn_158 (k := 6) (u := 7) qh_cX0_isBetterBuy rfl rfl rfl (sg_p rfl rfl)
theorem dX0_isBetterBuy_20 : decode cX0_isBetterBuy 20 = .ok (.iconst 1, 1) := dqn_4 (k := 5) qh_cX0_isBetterBuy rfl rfl
theorem dX0_isBetterBuy_21 : decode cX0_isBetterBuy 21 = .ok (.goto 4, 3) := dqn_167 (k := 2) (u := 4) qh_cX0_isBetterBuy rfl rfl rfl (sg_p rfl rfl)
theorem dX0_isBetterBuy_24 : decode cX0_isBetterBuy 24 = .ok (.iconst 0, 1) := dqn_3 (k := 1) qh_cX0_isBetterBuy rfl rfl
theorem dX0_isBetterBuy_25 : decode cX0_isBetterBuy 25 = .ok (.ireturn, 1) := dqn_172 (k := 0) qh_cX0_isBetterBuy rfl rfl
theorem dX0_nextStep_0 : decode cX0_nextStep 0 = .ok (.aload_n 0, 1) := dqn_42 (k := 130) qh_cX0_nextStep rfl rfl
theorem dX0_nextStep_1 : decode cX0_nextStep 1 = .ok (.iload_n 3, 1) := dqn_29 (k := 129) qh_cX0_nextStep rfl rfl
theorem dX0_nextStep_2 : decode cX0_nextStep 2 = .ok (.invokevirtual 75, 3) := dqn_182 (k := 126) qh_cX0_nextStep rfl rfl rfl
theorem dX0_nextStep_5 : decode cX0_nextStep 5 = .ok (.lstore 5, 2) := dqn_55 (k := 124) qh_cX0_nextStep rfl rfl rfl
theorem dX0_nextStep_7 : decode cX0_nextStep 7 = .ok (.iconst (-1), 1) := dqn_2 (k := 123) qh_cX0_nextStep rfl rfl
theorem dX0_nextStep_8 : decode cX0_nextStep 8 = .ok (.istore 7, 2) := dqn_54 (k := 121) qh_cX0_nextStep rfl rfl rfl
theorem dX0_nextStep_10 : decode cX0_nextStep 10 = .ok (.lconst 0, 1) := dqn_9 (k := 120) qh_cX0_nextStep rfl rfl
theorem dX0_nextStep_11 : decode cX0_nextStep 11 = .ok (.lstore 8, 2) := dqn_55 (k := 118) qh_cX0_nextStep rfl rfl rfl
theorem dX0_nextStep_13 : decode cX0_nextStep 13 = .ok (.lconst 0, 1) := dqn_9 (k := 117) qh_cX0_nextStep rfl rfl
theorem dX0_nextStep_14 : decode cX0_nextStep 14 = .ok (.lstore 10, 2) := dqn_55 (k := 115) qh_cX0_nextStep rfl rfl rfl
theorem dX0_nextStep_16 : decode cX0_nextStep 16 = .ok (.iconst 0, 1) := dqn_3 (k := 114) qh_cX0_nextStep rfl rfl
theorem dX0_nextStep_17 : decode cX0_nextStep 17 = .ok (.istore 12, 2) := dqn_54 (k := 112) qh_cX0_nextStep rfl rfl rfl
theorem dX0_nextStep_19 : decode cX0_nextStep 19 = .ok (.iload 12, 2) := dqn_21 (k := 110) qh_cX0_nextStep rfl rfl rfl
theorem dX0_nextStep_21 : decode cX0_nextStep 21 = .ok (.aload_n 1, 1) := dqn_43 (k := 109) qh_cX0_nextStep rfl rfl
theorem dX0_nextStep_22 : decode cX0_nextStep 22 = .ok (.getfield 91, 3) := dqn_180 (k := 106) qh_cX0_nextStep rfl rfl rfl
theorem dX0_nextStep_25 : decode cX0_nextStep 25 = .ok (.if_icmp .ge 103, 3) := dqn_162 (k := 103) (u := 103) qh_cX0_nextStep rfl rfl rfl (sg_p rfl rfl)
theorem dX0_nextStep_28 : decode cX0_nextStep 28 = .ok (.aload_n 1, 1) := dqn_43 (k := 102) qh_cX0_nextStep rfl rfl
theorem dX0_nextStep_29 : decode cX0_nextStep 29 = .ok (.iload 12, 2) := dqn_21 (k := 100) qh_cX0_nextStep rfl rfl rfl
theorem dX0_nextStep_31 : decode cX0_nextStep 31 = .ok (.invokestatic 88, 3) := dqn_184 (k := 97) qh_cX0_nextStep rfl rfl rfl
theorem dX0_nextStep_34 : decode cX0_nextStep 34 = .ok (.invokevirtual 78, 3) := dqn_182 (k := 94) qh_cX0_nextStep rfl rfl rfl
theorem dX0_nextStep_37 : decode cX0_nextStep 37 = .ok (.istore 13, 2) := dqn_54 (k := 92) qh_cX0_nextStep rfl rfl rfl
theorem dX0_nextStep_39 : decode cX0_nextStep 39 = .ok (.iload_n 2, 1) := dqn_28 (k := 91) qh_cX0_nextStep rfl rfl
theorem dX0_nextStep_40 : decode cX0_nextStep 40 = .ok (.iload 12, 2) := dqn_21 (k := 89) qh_cX0_nextStep rfl rfl rfl
theorem dX0_nextStep_42 : decode cX0_nextStep 42 = .ok (.invokestatic 94, 3) := dqn_184 (k := 86) qh_cX0_nextStep rfl rfl rfl
theorem dX0_nextStep_45 : decode cX0_nextStep 45 = .ok (.ifCond .eq 77, 3) := dqn_153 (k := 83) (u := 77) qh_cX0_nextStep rfl rfl rfl (sg_p rfl rfl)
theorem dX0_nextStep_48 : decode cX0_nextStep 48 = .ok (.aload_n 1, 1) := dqn_43 (k := 82) qh_cX0_nextStep rfl rfl
theorem dX0_nextStep_49 : decode cX0_nextStep 49 = .ok (.iload 12, 2) := dqn_21 (k := 80) qh_cX0_nextStep rfl rfl rfl
theorem dX0_nextStep_51 : decode cX0_nextStep 51 = .ok (.iconst 4, 1) := dqn_7 (k := 79) qh_cX0_nextStep rfl rfl
theorem dX0_nextStep_52 : decode cX0_nextStep 52 = .ok (.invokevirtual 98, 3) := dqn_182 (k := 76) qh_cX0_nextStep rfl rfl rfl
theorem dX0_nextStep_55 : decode cX0_nextStep 55 = .ok (.ifCond .le 67, 3) := dqn_158 (k := 73) (u := 67) qh_cX0_nextStep rfl rfl rfl (sg_p rfl rfl)
theorem dX0_nextStep_58 : decode cX0_nextStep 58 = .ok (.iload 13, 2) := dqn_21 (k := 71) qh_cX0_nextStep rfl rfl rfl
theorem dX0_nextStep_60 : decode cX0_nextStep 60 = .ok (.iload 4, 2) := dqn_21 (k := 69) qh_cX0_nextStep rfl rfl rfl
theorem dX0_nextStep_62 : decode cX0_nextStep 62 = .ok (.if_icmp .gt 60, 3) := dqn_163 (k := 66) (u := 60) qh_cX0_nextStep rfl rfl rfl (sg_p rfl rfl)
theorem dX0_nextStep_65 : decode cX0_nextStep 65 = .ok (.lload 5, 2) := dqn_22 (k := 64) qh_cX0_nextStep rfl rfl rfl
theorem dX0_nextStep_67 : decode cX0_nextStep 67 = .ok (.aload_n 0, 1) := dqn_42 (k := 63) qh_cX0_nextStep rfl rfl
theorem dX0_nextStep_68 : decode cX0_nextStep 68 = .ok (.iload_n 3, 1) := dqn_29 (k := 62) qh_cX0_nextStep rfl rfl
theorem dX0_nextStep_69 : decode cX0_nextStep 69 = .ok (.iload 12, 2) := dqn_21 (k := 60) qh_cX0_nextStep rfl rfl rfl
theorem dX0_nextStep_71 : decode cX0_nextStep 71 = .ok (.invokestatic 88, 3) := dqn_184 (k := 57) qh_cX0_nextStep rfl rfl rfl
theorem dX0_nextStep_74 : decode cX0_nextStep 74 = .ok (.ior, 1) := dqn_128 (k := 56) qh_cX0_nextStep rfl rfl
theorem dX0_nextStep_75 : decode cX0_nextStep 75 = .ok (.invokevirtual 75, 3) := dqn_182 (k := 53) qh_cX0_nextStep rfl rfl rfl
theorem dX0_nextStep_78 : decode cX0_nextStep 78 = .ok (.lsub, 1) := dqn_101 (k := 52) qh_cX0_nextStep rfl rfl
theorem dX0_nextStep_79 : decode cX0_nextStep 79 = .ok (.lstore 14, 2) := dqn_55 (k := 50) qh_cX0_nextStep rfl rfl rfl
theorem dX0_nextStep_81 : decode cX0_nextStep 81 = .ok (.lload 14, 2) := dqn_22 (k := 48) qh_cX0_nextStep rfl rfl rfl
theorem dX0_nextStep_83 : decode cX0_nextStep 83 = .ok (.lconst 0, 1) := dqn_9 (k := 47) qh_cX0_nextStep rfl rfl
theorem dX0_nextStep_84 : decode cX0_nextStep 84 = .ok (.lcmp, 1) := dqn_148 (k := 46) qh_cX0_nextStep rfl rfl
theorem dX0_nextStep_85 : decode cX0_nextStep 85 = .ok (.ifCond .le 37, 3) := dqn_158 (k := 43) (u := 37) qh_cX0_nextStep rfl rfl rfl (sg_p rfl rfl)
theorem dX0_nextStep_88 : decode cX0_nextStep 88 = .ok (.iload 7, 2) := dqn_21 (k := 41) qh_cX0_nextStep rfl rfl rfl
theorem dX0_nextStep_90 : decode cX0_nextStep 90 = .ok (.iconst (-1), 1) := dqn_2 (k := 40) qh_cX0_nextStep rfl rfl
theorem dX0_nextStep_91 : decode cX0_nextStep 91 = .ok (.if_icmp .eq 18, 3) := dqn_159 (k := 37) (u := 18) qh_cX0_nextStep rfl rfl rfl (sg_p rfl rfl)
theorem dX0_nextStep_94 : decode cX0_nextStep 94 = .ok (.lload 14, 2) := dqn_22 (k := 35) qh_cX0_nextStep rfl rfl rfl
theorem dX0_nextStep_96 : decode cX0_nextStep 96 = .ok (.iload 13, 2) := dqn_21 (k := 33) qh_cX0_nextStep rfl rfl rfl
theorem dX0_nextStep_98 : decode cX0_nextStep 98 = .ok (.i2l, 1) := dqn_133 (k := 32) qh_cX0_nextStep rfl rfl
theorem dX0_nextStep_99 : decode cX0_nextStep 99 = .ok (.lload 8, 2) := dqn_22 (k := 30) qh_cX0_nextStep rfl rfl rfl
theorem dX0_nextStep_101 : decode cX0_nextStep 101 = .ok (.lload 10, 2) := dqn_22 (k := 28) qh_cX0_nextStep rfl rfl rfl
theorem dX0_nextStep_103 : decode cX0_nextStep 103 = .ok (.invokestatic 102, 3) := dqn_184 (k := 25) qh_cX0_nextStep rfl rfl rfl
theorem dX0_nextStep_106 : decode cX0_nextStep 106 = .ok (.ifCond .eq 16, 3) := dqn_153 (k := 22) (u := 16) qh_cX0_nextStep rfl rfl rfl (sg_p rfl rfl)
theorem dX0_nextStep_109 : decode cX0_nextStep 109 = .ok (.iload 12, 2) := dqn_21 (k := 20) qh_cX0_nextStep rfl rfl rfl
theorem dX0_nextStep_111 : decode cX0_nextStep 111 = .ok (.istore 7, 2) := dqn_54 (k := 18) qh_cX0_nextStep rfl rfl rfl
theorem dX0_nextStep_113 : decode cX0_nextStep 113 = .ok (.lload 14, 2) := dqn_22 (k := 16) qh_cX0_nextStep rfl rfl rfl
theorem dX0_nextStep_115 : decode cX0_nextStep 115 = .ok (.lstore 8, 2) := dqn_55 (k := 14) qh_cX0_nextStep rfl rfl rfl
theorem dX0_nextStep_117 : decode cX0_nextStep 117 = .ok (.iload 13, 2) := dqn_21 (k := 12) qh_cX0_nextStep rfl rfl rfl
theorem dX0_nextStep_119 : decode cX0_nextStep 119 = .ok (.i2l, 1) := dqn_133 (k := 11) qh_cX0_nextStep rfl rfl
theorem dX0_nextStep_120 : decode cX0_nextStep 120 = .ok (.lstore 10, 2) := dqn_55 (k := 9) qh_cX0_nextStep rfl rfl rfl
theorem dX0_nextStep_122 : decode cX0_nextStep 122 = .ok (.iinc 12 1, 3) := dqn_132 (k := 6) (u := 1) qh_cX0_nextStep rfl rfl rfl rfl (by decide)
theorem dX0_nextStep_125 : decode cX0_nextStep 125 = .ok (.goto (-106), 3) := dqn_167 (k := 3) (u := 65430) qh_cX0_nextStep rfl rfl rfl (sg_n (k := 106) rfl rfl rfl)
theorem dX0_nextStep_128 : decode cX0_nextStep 128 = .ok (.iload 7, 2) := dqn_21 (k := 1) qh_cX0_nextStep rfl rfl rfl
theorem dX0_nextStep_130 : decode cX0_nextStep 130 = .ok (.ireturn, 1) := dqn_172 (k := 0) qh_cX0_nextStep rfl rfl
theorem dX0_stepByStep_0 : decode cX0_stepByStep 0 = .ok (.aload_n 0, 1) := dqn_42 (k := 86) qh_cX0_stepByStep rfl rfl
theorem dX0_stepByStep_1 : decode cX0_stepByStep 1 = .ok (.getfield 12, 3) := dqn_180 (k := 83) qh_cX0_stepByStep rfl rfl rfl
theorem dX0_stepByStep_4 : decode cX0_stepByStep 4 = .ok (.aload_n 1, 1) := dqn_43 (k := 82) qh_cX0_stepByStep rfl rfl
theorem dX0_stepByStep_5 : decode cX0_stepByStep 5 = .ok (.iconst (-1), 1) := dqn_2 (k := 81) qh_cX0_stepByStep rfl rfl
theorem dX0_stepByStep_6 : decode cX0_stepByStep 6 = .ok (.aload_n 1, 1) := dqn_43 (k := 80) qh_cX0_stepByStep rfl rfl
theorem dX0_stepByStep_7 : decode cX0_stepByStep 7 = .ok (.invokevirtual 68, 3) := dqn_182 (k := 77) qh_cX0_stepByStep rfl rfl rfl
theorem dX0_stepByStep_10 : decode cX0_stepByStep 10 = .ok (.invokevirtual 71, 3) := dqn_182 (k := 74) qh_cX0_stepByStep rfl rfl rfl
theorem dX0_stepByStep_13 : decode cX0_stepByStep 13 = .ok (.iconst 0, 1) := dqn_3 (k := 73) qh_cX0_stepByStep rfl rfl
theorem dX0_stepByStep_14 : decode cX0_stepByStep 14 = .ok (.istore 4, 2) := dqn_54 (k := 71) qh_cX0_stepByStep rfl rfl rfl
theorem dX0_stepByStep_16 : decode cX0_stepByStep 16 = .ok (.iload_n 3, 1) := dqn_29 (k := 70) qh_cX0_stepByStep rfl rfl
theorem dX0_stepByStep_17 : decode cX0_stepByStep 17 = .ok (.istore 5, 2) := dqn_54 (k := 68) qh_cX0_stepByStep rfl rfl rfl
theorem dX0_stepByStep_19 : decode cX0_stepByStep 19 = .ok (.iconst 0, 1) := dqn_3 (k := 67) qh_cX0_stepByStep rfl rfl
theorem dX0_stepByStep_20 : decode cX0_stepByStep 20 = .ok (.istore 6, 2) := dqn_54 (k := 65) qh_cX0_stepByStep rfl rfl rfl
theorem dX0_stepByStep_22 : decode cX0_stepByStep 22 = .ok (.iload 6, 2) := dqn_21 (k := 63) qh_cX0_stepByStep rfl rfl rfl
theorem dX0_stepByStep_24 : decode cX0_stepByStep 24 = .ok (.iconst 5, 1) := dqn_8 (k := 62) qh_cX0_stepByStep rfl rfl
theorem dX0_stepByStep_25 : decode cX0_stepByStep 25 = .ok (.if_icmp .ge 59, 3) := dqn_162 (k := 59) (u := 59) qh_cX0_stepByStep rfl rfl rfl (sg_p rfl rfl)
theorem dX0_stepByStep_28 : decode cX0_stepByStep 28 = .ok (.aload_n 0, 1) := dqn_42 (k := 58) qh_cX0_stepByStep rfl rfl
theorem dX0_stepByStep_29 : decode cX0_stepByStep 29 = .ok (.aload_n 1, 1) := dqn_43 (k := 57) qh_cX0_stepByStep rfl rfl
theorem dX0_stepByStep_30 : decode cX0_stepByStep 30 = .ok (.iload_n 2, 1) := dqn_28 (k := 56) qh_cX0_stepByStep rfl rfl
theorem dX0_stepByStep_31 : decode cX0_stepByStep 31 = .ok (.iload 4, 2) := dqn_21 (k := 54) qh_cX0_stepByStep rfl rfl rfl
theorem dX0_stepByStep_33 : decode cX0_stepByStep 33 = .ok (.iconst (-1), 1) := dqn_2 (k := 53) qh_cX0_stepByStep rfl rfl
theorem dX0_stepByStep_34 : decode cX0_stepByStep 34 = .ok (.ixor, 1) := dqn_130 (k := 52) qh_cX0_stepByStep rfl rfl
theorem dX0_stepByStep_35 : decode cX0_stepByStep 35 = .ok (.iand, 1) := dqn_126 (k := 51) qh_cX0_stepByStep rfl rfl
theorem dX0_stepByStep_36 : decode cX0_stepByStep 36 = .ok (.iload 4, 2) := dqn_21 (k := 49) qh_cX0_stepByStep rfl rfl rfl
theorem dX0_stepByStep_38 : decode cX0_stepByStep 38 = .ok (.iload 5, 2) := dqn_21 (k := 47) qh_cX0_stepByStep rfl rfl rfl
theorem dX0_stepByStep_40 : decode cX0_stepByStep 40 = .ok (.invokevirtual 84, 3) := dqn_182 (k := 44) qh_cX0_stepByStep rfl rfl rfl
theorem dX0_stepByStep_43 : decode cX0_stepByStep 43 = .ok (.istore 7, 2) := dqn_54 (k := 42) qh_cX0_stepByStep rfl rfl rfl
theorem dX0_stepByStep_45 : decode cX0_stepByStep 45 = .ok (.iload 7, 2) := dqn_21 (k := 40) qh_cX0_stepByStep rfl rfl rfl
theorem dX0_stepByStep_47 : decode cX0_stepByStep 47 = .ok (.iconst (-1), 1) := dqn_2 (k := 39) qh_cX0_stepByStep rfl rfl
theorem dX0_stepByStep_48 : decode cX0_stepByStep 48 = .ok (.if_icmp .ne 6, 3) := dqn_160 (k := 36) (u := 6) qh_cX0_stepByStep rfl rfl rfl (sg_p rfl rfl)
theorem dX0_stepByStep_51 : decode cX0_stepByStep 51 = .ok (.iload 4, 2) := dqn_21 (k := 34) qh_cX0_stepByStep rfl rfl rfl
theorem dX0_stepByStep_53 : decode cX0_stepByStep 53 = .ok (.ireturn, 1) := dqn_172 (k := 33) qh_cX0_stepByStep rfl rfl
theorem dX0_stepByStep_54 : decode cX0_stepByStep 54 = .ok (.iload 4, 2) := dqn_21 (k := 31) qh_cX0_stepByStep rfl rfl rfl
theorem dX0_stepByStep_56 : decode cX0_stepByStep 56 = .ok (.iload 7, 2) := dqn_21 (k := 29) qh_cX0_stepByStep rfl rfl rfl
theorem dX0_stepByStep_58 : decode cX0_stepByStep 58 = .ok (.invokestatic 88, 3) := dqn_184 (k := 26) qh_cX0_stepByStep rfl rfl rfl
theorem dX0_stepByStep_61 : decode cX0_stepByStep 61 = .ok (.ior, 1) := dqn_128 (k := 25) qh_cX0_stepByStep rfl rfl
theorem dX0_stepByStep_62 : decode cX0_stepByStep 62 = .ok (.istore 4, 2) := dqn_54 (k := 23) qh_cX0_stepByStep rfl rfl rfl
theorem dX0_stepByStep_64 : decode cX0_stepByStep 64 = .ok (.iload 5, 2) := dqn_21 (k := 21) qh_cX0_stepByStep rfl rfl rfl
theorem dX0_stepByStep_66 : decode cX0_stepByStep 66 = .ok (.aload_n 1, 1) := dqn_43 (k := 20) qh_cX0_stepByStep rfl rfl
theorem dX0_stepByStep_67 : decode cX0_stepByStep 67 = .ok (.iload 7, 2) := dqn_21 (k := 18) qh_cX0_stepByStep rfl rfl rfl
theorem dX0_stepByStep_69 : decode cX0_stepByStep 69 = .ok (.invokestatic 88, 3) := dqn_184 (k := 15) qh_cX0_stepByStep rfl rfl rfl
theorem dX0_stepByStep_72 : decode cX0_stepByStep 72 = .ok (.invokevirtual 78, 3) := dqn_182 (k := 12) qh_cX0_stepByStep rfl rfl rfl
theorem dX0_stepByStep_75 : decode cX0_stepByStep 75 = .ok (.isub, 1) := dqn_100 (k := 11) qh_cX0_stepByStep rfl rfl
theorem dX0_stepByStep_76 : decode cX0_stepByStep 76 = .ok (.istore 5, 2) := dqn_54 (k := 9) qh_cX0_stepByStep rfl rfl rfl
theorem dX0_stepByStep_78 : decode cX0_stepByStep 78 = .ok (.iinc 6 1, 3) := dqn_132 (k := 6) (u := 1) qh_cX0_stepByStep rfl rfl rfl rfl (by decide)
theorem dX0_stepByStep_81 : decode cX0_stepByStep 81 = .ok (.goto (-59), 3) := dqn_167 (k := 3) (u := 65477) qh_cX0_stepByStep rfl rfl rfl (sg_n (k := 59) rfl rfl rfl)
theorem dX0_stepByStep_84 : decode cX0_stepByStep 84 = .ok (.iload 4, 2) := dqn_21 (k := 1) qh_cX0_stepByStep rfl rfl rfl
theorem dX0_stepByStep_86 : decode cX0_stepByStep 86 = .ok (.ireturn, 1) := dqn_172 (k := 0) qh_cX0_stepByStep rfl rfl
theorem dX0_holdAll_0 : decode cX0_holdAll 0 = .ok (.aload_n 0, 1) := dqn_42 (k := 63) qh_cX0_holdAll rfl rfl
theorem dX0_holdAll_1 : decode cX0_holdAll 1 = .ok (.iconst (-1), 1) := dqn_2 (k := 62) qh_cX0_holdAll rfl rfl
theorem dX0_holdAll_2 : decode cX0_holdAll 2 = .ok (.putfield 25, 3) := dqn_181 (k := 59) qh_cX0_holdAll rfl rfl rfl
theorem dX0_holdAll_5 : decode cX0_holdAll 5 = .ok (.aload_n 0, 1) := dqn_42 (k := 58) qh_cX0_holdAll rfl rfl
theorem dX0_holdAll_6 : decode cX0_holdAll 6 = .ok (.lconst 0, 1) := dqn_9 (k := 57) qh_cX0_holdAll rfl rfl
theorem dX0_holdAll_7 : decode cX0_holdAll 7 = .ok (.putfield 32, 3) := dqn_181 (k := 54) qh_cX0_holdAll rfl rfl rfl
theorem dX0_holdAll_10 : decode cX0_holdAll 10 = .ok (.iconst 0, 1) := dqn_3 (k := 53) qh_cX0_holdAll rfl rfl
theorem dX0_holdAll_11 : decode cX0_holdAll 11 = .ok (.istore_n 2, 1) := dqn_61 (k := 52) qh_cX0_holdAll rfl rfl
theorem dX0_holdAll_12 : decode cX0_holdAll 12 = .ok (.iload_n 2, 1) := dqn_28 (k := 51) qh_cX0_holdAll rfl rfl
theorem dX0_holdAll_13 : decode cX0_holdAll 13 = .ok (.aload_n 1, 1) := dqn_43 (k := 50) qh_cX0_holdAll rfl rfl
theorem dX0_holdAll_14 : decode cX0_holdAll 14 = .ok (.getfield 91, 3) := dqn_180 (k := 47) qh_cX0_holdAll rfl rfl rfl
theorem dX0_holdAll_17 : decode cX0_holdAll 17 = .ok (.if_icmp .ge 46, 3) := dqn_162 (k := 44) (u := 46) qh_cX0_holdAll rfl rfl rfl (sg_p rfl rfl)
theorem dX0_holdAll_20 : decode cX0_holdAll 20 = .ok (.aload_n 0, 1) := dqn_42 (k := 43) qh_cX0_holdAll rfl rfl
theorem dX0_holdAll_21 : decode cX0_holdAll 21 = .ok (.getfield 12, 3) := dqn_180 (k := 40) qh_cX0_holdAll rfl rfl rfl
theorem dX0_holdAll_24 : decode cX0_holdAll 24 = .ok (.aload_n 1, 1) := dqn_43 (k := 39) qh_cX0_holdAll rfl rfl
theorem dX0_holdAll_25 : decode cX0_holdAll 25 = .ok (.iload_n 2, 1) := dqn_28 (k := 38) qh_cX0_holdAll rfl rfl
theorem dX0_holdAll_26 : decode cX0_holdAll 26 = .ok (.invokevirtual 112, 3) := dqn_182 (k := 35) qh_cX0_holdAll rfl rfl rfl
theorem dX0_holdAll_29 : decode cX0_holdAll 29 = .ok (.lstore_n 3, 1) := dqn_66 (k := 34) qh_cX0_holdAll rfl rfl
theorem dX0_holdAll_30 : decode cX0_holdAll 30 = .ok (.aload_n 0, 1) := dqn_42 (k := 33) qh_cX0_holdAll rfl rfl
theorem dX0_holdAll_31 : decode cX0_holdAll 31 = .ok (.getfield 25, 3) := dqn_180 (k := 30) qh_cX0_holdAll rfl rfl rfl
theorem dX0_holdAll_34 : decode cX0_holdAll 34 = .ok (.iconst (-1), 1) := dqn_2 (k := 29) qh_cX0_holdAll rfl rfl
theorem dX0_holdAll_35 : decode cX0_holdAll 35 = .ok (.if_icmp .eq 12, 3) := dqn_159 (k := 26) (u := 12) qh_cX0_holdAll rfl rfl rfl (sg_p rfl rfl)
theorem dX0_holdAll_38 : decode cX0_holdAll 38 = .ok (.lload_n 3, 1) := dqn_33 (k := 25) qh_cX0_holdAll rfl rfl
theorem dX0_holdAll_39 : decode cX0_holdAll 39 = .ok (.aload_n 0, 1) := dqn_42 (k := 24) qh_cX0_holdAll rfl rfl
theorem dX0_holdAll_40 : decode cX0_holdAll 40 = .ok (.getfield 32, 3) := dqn_180 (k := 21) qh_cX0_holdAll rfl rfl rfl
theorem dX0_holdAll_43 : decode cX0_holdAll 43 = .ok (.lcmp, 1) := dqn_148 (k := 20) qh_cX0_holdAll rfl rfl
theorem dX0_holdAll_44 : decode cX0_holdAll 44 = .ok (.ifCond .ge 13, 3) := dqn_156 (k := 17) (u := 13) qh_cX0_holdAll rfl rfl rfl (sg_p rfl rfl)
theorem dX0_holdAll_47 : decode cX0_holdAll 47 = .ok (.aload_n 0, 1) := dqn_42 (k := 16) qh_cX0_holdAll rfl rfl
theorem dX0_holdAll_48 : decode cX0_holdAll 48 = .ok (.iload_n 2, 1) := dqn_28 (k := 15) qh_cX0_holdAll rfl rfl
theorem dX0_holdAll_49 : decode cX0_holdAll 49 = .ok (.putfield 25, 3) := dqn_181 (k := 12) qh_cX0_holdAll rfl rfl rfl
theorem dX0_holdAll_52 : decode cX0_holdAll 52 = .ok (.aload_n 0, 1) := dqn_42 (k := 11) qh_cX0_holdAll rfl rfl
theorem dX0_holdAll_53 : decode cX0_holdAll 53 = .ok (.lload_n 3, 1) := dqn_33 (k := 10) qh_cX0_holdAll rfl rfl
theorem dX0_holdAll_54 : decode cX0_holdAll 54 = .ok (.putfield 32, 3) := dqn_181 (k := 7) qh_cX0_holdAll rfl rfl rfl
theorem dX0_holdAll_57 : decode cX0_holdAll 57 = .ok (.iinc 2 1, 3) := dqn_132 (k := 4) (u := 1) qh_cX0_holdAll rfl rfl rfl rfl (by decide)
theorem dX0_holdAll_60 : decode cX0_holdAll 60 = .ok (.goto (-48), 3) := dqn_167 (k := 1) (u := 65488) qh_cX0_holdAll rfl rfl rfl (sg_n (k := 48) rfl rfl rfl)
theorem dX0_holdAll_63 : decode cX0_holdAll 63 = .ok (.return_, 1) := dqn_177 (k := 0) qh_cX0_holdAll rfl rfl
theorem dX0_lowerBy_0 : decode cX0_lowerBy 0 = .ok (.aload_n 1, 1) := dqn_43 (k := 127) qh_cX0_lowerBy rfl rfl
theorem dX0_lowerBy_1 : decode cX0_lowerBy 1 = .ok (.iload_n 2, 1) := dqn_28 (k := 126) qh_cX0_lowerBy rfl rfl
theorem dX0_lowerBy_2 : decode cX0_lowerBy 2 = .ok (.iconst 1, 1) := dqn_4 (k := 125) qh_cX0_lowerBy rfl rfl
theorem dX0_lowerBy_3 : decode cX0_lowerBy 3 = .ok (.invokevirtual 98, 3) := dqn_182 (k := 122) qh_cX0_lowerBy rfl rfl rfl
theorem dX0_lowerBy_6 : decode cX0_lowerBy 6 = .ok (.istore_n 3, 1) := dqn_62 (k := 121) qh_cX0_lowerBy rfl rfl
theorem dX0_lowerBy_7 : decode cX0_lowerBy 7 = .ok (.iconst 0, 1) := dqn_3 (k := 120) qh_cX0_lowerBy rfl rfl
theorem dX0_lowerBy_8 : decode cX0_lowerBy 8 = .ok (.istore 4, 2) := dqn_54 (k := 118) qh_cX0_lowerBy rfl rfl rfl
theorem dX0_lowerBy_10 : decode cX0_lowerBy 10 = .ok (.aload_n 0, 1) := dqn_42 (k := 117) qh_cX0_lowerBy rfl rfl
theorem dX0_lowerBy_11 : decode cX0_lowerBy 11 = .ok (.getfield 21, 3) := dqn_180 (k := 114) qh_cX0_lowerBy rfl rfl rfl
theorem dX0_lowerBy_14 : decode cX0_lowerBy 14 = .ok (.aload_n 1, 1) := dqn_43 (k := 113) qh_cX0_lowerBy rfl rfl
theorem dX0_lowerBy_15 : decode cX0_lowerBy 15 = .ok (.invokevirtual 116, 3) := dqn_182 (k := 110) qh_cX0_lowerBy rfl rfl rfl
theorem dX0_lowerBy_18 : decode cX0_lowerBy 18 = .ok (.iconst 0, 1) := dqn_3 (k := 109) qh_cX0_lowerBy rfl rfl
theorem dX0_lowerBy_19 : decode cX0_lowerBy 19 = .ok (.istore 5, 2) := dqn_54 (k := 107) qh_cX0_lowerBy rfl rfl rfl
theorem dX0_lowerBy_21 : decode cX0_lowerBy 21 = .ok (.iload 5, 2) := dqn_21 (k := 105) qh_cX0_lowerBy rfl rfl rfl
theorem dX0_lowerBy_23 : decode cX0_lowerBy 23 = .ok (.iload_n 3, 1) := dqn_29 (k := 104) qh_cX0_lowerBy rfl rfl
theorem dX0_lowerBy_24 : decode cX0_lowerBy 24 = .ok (.if_icmp .gt 101, 3) := dqn_163 (k := 101) (u := 101) qh_cX0_lowerBy rfl rfl rfl (sg_p rfl rfl)
theorem dX0_lowerBy_27 : decode cX0_lowerBy 27 = .ok (.aload_n 0, 1) := dqn_42 (k := 100) qh_cX0_lowerBy rfl rfl
theorem dX0_lowerBy_28 : decode cX0_lowerBy 28 = .ok (.getfield 21, 3) := dqn_180 (k := 97) qh_cX0_lowerBy rfl rfl rfl
theorem dX0_lowerBy_31 : decode cX0_lowerBy 31 = .ok (.iload_n 2, 1) := dqn_28 (k := 96) qh_cX0_lowerBy rfl rfl
theorem dX0_lowerBy_32 : decode cX0_lowerBy 32 = .ok (.iconst 1, 1) := dqn_4 (k := 95) qh_cX0_lowerBy rfl rfl
theorem dX0_lowerBy_33 : decode cX0_lowerBy 33 = .ok (.iload_n 3, 1) := dqn_29 (k := 94) qh_cX0_lowerBy rfl rfl
theorem dX0_lowerBy_34 : decode cX0_lowerBy 34 = .ok (.iload 5, 2) := dqn_21 (k := 92) qh_cX0_lowerBy rfl rfl rfl
theorem dX0_lowerBy_36 : decode cX0_lowerBy 36 = .ok (.isub, 1) := dqn_100 (k := 91) qh_cX0_lowerBy rfl rfl
theorem dX0_lowerBy_37 : decode cX0_lowerBy 37 = .ok (.invokevirtual 120, 3) := dqn_182 (k := 88) qh_cX0_lowerBy rfl rfl rfl
theorem dX0_lowerBy_40 : decode cX0_lowerBy 40 = .ok (.aload_n 0, 1) := dqn_42 (k := 87) qh_cX0_lowerBy rfl rfl
theorem dX0_lowerBy_41 : decode cX0_lowerBy 41 = .ok (.getfield 12, 3) := dqn_180 (k := 84) qh_cX0_lowerBy rfl rfl rfl
theorem dX0_lowerBy_44 : decode cX0_lowerBy 44 = .ok (.aload_n 0, 1) := dqn_42 (k := 83) qh_cX0_lowerBy rfl rfl
theorem dX0_lowerBy_45 : decode cX0_lowerBy 45 = .ok (.getfield 21, 3) := dqn_180 (k := 80) qh_cX0_lowerBy rfl rfl rfl
theorem dX0_lowerBy_48 : decode cX0_lowerBy 48 = .ok (.iconst (-1), 1) := dqn_2 (k := 79) qh_cX0_lowerBy rfl rfl
theorem dX0_lowerBy_49 : decode cX0_lowerBy 49 = .ok (.aload_n 0, 1) := dqn_42 (k := 78) qh_cX0_lowerBy rfl rfl
theorem dX0_lowerBy_50 : decode cX0_lowerBy 50 = .ok (.getfield 21, 3) := dqn_180 (k := 75) qh_cX0_lowerBy rfl rfl rfl
theorem dX0_lowerBy_53 : decode cX0_lowerBy 53 = .ok (.invokevirtual 68, 3) := dqn_182 (k := 72) qh_cX0_lowerBy rfl rfl rfl
theorem dX0_lowerBy_56 : decode cX0_lowerBy 56 = .ok (.invokevirtual 71, 3) := dqn_182 (k := 69) qh_cX0_lowerBy rfl rfl rfl
theorem dX0_lowerBy_59 : decode cX0_lowerBy 59 = .ok (.aload_n 0, 1) := dqn_42 (k := 68) qh_cX0_lowerBy rfl rfl
theorem dX0_lowerBy_60 : decode cX0_lowerBy 60 = .ok (.getfield 12, 3) := dqn_180 (k := 65) qh_cX0_lowerBy rfl rfl rfl
theorem dX0_lowerBy_63 : decode cX0_lowerBy 63 = .ok (.aload_n 1, 1) := dqn_43 (k := 64) qh_cX0_lowerBy rfl rfl
theorem dX0_lowerBy_64 : decode cX0_lowerBy 64 = .ok (.invokevirtual 60, 3) := dqn_182 (k := 61) qh_cX0_lowerBy rfl rfl rfl
theorem dX0_lowerBy_67 : decode cX0_lowerBy 67 = .ok (.invokevirtual 64, 3) := dqn_182 (k := 58) qh_cX0_lowerBy rfl rfl rfl
theorem dX0_lowerBy_70 : decode cX0_lowerBy 70 = .ok (.aload_n 0, 1) := dqn_42 (k := 57) qh_cX0_lowerBy rfl rfl
theorem dX0_lowerBy_71 : decode cX0_lowerBy 71 = .ok (.getfield 12, 3) := dqn_180 (k := 54) qh_cX0_lowerBy rfl rfl rfl
theorem dX0_lowerBy_74 : decode cX0_lowerBy 74 = .ok (.iconst 0, 1) := dqn_3 (k := 53) qh_cX0_lowerBy rfl rfl
theorem dX0_lowerBy_75 : decode cX0_lowerBy 75 = .ok (.invokevirtual 124, 3) := dqn_182 (k := 50) qh_cX0_lowerBy rfl rfl rfl
theorem dX0_lowerBy_78 : decode cX0_lowerBy 78 = .ok (.aload_n 1, 1) := dqn_43 (k := 49) qh_cX0_lowerBy rfl rfl
theorem dX0_lowerBy_79 : decode cX0_lowerBy 79 = .ok (.iload_n 2, 1) := dqn_28 (k := 48) qh_cX0_lowerBy rfl rfl
theorem dX0_lowerBy_80 : decode cX0_lowerBy 80 = .ok (.bipush 7, 2) := dqn_16 (k := 46) (u := 7) qh_cX0_lowerBy rfl rfl rfl (by decide)
theorem dX0_lowerBy_82 : decode cX0_lowerBy 82 = .ok (.invokevirtual 98, 3) := dqn_182 (k := 43) qh_cX0_lowerBy rfl rfl rfl
theorem dX0_lowerBy_85 : decode cX0_lowerBy 85 = .ok (.i2l, 1) := dqn_133 (k := 42) qh_cX0_lowerBy rfl rfl
theorem dX0_lowerBy_86 : decode cX0_lowerBy 86 = .ok (.lmul, 1) := dqn_105 (k := 41) qh_cX0_lowerBy rfl rfl
theorem dX0_lowerBy_87 : decode cX0_lowerBy 87 = .ok (.iload 5, 2) := dqn_21 (k := 39) qh_cX0_lowerBy rfl rfl rfl
theorem dX0_lowerBy_89 : decode cX0_lowerBy 89 = .ok (.i2l, 1) := dqn_133 (k := 38) qh_cX0_lowerBy rfl rfl
theorem dX0_lowerBy_90 : decode cX0_lowerBy 90 = .ok (.lmul, 1) := dqn_105 (k := 37) qh_cX0_lowerBy rfl rfl
theorem dX0_lowerBy_91 : decode cX0_lowerBy 91 = .ok (.ladd, 1) := dqn_97 (k := 36) qh_cX0_lowerBy rfl rfl
theorem dX0_lowerBy_92 : decode cX0_lowerBy 92 = .ok (.lstore 6, 2) := dqn_55 (k := 34) qh_cX0_lowerBy rfl rfl rfl
theorem dX0_lowerBy_94 : decode cX0_lowerBy 94 = .ok (.iload 5, 2) := dqn_21 (k := 32) qh_cX0_lowerBy rfl rfl rfl
theorem dX0_lowerBy_96 : decode cX0_lowerBy 96 = .ok (.ifCond .eq 13, 3) := dqn_153 (k := 29) (u := 13) qh_cX0_lowerBy rfl rfl rfl (sg_p rfl rfl)
theorem dX0_lowerBy_99 : decode cX0_lowerBy 99 = .ok (.lload 6, 2) := dqn_22 (k := 27) qh_cX0_lowerBy rfl rfl rfl
theorem dX0_lowerBy_101 : decode cX0_lowerBy 101 = .ok (.aload_n 0, 1) := dqn_42 (k := 26) qh_cX0_lowerBy rfl rfl
theorem dX0_lowerBy_102 : decode cX0_lowerBy 102 = .ok (.getfield 32, 3) := dqn_180 (k := 23) qh_cX0_lowerBy rfl rfl rfl
theorem dX0_lowerBy_105 : decode cX0_lowerBy 105 = .ok (.lcmp, 1) := dqn_148 (k := 22) qh_cX0_lowerBy rfl rfl
theorem dX0_lowerBy_106 : decode cX0_lowerBy 106 = .ok (.ifCond .ge 13, 3) := dqn_156 (k := 19) (u := 13) qh_cX0_lowerBy rfl rfl rfl (sg_p rfl rfl)
theorem dX0_lowerBy_109 : decode cX0_lowerBy 109 = .ok (.iload 5, 2) := dqn_21 (k := 17) qh_cX0_lowerBy rfl rfl rfl
theorem dX0_lowerBy_111 : decode cX0_lowerBy 111 = .ok (.istore 4, 2) := dqn_54 (k := 15) qh_cX0_lowerBy rfl rfl rfl
theorem dX0_lowerBy_113 : decode cX0_lowerBy 113 = .ok (.aload_n 0, 1) := dqn_42 (k := 14) qh_cX0_lowerBy rfl rfl
theorem dX0_lowerBy_114 : decode cX0_lowerBy 114 = .ok (.lload 6, 2) := dqn_22 (k := 12) qh_cX0_lowerBy rfl rfl rfl
theorem dX0_lowerBy_116 : decode cX0_lowerBy 116 = .ok (.putfield 32, 3) := dqn_181 (k := 9) qh_cX0_lowerBy rfl rfl rfl
theorem dX0_lowerBy_119 : decode cX0_lowerBy 119 = .ok (.iinc 5 1, 3) := dqn_132 (k := 6) (u := 1) qh_cX0_lowerBy rfl rfl rfl rfl (by decide)
theorem dX0_lowerBy_122 : decode cX0_lowerBy 122 = .ok (.goto (-101), 3) := dqn_167 (k := 3) (u := 65435) qh_cX0_lowerBy rfl rfl rfl (sg_n (k := 101) rfl rfl rfl)
theorem dX0_lowerBy_125 : decode cX0_lowerBy 125 = .ok (.iload 4, 2) := dqn_21 (k := 1) qh_cX0_lowerBy rfl rfl rfl
theorem dX0_lowerBy_127 : decode cX0_lowerBy 127 = .ok (.ireturn, 1) := dqn_172 (k := 0) qh_cX0_lowerBy rfl rfl
theorem dX0_mostUrgent_0 : decode cX0_mostUrgent 0 = .ok (.iconst (-1), 1) := dqn_2 (k := 77) qh_cX0_mostUrgent rfl rfl
theorem dX0_mostUrgent_1 : decode cX0_mostUrgent 1 = .ok (.istore_n 2, 1) := dqn_61 (k := 76) qh_cX0_mostUrgent rfl rfl
theorem dX0_mostUrgent_2 : decode cX0_mostUrgent 2 = .ok (.iconst 0, 1) := dqn_3 (k := 75) qh_cX0_mostUrgent rfl rfl
theorem dX0_mostUrgent_3 : decode cX0_mostUrgent 3 = .ok (.istore_n 3, 1) := dqn_62 (k := 74) qh_cX0_mostUrgent rfl rfl
theorem dX0_mostUrgent_4 : decode cX0_mostUrgent 4 = .ok (.iconst 1, 1) := dqn_4 (k := 73) qh_cX0_mostUrgent rfl rfl
theorem dX0_mostUrgent_5 : decode cX0_mostUrgent 5 = .ok (.istore 4, 2) := dqn_54 (k := 71) qh_cX0_mostUrgent rfl rfl rfl
theorem dX0_mostUrgent_7 : decode cX0_mostUrgent 7 = .ok (.iconst 0, 1) := dqn_3 (k := 70) qh_cX0_mostUrgent rfl rfl
theorem dX0_mostUrgent_8 : decode cX0_mostUrgent 8 = .ok (.istore 5, 2) := dqn_54 (k := 68) qh_cX0_mostUrgent rfl rfl rfl
theorem dX0_mostUrgent_10 : decode cX0_mostUrgent 10 = .ok (.iload 5, 2) := dqn_21 (k := 66) qh_cX0_mostUrgent rfl rfl rfl
theorem dX0_mostUrgent_12 : decode cX0_mostUrgent 12 = .ok (.aload_n 1, 1) := dqn_43 (k := 65) qh_cX0_mostUrgent rfl rfl
theorem dX0_mostUrgent_13 : decode cX0_mostUrgent 13 = .ok (.getfield 91, 3) := dqn_180 (k := 62) qh_cX0_mostUrgent rfl rfl rfl
theorem dX0_mostUrgent_16 : decode cX0_mostUrgent 16 = .ok (.if_icmp .ge 60, 3) := dqn_162 (k := 59) (u := 60) qh_cX0_mostUrgent rfl rfl rfl (sg_p rfl rfl)
theorem dX0_mostUrgent_19 : decode cX0_mostUrgent 19 = .ok (.aload_n 1, 1) := dqn_43 (k := 58) qh_cX0_mostUrgent rfl rfl
theorem dX0_mostUrgent_20 : decode cX0_mostUrgent 20 = .ok (.iload 5, 2) := dqn_21 (k := 56) qh_cX0_mostUrgent rfl rfl rfl
theorem dX0_mostUrgent_22 : decode cX0_mostUrgent 22 = .ok (.invokevirtual 127, 3) := dqn_182 (k := 53) qh_cX0_mostUrgent rfl rfl rfl
theorem dX0_mostUrgent_25 : decode cX0_mostUrgent 25 = .ok (.aload_n 1, 1) := dqn_43 (k := 52) qh_cX0_mostUrgent rfl rfl
theorem dX0_mostUrgent_26 : decode cX0_mostUrgent 26 = .ok (.iload 5, 2) := dqn_21 (k := 50) qh_cX0_mostUrgent rfl rfl rfl
theorem dX0_mostUrgent_28 : decode cX0_mostUrgent 28 = .ok (.iconst 5, 1) := dqn_8 (k := 49) qh_cX0_mostUrgent rfl rfl
theorem dX0_mostUrgent_29 : decode cX0_mostUrgent 29 = .ok (.invokevirtual 98, 3) := dqn_182 (k := 46) qh_cX0_mostUrgent rfl rfl rfl
theorem dX0_mostUrgent_32 : decode cX0_mostUrgent 32 = .ok (.imul, 1) := dqn_104 (k := 45) qh_cX0_mostUrgent rfl rfl
theorem dX0_mostUrgent_33 : decode cX0_mostUrgent 33 = .ok (.istore 6, 2) := dqn_54 (k := 43) qh_cX0_mostUrgent rfl rfl rfl
theorem dX0_mostUrgent_35 : decode cX0_mostUrgent 35 = .ok (.aload_n 1, 1) := dqn_43 (k := 42) qh_cX0_mostUrgent rfl rfl
theorem dX0_mostUrgent_36 : decode cX0_mostUrgent 36 = .ok (.iload 5, 2) := dqn_21 (k := 40) qh_cX0_mostUrgent rfl rfl rfl
theorem dX0_mostUrgent_38 : decode cX0_mostUrgent 38 = .ok (.invokevirtual 130, 3) := dqn_182 (k := 37) qh_cX0_mostUrgent rfl rfl rfl
theorem dX0_mostUrgent_41 : decode cX0_mostUrgent 41 = .ok (.istore 7, 2) := dqn_54 (k := 35) qh_cX0_mostUrgent rfl rfl rfl
theorem dX0_mostUrgent_43 : decode cX0_mostUrgent 43 = .ok (.iload 6, 2) := dqn_21 (k := 33) qh_cX0_mostUrgent rfl rfl rfl
theorem dX0_mostUrgent_45 : decode cX0_mostUrgent 45 = .ok (.ifCond .le 25, 3) := dqn_158 (k := 30) (u := 25) qh_cX0_mostUrgent rfl rfl rfl (sg_p rfl rfl)
theorem dX0_mostUrgent_48 : decode cX0_mostUrgent 48 = .ok (.iload 6, 2) := dqn_21 (k := 28) qh_cX0_mostUrgent rfl rfl rfl
theorem dX0_mostUrgent_50 : decode cX0_mostUrgent 50 = .ok (.iload 4, 2) := dqn_21 (k := 26) qh_cX0_mostUrgent rfl rfl rfl
theorem dX0_mostUrgent_52 : decode cX0_mostUrgent 52 = .ok (.imul, 1) := dqn_104 (k := 25) qh_cX0_mostUrgent rfl rfl
theorem dX0_mostUrgent_53 : decode cX0_mostUrgent 53 = .ok (.iload_n 3, 1) := dqn_29 (k := 24) qh_cX0_mostUrgent rfl rfl
theorem dX0_mostUrgent_54 : decode cX0_mostUrgent 54 = .ok (.iload 7, 2) := dqn_21 (k := 22) qh_cX0_mostUrgent rfl rfl rfl
theorem dX0_mostUrgent_56 : decode cX0_mostUrgent 56 = .ok (.imul, 1) := dqn_104 (k := 21) qh_cX0_mostUrgent rfl rfl
theorem dX0_mostUrgent_57 : decode cX0_mostUrgent 57 = .ok (.if_icmp .le 13, 3) := dqn_164 (k := 18) (u := 13) qh_cX0_mostUrgent rfl rfl rfl (sg_p rfl rfl)
theorem dX0_mostUrgent_60 : decode cX0_mostUrgent 60 = .ok (.iload 5, 2) := dqn_21 (k := 16) qh_cX0_mostUrgent rfl rfl rfl
theorem dX0_mostUrgent_62 : decode cX0_mostUrgent 62 = .ok (.istore_n 2, 1) := dqn_61 (k := 15) qh_cX0_mostUrgent rfl rfl
theorem dX0_mostUrgent_63 : decode cX0_mostUrgent 63 = .ok (.iload 6, 2) := dqn_21 (k := 13) qh_cX0_mostUrgent rfl rfl rfl
theorem dX0_mostUrgent_65 : decode cX0_mostUrgent 65 = .ok (.istore_n 3, 1) := dqn_62 (k := 12) qh_cX0_mostUrgent rfl rfl
theorem dX0_mostUrgent_66 : decode cX0_mostUrgent 66 = .ok (.iload 7, 2) := dqn_21 (k := 10) qh_cX0_mostUrgent rfl rfl rfl
theorem dX0_mostUrgent_68 : decode cX0_mostUrgent 68 = .ok (.istore 4, 2) := dqn_54 (k := 8) qh_cX0_mostUrgent rfl rfl rfl
theorem dX0_mostUrgent_70 : decode cX0_mostUrgent 70 = .ok (.iinc 5 1, 3) := dqn_132 (k := 5) (u := 1) qh_cX0_mostUrgent rfl rfl rfl rfl (by decide)
theorem dX0_mostUrgent_73 : decode cX0_mostUrgent 73 = .ok (.goto (-63), 3) := dqn_167 (k := 2) (u := 65473) qh_cX0_mostUrgent rfl rfl rfl (sg_n (k := 63) rfl rfl rfl)
theorem dX0_mostUrgent_76 : decode cX0_mostUrgent 76 = .ok (.iload_n 2, 1) := dqn_28 (k := 1) qh_cX0_mostUrgent rfl rfl
theorem dX0_mostUrgent_77 : decode cX0_mostUrgent 77 = .ok (.ireturn, 1) := dqn_172 (k := 0) qh_cX0_mostUrgent rfl rfl
theorem dX0_heaviest_0 : decode cX0_heaviest 0 = .ok (.aload_n 0, 1) := dqn_42 (k := 107) qh_cX0_heaviest rfl rfl
theorem dX0_heaviest_1 : decode cX0_heaviest 1 = .ok (.getfield 12, 3) := dqn_180 (k := 104) qh_cX0_heaviest rfl rfl rfl
theorem dX0_heaviest_4 : decode cX0_heaviest 4 = .ok (.aload_n 1, 1) := dqn_43 (k := 103) qh_cX0_heaviest rfl rfl
theorem dX0_heaviest_5 : decode cX0_heaviest 5 = .ok (.iconst (-1), 1) := dqn_2 (k := 102) qh_cX0_heaviest rfl rfl
theorem dX0_heaviest_6 : decode cX0_heaviest 6 = .ok (.aload_n 1, 1) := dqn_43 (k := 101) qh_cX0_heaviest rfl rfl
theorem dX0_heaviest_7 : decode cX0_heaviest 7 = .ok (.invokevirtual 60, 3) := dqn_182 (k := 98) qh_cX0_heaviest rfl rfl rfl
theorem dX0_heaviest_10 : decode cX0_heaviest 10 = .ok (.invokevirtual 71, 3) := dqn_182 (k := 95) qh_cX0_heaviest rfl rfl rfl
theorem dX0_heaviest_13 : decode cX0_heaviest 13 = .ok (.aload_n 0, 1) := dqn_42 (k := 94) qh_cX0_heaviest rfl rfl
theorem dX0_heaviest_14 : decode cX0_heaviest 14 = .ok (.getfield 12, 3) := dqn_180 (k := 91) qh_cX0_heaviest rfl rfl rfl
theorem dX0_heaviest_17 : decode cX0_heaviest 17 = .ok (.aload_n 1, 1) := dqn_43 (k := 90) qh_cX0_heaviest rfl rfl
theorem dX0_heaviest_18 : decode cX0_heaviest 18 = .ok (.invokevirtual 60, 3) := dqn_182 (k := 87) qh_cX0_heaviest rfl rfl rfl
theorem dX0_heaviest_21 : decode cX0_heaviest 21 = .ok (.invokevirtual 64, 3) := dqn_182 (k := 84) qh_cX0_heaviest rfl rfl rfl
theorem dX0_heaviest_24 : decode cX0_heaviest 24 = .ok (.lstore_n 2, 1) := dqn_65 (k := 83) qh_cX0_heaviest rfl rfl
theorem dX0_heaviest_25 : decode cX0_heaviest 25 = .ok (.lconst 0, 1) := dqn_9 (k := 82) qh_cX0_heaviest rfl rfl
theorem dX0_heaviest_26 : decode cX0_heaviest 26 = .ok (.lstore 4, 2) := dqn_55 (k := 80) qh_cX0_heaviest rfl rfl rfl
theorem dX0_heaviest_28 : decode cX0_heaviest 28 = .ok (.iconst (-1), 1) := dqn_2 (k := 79) qh_cX0_heaviest rfl rfl
theorem dX0_heaviest_29 : decode cX0_heaviest 29 = .ok (.istore 6, 2) := dqn_54 (k := 77) qh_cX0_heaviest rfl rfl rfl
theorem dX0_heaviest_31 : decode cX0_heaviest 31 = .ok (.iconst 0, 1) := dqn_3 (k := 76) qh_cX0_heaviest rfl rfl
theorem dX0_heaviest_32 : decode cX0_heaviest 32 = .ok (.istore 7, 2) := dqn_54 (k := 74) qh_cX0_heaviest rfl rfl rfl
theorem dX0_heaviest_34 : decode cX0_heaviest 34 = .ok (.iload 7, 2) := dqn_21 (k := 72) qh_cX0_heaviest rfl rfl rfl
theorem dX0_heaviest_36 : decode cX0_heaviest 36 = .ok (.aload_n 1, 1) := dqn_43 (k := 71) qh_cX0_heaviest rfl rfl
theorem dX0_heaviest_37 : decode cX0_heaviest 37 = .ok (.getfield 91, 3) := dqn_180 (k := 68) qh_cX0_heaviest rfl rfl rfl
theorem dX0_heaviest_40 : decode cX0_heaviest 40 = .ok (.if_icmp .ge 65, 3) := dqn_162 (k := 65) (u := 65) qh_cX0_heaviest rfl rfl rfl (sg_p rfl rfl)
theorem dX0_heaviest_43 : decode cX0_heaviest 43 = .ok (.aload_n 1, 1) := dqn_43 (k := 64) qh_cX0_heaviest rfl rfl
theorem dX0_heaviest_44 : decode cX0_heaviest 44 = .ok (.iload 7, 2) := dqn_21 (k := 62) qh_cX0_heaviest rfl rfl rfl
theorem dX0_heaviest_46 : decode cX0_heaviest 46 = .ok (.iconst 4, 1) := dqn_7 (k := 61) qh_cX0_heaviest rfl rfl
theorem dX0_heaviest_47 : decode cX0_heaviest 47 = .ok (.invokevirtual 98, 3) := dqn_182 (k := 58) qh_cX0_heaviest rfl rfl rfl
theorem dX0_heaviest_50 : decode cX0_heaviest 50 = .ok (.bipush 10, 2) := dqn_16 (k := 56) (u := 10) qh_cX0_heaviest rfl rfl rfl (by decide)
theorem dX0_heaviest_52 : decode cX0_heaviest 52 = .ok (.if_icmp .ge 47, 3) := dqn_162 (k := 53) (u := 47) qh_cX0_heaviest rfl rfl rfl (sg_p rfl rfl)
theorem dX0_heaviest_55 : decode cX0_heaviest 55 = .ok (.aload_n 0, 1) := dqn_42 (k := 52) qh_cX0_heaviest rfl rfl
theorem dX0_heaviest_56 : decode cX0_heaviest 56 = .ok (.getfield 12, 3) := dqn_180 (k := 49) qh_cX0_heaviest rfl rfl rfl
theorem dX0_heaviest_59 : decode cX0_heaviest 59 = .ok (.iconst 0, 1) := dqn_3 (k := 48) qh_cX0_heaviest rfl rfl
theorem dX0_heaviest_60 : decode cX0_heaviest 60 = .ok (.iload 7, 2) := dqn_21 (k := 46) qh_cX0_heaviest rfl rfl rfl
theorem dX0_heaviest_62 : decode cX0_heaviest 62 = .ok (.invokestatic 88, 3) := dqn_184 (k := 43) qh_cX0_heaviest rfl rfl rfl
theorem dX0_heaviest_65 : decode cX0_heaviest 65 = .ok (.invokevirtual 53, 3) := dqn_182 (k := 40) qh_cX0_heaviest rfl rfl rfl
theorem dX0_heaviest_68 : decode cX0_heaviest 68 = .ok (.aload_n 0, 1) := dqn_42 (k := 39) qh_cX0_heaviest rfl rfl
theorem dX0_heaviest_69 : decode cX0_heaviest 69 = .ok (.getfield 12, 3) := dqn_180 (k := 36) qh_cX0_heaviest rfl rfl rfl
theorem dX0_heaviest_72 : decode cX0_heaviest 72 = .ok (.aload_n 1, 1) := dqn_43 (k := 35) qh_cX0_heaviest rfl rfl
theorem dX0_heaviest_73 : decode cX0_heaviest 73 = .ok (.invokevirtual 60, 3) := dqn_182 (k := 32) qh_cX0_heaviest rfl rfl rfl
theorem dX0_heaviest_76 : decode cX0_heaviest 76 = .ok (.invokevirtual 64, 3) := dqn_182 (k := 29) qh_cX0_heaviest rfl rfl rfl
theorem dX0_heaviest_79 : decode cX0_heaviest 79 = .ok (.lload_n 2, 1) := dqn_32 (k := 28) qh_cX0_heaviest rfl rfl
theorem dX0_heaviest_80 : decode cX0_heaviest 80 = .ok (.lsub, 1) := dqn_101 (k := 27) qh_cX0_heaviest rfl rfl
theorem dX0_heaviest_81 : decode cX0_heaviest 81 = .ok (.lstore 8, 2) := dqn_55 (k := 25) qh_cX0_heaviest rfl rfl rfl
theorem dX0_heaviest_83 : decode cX0_heaviest 83 = .ok (.lload 8, 2) := dqn_22 (k := 23) qh_cX0_heaviest rfl rfl rfl
theorem dX0_heaviest_85 : decode cX0_heaviest 85 = .ok (.lload 4, 2) := dqn_22 (k := 21) qh_cX0_heaviest rfl rfl rfl
theorem dX0_heaviest_87 : decode cX0_heaviest 87 = .ok (.lcmp, 1) := dqn_148 (k := 20) qh_cX0_heaviest rfl rfl
theorem dX0_heaviest_88 : decode cX0_heaviest 88 = .ok (.ifCond .le 11, 3) := dqn_158 (k := 17) (u := 11) qh_cX0_heaviest rfl rfl rfl (sg_p rfl rfl)
theorem dX0_heaviest_91 : decode cX0_heaviest 91 = .ok (.lload 8, 2) := dqn_22 (k := 15) qh_cX0_heaviest rfl rfl rfl
theorem dX0_heaviest_93 : decode cX0_heaviest 93 = .ok (.lstore 4, 2) := dqn_55 (k := 13) qh_cX0_heaviest rfl rfl rfl
theorem dX0_heaviest_95 : decode cX0_heaviest 95 = .ok (.iload 7, 2) := dqn_21 (k := 11) qh_cX0_heaviest rfl rfl rfl
theorem dX0_heaviest_97 : decode cX0_heaviest 97 = .ok (.istore 6, 2) := dqn_54 (k := 9) qh_cX0_heaviest rfl rfl rfl
theorem dX0_heaviest_99 : decode cX0_heaviest 99 = .ok (.iinc 7 1, 3) := dqn_132 (k := 6) (u := 1) qh_cX0_heaviest rfl rfl rfl rfl (by decide)
theorem dX0_heaviest_102 : decode cX0_heaviest 102 = .ok (.goto (-68), 3) := dqn_167 (k := 3) (u := 65468) qh_cX0_heaviest rfl rfl rfl (sg_n (k := 68) rfl rfl rfl)
theorem dX0_heaviest_105 : decode cX0_heaviest 105 = .ok (.iload 6, 2) := dqn_21 (k := 1) qh_cX0_heaviest rfl rfl rfl
theorem dX0_heaviest_107 : decode cX0_heaviest 107 = .ok (.ireturn, 1) := dqn_172 (k := 0) qh_cX0_heaviest rfl rfl
theorem dX0_turnAround_0 : decode cX0_turnAround 0 = .ok (.aload_n 0, 1) := dqn_42 (k := 152) qh_cX0_turnAround rfl rfl
theorem dX0_turnAround_1 : decode cX0_turnAround 1 = .ok (.iconst (-1), 1) := dqn_2 (k := 151) qh_cX0_turnAround rfl rfl
theorem dX0_turnAround_2 : decode cX0_turnAround 2 = .ok (.putfield 25, 3) := dqn_181 (k := 148) qh_cX0_turnAround rfl rfl rfl
theorem dX0_turnAround_5 : decode cX0_turnAround 5 = .ok (.aload_n 0, 1) := dqn_42 (k := 147) qh_cX0_turnAround rfl rfl
theorem dX0_turnAround_6 : decode cX0_turnAround 6 = .ok (.iconst (-1), 1) := dqn_2 (k := 146) qh_cX0_turnAround rfl rfl
theorem dX0_turnAround_7 : decode cX0_turnAround 7 = .ok (.putfield 29, 3) := dqn_181 (k := 143) qh_cX0_turnAround rfl rfl rfl
theorem dX0_turnAround_10 : decode cX0_turnAround 10 = .ok (.aload_n 0, 1) := dqn_42 (k := 142) qh_cX0_turnAround rfl rfl
theorem dX0_turnAround_11 : decode cX0_turnAround 11 = .ok (.aload_n 0, 1) := dqn_42 (k := 141) qh_cX0_turnAround rfl rfl
theorem dX0_turnAround_12 : decode cX0_turnAround 12 = .ok (.getfield 12, 3) := dqn_180 (k := 138) qh_cX0_turnAround rfl rfl rfl
theorem dX0_turnAround_15 : decode cX0_turnAround 15 = .ok (.aload_n 1, 1) := dqn_43 (k := 137) qh_cX0_turnAround rfl rfl
theorem dX0_turnAround_16 : decode cX0_turnAround 16 = .ok (.iconst (-1), 1) := dqn_2 (k := 136) qh_cX0_turnAround rfl rfl
theorem dX0_turnAround_17 : decode cX0_turnAround 17 = .ok (.invokevirtual 112, 3) := dqn_182 (k := 133) qh_cX0_turnAround rfl rfl rfl
theorem dX0_turnAround_20 : decode cX0_turnAround 20 = .ok (.putfield 32, 3) := dqn_181 (k := 130) qh_cX0_turnAround rfl rfl rfl
theorem dX0_turnAround_23 : decode cX0_turnAround 23 = .ok (.aload_n 0, 1) := dqn_42 (k := 129) qh_cX0_turnAround rfl rfl
theorem dX0_turnAround_24 : decode cX0_turnAround 24 = .ok (.getfield 21, 3) := dqn_180 (k := 126) qh_cX0_turnAround rfl rfl rfl
theorem dX0_turnAround_27 : decode cX0_turnAround 27 = .ok (.aload_n 1, 1) := dqn_43 (k := 125) qh_cX0_turnAround rfl rfl
theorem dX0_turnAround_28 : decode cX0_turnAround 28 = .ok (.invokevirtual 116, 3) := dqn_182 (k := 122) qh_cX0_turnAround rfl rfl rfl
theorem dX0_turnAround_31 : decode cX0_turnAround 31 = .ok (.iconst 0, 1) := dqn_3 (k := 121) qh_cX0_turnAround rfl rfl
theorem dX0_turnAround_32 : decode cX0_turnAround 32 = .ok (.istore_n 2, 1) := dqn_61 (k := 120) qh_cX0_turnAround rfl rfl
theorem dX0_turnAround_33 : decode cX0_turnAround 33 = .ok (.iload_n 2, 1) := dqn_28 (k := 119) qh_cX0_turnAround rfl rfl
theorem dX0_turnAround_34 : decode cX0_turnAround 34 = .ok (.aload_n 1, 1) := dqn_43 (k := 118) qh_cX0_turnAround rfl rfl
theorem dX0_turnAround_35 : decode cX0_turnAround 35 = .ok (.getfield 91, 3) := dqn_180 (k := 115) qh_cX0_turnAround rfl rfl rfl
theorem dX0_turnAround_38 : decode cX0_turnAround 38 = .ok (.if_icmp .ge 114, 3) := dqn_162 (k := 112) (u := 114) qh_cX0_turnAround rfl rfl rfl (sg_p rfl rfl)
theorem dX0_turnAround_41 : decode cX0_turnAround 41 = .ok (.iload_n 2, 1) := dqn_28 (k := 111) qh_cX0_turnAround rfl rfl
theorem dX0_turnAround_42 : decode cX0_turnAround 42 = .ok (.iconst 1, 1) := dqn_4 (k := 110) qh_cX0_turnAround rfl rfl
theorem dX0_turnAround_43 : decode cX0_turnAround 43 = .ok (.iadd, 1) := dqn_96 (k := 109) qh_cX0_turnAround rfl rfl
theorem dX0_turnAround_44 : decode cX0_turnAround 44 = .ok (.istore_n 3, 1) := dqn_62 (k := 108) qh_cX0_turnAround rfl rfl
theorem dX0_turnAround_45 : decode cX0_turnAround 45 = .ok (.iload_n 3, 1) := dqn_29 (k := 107) qh_cX0_turnAround rfl rfl
theorem dX0_turnAround_46 : decode cX0_turnAround 46 = .ok (.aload_n 1, 1) := dqn_43 (k := 106) qh_cX0_turnAround rfl rfl
theorem dX0_turnAround_47 : decode cX0_turnAround 47 = .ok (.getfield 91, 3) := dqn_180 (k := 103) qh_cX0_turnAround rfl rfl rfl
theorem dX0_turnAround_50 : decode cX0_turnAround 50 = .ok (.if_icmp .ge 79, 3) := dqn_162 (k := 100) (u := 79) qh_cX0_turnAround rfl rfl rfl (sg_p rfl rfl)
theorem dX0_turnAround_53 : decode cX0_turnAround 53 = .ok (.aload_n 1, 1) := dqn_43 (k := 99) qh_cX0_turnAround rfl rfl
theorem dX0_turnAround_54 : decode cX0_turnAround 54 = .ok (.iload_n 2, 1) := dqn_28 (k := 98) qh_cX0_turnAround rfl rfl
theorem dX0_turnAround_55 : decode cX0_turnAround 55 = .ok (.invokevirtual 133, 3) := dqn_182 (k := 95) qh_cX0_turnAround rfl rfl rfl
theorem dX0_turnAround_58 : decode cX0_turnAround 58 = .ok (.ifCond .ne 65, 3) := dqn_154 (k := 92) (u := 65) qh_cX0_turnAround rfl rfl rfl (sg_p rfl rfl)
theorem dX0_turnAround_61 : decode cX0_turnAround 61 = .ok (.iload_n 3, 1) := dqn_29 (k := 91) qh_cX0_turnAround rfl rfl
theorem dX0_turnAround_62 : decode cX0_turnAround 62 = .ok (.aload_n 1, 1) := dqn_43 (k := 90) qh_cX0_turnAround rfl rfl
theorem dX0_turnAround_63 : decode cX0_turnAround 63 = .ok (.iload_n 2, 1) := dqn_28 (k := 89) qh_cX0_turnAround rfl rfl
theorem dX0_turnAround_64 : decode cX0_turnAround 64 = .ok (.bipush 8, 2) := dqn_16 (k := 87) (u := 8) qh_cX0_turnAround rfl rfl rfl (by decide)
theorem dX0_turnAround_66 : decode cX0_turnAround 66 = .ok (.invokevirtual 98, 3) := dqn_182 (k := 84) qh_cX0_turnAround rfl rfl rfl
theorem dX0_turnAround_69 : decode cX0_turnAround 69 = .ok (.if_icmp .eq 54, 3) := dqn_159 (k := 81) (u := 54) qh_cX0_turnAround rfl rfl rfl (sg_p rfl rfl)
theorem dX0_turnAround_72 : decode cX0_turnAround 72 = .ok (.aload_n 0, 1) := dqn_42 (k := 80) qh_cX0_turnAround rfl rfl
theorem dX0_turnAround_73 : decode cX0_turnAround 73 = .ok (.getfield 21, 3) := dqn_180 (k := 77) qh_cX0_turnAround rfl rfl rfl
theorem dX0_turnAround_76 : decode cX0_turnAround 76 = .ok (.iload_n 2, 1) := dqn_28 (k := 76) qh_cX0_turnAround rfl rfl
theorem dX0_turnAround_77 : decode cX0_turnAround 77 = .ok (.bipush 8, 2) := dqn_16 (k := 74) (u := 8) qh_cX0_turnAround rfl rfl rfl (by decide)
theorem dX0_turnAround_79 : decode cX0_turnAround 79 = .ok (.iload_n 3, 1) := dqn_29 (k := 73) qh_cX0_turnAround rfl rfl
theorem dX0_turnAround_80 : decode cX0_turnAround 80 = .ok (.invokevirtual 120, 3) := dqn_182 (k := 70) qh_cX0_turnAround rfl rfl rfl
theorem dX0_turnAround_83 : decode cX0_turnAround 83 = .ok (.aload_n 0, 1) := dqn_42 (k := 69) qh_cX0_turnAround rfl rfl
theorem dX0_turnAround_84 : decode cX0_turnAround 84 = .ok (.getfield 12, 3) := dqn_180 (k := 66) qh_cX0_turnAround rfl rfl rfl
theorem dX0_turnAround_87 : decode cX0_turnAround 87 = .ok (.aload_n 0, 1) := dqn_42 (k := 65) qh_cX0_turnAround rfl rfl
theorem dX0_turnAround_88 : decode cX0_turnAround 88 = .ok (.getfield 21, 3) := dqn_180 (k := 62) qh_cX0_turnAround rfl rfl rfl
theorem dX0_turnAround_91 : decode cX0_turnAround 91 = .ok (.iconst (-1), 1) := dqn_2 (k := 61) qh_cX0_turnAround rfl rfl
theorem dX0_turnAround_92 : decode cX0_turnAround 92 = .ok (.invokevirtual 112, 3) := dqn_182 (k := 58) qh_cX0_turnAround rfl rfl rfl
theorem dX0_turnAround_95 : decode cX0_turnAround 95 = .ok (.lstore 4, 2) := dqn_55 (k := 56) qh_cX0_turnAround rfl rfl rfl
theorem dX0_turnAround_97 : decode cX0_turnAround 97 = .ok (.lload 4, 2) := dqn_22 (k := 54) qh_cX0_turnAround rfl rfl rfl
theorem dX0_turnAround_99 : decode cX0_turnAround 99 = .ok (.aload_n 0, 1) := dqn_42 (k := 53) qh_cX0_turnAround rfl rfl
theorem dX0_turnAround_100 : decode cX0_turnAround 100 = .ok (.getfield 32, 3) := dqn_180 (k := 50) qh_cX0_turnAround rfl rfl rfl
theorem dX0_turnAround_103 : decode cX0_turnAround 103 = .ok (.lcmp, 1) := dqn_148 (k := 49) qh_cX0_turnAround rfl rfl
theorem dX0_turnAround_104 : decode cX0_turnAround 104 = .ok (.ifCond .ge 19, 3) := dqn_156 (k := 46) (u := 19) qh_cX0_turnAround rfl rfl rfl (sg_p rfl rfl)
theorem dX0_turnAround_107 : decode cX0_turnAround 107 = .ok (.aload_n 0, 1) := dqn_42 (k := 45) qh_cX0_turnAround rfl rfl
theorem dX0_turnAround_108 : decode cX0_turnAround 108 = .ok (.iload_n 2, 1) := dqn_28 (k := 44) qh_cX0_turnAround rfl rfl
theorem dX0_turnAround_109 : decode cX0_turnAround 109 = .ok (.putfield 25, 3) := dqn_181 (k := 41) qh_cX0_turnAround rfl rfl rfl
theorem dX0_turnAround_112 : decode cX0_turnAround 112 = .ok (.aload_n 0, 1) := dqn_42 (k := 40) qh_cX0_turnAround rfl rfl
theorem dX0_turnAround_113 : decode cX0_turnAround 113 = .ok (.iload_n 3, 1) := dqn_29 (k := 39) qh_cX0_turnAround rfl rfl
theorem dX0_turnAround_114 : decode cX0_turnAround 114 = .ok (.putfield 29, 3) := dqn_181 (k := 36) qh_cX0_turnAround rfl rfl rfl
theorem dX0_turnAround_117 : decode cX0_turnAround 117 = .ok (.aload_n 0, 1) := dqn_42 (k := 35) qh_cX0_turnAround rfl rfl
theorem dX0_turnAround_118 : decode cX0_turnAround 118 = .ok (.lload 4, 2) := dqn_22 (k := 33) qh_cX0_turnAround rfl rfl rfl
theorem dX0_turnAround_120 : decode cX0_turnAround 120 = .ok (.putfield 32, 3) := dqn_181 (k := 30) qh_cX0_turnAround rfl rfl rfl
theorem dX0_turnAround_123 : decode cX0_turnAround 123 = .ok (.iinc 3 1, 3) := dqn_132 (k := 27) (u := 1) qh_cX0_turnAround rfl rfl rfl rfl (by decide)
theorem dX0_turnAround_126 : decode cX0_turnAround 126 = .ok (.goto (-81), 3) := dqn_167 (k := 24) (u := 65455) qh_cX0_turnAround rfl rfl rfl (sg_n (k := 81) rfl rfl rfl)
theorem dX0_turnAround_129 : decode cX0_turnAround 129 = .ok (.aload_n 0, 1) := dqn_42 (k := 23) qh_cX0_turnAround rfl rfl
theorem dX0_turnAround_130 : decode cX0_turnAround 130 = .ok (.getfield 21, 3) := dqn_180 (k := 20) qh_cX0_turnAround rfl rfl rfl
theorem dX0_turnAround_133 : decode cX0_turnAround 133 = .ok (.iload_n 2, 1) := dqn_28 (k := 19) qh_cX0_turnAround rfl rfl
theorem dX0_turnAround_134 : decode cX0_turnAround 134 = .ok (.bipush 8, 2) := dqn_16 (k := 17) (u := 8) qh_cX0_turnAround rfl rfl rfl (by decide)
theorem dX0_turnAround_136 : decode cX0_turnAround 136 = .ok (.aload_n 1, 1) := dqn_43 (k := 16) qh_cX0_turnAround rfl rfl
theorem dX0_turnAround_137 : decode cX0_turnAround 137 = .ok (.iload_n 2, 1) := dqn_28 (k := 15) qh_cX0_turnAround rfl rfl
theorem dX0_turnAround_138 : decode cX0_turnAround 138 = .ok (.bipush 8, 2) := dqn_16 (k := 13) (u := 8) qh_cX0_turnAround rfl rfl rfl (by decide)
theorem dX0_turnAround_140 : decode cX0_turnAround 140 = .ok (.invokevirtual 98, 3) := dqn_182 (k := 10) qh_cX0_turnAround rfl rfl rfl
theorem dX0_turnAround_143 : decode cX0_turnAround 143 = .ok (.invokevirtual 120, 3) := dqn_182 (k := 7) qh_cX0_turnAround rfl rfl rfl
theorem dX0_turnAround_146 : decode cX0_turnAround 146 = .ok (.iinc 2 1, 3) := dqn_132 (k := 4) (u := 1) qh_cX0_turnAround rfl rfl rfl rfl (by decide)
theorem dX0_turnAround_149 : decode cX0_turnAround 149 = .ok (.goto (-116), 3) := dqn_167 (k := 1) (u := 65420) qh_cX0_turnAround rfl rfl rfl (sg_n (k := 116) rfl rfl rfl)
theorem dX0_turnAround_152 : decode cX0_turnAround 152 = .ok (.return_, 1) := dqn_177 (k := 0) qh_cX0_turnAround rfl rfl
theorem dX0_takeOrder_0 : decode cX0_takeOrder 0 = .ok (.iconst 0, 1) := dqn_3 (k := 67) qh_cX0_takeOrder rfl rfl
theorem dX0_takeOrder_1 : decode cX0_takeOrder 1 = .ok (.istore_n 2, 1) := dqn_61 (k := 66) qh_cX0_takeOrder rfl rfl
theorem dX0_takeOrder_2 : decode cX0_takeOrder 2 = .ok (.iconst 0, 1) := dqn_3 (k := 65) qh_cX0_takeOrder rfl rfl
theorem dX0_takeOrder_3 : decode cX0_takeOrder 3 = .ok (.istore_n 3, 1) := dqn_62 (k := 64) qh_cX0_takeOrder rfl rfl
theorem dX0_takeOrder_4 : decode cX0_takeOrder 4 = .ok (.iload_n 3, 1) := dqn_29 (k := 63) qh_cX0_takeOrder rfl rfl
theorem dX0_takeOrder_5 : decode cX0_takeOrder 5 = .ok (.aload_n 0, 1) := dqn_42 (k := 62) qh_cX0_takeOrder rfl rfl
theorem dX0_takeOrder_6 : decode cX0_takeOrder 6 = .ok (.getfield 36, 3) := dqn_180 (k := 59) qh_cX0_takeOrder rfl rfl rfl
theorem dX0_takeOrder_9 : decode cX0_takeOrder 9 = .ok (.if_icmp .ge 41, 3) := dqn_162 (k := 56) (u := 41) qh_cX0_takeOrder rfl rfl rfl (sg_p rfl rfl)
theorem dX0_takeOrder_12 : decode cX0_takeOrder 12 = .ok (.aload_n 0, 1) := dqn_42 (k := 55) qh_cX0_takeOrder rfl rfl
theorem dX0_takeOrder_13 : decode cX0_takeOrder 13 = .ok (.getfield 46, 3) := dqn_180 (k := 52) qh_cX0_takeOrder rfl rfl rfl
theorem dX0_takeOrder_16 : decode cX0_takeOrder 16 = .ok (.iload_n 3, 1) := dqn_29 (k := 51) qh_cX0_takeOrder rfl rfl
theorem dX0_takeOrder_17 : decode cX0_takeOrder 17 = .ok (.iload_n 1, 1) := dqn_27 (k := 50) qh_cX0_takeOrder rfl rfl
theorem dX0_takeOrder_18 : decode cX0_takeOrder 18 = .ok (.iconst 2, 1) := dqn_5 (k := 49) qh_cX0_takeOrder rfl rfl
theorem dX0_takeOrder_19 : decode cX0_takeOrder 19 = .ok (.aload_n 0, 1) := dqn_42 (k := 48) qh_cX0_takeOrder rfl rfl
theorem dX0_takeOrder_20 : decode cX0_takeOrder 20 = .ok (.getfield 36, 3) := dqn_180 (k := 45) qh_cX0_takeOrder rfl rfl rfl
theorem dX0_takeOrder_23 : decode cX0_takeOrder 23 = .ok (.iconst 1, 1) := dqn_4 (k := 44) qh_cX0_takeOrder rfl rfl
theorem dX0_takeOrder_24 : decode cX0_takeOrder 24 = .ok (.isub, 1) := dqn_100 (k := 43) qh_cX0_takeOrder rfl rfl
theorem dX0_takeOrder_25 : decode cX0_takeOrder 25 = .ok (.iload_n 3, 1) := dqn_29 (k := 42) qh_cX0_takeOrder rfl rfl
theorem dX0_takeOrder_26 : decode cX0_takeOrder 26 = .ok (.isub, 1) := dqn_100 (k := 41) qh_cX0_takeOrder rfl rfl
theorem dX0_takeOrder_27 : decode cX0_takeOrder 27 = .ok (.imul, 1) := dqn_104 (k := 40) qh_cX0_takeOrder rfl rfl
theorem dX0_takeOrder_28 : decode cX0_takeOrder 28 = .ok (.ishr, 1) := dqn_122 (k := 39) qh_cX0_takeOrder rfl rfl
theorem dX0_takeOrder_29 : decode cX0_takeOrder 29 = .ok (.iconst 3, 1) := dqn_6 (k := 38) qh_cX0_takeOrder rfl rfl
theorem dX0_takeOrder_30 : decode cX0_takeOrder 30 = .ok (.iand, 1) := dqn_126 (k := 37) qh_cX0_takeOrder rfl rfl
theorem dX0_takeOrder_31 : decode cX0_takeOrder 31 = .ok (.iastore, 1) := dqn_79 (k := 36) qh_cX0_takeOrder rfl rfl
theorem dX0_takeOrder_32 : decode cX0_takeOrder 32 = .ok (.iload_n 2, 1) := dqn_28 (k := 35) qh_cX0_takeOrder rfl rfl
theorem dX0_takeOrder_33 : decode cX0_takeOrder 33 = .ok (.aload_n 0, 1) := dqn_42 (k := 34) qh_cX0_takeOrder rfl rfl
theorem dX0_takeOrder_34 : decode cX0_takeOrder 34 = .ok (.getfield 46, 3) := dqn_180 (k := 31) qh_cX0_takeOrder rfl rfl rfl
theorem dX0_takeOrder_37 : decode cX0_takeOrder 37 = .ok (.iload_n 3, 1) := dqn_29 (k := 30) qh_cX0_takeOrder rfl rfl
theorem dX0_takeOrder_38 : decode cX0_takeOrder 38 = .ok (.iaload, 1) := dqn_46 (k := 29) qh_cX0_takeOrder rfl rfl
theorem dX0_takeOrder_39 : decode cX0_takeOrder 39 = .ok (.invokestatic 88, 3) := dqn_184 (k := 26) qh_cX0_takeOrder rfl rfl rfl
theorem dX0_takeOrder_42 : decode cX0_takeOrder 42 = .ok (.ior, 1) := dqn_128 (k := 25) qh_cX0_takeOrder rfl rfl
theorem dX0_takeOrder_43 : decode cX0_takeOrder 43 = .ok (.istore_n 2, 1) := dqn_61 (k := 24) qh_cX0_takeOrder rfl rfl
theorem dX0_takeOrder_44 : decode cX0_takeOrder 44 = .ok (.iinc 3 1, 3) := dqn_132 (k := 21) (u := 1) qh_cX0_takeOrder rfl rfl rfl rfl (by decide)
theorem dX0_takeOrder_47 : decode cX0_takeOrder 47 = .ok (.goto (-43), 3) := dqn_167 (k := 18) (u := 65493) qh_cX0_takeOrder rfl rfl rfl (sg_n (k := 43) rfl rfl rfl)
theorem dX0_takeOrder_50 : decode cX0_takeOrder 50 = .ok (.iload_n 2, 1) := dqn_28 (k := 17) qh_cX0_takeOrder rfl rfl
theorem dX0_takeOrder_51 : decode cX0_takeOrder 51 = .ok (.iconst 1, 1) := dqn_4 (k := 16) qh_cX0_takeOrder rfl rfl
theorem dX0_takeOrder_52 : decode cX0_takeOrder 52 = .ok (.aload_n 0, 1) := dqn_42 (k := 15) qh_cX0_takeOrder rfl rfl
theorem dX0_takeOrder_53 : decode cX0_takeOrder 53 = .ok (.getfield 36, 3) := dqn_180 (k := 12) qh_cX0_takeOrder rfl rfl rfl
theorem dX0_takeOrder_56 : decode cX0_takeOrder 56 = .ok (.ishl, 1) := dqn_120 (k := 11) qh_cX0_takeOrder rfl rfl
theorem dX0_takeOrder_57 : decode cX0_takeOrder 57 = .ok (.iconst 1, 1) := dqn_4 (k := 10) qh_cX0_takeOrder rfl rfl
theorem dX0_takeOrder_58 : decode cX0_takeOrder 58 = .ok (.isub, 1) := dqn_100 (k := 9) qh_cX0_takeOrder rfl rfl
theorem dX0_takeOrder_59 : decode cX0_takeOrder 59 = .ok (.if_icmp .ne 7, 3) := dqn_160 (k := 6) (u := 7) qh_cX0_takeOrder rfl rfl rfl (sg_p rfl rfl)
theorem dX0_takeOrder_62 : decode cX0_takeOrder 62 = .ok (.iconst 1, 1) := dqn_4 (k := 5) qh_cX0_takeOrder rfl rfl
theorem dX0_takeOrder_63 : decode cX0_takeOrder 63 = .ok (.goto 4, 3) := dqn_167 (k := 2) (u := 4) qh_cX0_takeOrder rfl rfl rfl (sg_p rfl rfl)
theorem dX0_takeOrder_66 : decode cX0_takeOrder 66 = .ok (.iconst 0, 1) := dqn_3 (k := 1) qh_cX0_takeOrder rfl rfl
theorem dX0_takeOrder_67 : decode cX0_takeOrder 67 = .ok (.ireturn, 1) := dqn_172 (k := 0) qh_cX0_takeOrder rfl rfl
theorem dX0_mayOfTried_0 : decode cX0_mayOfTried 0 = .ok (.lconst 0, 1) := dqn_9 (k := 45) qh_cX0_mayOfTried rfl rfl
theorem dX0_mayOfTried_1 : decode cX0_mayOfTried 1 = .ok (.lstore_n 1, 1) := dqn_64 (k := 44) qh_cX0_mayOfTried rfl rfl
theorem dX0_mayOfTried_2 : decode cX0_mayOfTried 2 = .ok (.iconst 0, 1) := dqn_3 (k := 43) qh_cX0_mayOfTried rfl rfl
theorem dX0_mayOfTried_3 : decode cX0_mayOfTried 3 = .ok (.istore_n 3, 1) := dqn_62 (k := 42) qh_cX0_mayOfTried rfl rfl
theorem dX0_mayOfTried_4 : decode cX0_mayOfTried 4 = .ok (.iconst 0, 1) := dqn_3 (k := 41) qh_cX0_mayOfTried rfl rfl
theorem dX0_mayOfTried_5 : decode cX0_mayOfTried 5 = .ok (.istore 4, 2) := dqn_54 (k := 39) qh_cX0_mayOfTried rfl rfl rfl
theorem dX0_mayOfTried_7 : decode cX0_mayOfTried 7 = .ok (.iload 4, 2) := dqn_21 (k := 37) qh_cX0_mayOfTried rfl rfl rfl
theorem dX0_mayOfTried_9 : decode cX0_mayOfTried 9 = .ok (.aload_n 0, 1) := dqn_42 (k := 36) qh_cX0_mayOfTried rfl rfl
theorem dX0_mayOfTried_10 : decode cX0_mayOfTried 10 = .ok (.getfield 36, 3) := dqn_180 (k := 33) qh_cX0_mayOfTried rfl rfl rfl
theorem dX0_mayOfTried_13 : decode cX0_mayOfTried 13 = .ok (.if_icmp .ge 31, 3) := dqn_162 (k := 30) (u := 31) qh_cX0_mayOfTried rfl rfl rfl (sg_p rfl rfl)
theorem dX0_mayOfTried_16 : decode cX0_mayOfTried 16 = .ok (.iload_n 3, 1) := dqn_29 (k := 29) qh_cX0_mayOfTried rfl rfl
theorem dX0_mayOfTried_17 : decode cX0_mayOfTried 17 = .ok (.aload_n 0, 1) := dqn_42 (k := 28) qh_cX0_mayOfTried rfl rfl
theorem dX0_mayOfTried_18 : decode cX0_mayOfTried 18 = .ok (.getfield 46, 3) := dqn_180 (k := 25) qh_cX0_mayOfTried rfl rfl rfl
theorem dX0_mayOfTried_21 : decode cX0_mayOfTried 21 = .ok (.iload 4, 2) := dqn_21 (k := 23) qh_cX0_mayOfTried rfl rfl rfl
theorem dX0_mayOfTried_23 : decode cX0_mayOfTried 23 = .ok (.iaload, 1) := dqn_46 (k := 22) qh_cX0_mayOfTried rfl rfl
theorem dX0_mayOfTried_24 : decode cX0_mayOfTried 24 = .ok (.invokestatic 88, 3) := dqn_184 (k := 19) qh_cX0_mayOfTried rfl rfl rfl
theorem dX0_mayOfTried_27 : decode cX0_mayOfTried 27 = .ok (.ior, 1) := dqn_128 (k := 18) qh_cX0_mayOfTried rfl rfl
theorem dX0_mayOfTried_28 : decode cX0_mayOfTried 28 = .ok (.istore_n 3, 1) := dqn_62 (k := 17) qh_cX0_mayOfTried rfl rfl
theorem dX0_mayOfTried_29 : decode cX0_mayOfTried 29 = .ok (.lload_n 1, 1) := dqn_31 (k := 16) qh_cX0_mayOfTried rfl rfl
theorem dX0_mayOfTried_30 : decode cX0_mayOfTried 30 = .ok (.aload_n 0, 1) := dqn_42 (k := 15) qh_cX0_mayOfTried rfl rfl
theorem dX0_mayOfTried_31 : decode cX0_mayOfTried 31 = .ok (.getfield 49, 3) := dqn_180 (k := 12) qh_cX0_mayOfTried rfl rfl rfl
theorem dX0_mayOfTried_34 : decode cX0_mayOfTried 34 = .ok (.iload_n 3, 1) := dqn_29 (k := 11) qh_cX0_mayOfTried rfl rfl
theorem dX0_mayOfTried_35 : decode cX0_mayOfTried 35 = .ok (.laload, 1) := dqn_47 (k := 10) qh_cX0_mayOfTried rfl rfl
theorem dX0_mayOfTried_36 : decode cX0_mayOfTried 36 = .ok (.ladd, 1) := dqn_97 (k := 9) qh_cX0_mayOfTried rfl rfl
theorem dX0_mayOfTried_37 : decode cX0_mayOfTried 37 = .ok (.lstore_n 1, 1) := dqn_64 (k := 8) qh_cX0_mayOfTried rfl rfl
theorem dX0_mayOfTried_38 : decode cX0_mayOfTried 38 = .ok (.iinc 4 1, 3) := dqn_132 (k := 5) (u := 1) qh_cX0_mayOfTried rfl rfl rfl rfl (by decide)
theorem dX0_mayOfTried_41 : decode cX0_mayOfTried 41 = .ok (.goto (-34), 3) := dqn_167 (k := 2) (u := 65502) qh_cX0_mayOfTried rfl rfl rfl (sg_n (k := 34) rfl rfl rfl)
theorem dX0_mayOfTried_44 : decode cX0_mayOfTried 44 = .ok (.lload_n 1, 1) := dqn_31 (k := 1) qh_cX0_mayOfTried rfl rfl
theorem dX0_mayOfTried_45 : decode cX0_mayOfTried 45 = .ok (.lreturn, 1) := dqn_173 (k := 0) qh_cX0_mayOfTried rfl rfl
theorem dX0_downwards_0 : decode cX0_downwards 0 = .ok (.iconst 0, 1) := dqn_3 (k := 34) qh_cX0_downwards rfl rfl
theorem dX0_downwards_1 : decode cX0_downwards 1 = .ok (.istore_n 1, 1) := dqn_60 (k := 33) qh_cX0_downwards rfl rfl
theorem dX0_downwards_2 : decode cX0_downwards 2 = .ok (.iload_n 1, 1) := dqn_27 (k := 32) qh_cX0_downwards rfl rfl
theorem dX0_downwards_3 : decode cX0_downwards 3 = .ok (.aload_n 0, 1) := dqn_42 (k := 31) qh_cX0_downwards rfl rfl
theorem dX0_downwards_4 : decode cX0_downwards 4 = .ok (.getfield 36, 3) := dqn_180 (k := 28) qh_cX0_downwards rfl rfl rfl
theorem dX0_downwards_7 : decode cX0_downwards 7 = .ok (.if_icmp .ge 23, 3) := dqn_162 (k := 25) (u := 23) qh_cX0_downwards rfl rfl rfl (sg_p rfl rfl)
theorem dX0_downwards_10 : decode cX0_downwards 10 = .ok (.aload_n 0, 1) := dqn_42 (k := 24) qh_cX0_downwards rfl rfl
theorem dX0_downwards_11 : decode cX0_downwards 11 = .ok (.getfield 46, 3) := dqn_180 (k := 21) qh_cX0_downwards rfl rfl rfl
theorem dX0_downwards_14 : decode cX0_downwards 14 = .ok (.iload_n 1, 1) := dqn_27 (k := 20) qh_cX0_downwards rfl rfl
theorem dX0_downwards_15 : decode cX0_downwards 15 = .ok (.aload_n 0, 1) := dqn_42 (k := 19) qh_cX0_downwards rfl rfl
theorem dX0_downwards_16 : decode cX0_downwards 16 = .ok (.getfield 36, 3) := dqn_180 (k := 16) qh_cX0_downwards rfl rfl rfl
theorem dX0_downwards_19 : decode cX0_downwards 19 = .ok (.iconst 1, 1) := dqn_4 (k := 15) qh_cX0_downwards rfl rfl
theorem dX0_downwards_20 : decode cX0_downwards 20 = .ok (.isub, 1) := dqn_100 (k := 14) qh_cX0_downwards rfl rfl
theorem dX0_downwards_21 : decode cX0_downwards 21 = .ok (.iload_n 1, 1) := dqn_27 (k := 13) qh_cX0_downwards rfl rfl
theorem dX0_downwards_22 : decode cX0_downwards 22 = .ok (.isub, 1) := dqn_100 (k := 12) qh_cX0_downwards rfl rfl
theorem dX0_downwards_23 : decode cX0_downwards 23 = .ok (.iastore, 1) := dqn_79 (k := 11) qh_cX0_downwards rfl rfl
theorem dX0_downwards_24 : decode cX0_downwards 24 = .ok (.iinc 1 1, 3) := dqn_132 (k := 8) (u := 1) qh_cX0_downwards rfl rfl rfl rfl (by decide)
theorem dX0_downwards_27 : decode cX0_downwards 27 = .ok (.goto (-25), 3) := dqn_167 (k := 5) (u := 65511) qh_cX0_downwards rfl rfl rfl (sg_n (k := 25) rfl rfl rfl)
theorem dX0_downwards_30 : decode cX0_downwards 30 = .ok (.aload_n 0, 1) := dqn_42 (k := 4) qh_cX0_downwards rfl rfl
theorem dX0_downwards_31 : decode cX0_downwards 31 = .ok (.invokevirtual 140, 3) := dqn_182 (k := 1) qh_cX0_downwards rfl rfl rfl
theorem dX0_downwards_34 : decode cX0_downwards 34 = .ok (.lreturn, 1) := dqn_173 (k := 0) qh_cX0_downwards rfl rfl
theorem dX0_findOrder_0 : decode cX0_findOrder 0 = .ok (.iconst 0, 1) := dqn_3 (k := 74) qh_cX0_findOrder rfl rfl
theorem dX0_findOrder_1 : decode cX0_findOrder 1 = .ok (.istore_n 1, 1) := dqn_60 (k := 73) qh_cX0_findOrder rfl rfl
theorem dX0_findOrder_2 : decode cX0_findOrder 2 = .ok (.iconst 1, 1) := dqn_4 (k := 72) qh_cX0_findOrder rfl rfl
theorem dX0_findOrder_3 : decode cX0_findOrder 3 = .ok (.iconst 2, 1) := dqn_5 (k := 71) qh_cX0_findOrder rfl rfl
theorem dX0_findOrder_4 : decode cX0_findOrder 4 = .ok (.aload_n 0, 1) := dqn_42 (k := 70) qh_cX0_findOrder rfl rfl
theorem dX0_findOrder_5 : decode cX0_findOrder 5 = .ok (.getfield 36, 3) := dqn_180 (k := 67) qh_cX0_findOrder rfl rfl rfl
theorem dX0_findOrder_8 : decode cX0_findOrder 8 = .ok (.imul, 1) := dqn_104 (k := 66) qh_cX0_findOrder rfl rfl
theorem dX0_findOrder_9 : decode cX0_findOrder 9 = .ok (.ishl, 1) := dqn_120 (k := 65) qh_cX0_findOrder rfl rfl
theorem dX0_findOrder_10 : decode cX0_findOrder 10 = .ok (.istore_n 2, 1) := dqn_61 (k := 64) qh_cX0_findOrder rfl rfl
theorem dX0_findOrder_11 : decode cX0_findOrder 11 = .ok (.iconst 0, 1) := dqn_3 (k := 63) qh_cX0_findOrder rfl rfl
theorem dX0_findOrder_12 : decode cX0_findOrder 12 = .ok (.istore_n 3, 1) := dqn_62 (k := 62) qh_cX0_findOrder rfl rfl
theorem dX0_findOrder_13 : decode cX0_findOrder 13 = .ok (.iload_n 3, 1) := dqn_29 (k := 61) qh_cX0_findOrder rfl rfl
theorem dX0_findOrder_14 : decode cX0_findOrder 14 = .ok (.iload_n 2, 1) := dqn_28 (k := 60) qh_cX0_findOrder rfl rfl
theorem dX0_findOrder_15 : decode cX0_findOrder 15 = .ok (.if_icmp .ge 59, 3) := dqn_162 (k := 57) (u := 59) qh_cX0_findOrder rfl rfl rfl (sg_p rfl rfl)
theorem dX0_findOrder_18 : decode cX0_findOrder 18 = .ok (.aload_n 0, 1) := dqn_42 (k := 56) qh_cX0_findOrder rfl rfl
theorem dX0_findOrder_19 : decode cX0_findOrder 19 = .ok (.iload_n 3, 1) := dqn_29 (k := 55) qh_cX0_findOrder rfl rfl
theorem dX0_findOrder_20 : decode cX0_findOrder 20 = .ok (.invokevirtual 137, 3) := dqn_182 (k := 52) qh_cX0_findOrder rfl rfl rfl
theorem dX0_findOrder_23 : decode cX0_findOrder 23 = .ok (.ifCond .eq 45, 3) := dqn_153 (k := 49) (u := 45) qh_cX0_findOrder rfl rfl rfl (sg_p rfl rfl)
theorem dX0_findOrder_26 : decode cX0_findOrder 26 = .ok (.aload_n 0, 1) := dqn_42 (k := 48) qh_cX0_findOrder rfl rfl
theorem dX0_findOrder_27 : decode cX0_findOrder 27 = .ok (.invokevirtual 140, 3) := dqn_182 (k := 45) qh_cX0_findOrder rfl rfl rfl
theorem dX0_findOrder_30 : decode cX0_findOrder 30 = .ok (.lstore 4, 2) := dqn_55 (k := 43) qh_cX0_findOrder rfl rfl rfl
theorem dX0_findOrder_32 : decode cX0_findOrder 32 = .ok (.iload_n 1, 1) := dqn_27 (k := 42) qh_cX0_findOrder rfl rfl
theorem dX0_findOrder_33 : decode cX0_findOrder 33 = .ok (.ifCond .eq 13, 3) := dqn_153 (k := 39) (u := 13) qh_cX0_findOrder rfl rfl rfl (sg_p rfl rfl)
theorem dX0_findOrder_36 : decode cX0_findOrder 36 = .ok (.lload 4, 2) := dqn_22 (k := 37) qh_cX0_findOrder rfl rfl rfl
theorem dX0_findOrder_38 : decode cX0_findOrder 38 = .ok (.aload_n 0, 1) := dqn_42 (k := 36) qh_cX0_findOrder rfl rfl
theorem dX0_findOrder_39 : decode cX0_findOrder 39 = .ok (.getfield 32, 3) := dqn_180 (k := 33) qh_cX0_findOrder rfl rfl rfl
theorem dX0_findOrder_42 : decode cX0_findOrder 42 = .ok (.lcmp, 1) := dqn_148 (k := 32) qh_cX0_findOrder rfl rfl
theorem dX0_findOrder_43 : decode cX0_findOrder 43 = .ok (.ifCond .ge 25, 3) := dqn_156 (k := 29) (u := 25) qh_cX0_findOrder rfl rfl rfl (sg_p rfl rfl)
theorem dX0_findOrder_46 : decode cX0_findOrder 46 = .ok (.iconst 1, 1) := dqn_4 (k := 28) qh_cX0_findOrder rfl rfl
theorem dX0_findOrder_47 : decode cX0_findOrder 47 = .ok (.istore_n 1, 1) := dqn_60 (k := 27) qh_cX0_findOrder rfl rfl
theorem dX0_findOrder_48 : decode cX0_findOrder 48 = .ok (.aload_n 0, 1) := dqn_42 (k := 26) qh_cX0_findOrder rfl rfl
theorem dX0_findOrder_49 : decode cX0_findOrder 49 = .ok (.lload 4, 2) := dqn_22 (k := 24) qh_cX0_findOrder rfl rfl rfl
theorem dX0_findOrder_51 : decode cX0_findOrder 51 = .ok (.putfield 32, 3) := dqn_181 (k := 21) qh_cX0_findOrder rfl rfl rfl
theorem dX0_findOrder_54 : decode cX0_findOrder 54 = .ok (.aload_n 0, 1) := dqn_42 (k := 20) qh_cX0_findOrder rfl rfl
theorem dX0_findOrder_55 : decode cX0_findOrder 55 = .ok (.getfield 46, 3) := dqn_180 (k := 17) qh_cX0_findOrder rfl rfl rfl
theorem dX0_findOrder_58 : decode cX0_findOrder 58 = .ok (.iconst 0, 1) := dqn_3 (k := 16) qh_cX0_findOrder rfl rfl
theorem dX0_findOrder_59 : decode cX0_findOrder 59 = .ok (.aload_n 0, 1) := dqn_42 (k := 15) qh_cX0_findOrder rfl rfl
theorem dX0_findOrder_60 : decode cX0_findOrder 60 = .ok (.getfield 43, 3) := dqn_180 (k := 12) qh_cX0_findOrder rfl rfl rfl
theorem dX0_findOrder_63 : decode cX0_findOrder 63 = .ok (.iconst 0, 1) := dqn_3 (k := 11) qh_cX0_findOrder rfl rfl
theorem dX0_findOrder_64 : decode cX0_findOrder 64 = .ok (.iconst 4, 1) := dqn_7 (k := 10) qh_cX0_findOrder rfl rfl
theorem dX0_findOrder_65 : decode cX0_findOrder 65 = .ok (.invokestatic 144, 3) := dqn_184 (k := 7) qh_cX0_findOrder rfl rfl rfl
theorem dX0_findOrder_68 : decode cX0_findOrder 68 = .ok (.iinc 3 1, 3) := dqn_132 (k := 4) (u := 1) qh_cX0_findOrder rfl rfl rfl rfl (by decide)
theorem dX0_findOrder_71 : decode cX0_findOrder 71 = .ok (.goto (-58), 3) := dqn_167 (k := 1) (u := 65478) qh_cX0_findOrder rfl rfl rfl (sg_n (k := 58) rfl rfl rfl)
theorem dX0_findOrder_74 : decode cX0_findOrder 74 = .ok (.return_, 1) := dqn_177 (k := 0) qh_cX0_findOrder rfl rfl
theorem dX0_filledAt_0 : decode cX0_filledAt 0 = .ok (.iload_n 1, 1) := dqn_27 (k := 27) qh_cX0_filledAt rfl rfl
theorem dX0_filledAt_1 : decode cX0_filledAt 1 = .ok (.ifCond .lt 25, 3) := dqn_155 (k := 24) (u := 25) qh_cX0_filledAt rfl rfl rfl (sg_p rfl rfl)
theorem dX0_filledAt_4 : decode cX0_filledAt 4 = .ok (.iload_n 1, 1) := dqn_27 (k := 23) qh_cX0_filledAt rfl rfl
theorem dX0_filledAt_5 : decode cX0_filledAt 5 = .ok (.aload_n 0, 1) := dqn_42 (k := 22) qh_cX0_filledAt rfl rfl
theorem dX0_filledAt_6 : decode cX0_filledAt 6 = .ok (.getfield 36, 3) := dqn_180 (k := 19) qh_cX0_filledAt rfl rfl rfl
theorem dX0_filledAt_9 : decode cX0_filledAt 9 = .ok (.if_icmp .ge 17, 3) := dqn_162 (k := 16) (u := 17) qh_cX0_filledAt rfl rfl rfl (sg_p rfl rfl)
theorem dX0_filledAt_12 : decode cX0_filledAt 12 = .ok (.aload_n 0, 1) := dqn_42 (k := 15) qh_cX0_filledAt rfl rfl
theorem dX0_filledAt_13 : decode cX0_filledAt 13 = .ok (.getfield 39, 3) := dqn_180 (k := 12) qh_cX0_filledAt rfl rfl rfl
theorem dX0_filledAt_16 : decode cX0_filledAt 16 = .ok (.aload_n 0, 1) := dqn_42 (k := 11) qh_cX0_filledAt rfl rfl
theorem dX0_filledAt_17 : decode cX0_filledAt 17 = .ok (.getfield 43, 3) := dqn_180 (k := 8) qh_cX0_filledAt rfl rfl rfl
theorem dX0_filledAt_20 : decode cX0_filledAt 20 = .ok (.iload_n 1, 1) := dqn_27 (k := 7) qh_cX0_filledAt rfl rfl
theorem dX0_filledAt_21 : decode cX0_filledAt 21 = .ok (.iaload, 1) := dqn_46 (k := 6) qh_cX0_filledAt rfl rfl
theorem dX0_filledAt_22 : decode cX0_filledAt 22 = .ok (.iaload, 1) := dqn_46 (k := 5) qh_cX0_filledAt rfl rfl
theorem dX0_filledAt_23 : decode cX0_filledAt 23 = .ok (.goto 4, 3) := dqn_167 (k := 2) (u := 4) qh_cX0_filledAt rfl rfl rfl (sg_p rfl rfl)
theorem dX0_filledAt_26 : decode cX0_filledAt 26 = .ok (.iconst (-1), 1) := dqn_2 (k := 1) qh_cX0_filledAt rfl rfl
theorem dX0_filledAt_27 : decode cX0_filledAt 27 = .ok (.ireturn, 1) := dqn_172 (k := 0) qh_cX0_filledAt rfl rfl
theorem dX0_lookAtFilled_0 : decode cX0_lookAtFilled 0 = .ok (.aload_n 0, 1) := dqn_42 (k := 177) qh_cX0_lookAtFilled rfl rfl
theorem dX0_lookAtFilled_1 : decode cX0_lookAtFilled 1 = .ok (.iconst 0, 1) := dqn_3 (k := 176) qh_cX0_lookAtFilled rfl rfl
theorem dX0_lookAtFilled_2 : decode cX0_lookAtFilled 2 = .ok (.putfield 36, 3) := dqn_181 (k := 173) qh_cX0_lookAtFilled rfl rfl rfl
theorem dX0_lookAtFilled_5 : decode cX0_lookAtFilled 5 = .ok (.iconst 0, 1) := dqn_3 (k := 172) qh_cX0_lookAtFilled rfl rfl
theorem dX0_lookAtFilled_6 : decode cX0_lookAtFilled 6 = .ok (.istore_n 3, 1) := dqn_62 (k := 171) qh_cX0_lookAtFilled rfl rfl
theorem dX0_lookAtFilled_7 : decode cX0_lookAtFilled 7 = .ok (.iload_n 3, 1) := dqn_29 (k := 170) qh_cX0_lookAtFilled rfl rfl
theorem dX0_lookAtFilled_8 : decode cX0_lookAtFilled 8 = .ok (.aload_n 1, 1) := dqn_43 (k := 169) qh_cX0_lookAtFilled rfl rfl
theorem dX0_lookAtFilled_9 : decode cX0_lookAtFilled 9 = .ok (.getfield 91, 3) := dqn_180 (k := 166) qh_cX0_lookAtFilled rfl rfl rfl
theorem dX0_lookAtFilled_12 : decode cX0_lookAtFilled 12 = .ok (.if_icmp .ge 45, 3) := dqn_162 (k := 163) (u := 45) qh_cX0_lookAtFilled rfl rfl rfl (sg_p rfl rfl)
theorem dX0_lookAtFilled_15 : decode cX0_lookAtFilled 15 = .ok (.iload_n 2, 1) := dqn_28 (k := 162) qh_cX0_lookAtFilled rfl rfl
theorem dX0_lookAtFilled_16 : decode cX0_lookAtFilled 16 = .ok (.iload_n 3, 1) := dqn_29 (k := 161) qh_cX0_lookAtFilled rfl rfl
theorem dX0_lookAtFilled_17 : decode cX0_lookAtFilled 17 = .ok (.invokestatic 94, 3) := dqn_184 (k := 158) qh_cX0_lookAtFilled rfl rfl rfl
theorem dX0_lookAtFilled_20 : decode cX0_lookAtFilled 20 = .ok (.ifCond .eq 31, 3) := dqn_153 (k := 155) (u := 31) qh_cX0_lookAtFilled rfl rfl rfl (sg_p rfl rfl)
theorem dX0_lookAtFilled_23 : decode cX0_lookAtFilled 23 = .ok (.aload_n 0, 1) := dqn_42 (k := 154) qh_cX0_lookAtFilled rfl rfl
theorem dX0_lookAtFilled_24 : decode cX0_lookAtFilled 24 = .ok (.getfield 36, 3) := dqn_180 (k := 151) qh_cX0_lookAtFilled rfl rfl rfl
theorem dX0_lookAtFilled_27 : decode cX0_lookAtFilled 27 = .ok (.iconst 4, 1) := dqn_7 (k := 150) qh_cX0_lookAtFilled rfl rfl
theorem dX0_lookAtFilled_28 : decode cX0_lookAtFilled 28 = .ok (.if_icmp .ge 23, 3) := dqn_162 (k := 147) (u := 23) qh_cX0_lookAtFilled rfl rfl rfl (sg_p rfl rfl)
theorem dX0_lookAtFilled_31 : decode cX0_lookAtFilled 31 = .ok (.aload_n 0, 1) := dqn_42 (k := 146) qh_cX0_lookAtFilled rfl rfl
theorem dX0_lookAtFilled_32 : decode cX0_lookAtFilled 32 = .ok (.getfield 39, 3) := dqn_180 (k := 143) qh_cX0_lookAtFilled rfl rfl rfl
theorem dX0_lookAtFilled_35 : decode cX0_lookAtFilled 35 = .ok (.aload_n 0, 1) := dqn_42 (k := 142) qh_cX0_lookAtFilled rfl rfl
theorem dX0_lookAtFilled_36 : decode cX0_lookAtFilled 36 = .ok (.getfield 36, 3) := dqn_180 (k := 139) qh_cX0_lookAtFilled rfl rfl rfl
theorem dX0_lookAtFilled_39 : decode cX0_lookAtFilled 39 = .ok (.iload_n 3, 1) := dqn_29 (k := 138) qh_cX0_lookAtFilled rfl rfl
theorem dX0_lookAtFilled_40 : decode cX0_lookAtFilled 40 = .ok (.iastore, 1) := dqn_79 (k := 137) qh_cX0_lookAtFilled rfl rfl
theorem dX0_lookAtFilled_41 : decode cX0_lookAtFilled 41 = .ok (.aload_n 0, 1) := dqn_42 (k := 136) qh_cX0_lookAtFilled rfl rfl
theorem dX0_lookAtFilled_42 : decode cX0_lookAtFilled 42 = .ok (.dup, 1) := dqn_89 (k := 135) qh_cX0_lookAtFilled rfl rfl
theorem dX0_lookAtFilled_43 : decode cX0_lookAtFilled 43 = .ok (.getfield 36, 3) := dqn_180 (k := 132) qh_cX0_lookAtFilled rfl rfl rfl
theorem dX0_lookAtFilled_46 : decode cX0_lookAtFilled 46 = .ok (.iconst 1, 1) := dqn_4 (k := 131) qh_cX0_lookAtFilled rfl rfl
theorem dX0_lookAtFilled_47 : decode cX0_lookAtFilled 47 = .ok (.iadd, 1) := dqn_96 (k := 130) qh_cX0_lookAtFilled rfl rfl
theorem dX0_lookAtFilled_48 : decode cX0_lookAtFilled 48 = .ok (.putfield 36, 3) := dqn_181 (k := 127) qh_cX0_lookAtFilled rfl rfl rfl
theorem dX0_lookAtFilled_51 : decode cX0_lookAtFilled 51 = .ok (.iinc 3 1, 3) := dqn_132 (k := 124) (u := 1) qh_cX0_lookAtFilled rfl rfl rfl rfl (by decide)
theorem dX0_lookAtFilled_54 : decode cX0_lookAtFilled 54 = .ok (.goto (-47), 3) := dqn_167 (k := 121) (u := 65489) qh_cX0_lookAtFilled rfl rfl rfl (sg_n (k := 47) rfl rfl rfl)
theorem dX0_lookAtFilled_57 : decode cX0_lookAtFilled 57 = .ok (.iconst 1, 1) := dqn_4 (k := 120) qh_cX0_lookAtFilled rfl rfl
theorem dX0_lookAtFilled_58 : decode cX0_lookAtFilled 58 = .ok (.istore_n 3, 1) := dqn_62 (k := 119) qh_cX0_lookAtFilled rfl rfl
theorem dX0_lookAtFilled_59 : decode cX0_lookAtFilled 59 = .ok (.iload_n 3, 1) := dqn_29 (k := 118) qh_cX0_lookAtFilled rfl rfl
theorem dX0_lookAtFilled_60 : decode cX0_lookAtFilled 60 = .ok (.iconst 1, 1) := dqn_4 (k := 117) qh_cX0_lookAtFilled rfl rfl
theorem dX0_lookAtFilled_61 : decode cX0_lookAtFilled 61 = .ok (.aload_n 0, 1) := dqn_42 (k := 116) qh_cX0_lookAtFilled rfl rfl
theorem dX0_lookAtFilled_62 : decode cX0_lookAtFilled 62 = .ok (.getfield 36, 3) := dqn_180 (k := 113) qh_cX0_lookAtFilled rfl rfl rfl
theorem dX0_lookAtFilled_65 : decode cX0_lookAtFilled 65 = .ok (.ishl, 1) := dqn_120 (k := 112) qh_cX0_lookAtFilled rfl rfl
theorem dX0_lookAtFilled_66 : decode cX0_lookAtFilled 66 = .ok (.if_icmp .ge 111, 3) := dqn_162 (k := 109) (u := 111) qh_cX0_lookAtFilled rfl rfl rfl (sg_p rfl rfl)
theorem dX0_lookAtFilled_69 : decode cX0_lookAtFilled 69 = .ok (.aload_n 0, 1) := dqn_42 (k := 108) qh_cX0_lookAtFilled rfl rfl
theorem dX0_lookAtFilled_70 : decode cX0_lookAtFilled 70 = .ok (.getfield 21, 3) := dqn_180 (k := 105) qh_cX0_lookAtFilled rfl rfl rfl
theorem dX0_lookAtFilled_73 : decode cX0_lookAtFilled 73 = .ok (.aload_n 1, 1) := dqn_43 (k := 104) qh_cX0_lookAtFilled rfl rfl
theorem dX0_lookAtFilled_74 : decode cX0_lookAtFilled 74 = .ok (.invokevirtual 116, 3) := dqn_182 (k := 101) qh_cX0_lookAtFilled rfl rfl rfl
theorem dX0_lookAtFilled_77 : decode cX0_lookAtFilled 77 = .ok (.aload_n 0, 1) := dqn_42 (k := 100) qh_cX0_lookAtFilled rfl rfl
theorem dX0_lookAtFilled_78 : decode cX0_lookAtFilled 78 = .ok (.getfield 21, 3) := dqn_180 (k := 97) qh_cX0_lookAtFilled rfl rfl rfl
theorem dX0_lookAtFilled_81 : decode cX0_lookAtFilled 81 = .ok (.iconst 0, 1) := dqn_3 (k := 96) qh_cX0_lookAtFilled rfl rfl
theorem dX0_lookAtFilled_82 : decode cX0_lookAtFilled 82 = .ok (.putfield 150, 3) := dqn_181 (k := 93) qh_cX0_lookAtFilled rfl rfl rfl
theorem dX0_lookAtFilled_85 : decode cX0_lookAtFilled 85 = .ok (.aload_n 0, 1) := dqn_42 (k := 92) qh_cX0_lookAtFilled rfl rfl
theorem dX0_lookAtFilled_86 : decode cX0_lookAtFilled 86 = .ok (.getfield 21, 3) := dqn_180 (k := 89) qh_cX0_lookAtFilled rfl rfl rfl
theorem dX0_lookAtFilled_89 : decode cX0_lookAtFilled 89 = .ok (.iconst 0, 1) := dqn_3 (k := 88) qh_cX0_lookAtFilled rfl rfl
theorem dX0_lookAtFilled_90 : decode cX0_lookAtFilled 90 = .ok (.bipush 100, 2) := dqn_16 (k := 86) (u := 100) qh_cX0_lookAtFilled rfl rfl rfl (by decide)
theorem dX0_lookAtFilled_92 : decode cX0_lookAtFilled 92 = .ok (.invokevirtual 153, 3) := dqn_182 (k := 83) qh_cX0_lookAtFilled rfl rfl rfl
theorem dX0_lookAtFilled_95 : decode cX0_lookAtFilled 95 = .ok (.pop, 1) := dqn_87 (k := 82) qh_cX0_lookAtFilled rfl rfl
theorem dX0_lookAtFilled_96 : decode cX0_lookAtFilled 96 = .ok (.iconst 0, 1) := dqn_3 (k := 81) qh_cX0_lookAtFilled rfl rfl
theorem dX0_lookAtFilled_97 : decode cX0_lookAtFilled 97 = .ok (.istore 4, 2) := dqn_54 (k := 79) qh_cX0_lookAtFilled rfl rfl rfl
theorem dX0_lookAtFilled_99 : decode cX0_lookAtFilled 99 = .ok (.iload 4, 2) := dqn_21 (k := 77) qh_cX0_lookAtFilled rfl rfl rfl
theorem dX0_lookAtFilled_101 : decode cX0_lookAtFilled 101 = .ok (.aload_n 0, 1) := dqn_42 (k := 76) qh_cX0_lookAtFilled rfl rfl
theorem dX0_lookAtFilled_102 : decode cX0_lookAtFilled 102 = .ok (.getfield 36, 3) := dqn_180 (k := 73) qh_cX0_lookAtFilled rfl rfl rfl
theorem dX0_lookAtFilled_105 : decode cX0_lookAtFilled 105 = .ok (.if_icmp .ge 48, 3) := dqn_162 (k := 70) (u := 48) qh_cX0_lookAtFilled rfl rfl rfl (sg_p rfl rfl)
theorem dX0_lookAtFilled_108 : decode cX0_lookAtFilled 108 = .ok (.iload_n 3, 1) := dqn_29 (k := 69) qh_cX0_lookAtFilled rfl rfl
theorem dX0_lookAtFilled_109 : decode cX0_lookAtFilled 109 = .ok (.iload 4, 2) := dqn_21 (k := 67) qh_cX0_lookAtFilled rfl rfl rfl
theorem dX0_lookAtFilled_111 : decode cX0_lookAtFilled 111 = .ok (.invokestatic 94, 3) := dqn_184 (k := 64) qh_cX0_lookAtFilled rfl rfl rfl
theorem dX0_lookAtFilled_114 : decode cX0_lookAtFilled 114 = .ok (.ifCond .eq 33, 3) := dqn_153 (k := 61) (u := 33) qh_cX0_lookAtFilled rfl rfl rfl (sg_p rfl rfl)
theorem dX0_lookAtFilled_117 : decode cX0_lookAtFilled 117 = .ok (.aload_n 0, 1) := dqn_42 (k := 60) qh_cX0_lookAtFilled rfl rfl
theorem dX0_lookAtFilled_118 : decode cX0_lookAtFilled 118 = .ok (.getfield 21, 3) := dqn_180 (k := 57) qh_cX0_lookAtFilled rfl rfl rfl
theorem dX0_lookAtFilled_121 : decode cX0_lookAtFilled 121 = .ok (.aload_n 0, 1) := dqn_42 (k := 56) qh_cX0_lookAtFilled rfl rfl
theorem dX0_lookAtFilled_122 : decode cX0_lookAtFilled 122 = .ok (.getfield 39, 3) := dqn_180 (k := 53) qh_cX0_lookAtFilled rfl rfl rfl
theorem dX0_lookAtFilled_125 : decode cX0_lookAtFilled 125 = .ok (.iload 4, 2) := dqn_21 (k := 51) qh_cX0_lookAtFilled rfl rfl rfl
theorem dX0_lookAtFilled_127 : decode cX0_lookAtFilled 127 = .ok (.iaload, 1) := dqn_46 (k := 50) qh_cX0_lookAtFilled rfl rfl
theorem dX0_lookAtFilled_128 : decode cX0_lookAtFilled 128 = .ok (.iconst 1, 1) := dqn_4 (k := 49) qh_cX0_lookAtFilled rfl rfl
theorem dX0_lookAtFilled_129 : decode cX0_lookAtFilled 129 = .ok (.aload_n 0, 1) := dqn_42 (k := 48) qh_cX0_lookAtFilled rfl rfl
theorem dX0_lookAtFilled_130 : decode cX0_lookAtFilled 130 = .ok (.getfield 21, 3) := dqn_180 (k := 45) qh_cX0_lookAtFilled rfl rfl rfl
theorem dX0_lookAtFilled_133 : decode cX0_lookAtFilled 133 = .ok (.aload_n 0, 1) := dqn_42 (k := 44) qh_cX0_lookAtFilled rfl rfl
theorem dX0_lookAtFilled_134 : decode cX0_lookAtFilled 134 = .ok (.getfield 39, 3) := dqn_180 (k := 41) qh_cX0_lookAtFilled rfl rfl rfl
theorem dX0_lookAtFilled_137 : decode cX0_lookAtFilled 137 = .ok (.iload 4, 2) := dqn_21 (k := 39) qh_cX0_lookAtFilled rfl rfl rfl
theorem dX0_lookAtFilled_139 : decode cX0_lookAtFilled 139 = .ok (.iaload, 1) := dqn_46 (k := 38) qh_cX0_lookAtFilled rfl rfl
theorem dX0_lookAtFilled_140 : decode cX0_lookAtFilled 140 = .ok (.iconst 0, 1) := dqn_3 (k := 37) qh_cX0_lookAtFilled rfl rfl
theorem dX0_lookAtFilled_141 : decode cX0_lookAtFilled 141 = .ok (.invokevirtual 98, 3) := dqn_182 (k := 34) qh_cX0_lookAtFilled rfl rfl rfl
theorem dX0_lookAtFilled_144 : decode cX0_lookAtFilled 144 = .ok (.invokevirtual 120, 3) := dqn_182 (k := 31) qh_cX0_lookAtFilled rfl rfl rfl
theorem dX0_lookAtFilled_147 : decode cX0_lookAtFilled 147 = .ok (.iinc 4 1, 3) := dqn_132 (k := 28) (u := 1) qh_cX0_lookAtFilled rfl rfl rfl rfl (by decide)
theorem dX0_lookAtFilled_150 : decode cX0_lookAtFilled 150 = .ok (.goto (-51), 3) := dqn_167 (k := 25) (u := 65485) qh_cX0_lookAtFilled rfl rfl rfl (sg_n (k := 51) rfl rfl rfl)
theorem dX0_lookAtFilled_153 : decode cX0_lookAtFilled 153 = .ok (.aload_n 0, 1) := dqn_42 (k := 24) qh_cX0_lookAtFilled rfl rfl
theorem dX0_lookAtFilled_154 : decode cX0_lookAtFilled 154 = .ok (.getfield 49, 3) := dqn_180 (k := 21) qh_cX0_lookAtFilled rfl rfl rfl
theorem dX0_lookAtFilled_157 : decode cX0_lookAtFilled 157 = .ok (.iload_n 3, 1) := dqn_29 (k := 20) qh_cX0_lookAtFilled rfl rfl
theorem dX0_lookAtFilled_158 : decode cX0_lookAtFilled 158 = .ok (.aload_n 0, 1) := dqn_42 (k := 19) qh_cX0_lookAtFilled rfl rfl
theorem dX0_lookAtFilled_159 : decode cX0_lookAtFilled 159 = .ok (.getfield 12, 3) := dqn_180 (k := 16) qh_cX0_lookAtFilled rfl rfl rfl
theorem dX0_lookAtFilled_162 : decode cX0_lookAtFilled 162 = .ok (.aload_n 0, 1) := dqn_42 (k := 15) qh_cX0_lookAtFilled rfl rfl
theorem dX0_lookAtFilled_163 : decode cX0_lookAtFilled 163 = .ok (.getfield 21, 3) := dqn_180 (k := 12) qh_cX0_lookAtFilled rfl rfl rfl
theorem dX0_lookAtFilled_166 : decode cX0_lookAtFilled 166 = .ok (.iconst (-1), 1) := dqn_2 (k := 11) qh_cX0_lookAtFilled rfl rfl
theorem dX0_lookAtFilled_167 : decode cX0_lookAtFilled 167 = .ok (.invokevirtual 112, 3) := dqn_182 (k := 8) qh_cX0_lookAtFilled rfl rfl rfl
theorem dX0_lookAtFilled_170 : decode cX0_lookAtFilled 170 = .ok (.lastore, 1) := dqn_80 (k := 7) qh_cX0_lookAtFilled rfl rfl
theorem dX0_lookAtFilled_171 : decode cX0_lookAtFilled 171 = .ok (.iinc 3 1, 3) := dqn_132 (k := 4) (u := 1) qh_cX0_lookAtFilled rfl rfl rfl rfl (by decide)
theorem dX0_lookAtFilled_174 : decode cX0_lookAtFilled 174 = .ok (.goto (-115), 3) := dqn_167 (k := 1) (u := 65421) qh_cX0_lookAtFilled rfl rfl rfl (sg_n (k := 115) rfl rfl rfl)
theorem dX0_lookAtFilled_177 : decode cX0_lookAtFilled 177 = .ok (.return_, 1) := dqn_177 (k := 0) qh_cX0_lookAtFilled rfl rfl
set_option maxHeartbeats 4000000 in
set_option maxRecDepth 100000 in
theorem c_C_meanMended {d : Nat} {u : Nat → Nat → Int32} {g : Nat → Nat → Int64} {ex : List MC} {set : Int32} (hd : 3 ≤ d) (hp0 : Bd 0 9 (u 61 0)) (hp1 : Bd 0 4 (u 61 2)) (hp2 : AB u 66 0 511) : CT con0 d 0 0 yX0_meanMended cX0_meanMended 2 (some .long) [.ref 56, .int set] (Wd u g ex) (fun r h2 => ∃ (z : Int64) (g2 : Nat → Nat → Int64), r = some (.long z) ∧ h2 = Wd u g2 ex) := by
  refine CT_of (by decide) (Nat.le_of_ble_eq_true rfl) (fun x hq => ?_)
  show J x yX0_meanMended cX0_meanMended 2 (some .long) d 0 0 (Wd u g ex).length 0 [(0, .ref 56), (1, .int set)] [] (Wd u g ex) 0 0
  refine J_aload_n (i := 0) (j := 0) dX0_meanMended_0 rfl rfl ?_
  refine J_get (C := RX0) (T := TX0) (Z := 10) (ci := 0) (f := 0) dX0_meanMended_1 inG0 rfl (by decide) k386 wc_56 rfl ?_
  refine J_iload_n (i := 1) (j := 1) dX0_meanMended_4 rfl rfl ?_
  refine J_iconst (v := 0) dX0_meanMended_5 (by decide) ?_
  refine J_callV (As := [.int set, .int 0]) (rest := []) dX0_meanMended_6 (c_O_weigh (d := 1) (u := u) (g := g) (ex := ex) (mended := set) (weaker := 0)  (by decide) hp0 hp1) hq.n k953 k871 k872 wc_57 rfl rfl k96 k873 np_X2_weigh (Nat.le_trans (by decide) hd) (by decide) (Nat.le_refl _) (Nat.le_refl _) wlen rfl (Nat.le_of_ble_eq_true rfl) (fun r_ h_ p1 => ?_)
  obtain ⟨g2, rfl, rfl⟩ := p1
  refine J_aload_n (i := 0) (j := 0) dX0_meanMended_9 rfl rfl ?_
  refine J_get (C := RX0) (T := TX0) (Z := 10) (ci := 0) (f := 0) dX0_meanMended_10 inG0 rfl (by decide) k386 wc_56 rfl ?_
  refine J_aload_n (i := 0) (j := 0) dX0_meanMended_13 rfl rfl ?_
  refine J_get (C := RX0) (T := TX0) (Z := 10) (ci := 0) (f := 0) dX0_meanMended_14 inG0 rfl (by decide) k386 wc_56 rfl ?_
  refine J_getN (C := RX2) (T := TX2) (Z := 6) (ci := 2) (f := 1) dX0_meanMended_17 inG2 rfl (by decide) k364 wc_57 rfl ?_
  refine J_callV (As := []) (rest := [.ref 57]) dX0_meanMended_20 (c_H_all (d := 0) (u := u) (g := g2) (ex := ex)  (t := 61) (by decide) (by decide) hp0 hp1) hq.n k954 k801 k802 wc_61 rfl rfl k89 k803 np_X1_all (Nat.le_trans (by decide) hd) (by decide) (Nat.le_refl _) (Nat.le_refl _) wlen rfl (Nat.le_of_ble_eq_true rfl) (fun r_ h_ p3 => ?_)
  obtain ⟨v4, rfl, rfl, h5⟩ := p3
  refine J_callV (As := [.int v4]) (rest := []) dX0_meanMended_23 (c_O_meanOf (d := 2) (u := u) (g := g2) (ex := ex) (counted := v4)  (by decide) hp0 hp1 hp2) hq.n k955 k908 k909 wc_57 rfl rfl k96 k910 np_X2_meanOf (Nat.le_trans (by decide) hd) (by decide) (Nat.le_refl _) (Nat.le_refl _) wlen rfl (Nat.le_of_ble_eq_true rfl) (fun r_ h_ p6 => ?_)
  obtain ⟨l7, rfl, rfl⟩ := p6
  exact J_lret hq dX0_meanMended_26 rfl wlen (Nat.le_refl _) (Nat.le_refl _) ⟨l7, g2, rfl, rfl⟩
set_option maxHeartbeats 4000000 in
set_option maxRecDepth 100000 in
theorem c_C_bestSet {d : Nat} {u : Nat → Nat → Int32} {g : Nat → Nat → Int64} {ex : List MC} {ponds : Int32} {days : Int32} (hd : 4 ≤ d) (hp0 : Bd 0 9 (u 44 0)) (hp1 : Bd 0 4 (u 44 2)) (hp2 : AB u 66 0 511) (hp3 : Bd 0 511 ponds) : CT con0 d 0 0 yX0_bestSet cX0_bestSet 9 (some .int) [.ref 56, .ref 44, .int ponds, .int days] (Wd u g ex) (fun r h2 => ∃ (z : Int32) (u2 : Nat → Nat → Int32) (g2 : Nat → Nat → Int64), r = some (.int z) ∧ h2 = Wd u2 g2 ex ∧ Bd 0 9 (u2 61 0) ∧ Bd 0 4 (u2 61 2) ∧ AB u2 66 0 511 ∧ (∀ c, nin c [(58, 67)] = true → u2 c = u c) ∧ (∀ j, j ≠ 0 → j ≠ 1 → j ≠ 2 → j ≠ 3 → j ≠ 4 → u2 58 j = u 58 j) ∧ (∀ j, j ≠ 0 → j ≠ 2 → u2 61 j = u 61 j)) := by
  refine CT_of (by decide) (Nat.le_of_ble_eq_true rfl) (fun x hq => ?_)
  show J x yX0_bestSet cX0_bestSet 9 (some .int) d 0 0 (Wd u g ex).length 0 [(0, .ref 56), (1, .ref 44), (2, .int ponds), (3, .int days)] [] (Wd u g ex) 0 0
  refine J_aload_n (i := 0) (j := 0) dX0_bestSet_0 rfl rfl ?_
  refine J_get (C := RX0) (T := TX0) (Z := 10) (ci := 0) (f := 0) dX0_bestSet_1 inG0 rfl (by decide) k386 wc_56 rfl ?_
  refine J_aload_n (i := 1) (j := 1) dX0_bestSet_4 rfl rfl ?_
  refine J_iconst (v := (-1)) dX0_bestSet_5 (by decide) ?_
  refine J_aload_n (i := 1) (j := 1) dX0_bestSet_6 rfl rfl ?_
  refine J_callV (As := []) (rest := [.int (-1), .ref 44, .ref 57]) dX0_bestSet_7 (c_H_weak (d := 1) (u := u) (g := g) (ex := ex)  (t := 44) (by decide) (by decide) hp0 hp1) hq.n k947 k857 k858 wc_44 rfl rfl k89 k859 np_X1_weak (Nat.le_trans (by decide) hd) (by decide) (Nat.le_refl _) (Nat.le_refl _) wlen rfl (Nat.le_of_ble_eq_true rfl) (fun r_ h_ p1 => ?_)
  obtain ⟨v2, rfl, rfl, h3⟩ := p1
  refine J_callV (As := [.ref 44, .int (-1), .int v2]) (rest := []) dX0_bestSet_10 (c_O_look_44 (d := 3) (u := u) (g := g) (ex := ex) (keeper := (-1)) (mayGo := v2)  (by decide) hp0 hp1 hp2) hq.n k948 k862 k863 wc_57 rfl rfl k96 k864 np_X2_look (Nat.le_trans (by decide) hd) (by decide) (Nat.le_refl _) (Nat.le_refl _) wlen rfl (Nat.le_of_ble_eq_true rfl) (fun r_ h_ p4 => ?_)
  obtain ⟨u5, g6, rfl, rfl, h7, h8, h9, fr10, fc11, fc12⟩ := p4
  refine J_iconst (v := 0) dX0_bestSet_13 (by decide) ?_
  refine J_istore (i := 4) (lw := [(4, .int 0), (0, .ref 56), (1, .ref 44), (2, .int ponds), (3, .int days)]) dX0_bestSet_14 (by decide) rfl ?_
  refine J_aload_n (i := 0) (j := 1) dX0_bestSet_16 rfl rfl ?_
  refine J_aload_n (i := 0) (j := 1) dX0_bestSet_17 rfl rfl ?_
  refine J_iconst (v := 0) dX0_bestSet_18 (by decide) ?_
  refine J_callV (As := [.int 0]) (rest := [.ref 56]) dX0_bestSet_19 (c_C_meanMended (d := 3) (u := u5) (g := g6) (ex := ex) (set := 0)  (by decide) h7 h8 h9) hq.n k949 k951 k27 wc_56 rfl rfl k95 k952 np_X0_meanMended (Nat.le_trans (by decide) hd) (by decide) (Nat.le_refl _) (Nat.le_refl _) wlen rfl (Nat.le_of_ble_eq_true rfl) (fun r_ h_ p13 => ?_)
  obtain ⟨l14, g15, rfl, rfl⟩ := p13
  obtain ⟨g16, e17⟩ : ∃ z, z = ml g15 56 4 l14 := ⟨_, rfl⟩
  refine J_put (C := RX0) (T := TX0) (Z := 10) (ci := 0) (f := 4) (ty0 := tyX0) dX0_bestSet_22 inG0 rfl tyX0_ok nmX0 (by decide) k393 rfl rfl wc_56 (Nat.le_of_ble_eq_true rfl) (fun _ _ => ⟨rfl, rfl⟩) (wsl e17 wk_56 rfl) ?_
  refine J_iconst (v := 1) dX0_bestSet_25 (by decide) ?_
  refine J_istore (i := 5) (lw := [(5, .int 1), (4, .int 0), (0, .ref 56), (1, .ref 44), (2, .int ponds), (3, .int days)]) dX0_bestSet_26 (by decide) rfl ?_
  have lp547 : ∀ (n548 : Nat) (w471 : Int32) (w472 : Int32) (g473 : Nat → Nat → Int64), Bd 0 511 w471 → Bd 1 512 w472 → (512 - w472.toInt).toNat < n548 → J x yX0_bestSet cX0_bestSet 9 (some .int) d 0 0 (Wd u g ex).length 28 [(0, .ref 56), (1, .ref 44), (2, .int ponds), (3, .int days), (4, .int w471), (5, .int w472)] [] (Wd u5 g473 ex) 0 0 := by
    intro n548
    induction n548 with
    | zero => intro w471 w472 g473 bw471 bw472 hm550; exact absurd hm550 (Nat.not_lt_zero _)
    | succ n548 ih549 =>
      intro w471 w472 g473 bw471 bw472 hm550
      refine J_iload (i := 5) (j := 5) dX0_bestSet_28 rfl ?_
      refine J_iload_n (i := 2) (j := 2) dX0_bestSet_30 rfl rfl ?_
      refine J_icmp_gt (tgt := 112) dX0_bestSet_31 (by decide) (fun c551 => ?_) (fun c551 => ?_)
      · refine J_iload (i := 4) (j := 4) dX0_bestSet_112 rfl ?_
        exact J_iret hq dX0_bestSet_114 rfl wlen (Nat.le_refl _) (Nat.le_refl _) ⟨w471, u5, g473, rfl, rfl, h7, h8, h9, (fun c k_ => (fr10 c (nin_sub (M := [(58, 67)]) k_ rfl))), (fun j k0_ k1_ k2_ k3_ k4_ => (fc11 j k0_ k1_ k2_ k3_ k4_)), (fun j k0_ k2_ => (fc12 j k0_ k2_))⟩
      · refine J_aload_n (i := 1) (j := 1) dX0_bestSet_34 rfl rfl ?_
        refine J_iload (i := 5) (j := 5) dX0_bestSet_35 rfl ?_
        refine J_callV (As := [.int w472]) (rest := []) dX0_bestSet_37 (c_H_daysToMend (d := 1) (u := u5) (g := g473) (ex := ex) (set := w472) (t := 44) (by decide) (by decide) (bd_r (congrFun (fr10 44 rfl) 0) hp0) (bd_r (congrFun (fr10 44 rfl) 2) hp1)) hq.n k956 k957 k958 wc_44 rfl rfl k89 k959 np_X1_daysToMend (Nat.le_trans (by decide) hd) (by decide) (Nat.le_refl _) (Nat.le_refl _) wlen rfl (Nat.le_of_ble_eq_true rfl) (fun r_ h_ p588 => ?_)
        obtain ⟨v589, rfl, rfl⟩ := p588
        refine J_istore (i := 6) (lw := [(6, .int v589), (0, .ref 56), (1, .ref 44), (2, .int ponds), (3, .int days), (4, .int w471), (5, .int w472)]) dX0_bestSet_40 (by decide) rfl ?_
        refine J_iload (i := 5) (j := 6) dX0_bestSet_42 rfl ?_
        refine J_iload_n (i := 2) (j := 3) dX0_bestSet_44 rfl rfl ?_
        refine J_iconst (v := (-1)) dX0_bestSet_45 (by decide) ?_
        refine J_ixor dX0_bestSet_46 ?_
        refine J_iand dX0_bestSet_47 ?_
        have jn608 : ∀ (w606 : Int32) (g607 : Nat → Nat → Int64), Bd 0 511 w606 → J x yX0_bestSet cX0_bestSet 9 (some .int) d 0 0 (Wd u g ex).length 106 [(0, .ref 56), (1, .ref 44), (2, .int ponds), (3, .int days), (4, .int w606), (5, .int w472)] [] (Wd u5 g607 ex) 0 0 := by
          intro w606 g607 bw606
          refine J_iinc (i := 5) (j := 5) (v := (w472 + 1)) (lw := [(5, .int (w472 + 1)), (0, .ref 56), (1, .ref 44), (2, .int ponds), (3, .int days), (4, .int w606)]) dX0_bestSet_106 rfl rfl (by decide) rfl ?_
          refine J_goto (tgt := 28) dX0_bestSet_109 (by decide) ?_
          refine J_lv [1, 2, 3, 4, 5, 0] rfl ?_
          exact ih549 w606 (w472 + 1) g607 bw606 (bd_w (l := 1) (h := 512) (bd_add (l := 2) (h := 512) (bd_le_hi bw472 (i_nlt c551) hp3) (bd_c (v := 1) (lo := 1) (hi := 1) (by decide)) (by decide)) (by decide)) (mu_up 1 bw472 rfl (by decide) (bd_w (l := 2) (h := 512) (bd_add (l := 2) (h := 512) (bd_le_hi bw472 (i_nlt c551) hp3) (bd_c (v := 1) (lo := 1) (hi := 1) (by decide)) (by decide)) (by decide)) hm550)
        refine J_if_ne (tgt := 106) dX0_bestSet_48 (by decide) (fun c590 => ?_) (fun c590 => ?_)
        · refine J_lv [1, 2, 3, 4, 5, 6] rfl ?_
          exact jn608 w471 g473 bw471
        · refine J_iload (i := 6) (j := 0) dX0_bestSet_51 rfl ?_
          refine J_iload_n (i := 3) (j := 4) dX0_bestSet_53 rfl rfl ?_
          refine J_icmp_gt (tgt := 106) dX0_bestSet_54 (by decide) (fun c609 => ?_) (fun c609 => ?_)
          · refine J_lv [1, 2, 3, 4, 5, 6] rfl ?_
            exact jn608 w471 g473 bw471
          · refine J_aload_n (i := 0) (j := 1) dX0_bestSet_57 rfl rfl ?_
            refine J_iload (i := 5) (j := 6) dX0_bestSet_58 rfl ?_
            refine J_callV (As := [.int w472]) (rest := []) dX0_bestSet_60 (c_C_meanMended (d := 3) (u := u5) (g := g473) (ex := ex) (set := w472)  (by decide) h7 h8 h9) hq.n k949 k951 k27 wc_56 rfl rfl k95 k952 np_X0_meanMended (Nat.le_trans (by decide) hd) (by decide) (Nat.le_refl _) (Nat.le_refl _) wlen rfl (Nat.le_of_ble_eq_true rfl) (fun r_ h_ p610 => ?_)
            obtain ⟨l611, g612, rfl, rfl⟩ := p610
            refine J_lstore (i := 7) (lw := [(7, .long l611), (6, .int v589), (0, .ref 56), (1, .ref 44), (2, .int ponds), (3, .int days), (4, .int w471), (5, .int w472)]) dX0_bestSet_63 (by decide) rfl ?_
            refine J_lload (i := 7) (j := 0) dX0_bestSet_65 rfl ?_
            refine J_aload_n (i := 0) (j := 2) dX0_bestSet_67 rfl rfl ?_
            refine J_get (C := RX0) (T := TX0) (Z := 10) (ci := 0) (f := 4) dX0_bestSet_68 inG0 rfl (by decide) k393 wc_56 rfl ?_
            refine J_topl (fun l613 _ => ?_)
            refine J_lcmp dX0_bestSet_71 ?_
            refine J_if_lt (tgt := 96) dX0_bestSet_72 (by decide) (fun c614 => ?_) (fun c614 => ?_)
            · refine J_aload_n (i := 0) (j := 2) dX0_bestSet_96 rfl rfl ?_
              refine J_lload (i := 7) (j := 0) dX0_bestSet_97 rfl ?_
              obtain ⟨g615, e616⟩ : ∃ z, z = ml g612 56 4 l611 := ⟨_, rfl⟩
              refine J_put (C := RX0) (T := TX0) (Z := 10) (ci := 0) (f := 4) (ty0 := tyX0) dX0_bestSet_99 inG0 rfl tyX0_ok nmX0 (by decide) k393 rfl rfl wc_56 (Nat.le_of_ble_eq_true rfl) (fun _ _ => ⟨rfl, rfl⟩) (wsl e616 wk_56 rfl) ?_
              refine J_iload (i := 5) (j := 7) dX0_bestSet_102 rfl ?_
              refine J_istore (i := 4) (lw := [(4, .int w472), (7, .long l611), (6, .int v589), (0, .ref 56), (1, .ref 44), (2, .int ponds), (3, .int days), (5, .int w472)]) dX0_bestSet_104 (by decide) rfl ?_
              refine J_lv [3, 4, 5, 6, 0, 7] rfl ?_
              exact jn608 w472 g615 (bd_w (l := 0) (h := 511) (bd_le_hi bw472 (i_nlt c551) hp3) (by decide))
            · refine J_lload (i := 7) (j := 0) dX0_bestSet_75 rfl ?_
              refine J_aload_n (i := 0) (j := 2) dX0_bestSet_77 rfl rfl ?_
              refine J_get (C := RX0) (T := TX0) (Z := 10) (ci := 0) (f := 4) dX0_bestSet_78 inG0 rfl (by decide) k393 wc_56 rfl ?_
              refine J_topl (fun l617 _ => ?_)
              refine J_lcmp dX0_bestSet_81 ?_
              refine J_if_ne (tgt := 106) dX0_bestSet_82 (by decide) (fun c618 => ?_) (fun c618 => ?_)
              · refine J_lv [2, 3, 4, 5, 6, 7] rfl ?_
                exact jn608 w471 g612 bw471
              · refine J_iload (i := 6) (j := 1) dX0_bestSet_85 rfl ?_
                refine J_aload_n (i := 1) (j := 3) dX0_bestSet_87 rfl rfl ?_
                refine J_iload (i := 4) (j := 6) dX0_bestSet_88 rfl ?_
                refine J_callV (As := [.int w471]) (rest := [.int v589]) dX0_bestSet_90 (c_H_daysToMend (d := 1) (u := u5) (g := g612) (ex := ex) (set := w471) (t := 44) (by decide) (by decide) (bd_r (congrFun (fr10 44 rfl) 0) hp0) (bd_r (congrFun (fr10 44 rfl) 2) hp1)) hq.n k956 k957 k958 wc_44 rfl rfl k89 k959 np_X1_daysToMend (Nat.le_trans (by decide) hd) (by decide) (Nat.le_refl _) (Nat.le_refl _) wlen rfl (Nat.le_of_ble_eq_true rfl) (fun r_ h_ p619 => ?_)
                obtain ⟨v620, rfl, rfl⟩ := p619
                refine J_icmp_ge (tgt := 106) dX0_bestSet_93 (by decide) (fun c621 => ?_) (fun c621 => ?_)
                · refine J_lv [2, 3, 4, 5, 6, 7] rfl ?_
                  exact jn608 w471 g612 bw471
                · refine J_aload_n (i := 0) (j := 2) dX0_bestSet_96 rfl rfl ?_
                  refine J_lload (i := 7) (j := 0) dX0_bestSet_97 rfl ?_
                  obtain ⟨g622, e623⟩ : ∃ z, z = ml g612 56 4 l611 := ⟨_, rfl⟩
                  refine J_put (C := RX0) (T := TX0) (Z := 10) (ci := 0) (f := 4) (ty0 := tyX0) dX0_bestSet_99 inG0 rfl tyX0_ok nmX0 (by decide) k393 rfl rfl wc_56 (Nat.le_of_ble_eq_true rfl) (fun _ _ => ⟨rfl, rfl⟩) (wsl e623 wk_56 rfl) ?_
                  refine J_iload (i := 5) (j := 7) dX0_bestSet_102 rfl ?_
                  refine J_istore (i := 4) (lw := [(4, .int w472), (7, .long l611), (6, .int v589), (0, .ref 56), (1, .ref 44), (2, .int ponds), (3, .int days), (5, .int w472)]) dX0_bestSet_104 (by decide) rfl ?_
                  refine J_lv [3, 4, 5, 6, 0, 7] rfl ?_
                  exact jn608 w472 g622 (bd_w (l := 0) (h := 511) (bd_le_hi bw472 (i_nlt c551) hp3) (by decide))
  refine J_lv [2, 3, 4, 5, 1, 0] rfl ?_
  exact lp547 _ (0 : Int32) (1 : Int32) g16 (bd_w (l := 0) (h := 511) (bd_c (v := 0) (lo := 0) (hi := 0) (by decide)) (by decide)) (bd_w (l := 1) (h := 512) (bd_c (v := 1) (lo := 1) (hi := 1) (by decide)) (by decide)) (Nat.lt_succ_self _)
set_option maxHeartbeats 4000000 in
set_option maxRecDepth 100000 in
theorem c_C_isBetterBuy {d : Nat} {u : Nat → Nat → Int32} {g : Nat → Nat → Int64} {ex : List MC} {less : Int64} {price : Int64} {fall : Int64} {cost : Int64} (hd : 1 ≤ d)  : CT con0 d 0 0 yX0_isBetterBuy cX0_isBetterBuy 8 (some .boolean) [.long less, .long price, .long fall, .long cost] (Wd u g ex) (fun r h2 => ∃ (z : Bool), r = some (.int (bI z)) ∧ h2 = Wd u g ex) := by
  refine CT_of (by decide) (Nat.le_of_ble_eq_true rfl) (fun x hq => ?_)
  show J x yX0_isBetterBuy cX0_isBetterBuy 8 (some .boolean) d 0 0 (Wd u g ex).length 0 [(0, .long less), (2, .long price), (4, .long fall), (6, .long cost)] [] (Wd u g ex) 0 0
  refine J_lload_n (i := 0) (j := 0) dX0_isBetterBuy_0 rfl rfl ?_
  refine J_lload (i := 6) (j := 3) dX0_isBetterBuy_1 rfl ?_
  refine J_lconst (v := 1) dX0_isBetterBuy_3 (by decide) ?_
  refine J_callS (As := [.long cost, .long 1]) (rest := [.long less]) dX0_isBetterBuy_4 (c_maxJ1 (d := 0) (u := u) (g := g) (ex := ex) (a := cost)  (by decide) ) hq.n k978 k979 k99 k980 np_J9_max_f86c9 (Nat.le_trans (by decide) hd) (by decide) (Nat.le_refl _) (Nat.le_refl _) wlen rfl (Nat.le_of_ble_eq_true rfl) (fun r_ h_ p1 => ?_)
  obtain ⟨l2, rfl, rfl, h3⟩ := p1
  refine J_lmul dX0_isBetterBuy_7 ?_
  refine J_topl (fun l4 _ => ?_)
  refine J_lload (i := 4) (j := 2) dX0_isBetterBuy_8 rfl ?_
  refine J_lload_n (i := 2) (j := 1) dX0_isBetterBuy_10 rfl rfl ?_
  refine J_lconst (v := 1) dX0_isBetterBuy_11 (by decide) ?_
  refine J_callS (As := [.long price, .long 1]) (rest := [.long fall, .long l4]) dX0_isBetterBuy_12 (c_maxJ1 (d := 0) (u := u) (g := g) (ex := ex) (a := price)  (by decide) ) hq.n k978 k979 k99 k980 np_J9_max_f86c9 (Nat.le_trans (by decide) hd) (by decide) (Nat.le_refl _) (Nat.le_refl _) wlen rfl (Nat.le_of_ble_eq_true rfl) (fun r_ h_ p5 => ?_)
  obtain ⟨l6, rfl, rfl, h7⟩ := p5
  refine J_lmul dX0_isBetterBuy_15 ?_
  refine J_topl (fun l8 _ => ?_)
  refine J_lcmp dX0_isBetterBuy_16 ?_
  refine J_if_le (tgt := 24) dX0_isBetterBuy_17 (by decide) (fun c9 => ?_) (fun c9 => ?_)
  · refine J_iconst (v := 0) dX0_isBetterBuy_24 (by decide) ?_
    exact J_zret hq dX0_isBetterBuy_25 rfl rfl wlen (Nat.le_refl _) (Nat.le_refl _) ⟨false, rfl, rfl⟩
  · refine J_iconst (v := 1) dX0_isBetterBuy_20 (by decide) ?_
    refine J_goto (tgt := 25) dX0_isBetterBuy_21 (by decide) ?_
    exact J_zret hq dX0_isBetterBuy_25 rfl rfl wlen (Nat.le_refl _) (Nat.le_refl _) ⟨true, rfl, rfl⟩
set_option maxHeartbeats 4000000 in
set_option maxRecDepth 100000 in
theorem c_C_nextStep {d : Nat} {u : Nat → Nat → Int32} {g : Nat → Nat → Int64} {ex : List MC} {ponds : Int32} {mended : Int32} {days : Int32} (hd : 4 ≤ d) (hp0 : Bd 0 9 (u 44 0)) (hp1 : Bd 0 4 (u 44 2)) (hp2 : Bd 0 9 (u 61 0)) (hp3 : Bd 0 4 (u 61 2)) (hp4 : AB u 66 0 511) : CT con0 d 0 0 yX0_nextStep cX0_nextStep 16 (some .int) [.ref 56, .ref 44, .int ponds, .int mended, .int days] (Wd u g ex) (fun r h2 => ∃ (z : Int32) (g2 : Nat → Nat → Int64), r = some (.int z) ∧ h2 = Wd u g2 ex) := by
  refine CT_of (by decide) (Nat.le_of_ble_eq_true rfl) (fun x hq => ?_)
  show J x yX0_nextStep cX0_nextStep 16 (some .int) d 0 0 (Wd u g ex).length 0 [(0, .ref 56), (1, .ref 44), (2, .int ponds), (3, .int mended), (4, .int days)] [] (Wd u g ex) 0 0
  refine J_aload_n (i := 0) (j := 0) dX0_nextStep_0 rfl rfl ?_
  refine J_iload_n (i := 3) (j := 3) dX0_nextStep_1 rfl rfl ?_
  refine J_callV (As := [.int mended]) (rest := []) dX0_nextStep_2 (c_C_meanMended (d := 3) (u := u) (g := g) (ex := ex) (set := mended)  (by decide) hp2 hp3 hp4) hq.n k949 k951 k27 wc_56 rfl rfl k95 k952 np_X0_meanMended (Nat.le_trans (by decide) hd) (by decide) (Nat.le_refl _) (Nat.le_refl _) wlen rfl (Nat.le_of_ble_eq_true rfl) (fun r_ h_ p1 => ?_)
  obtain ⟨l2, g3, rfl, rfl⟩ := p1
  refine J_lstore (i := 5) (lw := [(5, .long l2), (0, .ref 56), (1, .ref 44), (2, .int ponds), (3, .int mended), (4, .int days)]) dX0_nextStep_5 (by decide) rfl ?_
  refine J_iconst (v := (-1)) dX0_nextStep_7 (by decide) ?_
  refine J_istore (i := 7) (lw := [(7, .int (-1)), (5, .long l2), (0, .ref 56), (1, .ref 44), (2, .int ponds), (3, .int mended), (4, .int days)]) dX0_nextStep_8 (by decide) rfl ?_
  refine J_lconst (v := 0) dX0_nextStep_10 (by decide) ?_
  refine J_lstore (i := 8) (lw := [(8, .long 0), (7, .int (-1)), (5, .long l2), (0, .ref 56), (1, .ref 44), (2, .int ponds), (3, .int mended), (4, .int days)]) dX0_nextStep_11 (by decide) rfl ?_
  refine J_lconst (v := 0) dX0_nextStep_13 (by decide) ?_
  refine J_lstore (i := 10) (lw := [(10, .long 0), (8, .long 0), (7, .int (-1)), (5, .long l2), (0, .ref 56), (1, .ref 44), (2, .int ponds), (3, .int mended), (4, .int days)]) dX0_nextStep_14 (by decide) rfl ?_
  refine J_iconst (v := 0) dX0_nextStep_16 (by decide) ?_
  refine J_istore (i := 12) (lw := [(12, .int 0), (10, .long 0), (8, .long 0), (7, .int (-1)), (5, .long l2), (0, .ref 56), (1, .ref 44), (2, .int ponds), (3, .int mended), (4, .int days)]) dX0_nextStep_17 (by decide) rfl ?_
  have lp287 : ∀ (n288 : Nat) (w183 : Int32) (w184 : Int64) (w185 : Int64) (w186 : Int32) (g187 : Nat → Nat → Int64), Bd (-1) 9 w183 → Bd 0 9 w186 → (9 - w186.toInt).toNat < n288 → J x yX0_nextStep cX0_nextStep 16 (some .int) d 0 0 (Wd u g ex).length 19 [(0, .ref 56), (1, .ref 44), (2, .int ponds), (3, .int mended), (4, .int days), (5, .long l2), (7, .int w183), (8, .long w184), (10, .long w185), (12, .int w186)] [] (Wd u g187 ex) 0 0 := by
    intro n288
    induction n288 with
    | zero => intro w183 w184 w185 w186 g187 bw183 bw186 hm290; exact absurd hm290 (Nat.not_lt_zero _)
    | succ n288 ih289 =>
      intro w183 w184 w185 w186 g187 bw183 bw186 hm290
      refine J_iload (i := 12) (j := 9) dX0_nextStep_19 rfl ?_
      refine J_aload_n (i := 1) (j := 1) dX0_nextStep_21 rfl rfl ?_
      refine J_getN (C := RX1) (T := TX1) (Z := 6) (ci := 1) (f := 0) dX0_nextStep_22 inG1 rfl (by decide) k134 wc_44 rfl ?_
      refine J_icmp_ge (tgt := 128) dX0_nextStep_25 (by decide) (fun c291 => ?_) (fun c291 => ?_)
      · refine J_iload (i := 7) (j := 6) dX0_nextStep_128 rfl ?_
        exact J_iret hq dX0_nextStep_130 rfl wlen (Nat.le_refl _) (Nat.le_refl _) ⟨w183, g187, rfl, rfl⟩
      · refine J_aload_n (i := 1) (j := 1) dX0_nextStep_28 rfl rfl ?_
        refine J_iload (i := 12) (j := 9) dX0_nextStep_29 rfl ?_
        refine J_callSN (As := [.int w186]) (rest := [.ref 44]) dX0_nextStep_31 (c_bit9 (d := 0) (u := u) (g := g187) (ex := ex) (pond := w186)  (by decide) (bd_w (l := (-1)) (h := 8) (bd_lt_hi bw186 (i_nle c291) hp0) (by decide))) hq.n k972 k819 k87 k820 np_X10_bit (Nat.le_trans (by decide) hd) (by decide) (Nat.le_refl _) (Nat.le_refl _) wlen rfl (Nat.le_of_ble_eq_true rfl) (fun r_ h_ p341 => ?_)
        obtain ⟨v342, rfl, rfl, h343⟩ := p341
        refine J_callV (As := [.int v342]) (rest := []) dX0_nextStep_34 (c_H_daysToMend (d := 1) (u := u) (g := g187) (ex := ex) (set := v342) (t := 44) (by decide) (by decide) (bd_w (l := 0) (h := 9) (bd_lt_lo hp0 (i_nle c291) bw186) (by decide)) hp1) hq.n k956 k957 k958 wc_44 rfl rfl k89 k959 np_X1_daysToMend (Nat.le_trans (by decide) hd) (by decide) (Nat.le_refl _) (Nat.le_refl _) wlen rfl (Nat.le_of_ble_eq_true rfl) (fun r_ h_ p344 => ?_)
        obtain ⟨v345, rfl, rfl⟩ := p344
        refine J_istore (i := 13) (lw := [(13, .int v345), (0, .ref 56), (1, .ref 44), (2, .int ponds), (3, .int mended), (4, .int days), (5, .long l2), (7, .int w183), (8, .long w184), (10, .long w185), (12, .int w186)]) dX0_nextStep_37 (by decide) rfl ?_
        refine J_iload_n (i := 2) (j := 3) dX0_nextStep_39 rfl rfl ?_
        refine J_iload (i := 12) (j := 10) dX0_nextStep_40 rfl ?_
        refine J_callSN (As := [.int ponds, .int w186]) (rest := []) dX0_nextStep_42 (c_isIn (d := 0) (u := u) (g := g187) (ex := ex) (set := ponds) (pond := w186)  (by decide) ) hq.n k973 k816 k87 k817 np_X10_isIn (Nat.le_trans (by decide) hd) (by decide) (Nat.le_refl _) (Nat.le_refl _) wlen rfl (Nat.le_of_ble_eq_true rfl) (fun r_ h_ p346 => ?_)
        obtain ⟨t347, rfl, rfl⟩ := p346
        have jn371 : ∀ (w367 : Int32) (w368 : Int64) (w369 : Int64) (g370 : Nat → Nat → Int64), Bd (-1) 9 w367 → J x yX0_nextStep cX0_nextStep 16 (some .int) d 0 0 (Wd u g ex).length 122 [(0, .ref 56), (1, .ref 44), (2, .int ponds), (3, .int mended), (4, .int days), (5, .long l2), (7, .int w367), (8, .long w368), (10, .long w369), (12, .int w186)] [] (Wd u g370 ex) 0 0 := by
          intro w367 w368 w369 g370 bw367
          refine J_iinc (i := 12) (j := 9) (v := (w186 + 1)) (lw := [(12, .int (w186 + 1)), (0, .ref 56), (1, .ref 44), (2, .int ponds), (3, .int mended), (4, .int days), (5, .long l2), (7, .int w367), (8, .long w368), (10, .long w369)]) dX0_nextStep_122 rfl rfl (by decide) rfl ?_
          refine J_goto (tgt := 19) dX0_nextStep_125 (by decide) ?_
          refine J_lv [1, 2, 3, 4, 5, 6, 7, 8, 9, 0] rfl ?_
          exact ih289 w367 w368 w369 (w186 + 1) g370 bw367 (bd_w (l := 0) (h := 9) (bd_add (l := 1) (h := 9) (bd_lt_hi bw186 (i_nle c291) hp0) (bd_c (v := 1) (lo := 1) (hi := 1) (by decide)) (by decide)) (by decide)) (mu_up 1 bw186 rfl (by decide) (bd_w (l := 1) (h := 9) (bd_add (l := 1) (h := 9) (bd_lt_hi bw186 (i_nle c291) hp0) (bd_c (v := 1) (lo := 1) (hi := 1) (by decide)) (by decide)) (by decide)) hm290)
        refine J_ifB_eq (tgt := 122) dX0_nextStep_45 (by decide) (fun c348 => ?_) (fun c348 => ?_)
        · refine J_lv [1, 2, 3, 4, 5, 6, 7, 8, 9, 10] rfl ?_
          exact jn371 w183 w184 w185 g187 bw183
        · refine J_aload_n (i := 1) (j := 2) dX0_nextStep_48 rfl rfl ?_
          refine J_iload (i := 12) (j := 10) dX0_nextStep_49 rfl ?_
          refine J_iconst (v := 4) dX0_nextStep_51 (by decide) ?_
          refine J_callV (As := [.int w186, .int 4]) (rest := []) dX0_nextStep_52 (c_H_of (d := 0) (u := u) (g := g187) (ex := ex) (pond := w186) (column := 4) (t := 44) (by decide) (by decide)) hq.n k974 k749 k750 wc_44 rfl rfl k89 k751 np_X1_of (Nat.le_trans (by decide) hd) (by decide) (Nat.le_refl _) (Nat.le_refl _) wlen rfl (Nat.le_of_ble_eq_true rfl) (fun r_ h_ p372 => ?_)
          obtain ⟨rfl, rfl⟩ := p372
          refine J_if_le (tgt := 122) dX0_nextStep_55 (by decide) (fun c373 => ?_) (fun c373 => ?_)
          · refine J_lv [1, 2, 3, 4, 5, 6, 7, 8, 9, 10] rfl ?_
            exact jn371 w183 w184 w185 g187 bw183
          · refine J_iload (i := 13) (j := 0) dX0_nextStep_58 rfl ?_
            refine J_iload (i := 4) (j := 5) dX0_nextStep_60 rfl ?_
            refine J_icmp_gt (tgt := 122) dX0_nextStep_62 (by decide) (fun c374 => ?_) (fun c374 => ?_)
            · refine J_lv [1, 2, 3, 4, 5, 6, 7, 8, 9, 10] rfl ?_
              exact jn371 w183 w184 w185 g187 bw183
            · refine J_lload (i := 5) (j := 6) dX0_nextStep_65 rfl ?_
              refine J_aload_n (i := 0) (j := 1) dX0_nextStep_67 rfl rfl ?_
              refine J_iload_n (i := 3) (j := 4) dX0_nextStep_68 rfl rfl ?_
              refine J_iload (i := 12) (j := 10) dX0_nextStep_69 rfl ?_
              refine J_callSN (As := [.int w186]) (rest := [.int mended, .ref 56, .long l2]) dX0_nextStep_71 (c_bit9 (d := 0) (u := u) (g := g187) (ex := ex) (pond := w186)  (by decide) (bd_w (l := (-1)) (h := 8) (bd_lt_hi bw186 (i_nle c291) hp0) (by decide))) hq.n k972 k819 k87 k820 np_X10_bit (Nat.le_trans (by decide) hd) (by decide) (Nat.le_refl _) (Nat.le_refl _) wlen rfl (Nat.le_of_ble_eq_true rfl) (fun r_ h_ p375 => ?_)
              obtain ⟨v376, rfl, rfl, h377⟩ := p375
              refine J_ior dX0_nextStep_74 ?_
              refine J_callV (As := [.int (mended ||| v376)]) (rest := [.long l2]) dX0_nextStep_75 (c_C_meanMended (d := 3) (u := u) (g := g187) (ex := ex) (set := (mended ||| v376))  (by decide) hp2 hp3 hp4) hq.n k949 k951 k27 wc_56 rfl rfl k95 k952 np_X0_meanMended (Nat.le_trans (by decide) hd) (by decide) (Nat.le_refl _) (Nat.le_refl _) wlen rfl (Nat.le_of_ble_eq_true rfl) (fun r_ h_ p378 => ?_)
              obtain ⟨l379, g380, rfl, rfl⟩ := p378
              refine J_lsub dX0_nextStep_78 ?_
              refine J_topl (fun l381 _ => ?_)
              refine J_lstore (i := 14) (lw := [(14, .long l381), (13, .int v345), (0, .ref 56), (1, .ref 44), (2, .int ponds), (3, .int mended), (4, .int days), (5, .long l2), (7, .int w183), (8, .long w184), (10, .long w185), (12, .int w186)]) dX0_nextStep_79 (by decide) rfl ?_
              refine J_lload (i := 14) (j := 0) dX0_nextStep_81 rfl ?_
              refine J_lconst (v := 0) dX0_nextStep_83 (by decide) ?_
              refine J_lcmp dX0_nextStep_84 ?_
              refine J_if_le (tgt := 122) dX0_nextStep_85 (by decide) (fun c382 => ?_) (fun c382 => ?_)
              · refine J_lv [2, 3, 4, 5, 6, 7, 8, 9, 10, 11] rfl ?_
                exact jn371 w183 w184 w185 g380 bw183
              · refine J_iload (i := 7) (j := 8) dX0_nextStep_88 rfl ?_
                refine J_iconst (v := (-1)) dX0_nextStep_90 (by decide) ?_
                refine J_icmp_eq (tgt := 109) dX0_nextStep_91 (by decide) (fun c383 => ?_) (fun c383 => ?_)
                · refine J_iload (i := 12) (j := 11) dX0_nextStep_109 rfl ?_
                  refine J_istore (i := 7) (lw := [(7, .int w186), (14, .long l381), (13, .int v345), (0, .ref 56), (1, .ref 44), (2, .int ponds), (3, .int mended), (4, .int days), (5, .long l2), (8, .long w184), (10, .long w185), (12, .int w186)]) dX0_nextStep_111 (by decide) rfl ?_
                  refine J_lload (i := 14) (j := 1) dX0_nextStep_113 rfl ?_
                  refine J_lstore (i := 8) (lw := [(8, .long l381), (7, .int w186), (14, .long l381), (13, .int v345), (0, .ref 56), (1, .ref 44), (2, .int ponds), (3, .int mended), (4, .int days), (5, .long l2), (10, .long w185), (12, .int w186)]) dX0_nextStep_115 (by decide) rfl ?_
                  refine J_iload (i := 13) (j := 3) dX0_nextStep_117 rfl ?_
                  refine J_i2l dX0_nextStep_119 rfl ?_
                  refine J_topl (fun l384 _ => ?_)
                  refine J_lstore (i := 10) (lw := [(10, .long l384), (8, .long l381), (7, .int w186), (14, .long l381), (13, .int v345), (0, .ref 56), (1, .ref 44), (2, .int ponds), (3, .int mended), (4, .int days), (5, .long l2), (12, .int w186)]) dX0_nextStep_120 (by decide) rfl ?_
                  refine J_lv [5, 6, 7, 8, 9, 10, 2, 1, 0, 11] rfl ?_
                  exact jn371 w186 l381 l384 g380 (bd_w (l := (-1)) (h := 9) (bd_lt_hi bw186 (i_nle c291) hp0) (by decide))
                · refine J_lload (i := 14) (j := 0) dX0_nextStep_94 rfl ?_
                  refine J_iload (i := 13) (j := 1) dX0_nextStep_96 rfl ?_
                  refine J_i2l dX0_nextStep_98 rfl ?_
                  refine J_topl (fun l385 _ => ?_)
                  refine J_lload (i := 8) (j := 9) dX0_nextStep_99 rfl ?_
                  refine J_lload (i := 10) (j := 10) dX0_nextStep_101 rfl ?_
                  refine J_callS (As := [.long l381, .long l385, .long w184, .long w185]) (rest := []) dX0_nextStep_103 (c_C_isBetterBuy (d := 1) (u := u) (g := g380) (ex := ex) (less := l381) (price := l385) (fall := w184) (cost := w185)  (by decide) ) hq.n k975 k976 k95 k977 np_X0_isBetterBuy (Nat.le_trans (by decide) hd) (by decide) (Nat.le_refl _) (Nat.le_refl _) wlen rfl (Nat.le_of_ble_eq_true rfl) (fun r_ h_ p386 => ?_)
                  obtain ⟨t387, rfl, rfl⟩ := p386
                  refine J_ifB_eq (tgt := 122) dX0_nextStep_106 (by decide) (fun c388 => ?_) (fun c388 => ?_)
                  · refine J_lv [2, 3, 4, 5, 6, 7, 8, 9, 10, 11] rfl ?_
                    exact jn371 w183 w184 w185 g380 (bd_w (l := (-1)) (h := 9) (bd_ne_lo bw183 c383 (by decide)) (by decide))
                  · refine J_iload (i := 12) (j := 11) dX0_nextStep_109 rfl ?_
                    refine J_istore (i := 7) (lw := [(7, .int w186), (14, .long l381), (13, .int v345), (0, .ref 56), (1, .ref 44), (2, .int ponds), (3, .int mended), (4, .int days), (5, .long l2), (8, .long w184), (10, .long w185), (12, .int w186)]) dX0_nextStep_111 (by decide) rfl ?_
                    refine J_lload (i := 14) (j := 1) dX0_nextStep_113 rfl ?_
                    refine J_lstore (i := 8) (lw := [(8, .long l381), (7, .int w186), (14, .long l381), (13, .int v345), (0, .ref 56), (1, .ref 44), (2, .int ponds), (3, .int mended), (4, .int days), (5, .long l2), (10, .long w185), (12, .int w186)]) dX0_nextStep_115 (by decide) rfl ?_
                    refine J_iload (i := 13) (j := 3) dX0_nextStep_117 rfl ?_
                    refine J_i2l dX0_nextStep_119 rfl ?_
                    refine J_topl (fun l389 _ => ?_)
                    refine J_lstore (i := 10) (lw := [(10, .long l389), (8, .long l381), (7, .int w186), (14, .long l381), (13, .int v345), (0, .ref 56), (1, .ref 44), (2, .int ponds), (3, .int mended), (4, .int days), (5, .long l2), (12, .int w186)]) dX0_nextStep_120 (by decide) rfl ?_
                    refine J_lv [5, 6, 7, 8, 9, 10, 2, 1, 0, 11] rfl ?_
                    exact jn371 w186 l381 l389 g380 (bd_w (l := (-1)) (h := 9) (bd_lt_hi bw186 (i_nle c291) hp0) (by decide))
  refine J_lv [5, 6, 7, 8, 9, 4, 3, 2, 1, 0] rfl ?_
  exact lp287 _ ((-1) : Int32) (0 : Int64) (0 : Int64) (0 : Int32) g3 (bd_w (l := (-1)) (h := 9) (bd_c (v := (-1)) (lo := (-1)) (hi := (-1)) (by decide)) (by decide)) (bd_w (l := 0) (h := 9) (bd_c (v := 0) (lo := 0) (hi := 0) (by decide)) (by decide)) (Nat.lt_succ_self _)
set_option maxHeartbeats 4000000 in
set_option maxRecDepth 100000 in
theorem c_C_stepByStep {d : Nat} {u : Nat → Nat → Int32} {g : Nat → Nat → Int64} {ex : List MC} {ponds : Int32} {days : Int32} (hd : 5 ≤ d) (hp0 : Bd 0 9 (u 44 0)) (hp1 : Bd 0 4 (u 44 2)) (hp2 : AB u 66 0 511) : CT con0 d 0 0 yX0_stepByStep cX0_stepByStep 8 (some .int) [.ref 56, .ref 44, .int ponds, .int days] (Wd u g ex) (fun r h2 => ∃ (z : Int32) (u2 : Nat → Nat → Int32) (g2 : Nat → Nat → Int64), r = some (.int z) ∧ h2 = Wd u2 g2 ex ∧ Bd 0 9 (u2 61 0) ∧ Bd 0 4 (u2 61 2) ∧ AB u2 66 0 511 ∧ (∀ c, nin c [(58, 67)] = true → u2 c = u c) ∧ (∀ j, j ≠ 0 → j ≠ 1 → j ≠ 2 → j ≠ 3 → j ≠ 4 → u2 58 j = u 58 j) ∧ (∀ j, j ≠ 0 → j ≠ 2 → u2 61 j = u 61 j)) := by
  refine CT_of (by decide) (Nat.le_of_ble_eq_true rfl) (fun x hq => ?_)
  show J x yX0_stepByStep cX0_stepByStep 8 (some .int) d 0 0 (Wd u g ex).length 0 [(0, .ref 56), (1, .ref 44), (2, .int ponds), (3, .int days)] [] (Wd u g ex) 0 0
  refine J_aload_n (i := 0) (j := 0) dX0_stepByStep_0 rfl rfl ?_
  refine J_get (C := RX0) (T := TX0) (Z := 10) (ci := 0) (f := 0) dX0_stepByStep_1 inG0 rfl (by decide) k386 wc_56 rfl ?_
  refine J_aload_n (i := 1) (j := 1) dX0_stepByStep_4 rfl rfl ?_
  refine J_iconst (v := (-1)) dX0_stepByStep_5 (by decide) ?_
  refine J_aload_n (i := 1) (j := 1) dX0_stepByStep_6 rfl rfl ?_
  refine J_callV (As := []) (rest := [.int (-1), .ref 44, .ref 57]) dX0_stepByStep_7 (c_H_weak (d := 1) (u := u) (g := g) (ex := ex)  (t := 44) (by decide) (by decide) hp0 hp1) hq.n k947 k857 k858 wc_44 rfl rfl k89 k859 np_X1_weak (Nat.le_trans (by decide) hd) (by decide) (Nat.le_refl _) (Nat.le_refl _) wlen rfl (Nat.le_of_ble_eq_true rfl) (fun r_ h_ p1 => ?_)
  obtain ⟨v2, rfl, rfl, h3⟩ := p1
  refine J_callV (As := [.ref 44, .int (-1), .int v2]) (rest := []) dX0_stepByStep_10 (c_O_look_44 (d := 3) (u := u) (g := g) (ex := ex) (keeper := (-1)) (mayGo := v2)  (by decide) hp0 hp1 hp2) hq.n k948 k862 k863 wc_57 rfl rfl k96 k864 np_X2_look (Nat.le_trans (by decide) hd) (by decide) (Nat.le_refl _) (Nat.le_refl _) wlen rfl (Nat.le_of_ble_eq_true rfl) (fun r_ h_ p4 => ?_)
  obtain ⟨u5, g6, rfl, rfl, h7, h8, h9, fr10, fc11, fc12⟩ := p4
  refine J_iconst (v := 0) dX0_stepByStep_13 (by decide) ?_
  refine J_istore (i := 4) (lw := [(4, .int 0), (0, .ref 56), (1, .ref 44), (2, .int ponds), (3, .int days)]) dX0_stepByStep_14 (by decide) rfl ?_
  refine J_iload_n (i := 3) (j := 4) dX0_stepByStep_16 rfl rfl ?_
  refine J_istore (i := 5) (lw := [(5, .int days), (4, .int 0), (0, .ref 56), (1, .ref 44), (2, .int ponds), (3, .int days)]) dX0_stepByStep_17 (by decide) rfl ?_
  refine J_iconst (v := 0) dX0_stepByStep_19 (by decide) ?_
  refine J_istore (i := 6) (lw := [(6, .int 0), (5, .int days), (4, .int 0), (0, .ref 56), (1, .ref 44), (2, .int ponds), (3, .int days)]) dX0_stepByStep_20 (by decide) rfl ?_
  have lp68 : ∀ (n69 : Nat) (w53 : Int32) (w54 : Int32) (w55 : Int32) (g56 : Nat → Nat → Int64), Bd 0 5 w55 → (5 - w55.toInt).toNat < n69 → J x yX0_stepByStep cX0_stepByStep 8 (some .int) d 0 0 (Wd u g ex).length 22 [(0, .ref 56), (1, .ref 44), (2, .int ponds), (4, .int w53), (5, .int w54), (6, .int w55)] [] (Wd u5 g56 ex) 0 0 := by
    intro n69
    induction n69 with
    | zero => intro w53 w54 w55 g56 bw55 hm71; exact absurd hm71 (Nat.not_lt_zero _)
    | succ n69 ih70 =>
      intro w53 w54 w55 g56 bw55 hm71
      refine J_iload (i := 6) (j := 5) dX0_stepByStep_22 rfl ?_
      refine J_iconst (v := 5) dX0_stepByStep_24 (by decide) ?_
      refine J_icmp_ge (tgt := 84) dX0_stepByStep_25 (by decide) (fun c72 => ?_) (fun c72 => ?_)
      · refine J_iload (i := 4) (j := 3) dX0_stepByStep_84 rfl ?_
        exact J_iret hq dX0_stepByStep_86 rfl wlen (Nat.le_refl _) (Nat.le_refl _) ⟨w53, u5, g56, rfl, rfl, h7, h8, h9, (fun c k_ => (fr10 c (nin_sub (M := [(58, 67)]) k_ rfl))), (fun j k0_ k1_ k2_ k3_ k4_ => (fc11 j k0_ k1_ k2_ k3_ k4_)), (fun j k0_ k2_ => (fc12 j k0_ k2_))⟩
      · refine J_aload_n (i := 0) (j := 0) dX0_stepByStep_28 rfl rfl ?_
        refine J_aload_n (i := 1) (j := 1) dX0_stepByStep_29 rfl rfl ?_
        refine J_iload_n (i := 2) (j := 2) dX0_stepByStep_30 rfl rfl ?_
        refine J_iload (i := 4) (j := 3) dX0_stepByStep_31 rfl ?_
        refine J_iconst (v := (-1)) dX0_stepByStep_33 (by decide) ?_
        refine J_ixor dX0_stepByStep_34 ?_
        refine J_iand dX0_stepByStep_35 ?_
        refine J_iload (i := 4) (j := 3) dX0_stepByStep_36 rfl ?_
        refine J_iload (i := 5) (j := 4) dX0_stepByStep_38 rfl ?_
        refine J_callV (As := [.ref 44, .int (ponds &&& (w53 ^^^ (-1))), .int w53, .int w54]) (rest := []) dX0_stepByStep_40 (c_C_nextStep (d := 4) (u := u5) (g := g56) (ex := ex) (ponds := (ponds &&& (w53 ^^^ (-1)))) (mended := w53) (days := w54)  (by decide) (bd_r (congrFun (fr10 44 rfl) 0) hp0) (bd_r (congrFun (fr10 44 rfl) 2) hp1) h7 h8 h9) hq.n k968 k970 k28 wc_56 rfl rfl k95 k971 np_X0_nextStep (Nat.le_trans (by decide) hd) (by decide) (Nat.le_refl _) (Nat.le_refl _) wlen rfl (Nat.le_of_ble_eq_true rfl) (fun r_ h_ p73 => ?_)
        obtain ⟨v74, g75, rfl, rfl⟩ := p73
        refine J_istore (i := 7) (lw := [(7, .int v74), (0, .ref 56), (1, .ref 44), (2, .int ponds), (4, .int w53), (5, .int w54), (6, .int w55)]) dX0_stepByStep_43 (by decide) rfl ?_
        refine J_iload (i := 7) (j := 0) dX0_stepByStep_45 rfl ?_
        refine J_iconst (v := (-1)) dX0_stepByStep_47 (by decide) ?_
        refine J_icmp_ne (tgt := 54) dX0_stepByStep_48 (by decide) (fun c76 => ?_) (fun c76 => ?_)
        · refine J_iload (i := 4) (j := 4) dX0_stepByStep_54 rfl ?_
          refine J_iload (i := 7) (j := 0) dX0_stepByStep_56 rfl ?_
          refine J_callSN (As := [.int v74]) (rest := [.int w53]) dX0_stepByStep_58 (c_bit (d := 0) (u := u5) (g := g75) (ex := ex) (pond := v74)  (by decide) ) hq.n k972 k819 k87 k820 np_X10_bit (Nat.le_trans (by decide) hd) (by decide) (Nat.le_refl _) (Nat.le_refl _) wlen rfl (Nat.le_of_ble_eq_true rfl) (fun r_ h_ p77 => ?_)
          obtain ⟨v78, rfl, rfl⟩ := p77
          refine J_ior dX0_stepByStep_61 ?_
          refine J_istore (i := 4) (lw := [(4, .int (w53 ||| v78)), (7, .int v74), (0, .ref 56), (1, .ref 44), (2, .int ponds), (5, .int w54), (6, .int w55)]) dX0_stepByStep_62 (by decide) rfl ?_
          refine J_iload (i := 5) (j := 5) dX0_stepByStep_64 rfl ?_
          refine J_aload_n (i := 1) (j := 3) dX0_stepByStep_66 rfl rfl ?_
          refine J_iload (i := 7) (j := 1) dX0_stepByStep_67 rfl ?_
          refine J_callSN (As := [.int v74]) (rest := [.ref 44, .int w54]) dX0_stepByStep_69 (c_bit (d := 0) (u := u5) (g := g75) (ex := ex) (pond := v74)  (by decide) ) hq.n k972 k819 k87 k820 np_X10_bit (Nat.le_trans (by decide) hd) (by decide) (Nat.le_refl _) (Nat.le_refl _) wlen rfl (Nat.le_of_ble_eq_true rfl) (fun r_ h_ p79 => ?_)
          obtain ⟨v80, rfl, rfl⟩ := p79
          refine J_callV (As := [.int v80]) (rest := [.int w54]) dX0_stepByStep_72 (c_H_daysToMend (d := 1) (u := u5) (g := g75) (ex := ex) (set := v80) (t := 44) (by decide) (by decide) (bd_r (congrFun (fr10 44 rfl) 0) hp0) (bd_r (congrFun (fr10 44 rfl) 2) hp1)) hq.n k956 k957 k958 wc_44 rfl rfl k89 k959 np_X1_daysToMend (Nat.le_trans (by decide) hd) (by decide) (Nat.le_refl _) (Nat.le_refl _) wlen rfl (Nat.le_of_ble_eq_true rfl) (fun r_ h_ p81 => ?_)
          obtain ⟨v82, rfl, rfl⟩ := p81
          refine J_isub dX0_stepByStep_75 ?_
          refine J_istore (i := 5) (lw := [(5, .int (w54 - v82)), (4, .int (w53 ||| v78)), (7, .int v74), (0, .ref 56), (1, .ref 44), (2, .int ponds), (6, .int w55)]) dX0_stepByStep_76 (by decide) rfl ?_
          refine J_iinc (i := 6) (j := 6) (v := (w55 + 1)) (lw := [(6, .int (w55 + 1)), (5, .int (w54 - v82)), (4, .int (w53 ||| v78)), (7, .int v74), (0, .ref 56), (1, .ref 44), (2, .int ponds)]) dX0_stepByStep_78 rfl rfl (by decide) rfl ?_
          refine J_goto (tgt := 22) dX0_stepByStep_81 (by decide) ?_
          refine J_lv [4, 5, 6, 2, 1, 0] rfl ?_
          exact ih70 (w53 ||| v78) (w54 - v82) (w55 + 1) g75 (bd_w (l := 0) (h := 5) (bd_add (l := 1) (h := 5) (bd_lt_hi bw55 (i_nle c72) (bd_c (v := 5) (lo := 5) (hi := 5) (by decide))) (bd_c (v := 1) (lo := 1) (hi := 1) (by decide)) (by decide)) (by decide)) (mu_up 1 bw55 rfl (by decide) (bd_w (l := 1) (h := 5) (bd_add (l := 1) (h := 5) (bd_lt_hi bw55 (i_nle c72) (bd_c (v := 5) (lo := 5) (hi := 5) (by decide))) (bd_c (v := 1) (lo := 1) (hi := 1) (by decide)) (by decide)) (by decide)) hm71)
        · refine J_iload (i := 4) (j := 4) dX0_stepByStep_51 rfl ?_
          exact J_iret hq dX0_stepByStep_53 rfl wlen (Nat.le_refl _) (Nat.le_refl _) ⟨w53, u5, g75, rfl, rfl, h7, h8, h9, (fun c k_ => (fr10 c (nin_sub (M := [(58, 67)]) k_ rfl))), (fun j k0_ k1_ k2_ k3_ k4_ => (fc11 j k0_ k1_ k2_ k3_ k4_)), (fun j k0_ k2_ => (fc12 j k0_ k2_))⟩
  refine J_lv [3, 4, 5, 2, 1, 0] rfl ?_
  exact lp68 _ (0 : Int32) days (0 : Int32) g6 (bd_w (l := 0) (h := 5) (bd_c (v := 0) (lo := 0) (hi := 0) (by decide)) (by decide)) (Nat.lt_succ_self _)
set_option maxHeartbeats 4000000 in
set_option maxRecDepth 100000 in
theorem c_C_holdAll {d : Nat} {u : Nat → Nat → Int32} {g : Nat → Nat → Int64} {ex : List MC}  (hd : 5 ≤ d) (hp0 : Bd 0 9 (u 44 0)) (hp1 : Bd 0 4 (u 44 2)) (hp2 : Bd 0 9 (u 61 0)) (hp3 : Bd 0 4 (u 61 2)) (hp4 : AB u 66 0 511) : CT con0 d 0 0 yX0_holdAll cX0_holdAll 5 none [.ref 56, .ref 44] (Wd u g ex) (fun r h2 => ∃ (u2 : Nat → Nat → Int32) (g2 : Nat → Nat → Int64), r = none ∧ h2 = Wd u2 g2 ex ∧ Bd 0 9 (u2 61 0) ∧ Bd 0 4 (u2 61 2) ∧ AB u2 66 0 511 ∧ (∀ c, nin c [(56, 56), (58, 67)] = true → u2 c = u c) ∧ (∀ j, j ≠ 2 → u2 56 j = u 56 j) ∧ (∀ j, j ≠ 0 → j ≠ 1 → j ≠ 2 → j ≠ 3 → j ≠ 4 → u2 58 j = u 58 j) ∧ (∀ j, j ≠ 0 → j ≠ 2 → u2 61 j = u 61 j)) := by
  refine CT_of (by decide) (Nat.le_of_ble_eq_true rfl) (fun x hq => ?_)
  show J x yX0_holdAll cX0_holdAll 5 none d 0 0 (Wd u g ex).length 0 [(0, .ref 56), (1, .ref 44)] [] (Wd u g ex) 0 0
  refine J_aload_n (i := 0) (j := 0) dX0_holdAll_0 rfl rfl ?_
  refine J_iconst (v := (-1)) dX0_holdAll_1 (by decide) ?_
  obtain ⟨u1, e2⟩ : ∃ z, z = ms u 56 2 (-1) := ⟨_, rfl⟩
  refine J_put (C := RX0) (T := TX0) (Z := 10) (ci := 0) (f := 2) (ty0 := tyX0) dX0_holdAll_2 inG0 rfl tyX0_ok nmX0 (by decide) k389 rfl rfl wc_56 (Nat.le_of_ble_eq_true rfl) (fun _ _ => ⟨rfl, rfl⟩) (ws e2 wk_56 rfl) ?_
  refine J_aload_n (i := 0) (j := 0) dX0_holdAll_5 rfl rfl ?_
  refine J_lconst (v := 0) dX0_holdAll_6 (by decide) ?_
  obtain ⟨g3, e4⟩ : ∃ z, z = ml g 56 4 0 := ⟨_, rfl⟩
  refine J_put (C := RX0) (T := TX0) (Z := 10) (ci := 0) (f := 4) (ty0 := tyX0) dX0_holdAll_7 inG0 rfl tyX0_ok nmX0 (by decide) k393 rfl rfl wc_56 (Nat.le_of_ble_eq_true rfl) (fun _ _ => ⟨rfl, rfl⟩) (wsl e4 wk_56 rfl) ?_
  refine J_iconst (v := 0) dX0_holdAll_10 (by decide) ?_
  refine J_istore_n (i := 2) (lw := [(2, .int 0), (0, .ref 56), (1, .ref 44)]) dX0_holdAll_11 rfl (by decide) rfl ?_
  have lp118 : ∀ (n119 : Nat) (w69 : Int32) (u70 : Nat → Nat → Int32) (g79 : Nat → Nat → Int64), Bd 0 9 w69 → (∀ c, nin c [(56, 56), (58, 67)] = true → u70 c = u1 c) → (∀ j, j ≠ 2 → u70 56 j = u1 56 j) → Bd (-1) 9 (u70 56 2) → (∀ j, j ≠ 0 → j ≠ 1 → j ≠ 2 → j ≠ 3 → j ≠ 4 → u70 58 j = u1 58 j) → (∀ j, j ≠ 0 → j ≠ 2 → u70 61 j = u1 61 j) → Bd 0 9 (u70 61 0) → Bd 0 4 (u70 61 2) → AB u70 66 0 511 → (9 - w69.toInt).toNat < n119 → J x yX0_holdAll cX0_holdAll 5 none d 0 0 (Wd u g ex).length 12 [(0, .ref 56), (1, .ref 44), (2, .int w69)] [] (Wd u70 g79 ex) 0 0 := by
    intro n119
    induction n119 with
    | zero => intro w69 u70 g79 bw69 fr71 fc72 bm73 fc74 fc75 bm76 bm77 ab78 hm121; exact absurd hm121 (Nat.not_lt_zero _)
    | succ n119 ih120 =>
      intro w69 u70 g79 bw69 fr71 fc72 bm73 fc74 fc75 bm76 bm77 ab78 hm121
      refine J_iload_n (i := 2) (j := 2) dX0_holdAll_12 rfl rfl ?_
      refine J_aload_n (i := 1) (j := 1) dX0_holdAll_13 rfl rfl ?_
      refine J_getN (C := RX1) (T := TX1) (Z := 6) (ci := 1) (f := 0) dX0_holdAll_14 inG1 rfl (by decide) k134 wc_44 rfl ?_
      refine J_ci (v := u 44 0) ((congrFun (fr71 44 rfl) 0).trans (congrFun (ms_c e2 (Nat.ne_of_beq_eq_false rfl)) 0)) ?_
      refine J_icmp_ge (tgt := 63) dX0_holdAll_17 (by decide) (fun c122 => ?_) (fun c122 => ?_)
      · exact J_vret hq dX0_holdAll_63 rfl wlen (Nat.le_refl _) (Nat.le_refl _) ⟨u70, g79, rfl, rfl, bm76, bm77, ab78, (fun c k_ => ((fr71 c (nin_sub (M := [(56, 56), (58, 67)]) k_ rfl)).trans (ms_c e2 (nin_ne (a := 56) k_ rfl)))), (fun j k2_ => ((fc72 j k2_).trans (ms_i e2 k2_))), (fun j k0_ k1_ k2_ k3_ k4_ => ((fc74 j k0_ k1_ k2_ k3_ k4_).trans (congrFun (ms_c e2 (Nat.ne_of_beq_eq_false rfl)) j))), (fun j k0_ k2_ => ((fc75 j k0_ k2_).trans (congrFun (ms_c e2 (Nat.ne_of_beq_eq_false rfl)) j)))⟩
      · refine J_aload_n (i := 0) (j := 0) dX0_holdAll_20 rfl rfl ?_
        refine J_get (C := RX0) (T := TX0) (Z := 10) (ci := 0) (f := 0) dX0_holdAll_21 inG0 rfl (by decide) k386 wc_56 rfl ?_
        refine J_aload_n (i := 1) (j := 1) dX0_holdAll_24 rfl rfl ?_
        refine J_iload_n (i := 2) (j := 2) dX0_holdAll_25 rfl rfl ?_
        refine J_callV (As := [.ref 44, .int w69]) (rest := []) dX0_holdAll_26 (c_O_wholeMean_44 (d := 4) (u := u70) (g := g79) (ex := ex) (keeper := w69)  (by decide) (bd_r ((congrFun (fr71 44 rfl) 0).trans (congrFun (ms_c e2 (Nat.ne_of_beq_eq_false rfl)) 0)) (bd_w (l := 0) (h := 9) (bd_lt_lo hp0 (i_nle c122) bw69) (by decide))) (bd_r ((congrFun (fr71 44 rfl) 2).trans (congrFun (ms_c e2 (Nat.ne_of_beq_eq_false rfl)) 2)) hp1) ab78) hq.n k994 k995 k996 wc_57 rfl rfl k96 k997 np_X2_wholeMean (Nat.le_trans (by decide) hd) (by decide) (Nat.le_refl _) (Nat.le_refl _) wlen rfl (Nat.le_of_ble_eq_true rfl) (fun r_ h_ p123 => ?_)
        obtain ⟨l124, u125, g126, rfl, rfl, h127, h128, h129, fr130, fc131, fc132⟩ := p123
        refine J_lstore_n (i := 3) (lw := [(3, .long l124), (0, .ref 56), (1, .ref 44), (2, .int w69)]) dX0_holdAll_29 rfl (by decide) rfl ?_
        refine J_aload_n (i := 0) (j := 1) dX0_holdAll_30 rfl rfl ?_
        refine J_get (C := RX0) (T := TX0) (Z := 10) (ci := 0) (f := 2) dX0_holdAll_31 inG0 rfl (by decide) k389 wc_56 rfl ?_
        refine J_ci (v := u70 56 2) (congrFun (fr130 56 rfl) 2) ?_
        refine J_iconst (v := (-1)) dX0_holdAll_34 (by decide) ?_
        have jn149 : ∀ (u144 : Nat → Nat → Int32) (g148 : Nat → Nat → Int64), (∀ c, c ≠ 56 → u144 c = u125 c) → (∀ j, j ≠ 2 → u144 56 j = u125 56 j) → Bd 0 9 (u144 56 2) → J x yX0_holdAll cX0_holdAll 5 none d 0 0 (Wd u g ex).length 57 [(0, .ref 56), (1, .ref 44), (2, .int w69)] [] (Wd u144 g148 ex) 0 0 := by
          intro u144 g148 fr145 fc146 bm147
          refine J_iinc (i := 2) (j := 2) (v := (w69 + 1)) (lw := [(2, .int (w69 + 1)), (0, .ref 56), (1, .ref 44)]) dX0_holdAll_57 rfl rfl (by decide) rfl ?_
          refine J_goto (tgt := 12) dX0_holdAll_60 (by decide) ?_
          refine J_lv [1, 2, 0] rfl ?_
          exact ih120 (w69 + 1) u144 g148 (bd_w (l := 0) (h := 9) (bd_add (l := 1) (h := 9) (bd_lt_hi bw69 (i_nle c122) hp0) (bd_c (v := 1) (lo := 1) (hi := 1) (by decide)) (by decide)) (by decide)) (fun c k_ => ((fr145 c (nin_ne (a := 56) k_ rfl)).trans ((fr130 c (nin_sub (M := [(58, 67)]) k_ rfl)).trans (fr71 c (nin_sub (M := [(56, 56), (58, 67)]) k_ rfl))))) (fun j k2_ => ((fc146 j k2_).trans ((congrFun (fr130 56 rfl) j).trans (fc72 j k2_)))) (bd_w (l := (-1)) (h := 9) bm147 (by decide)) (fun j k0_ k1_ k2_ k3_ k4_ => ((congrFun (fr145 58 (Nat.ne_of_beq_eq_false rfl)) j).trans ((fc131 j k0_ k1_ k2_ k3_ k4_).trans (fc74 j k0_ k1_ k2_ k3_ k4_)))) (fun j k0_ k2_ => ((congrFun (fr145 61 (Nat.ne_of_beq_eq_false rfl)) j).trans ((fc132 j k0_ k2_).trans (fc75 j k0_ k2_)))) (bd_r (congrFun (fr145 61 (Nat.ne_of_beq_eq_false rfl)) 0) h127) (bd_r (congrFun (fr145 61 (Nat.ne_of_beq_eq_false rfl)) 2) h128) (ab_c (fr145 66 (Nat.ne_of_beq_eq_false rfl)) h129) (mu_up 1 bw69 rfl (by decide) (bd_w (l := 1) (h := 9) (bd_add (l := 1) (h := 9) (bd_lt_hi bw69 (i_nle c122) hp0) (bd_c (v := 1) (lo := 1) (hi := 1) (by decide)) (by decide)) (by decide)) hm121)
        refine J_icmp_eq (tgt := 47) dX0_holdAll_35 (by decide) (fun c133 => ?_) (fun c133 => ?_)
        · refine J_aload_n (i := 0) (j := 1) dX0_holdAll_47 rfl rfl ?_
          refine J_iload_n (i := 2) (j := 3) dX0_holdAll_48 rfl rfl ?_
          obtain ⟨u150, e151⟩ : ∃ z, z = ms u125 56 2 w69 := ⟨_, rfl⟩
          refine J_put (C := RX0) (T := TX0) (Z := 10) (ci := 0) (f := 2) (ty0 := tyX0) dX0_holdAll_49 inG0 rfl tyX0_ok nmX0 (by decide) k389 rfl rfl wc_56 (Nat.le_of_ble_eq_true rfl) (fun _ _ => ⟨rfl, rfl⟩) (ws e151 wk_56 rfl) ?_
          refine J_aload_n (i := 0) (j := 1) dX0_holdAll_52 rfl rfl ?_
          refine J_lload_n (i := 3) (j := 0) dX0_holdAll_53 rfl rfl ?_
          obtain ⟨g152, e153⟩ : ∃ z, z = ml g126 56 4 l124 := ⟨_, rfl⟩
          refine J_put (C := RX0) (T := TX0) (Z := 10) (ci := 0) (f := 4) (ty0 := tyX0) dX0_holdAll_54 inG0 rfl tyX0_ok nmX0 (by decide) k393 rfl rfl wc_56 (Nat.le_of_ble_eq_true rfl) (fun _ _ => ⟨rfl, rfl⟩) (wsl e153 wk_56 rfl) ?_
          refine J_lv [1, 2, 3] rfl ?_
          exact jn149 u150 g152 (fun c k0_ => (ms_c e151 k0_)) (fun j k2_ => (ms_i e151 k2_)) (bd_r (ms_e e151) (bd_w (l := 0) (h := 9) (bd_lt_hi bw69 (i_nle c122) hp0) (by decide)))
        · refine J_lload_n (i := 3) (j := 0) dX0_holdAll_38 rfl rfl ?_
          refine J_aload_n (i := 0) (j := 1) dX0_holdAll_39 rfl rfl ?_
          refine J_get (C := RX0) (T := TX0) (Z := 10) (ci := 0) (f := 4) dX0_holdAll_40 inG0 rfl (by decide) k393 wc_56 rfl ?_
          refine J_topl (fun l154 _ => ?_)
          refine J_lcmp dX0_holdAll_43 ?_
          refine J_if_ge (tgt := 57) dX0_holdAll_44 (by decide) (fun c155 => ?_) (fun c155 => ?_)
          · refine J_lv [1, 2, 3] rfl ?_
            exact jn149 u125 g126 (fun c k0_ => rfl) (fun j k2_ => rfl) (bd_r (congrFun (fr130 56 rfl) 2) (bd_ne_lo bm73 c133 (by decide)))
          · refine J_aload_n (i := 0) (j := 1) dX0_holdAll_47 rfl rfl ?_
            refine J_iload_n (i := 2) (j := 3) dX0_holdAll_48 rfl rfl ?_
            obtain ⟨u156, e157⟩ : ∃ z, z = ms u125 56 2 w69 := ⟨_, rfl⟩
            refine J_put (C := RX0) (T := TX0) (Z := 10) (ci := 0) (f := 2) (ty0 := tyX0) dX0_holdAll_49 inG0 rfl tyX0_ok nmX0 (by decide) k389 rfl rfl wc_56 (Nat.le_of_ble_eq_true rfl) (fun _ _ => ⟨rfl, rfl⟩) (ws e157 wk_56 rfl) ?_
            refine J_aload_n (i := 0) (j := 1) dX0_holdAll_52 rfl rfl ?_
            refine J_lload_n (i := 3) (j := 0) dX0_holdAll_53 rfl rfl ?_
            obtain ⟨g158, e159⟩ : ∃ z, z = ml g126 56 4 l124 := ⟨_, rfl⟩
            refine J_put (C := RX0) (T := TX0) (Z := 10) (ci := 0) (f := 4) (ty0 := tyX0) dX0_holdAll_54 inG0 rfl tyX0_ok nmX0 (by decide) k393 rfl rfl wc_56 (Nat.le_of_ble_eq_true rfl) (fun _ _ => ⟨rfl, rfl⟩) (wsl e159 wk_56 rfl) ?_
            refine J_lv [1, 2, 3] rfl ?_
            exact jn149 u156 g158 (fun c k0_ => (ms_c e157 k0_)) (fun j k2_ => (ms_i e157 k2_)) (bd_r (ms_e e157) (bd_w (l := 0) (h := 9) (bd_lt_hi bw69 (i_nle c122) hp0) (by decide)))
  refine J_lv [1, 2, 0] rfl ?_
  exact lp118 _ (0 : Int32) u1 g3 (bd_w (l := 0) (h := 9) (bd_c (v := 0) (lo := 0) (hi := 0) (by decide)) (by decide)) (fun c k_ => rfl) (fun j k2_ => rfl) (bd_r (ms_e e2) (bd_w (l := (-1)) (h := 9) (bd_c (v := (-1)) (lo := (-1)) (hi := (-1)) (by decide)) (by decide))) (fun j k0_ k1_ k2_ k3_ k4_ => rfl) (fun j k0_ k2_ => rfl) (bd_r (congrFun (ms_c e2 (Nat.ne_of_beq_eq_false rfl)) 0) hp2) (bd_r (congrFun (ms_c e2 (Nat.ne_of_beq_eq_false rfl)) 2) hp3) (ab_c (ms_c e2 (Nat.ne_of_beq_eq_false rfl)) hp4) (Nat.lt_succ_self _)
set_option maxHeartbeats 4000000 in
set_option maxRecDepth 100000 in
theorem c_C_lowerBy {d : Nat} {u : Nat → Nat → Int32} {g : Nat → Nat → Int64} {ex : List MC} {pond : Int32} (hd : 4 ≤ d) (hp0 : Bd 0 9 (u 44 0)) (hp1 : Bd 0 4 (u 44 2)) (hp2 : AB u 45 (-1) 999) (hp3 : Bd 0 9 (u 61 0)) (hp4 : Bd 0 4 (u 61 2)) (hp5 : AB u 66 0 511) (hp6 : Bd 0 9 (u 70 0)) (hp7 : Bd 0 4 (u 70 2)) : CT con0 d 0 0 yX0_lowerBy cX0_lowerBy 8 (some .int) [.ref 56, .ref 44, .int pond] (Wd u g ex) (fun r h2 => ∃ (z : Int32) (u2 : Nat → Nat → Int32) (g2 : Nat → Nat → Int64), r = some (.int z) ∧ h2 = Wd u2 g2 ex ∧ Bd 0 9 (u2 61 0) ∧ Bd 0 4 (u2 61 2) ∧ AB u2 66 0 511 ∧ Bd 0 9 (u2 70 0) ∧ Bd 0 4 (u2 70 2) ∧ (∀ c, nin c [(58, 67), (70, 74)] = true → u2 c = u c) ∧ (∀ j, j ≠ 0 → j ≠ 1 → j ≠ 2 → j ≠ 3 → j ≠ 4 → u2 58 j = u 58 j) ∧ (∀ j, j ≠ 0 → j ≠ 2 → u2 61 j = u 61 j) ∧ (∀ j, j ≠ 0 → j ≠ 2 → u2 70 j = u 70 j)) := by
  refine CT_of (by decide) (Nat.le_of_ble_eq_true rfl) (fun x hq => ?_)
  show J x yX0_lowerBy cX0_lowerBy 8 (some .int) d 0 0 (Wd u g ex).length 0 [(0, .ref 56), (1, .ref 44), (2, .int pond)] [] (Wd u g ex) 0 0
  refine J_aload_n (i := 1) (j := 1) dX0_lowerBy_0 rfl rfl ?_
  refine J_iload_n (i := 2) (j := 2) dX0_lowerBy_1 rfl rfl ?_
  refine J_iconst (v := 1) dX0_lowerBy_2 (by decide) ?_
  refine J_callV (As := [.int pond, .int 1]) (rest := []) dX0_lowerBy_3 (c_H_of (d := 0) (u := u) (g := g) (ex := ex) (pond := pond) (column := 1) (t := 44) (by decide) (by decide)) hq.n k974 k749 k750 wc_44 rfl rfl k89 k751 np_X1_of (Nat.le_trans (by decide) hd) (by decide) (Nat.le_refl _) (Nat.le_refl _) wlen rfl (Nat.le_of_ble_eq_true rfl) (fun r_ h_ p1 => ?_)
  obtain ⟨rfl, rfl⟩ := p1
  refine J_istore_n (i := 3) (lw := [(3, .int (hof u 44 pond (1 : Int32))), (0, .ref 56), (1, .ref 44), (2, .int pond)]) dX0_lowerBy_6 rfl (by decide) rfl ?_
  refine J_iconst (v := 0) dX0_lowerBy_7 (by decide) ?_
  refine J_istore (i := 4) (lw := [(4, .int 0), (3, .int (hof u 44 pond (1 : Int32))), (0, .ref 56), (1, .ref 44), (2, .int pond)]) dX0_lowerBy_8 (by decide) rfl ?_
  refine J_aload_n (i := 0) (j := 2) dX0_lowerBy_10 rfl rfl ?_
  refine J_get (C := RX0) (T := TX0) (Z := 10) (ci := 0) (f := 1) dX0_lowerBy_11 inG0 rfl (by decide) k388 wc_56 rfl ?_
  refine J_aload_n (i := 1) (j := 3) dX0_lowerBy_14 rfl rfl ?_
  refine J_callV (As := [.ref 44]) (rest := []) dX0_lowerBy_15 (c_H_copy (d := 1) (u := u) (g := g) (ex := ex)  (t := 70) (f := 44) (by decide) (by decide) (by decide) (Nat.ne_of_beq_eq_false rfl) hp0 hp1) hq.n k1013 k681 k682 wc_70 rfl rfl k89 k683 np_X1_copy (Nat.le_trans (by decide) hd) (by decide) (Nat.le_refl _) (Nat.le_refl _) wlen rfl (Nat.le_of_ble_eq_true rfl) (fun r_ h_ p2 => ?_)
  obtain ⟨u3, rfl, rfl, h4, h5, fr6, fc7⟩ := p2
  refine J_iconst (v := 0) dX0_lowerBy_18 (by decide) ?_
  refine J_istore (i := 5) (lw := [(5, .int 0), (4, .int 0), (3, .int (hof u 44 pond (1 : Int32))), (0, .ref 56), (1, .ref 44), (2, .int pond)]) dX0_lowerBy_19 (by decide) rfl ?_
  have lp957 : ∀ (n958 : Nat) (w858 : Int32) (w859 : Int32) (u860 : Nat → Nat → Int32) (g867 : Nat → Nat → Int64), Bd 0 1000 w858 → Bd 0 1000 w859 → (∀ c, nin c [(58, 67), (71, 71)] = true → u860 c = u3 c) → (∀ j, j ≠ 0 → j ≠ 1 → j ≠ 2 → j ≠ 3 → j ≠ 4 → u860 58 j = u3 58 j) → (∀ j, j ≠ 0 → j ≠ 2 → u860 61 j = u3 61 j) → Bd 0 9 (u860 61 0) → Bd 0 4 (u860 61 2) → AB u860 66 0 511 → (1000 - w859.toInt).toNat < n958 → J x yX0_lowerBy cX0_lowerBy 8 (some .int) d 0 0 (Wd u g ex).length 21 [(0, .ref 56), (1, .ref 44), (2, .int pond), (3, .int (hof u 44 pond (1 : Int32))), (4, .int w858), (5, .int w859)] [] (Wd u860 g867 ex) 0 0 := by
    intro n958
    induction n958 with
    | zero => intro w858 w859 u860 g867 bw858 bw859 fr861 fc862 fc863 bm864 bm865 ab866 hm960; exact absurd hm960 (Nat.not_lt_zero _)
    | succ n958 ih959 =>
      intro w858 w859 u860 g867 bw858 bw859 fr861 fc862 fc863 bm864 bm865 ab866 hm960
      refine J_iload (i := 5) (j := 5) dX0_lowerBy_21 rfl ?_
      refine J_iload_n (i := 3) (j := 3) dX0_lowerBy_23 rfl rfl ?_
      refine J_icmp_gt (tgt := 125) dX0_lowerBy_24 (by decide) (fun c961 => ?_) (fun c961 => ?_)
      · refine J_iload (i := 4) (j := 4) dX0_lowerBy_125 rfl ?_
        exact J_iret hq dX0_lowerBy_127 rfl wlen (Nat.le_refl _) (Nat.le_refl _) ⟨w858, u860, g867, rfl, rfl, bm864, bm865, ab866, (bd_r (congrFun (fr861 70 rfl) 0) h4), (bd_r (congrFun (fr861 70 rfl) 2) h5), (fun c k_ => ((fr861 c (nin_sub (M := [(58, 67), (71, 71)]) k_ rfl)).trans (fr6 c (nin_ne (a := 70) k_ rfl) (nin_ne (a := 71) k_ rfl) (nin_ne (a := 72) k_ rfl) (nin_ne (a := 73) k_ rfl) (nin_ne (a := 74) k_ rfl)))), (fun j k0_ k1_ k2_ k3_ k4_ => ((fc862 j k0_ k1_ k2_ k3_ k4_).trans (congrFun (fr6 58 (Nat.ne_of_beq_eq_false rfl) (Nat.ne_of_beq_eq_false rfl) (Nat.ne_of_beq_eq_false rfl) (Nat.ne_of_beq_eq_false rfl) (Nat.ne_of_beq_eq_false rfl)) j))), (fun j k0_ k2_ => ((fc863 j k0_ k2_).trans (congrFun (fr6 61 (Nat.ne_of_beq_eq_false rfl) (Nat.ne_of_beq_eq_false rfl) (Nat.ne_of_beq_eq_false rfl) (Nat.ne_of_beq_eq_false rfl) (Nat.ne_of_beq_eq_false rfl)) j))), (fun j k0_ k2_ => ((congrFun (fr861 70 rfl) j).trans (fc7 j k0_ k2_)))⟩
      · refine J_aload_n (i := 0) (j := 0) dX0_lowerBy_27 rfl rfl ?_
        refine J_get (C := RX0) (T := TX0) (Z := 10) (ci := 0) (f := 1) dX0_lowerBy_28 inG0 rfl (by decide) k388 wc_56 rfl ?_
        refine J_iload_n (i := 2) (j := 2) dX0_lowerBy_31 rfl rfl ?_
        refine J_iconst (v := 1) dX0_lowerBy_32 (by decide) ?_
        refine J_iload_n (i := 3) (j := 3) dX0_lowerBy_33 rfl rfl ?_
        refine J_iload (i := 5) (j := 5) dX0_lowerBy_34 rfl ?_
        refine J_isub dX0_lowerBy_36 ?_
        refine J_callV (As := [.int pond, .int 1, .int ((hof u 44 pond (1 : Int32)) - w859)]) (rest := []) dX0_lowerBy_37 (c_H_put (d := 0) (u := u860) (g := g867) (ex := ex) (pond := pond) (column := 1) (value := ((hof u 44 pond (1 : Int32)) - w859)) (t := 70) (by decide) (by decide)) hq.n k1014 k650 k651 wc_70 rfl rfl k89 k652 np_X1_put (Nat.le_trans (by decide) hd) (by decide) (Nat.le_refl _) (Nat.le_refl _) wlen rfl (Nat.le_of_ble_eq_true rfl) (fun r_ h_ p1006 => ?_)
        obtain ⟨u1007, rfl, rfl, fr1008⟩ := p1006
        refine J_aload_n (i := 0) (j := 0) dX0_lowerBy_40 rfl rfl ?_
        refine J_get (C := RX0) (T := TX0) (Z := 10) (ci := 0) (f := 0) dX0_lowerBy_41 inG0 rfl (by decide) k386 wc_56 rfl ?_
        refine J_aload_n (i := 0) (j := 0) dX0_lowerBy_44 rfl rfl ?_
        refine J_get (C := RX0) (T := TX0) (Z := 10) (ci := 0) (f := 1) dX0_lowerBy_45 inG0 rfl (by decide) k388 wc_56 rfl ?_
        refine J_iconst (v := (-1)) dX0_lowerBy_48 (by decide) ?_
        refine J_aload_n (i := 0) (j := 0) dX0_lowerBy_49 rfl rfl ?_
        refine J_get (C := RX0) (T := TX0) (Z := 10) (ci := 0) (f := 1) dX0_lowerBy_50 inG0 rfl (by decide) k388 wc_56 rfl ?_
        refine J_callV (As := []) (rest := [.int (-1), .ref 70, .ref 57]) dX0_lowerBy_53 (c_H_weak (d := 1) (u := u1007) (g := g867) (ex := ex)  (t := 70) (by decide) (by decide) (bd_r ((congrFun (fr1008 70 (Nat.ne_of_beq_eq_false rfl)) 0).trans (congrFun (fr861 70 rfl) 0)) h4) (bd_r ((congrFun (fr1008 70 (Nat.ne_of_beq_eq_false rfl)) 2).trans (congrFun (fr861 70 rfl) 2)) h5)) hq.n k947 k857 k858 wc_70 rfl rfl k89 k859 np_X1_weak (Nat.le_trans (by decide) hd) (by decide) (Nat.le_refl _) (Nat.le_refl _) wlen rfl (Nat.le_of_ble_eq_true rfl) (fun r_ h_ p1009 => ?_)
        obtain ⟨v1010, rfl, rfl, h1011⟩ := p1009
        refine J_callV (As := [.ref 70, .int (-1), .int v1010]) (rest := []) dX0_lowerBy_56 (c_O_look_70 (d := 3) (u := u1007) (g := g867) (ex := ex) (keeper := (-1)) (mayGo := v1010)  (by decide) (bd_r ((congrFun (fr1008 70 (Nat.ne_of_beq_eq_false rfl)) 0).trans (congrFun (fr861 70 rfl) 0)) h4) (bd_r ((congrFun (fr1008 70 (Nat.ne_of_beq_eq_false rfl)) 2).trans (congrFun (fr861 70 rfl) 2)) h5) (ab_c (fr1008 66 (Nat.ne_of_beq_eq_false rfl)) ab866)) hq.n k948 k862 k863 wc_57 rfl rfl k96 k864 np_X2_look (Nat.le_trans (by decide) hd) (by decide) (Nat.le_refl _) (Nat.le_refl _) wlen rfl (Nat.le_of_ble_eq_true rfl) (fun r_ h_ p1012 => ?_)
        obtain ⟨u1013, g1014, rfl, rfl, h1015, h1016, h1017, fr1018, fc1019, fc1020⟩ := p1012
        refine J_aload_n (i := 0) (j := 0) dX0_lowerBy_59 rfl rfl ?_
        refine J_get (C := RX0) (T := TX0) (Z := 10) (ci := 0) (f := 0) dX0_lowerBy_60 inG0 rfl (by decide) k386 wc_56 rfl ?_
        refine J_aload_n (i := 1) (j := 1) dX0_lowerBy_63 rfl rfl ?_
        refine J_callV (As := []) (rest := [.ref 57]) dX0_lowerBy_64 (c_H_all (d := 0) (u := u1013) (g := g1014) (ex := ex)  (t := 44) (by decide) (by decide) (bd_r ((congrFun (fr1018 44 rfl) 0).trans ((congrFun (fr1008 44 (Nat.ne_of_beq_eq_false rfl)) 0).trans ((congrFun (fr861 44 rfl) 0).trans (congrFun (fr6 44 (Nat.ne_of_beq_eq_false rfl) (Nat.ne_of_beq_eq_false rfl) (Nat.ne_of_beq_eq_false rfl) (Nat.ne_of_beq_eq_false rfl) (Nat.ne_of_beq_eq_false rfl)) 0)))) hp0) (bd_r ((congrFun (fr1018 44 rfl) 2).trans ((congrFun (fr1008 44 (Nat.ne_of_beq_eq_false rfl)) 2).trans ((congrFun (fr861 44 rfl) 2).trans (congrFun (fr6 44 (Nat.ne_of_beq_eq_false rfl) (Nat.ne_of_beq_eq_false rfl) (Nat.ne_of_beq_eq_false rfl) (Nat.ne_of_beq_eq_false rfl) (Nat.ne_of_beq_eq_false rfl)) 2)))) hp1)) hq.n k954 k801 k802 wc_44 rfl rfl k89 k803 np_X1_all (Nat.le_trans (by decide) hd) (by decide) (Nat.le_refl _) (Nat.le_refl _) wlen rfl (Nat.le_of_ble_eq_true rfl) (fun r_ h_ p1021 => ?_)
        obtain ⟨v1022, rfl, rfl, h1023⟩ := p1021
        refine J_callV (As := [.int v1022]) (rest := []) dX0_lowerBy_67 (c_O_meanOf (d := 2) (u := u1013) (g := g1014) (ex := ex) (counted := v1022)  (by decide) h1015 h1016 h1017) hq.n k955 k908 k909 wc_57 rfl rfl k96 k910 np_X2_meanOf (Nat.le_trans (by decide) hd) (by decide) (Nat.le_refl _) (Nat.le_refl _) wlen rfl (Nat.le_of_ble_eq_true rfl) (fun r_ h_ p1024 => ?_)
        obtain ⟨l1025, rfl, rfl⟩ := p1024
        refine J_aload_n (i := 0) (j := 0) dX0_lowerBy_70 rfl rfl ?_
        refine J_get (C := RX0) (T := TX0) (Z := 10) (ci := 0) (f := 0) dX0_lowerBy_71 inG0 rfl (by decide) k386 wc_56 rfl ?_
        refine J_iconst (v := 0) dX0_lowerBy_74 (by decide) ?_
        refine J_callV (As := [.int 0]) (rest := [.long l1025]) dX0_lowerBy_75 (c_O_partsOf (d := 2) (u := u1013) (g := g1014) (ex := ex) (set := 0)  (by decide) h1015 h1016 h1017) hq.n k1015 k880 k881 wc_57 rfl rfl k96 k882 np_X2_partsOf (Nat.le_trans (by decide) hd) (by decide) (Nat.le_refl _) (Nat.le_refl _) wlen rfl (Nat.le_of_ble_eq_true rfl) (fun r_ h_ p1026 => ?_)
        obtain ⟨l1027, rfl, rfl⟩ := p1026
        refine J_aload_n (i := 1) (j := 1) dX0_lowerBy_78 rfl rfl ?_
        refine J_iload_n (i := 2) (j := 2) dX0_lowerBy_79 rfl rfl ?_
        refine J_bipush (v := 7) dX0_lowerBy_80 (by decide) ?_
        refine J_callV (As := [.int pond, .int 7]) (rest := [.long l1027, .long l1025]) dX0_lowerBy_82 (c_H_of (d := 0) (u := u1013) (g := g1014) (ex := ex) (pond := pond) (column := 7) (t := 44) (by decide) (by decide)) hq.n k974 k749 k750 wc_44 rfl rfl k89 k751 np_X1_of (Nat.le_trans (by decide) hd) (by decide) (Nat.le_refl _) (Nat.le_refl _) wlen rfl (Nat.le_of_ble_eq_true rfl) (fun r_ h_ p1028 => ?_)
        obtain ⟨rfl, rfl⟩ := p1028
        refine J_ci (v := (hof u 44 pond (7 : Int32))) (hof_c ((fr1018 45 rfl).trans ((fr1008 45 (Nat.ne_of_beq_eq_false rfl)).trans ((fr861 45 rfl).trans (fr6 45 (Nat.ne_of_beq_eq_false rfl) (Nat.ne_of_beq_eq_false rfl) (Nat.ne_of_beq_eq_false rfl) (Nat.ne_of_beq_eq_false rfl) (Nat.ne_of_beq_eq_false rfl)))))) ?_
        refine J_i2l dX0_lowerBy_85 rfl ?_
        refine J_topl (fun l1029 _ => ?_)
        refine J_lmul dX0_lowerBy_86 ?_
        refine J_topl (fun l1030 _ => ?_)
        refine J_iload (i := 5) (j := 5) dX0_lowerBy_87 rfl ?_
        refine J_i2l dX0_lowerBy_89 rfl ?_
        refine J_topl (fun l1031 _ => ?_)
        refine J_lmul dX0_lowerBy_90 ?_
        refine J_topl (fun l1032 _ => ?_)
        refine J_ladd dX0_lowerBy_91 ?_
        refine J_topl (fun l1033 _ => ?_)
        refine J_lstore (i := 6) (lw := [(6, .long l1033), (0, .ref 56), (1, .ref 44), (2, .int pond), (3, .int (hof u 44 pond (1 : Int32))), (4, .int w858), (5, .int w859)]) dX0_lowerBy_92 (by decide) rfl ?_
        refine J_iload (i := 5) (j := 6) dX0_lowerBy_94 rfl ?_
        have jn1043 : ∀ (w1041 : Int32) (g1042 : Nat → Nat → Int64), Bd 0 1000 w1041 → J x yX0_lowerBy cX0_lowerBy 8 (some .int) d 0 0 (Wd u g ex).length 119 [(0, .ref 56), (1, .ref 44), (2, .int pond), (3, .int (hof u 44 pond (1 : Int32))), (4, .int w1041), (5, .int w859)] [] (Wd u1013 g1042 ex) 0 0 := by
          intro w1041 g1042 bw1041
          refine J_iinc (i := 5) (j := 5) (v := (w859 + 1)) (lw := [(5, .int (w859 + 1)), (0, .ref 56), (1, .ref 44), (2, .int pond), (3, .int (hof u 44 pond (1 : Int32))), (4, .int w1041)]) dX0_lowerBy_119 rfl rfl (by decide) rfl ?_
          refine J_goto (tgt := 21) dX0_lowerBy_122 (by decide) ?_
          refine J_lv [1, 2, 3, 4, 5, 0] rfl ?_
          exact ih959 w1041 (w859 + 1) u1013 g1042 bw1041 (bd_w (l := 0) (h := 1000) (bd_add (l := 1) (h := 1000) (bd_le_hi bw859 (i_nlt c961) (hof_b hp2 (by decide))) (bd_c (v := 1) (lo := 1) (hi := 1) (by decide)) (by decide)) (by decide)) (fun c k_ => ((fr1018 c (nin_sub (M := [(58, 67)]) k_ rfl)).trans ((fr1008 c (nin_ne (a := 71) k_ rfl)).trans (fr861 c (nin_sub (M := [(58, 67), (71, 71)]) k_ rfl))))) (fun j k0_ k1_ k2_ k3_ k4_ => ((fc1019 j k0_ k1_ k2_ k3_ k4_).trans ((congrFun (fr1008 58 (Nat.ne_of_beq_eq_false rfl)) j).trans (fc862 j k0_ k1_ k2_ k3_ k4_)))) (fun j k0_ k2_ => ((fc1020 j k0_ k2_).trans ((congrFun (fr1008 61 (Nat.ne_of_beq_eq_false rfl)) j).trans (fc863 j k0_ k2_)))) h1015 h1016 h1017 (mu_up 1 bw859 rfl (by decide) (bd_w (l := 1) (h := 1000) (bd_add (l := 1) (h := 1000) (bd_le_hi bw859 (i_nlt c961) (hof_b hp2 (by decide))) (bd_c (v := 1) (lo := 1) (hi := 1) (by decide)) (by decide)) (by decide)) hm960)
        refine J_if_eq (tgt := 109) dX0_lowerBy_96 (by decide) (fun c1034 => ?_) (fun c1034 => ?_)
        · refine J_iload (i := 5) (j := 6) dX0_lowerBy_109 rfl ?_
          refine J_istore (i := 4) (lw := [(4, .int w859), (6, .long l1033), (0, .ref 56), (1, .ref 44), (2, .int pond), (3, .int (hof u 44 pond (1 : Int32))), (5, .int w859)]) dX0_lowerBy_111 (by decide) rfl ?_
          refine J_aload_n (i := 0) (j := 2) dX0_lowerBy_113 rfl rfl ?_
          refine J_lload (i := 6) (j := 1) dX0_lowerBy_114 rfl ?_
          obtain ⟨g1044, e1045⟩ : ∃ z, z = ml g1014 56 4 l1033 := ⟨_, rfl⟩
          refine J_put (C := RX0) (T := TX0) (Z := 10) (ci := 0) (f := 4) (ty0 := tyX0) dX0_lowerBy_116 inG0 rfl tyX0_ok nmX0 (by decide) k393 rfl rfl wc_56 (Nat.le_of_ble_eq_true rfl) (fun _ _ => ⟨rfl, rfl⟩) (wsl e1045 wk_56 rfl) ?_
          refine J_lv [2, 3, 4, 5, 0, 6] rfl ?_
          exact jn1043 w859 g1044 (bd_w (l := 0) (h := 1000) (bd_r c1034 (bd_c (v := 0) (lo := 0) (hi := 0) (by decide))) (by decide))
        · refine J_lload (i := 6) (j := 0) dX0_lowerBy_99 rfl ?_
          refine J_aload_n (i := 0) (j := 1) dX0_lowerBy_101 rfl rfl ?_
          refine J_get (C := RX0) (T := TX0) (Z := 10) (ci := 0) (f := 4) dX0_lowerBy_102 inG0 rfl (by decide) k393 wc_56 rfl ?_
          refine J_topl (fun l1046 _ => ?_)
          refine J_lcmp dX0_lowerBy_105 ?_
          refine J_if_ge (tgt := 119) dX0_lowerBy_106 (by decide) (fun c1047 => ?_) (fun c1047 => ?_)
          · refine J_lv [1, 2, 3, 4, 5, 6] rfl ?_
            exact jn1043 w858 g1014 bw858
          · refine J_iload (i := 5) (j := 6) dX0_lowerBy_109 rfl ?_
            refine J_istore (i := 4) (lw := [(4, .int w859), (6, .long l1033), (0, .ref 56), (1, .ref 44), (2, .int pond), (3, .int (hof u 44 pond (1 : Int32))), (5, .int w859)]) dX0_lowerBy_111 (by decide) rfl ?_
            refine J_aload_n (i := 0) (j := 2) dX0_lowerBy_113 rfl rfl ?_
            refine J_lload (i := 6) (j := 1) dX0_lowerBy_114 rfl ?_
            obtain ⟨g1048, e1049⟩ : ∃ z, z = ml g1014 56 4 l1033 := ⟨_, rfl⟩
            refine J_put (C := RX0) (T := TX0) (Z := 10) (ci := 0) (f := 4) (ty0 := tyX0) dX0_lowerBy_116 inG0 rfl tyX0_ok nmX0 (by decide) k393 rfl rfl wc_56 (Nat.le_of_ble_eq_true rfl) (fun _ _ => ⟨rfl, rfl⟩) (wsl e1049 wk_56 rfl) ?_
            refine J_lv [2, 3, 4, 5, 0, 6] rfl ?_
            exact jn1043 w859 g1048 (bd_w (l := 0) (h := 1000) (bd_ne_lo (bd_le_hi bw859 (i_nlt c961) (hof_b hp2 (by decide))) c1034 (by decide)) (by decide))
  refine J_lv [3, 4, 5, 2, 1, 0] rfl ?_
  exact lp957 _ (0 : Int32) (0 : Int32) u3 g (bd_w (l := 0) (h := 1000) (bd_c (v := 0) (lo := 0) (hi := 0) (by decide)) (by decide)) (bd_w (l := 0) (h := 1000) (bd_c (v := 0) (lo := 0) (hi := 0) (by decide)) (by decide)) (fun c k_ => rfl) (fun j k0_ k1_ k2_ k3_ k4_ => rfl) (fun j k0_ k2_ => rfl) (bd_r (congrFun (fr6 61 (Nat.ne_of_beq_eq_false rfl) (Nat.ne_of_beq_eq_false rfl) (Nat.ne_of_beq_eq_false rfl) (Nat.ne_of_beq_eq_false rfl) (Nat.ne_of_beq_eq_false rfl)) 0) hp3) (bd_r (congrFun (fr6 61 (Nat.ne_of_beq_eq_false rfl) (Nat.ne_of_beq_eq_false rfl) (Nat.ne_of_beq_eq_false rfl) (Nat.ne_of_beq_eq_false rfl) (Nat.ne_of_beq_eq_false rfl)) 2) hp4) (ab_c (fr6 66 (Nat.ne_of_beq_eq_false rfl) (Nat.ne_of_beq_eq_false rfl) (Nat.ne_of_beq_eq_false rfl) (Nat.ne_of_beq_eq_false rfl) (Nat.ne_of_beq_eq_false rfl)) hp5) (Nat.lt_succ_self _)
set_option maxHeartbeats 4000000 in
set_option maxRecDepth 100000 in
theorem c_C_mostUrgent {d : Nat} {u : Nat → Nat → Int32} {g : Nat → Nat → Int64} {ex : List MC}  (hd : 3 ≤ d) (hp0 : Bd 0 9 (u 44 0)) (hp1 : Bd 0 4 (u 44 2)) : CT con0 d 0 0 yX0_mostUrgent cX0_mostUrgent 8 (some .int) [.ref 56, .ref 44] (Wd u g ex) (fun r h2 => ∃ (z : Int32), r = some (.int z) ∧ h2 = Wd u g ex) := by
  refine CT_of (by decide) (Nat.le_of_ble_eq_true rfl) (fun x hq => ?_)
  show J x yX0_mostUrgent cX0_mostUrgent 8 (some .int) d 0 0 (Wd u g ex).length 0 [(0, .ref 56), (1, .ref 44)] [] (Wd u g ex) 0 0
  refine J_iconst (v := (-1)) dX0_mostUrgent_0 (by decide) ?_
  refine J_istore_n (i := 2) (lw := [(2, .int (-1)), (0, .ref 56), (1, .ref 44)]) dX0_mostUrgent_1 rfl (by decide) rfl ?_
  refine J_iconst (v := 0) dX0_mostUrgent_2 (by decide) ?_
  refine J_istore_n (i := 3) (lw := [(3, .int 0), (2, .int (-1)), (0, .ref 56), (1, .ref 44)]) dX0_mostUrgent_3 rfl (by decide) rfl ?_
  refine J_iconst (v := 1) dX0_mostUrgent_4 (by decide) ?_
  refine J_istore (i := 4) (lw := [(4, .int 1), (3, .int 0), (2, .int (-1)), (0, .ref 56), (1, .ref 44)]) dX0_mostUrgent_5 (by decide) rfl ?_
  refine J_iconst (v := 0) dX0_mostUrgent_7 (by decide) ?_
  refine J_istore (i := 5) (lw := [(5, .int 0), (4, .int 1), (3, .int 0), (2, .int (-1)), (0, .ref 56), (1, .ref 44)]) dX0_mostUrgent_8 (by decide) rfl ?_
  have lp84 : ∀ (n85 : Nat) (w55 : Int32) (w56 : Int32) (w57 : Int32) (w58 : Int32), Bd (-1) 9 w55 → Bd 0 2147483647 w56 → Bd 0 9 w58 → (9 - w58.toInt).toNat < n85 → J x yX0_mostUrgent cX0_mostUrgent 8 (some .int) d 0 0 (Wd u g ex).length 10 [(1, .ref 44), (2, .int w55), (3, .int w56), (4, .int w57), (5, .int w58)] [] (Wd u g ex) 0 0 := by
    intro n85
    induction n85 with
    | zero => intro w55 w56 w57 w58 bw55 bw56 bw58 hm87; exact absurd hm87 (Nat.not_lt_zero _)
    | succ n85 ih86 =>
      intro w55 w56 w57 w58 bw55 bw56 bw58 hm87
      refine J_iload (i := 5) (j := 4) dX0_mostUrgent_10 rfl ?_
      refine J_aload_n (i := 1) (j := 0) dX0_mostUrgent_12 rfl rfl ?_
      refine J_getN (C := RX1) (T := TX1) (Z := 6) (ci := 1) (f := 0) dX0_mostUrgent_13 inG1 rfl (by decide) k134 wc_44 rfl ?_
      refine J_icmp_ge (tgt := 76) dX0_mostUrgent_16 (by decide) (fun c88 => ?_) (fun c88 => ?_)
      · refine J_iload_n (i := 2) (j := 1) dX0_mostUrgent_76 rfl rfl ?_
        exact J_iret hq dX0_mostUrgent_77 rfl wlen (Nat.le_refl _) (Nat.le_refl _) ⟨w55, rfl, rfl⟩
      · refine J_aload_n (i := 1) (j := 0) dX0_mostUrgent_19 rfl rfl ?_
        refine J_iload (i := 5) (j := 4) dX0_mostUrgent_20 rfl ?_
        refine J_callV (As := [.int w58]) (rest := []) dX0_mostUrgent_22 (c_H_seenAndGoes (d := 1) (u := u) (g := g) (ex := ex) (pond := w58) (t := 44) (by decide) (by decide)) hq.n k1098 k1075 k1076 wc_44 rfl rfl k89 k1077 np_X1_seenAndGoes (Nat.le_trans (by decide) hd) (by decide) (Nat.le_refl _) (Nat.le_refl _) wlen rfl (Nat.le_of_ble_eq_true rfl) (fun r_ h_ p101 => ?_)
        obtain ⟨v102, rfl, rfl⟩ := p101
        refine J_aload_n (i := 1) (j := 0) dX0_mostUrgent_25 rfl rfl ?_
        refine J_iload (i := 5) (j := 4) dX0_mostUrgent_26 rfl ?_
        refine J_iconst (v := 5) dX0_mostUrgent_28 (by decide) ?_
        refine J_callV (As := [.int w58, .int 5]) (rest := [.int v102]) dX0_mostUrgent_29 (c_H_of (d := 0) (u := u) (g := g) (ex := ex) (pond := w58) (column := 5) (t := 44) (by decide) (by decide)) hq.n k974 k749 k750 wc_44 rfl rfl k89 k751 np_X1_of (Nat.le_trans (by decide) hd) (by decide) (Nat.le_refl _) (Nat.le_refl _) wlen rfl (Nat.le_of_ble_eq_true rfl) (fun r_ h_ p103 => ?_)
        obtain ⟨rfl, rfl⟩ := p103
        refine J_imul dX0_mostUrgent_32 ?_
        refine J_istore (i := 6) (lw := [(6, .int (v102 * (hof u 44 w58 (5 : Int32)))), (1, .ref 44), (2, .int w55), (3, .int w56), (4, .int w57), (5, .int w58)]) dX0_mostUrgent_33 (by decide) rfl ?_
        refine J_aload_n (i := 1) (j := 1) dX0_mostUrgent_35 rfl rfl ?_
        refine J_iload (i := 5) (j := 5) dX0_mostUrgent_36 rfl ?_
        refine J_callV (As := [.int w58]) (rest := []) dX0_mostUrgent_38 (c_H_seen (d := 2) (u := u) (g := g) (ex := ex) (pond := w58) (t := 44) (by decide) (by decide)) hq.n k1099 k1079 k1080 wc_44 rfl rfl k89 k1081 np_X1_seen (Nat.le_trans (by decide) hd) (by decide) (Nat.le_refl _) (Nat.le_refl _) wlen rfl (Nat.le_of_ble_eq_true rfl) (fun r_ h_ p104 => ?_)
        obtain ⟨v105, rfl, rfl⟩ := p104
        refine J_istore (i := 7) (lw := [(7, .int v105), (6, .int (v102 * (hof u 44 w58 (5 : Int32)))), (1, .ref 44), (2, .int w55), (3, .int w56), (4, .int w57), (5, .int w58)]) dX0_mostUrgent_41 (by decide) rfl ?_
        refine J_iload (i := 6) (j := 1) dX0_mostUrgent_43 rfl ?_
        have jn111 : ∀ (w108 : Int32) (w109 : Int32) (w110 : Int32), Bd (-1) 9 w108 → Bd 0 2147483647 w109 → J x yX0_mostUrgent cX0_mostUrgent 8 (some .int) d 0 0 (Wd u g ex).length 70 [(1, .ref 44), (2, .int w108), (3, .int w109), (4, .int w110), (5, .int w58)] [] (Wd u g ex) 0 0 := by
          intro w108 w109 w110 bw108 bw109
          refine J_iinc (i := 5) (j := 4) (v := (w58 + 1)) (lw := [(5, .int (w58 + 1)), (1, .ref 44), (2, .int w108), (3, .int w109), (4, .int w110)]) dX0_mostUrgent_70 rfl rfl (by decide) rfl ?_
          refine J_goto (tgt := 10) dX0_mostUrgent_73 (by decide) ?_
          refine J_lv [1, 2, 3, 4, 0] rfl ?_
          exact ih86 w108 w109 w110 (w58 + 1) bw108 bw109 (bd_w (l := 0) (h := 9) (bd_add (l := 1) (h := 9) (bd_lt_hi bw58 (i_nle c88) hp0) (bd_c (v := 1) (lo := 1) (hi := 1) (by decide)) (by decide)) (by decide)) (mu_up 1 bw58 rfl (by decide) (bd_w (l := 1) (h := 9) (bd_add (l := 1) (h := 9) (bd_lt_hi bw58 (i_nle c88) hp0) (bd_c (v := 1) (lo := 1) (hi := 1) (by decide)) (by decide)) (by decide)) hm87)
        refine J_if_le (tgt := 70) dX0_mostUrgent_45 (by decide) (fun c106 => ?_) (fun c106 => ?_)
        · refine J_lv [2, 3, 4, 5, 6] rfl ?_
          exact jn111 w55 w56 w57 bw55 bw56
        · refine J_iload (i := 6) (j := 1) dX0_mostUrgent_48 rfl ?_
          refine J_iload (i := 4) (j := 5) dX0_mostUrgent_50 rfl ?_
          refine J_imul dX0_mostUrgent_52 ?_
          refine J_iload_n (i := 3) (j := 4) dX0_mostUrgent_53 rfl rfl ?_
          refine J_iload (i := 7) (j := 0) dX0_mostUrgent_54 rfl ?_
          refine J_imul dX0_mostUrgent_56 ?_
          refine J_icmp_le (tgt := 70) dX0_mostUrgent_57 (by decide) (fun c112 => ?_) (fun c112 => ?_)
          · refine J_lv [2, 3, 4, 5, 6] rfl ?_
            exact jn111 w55 w56 w57 bw55 bw56
          · refine J_iload (i := 5) (j := 6) dX0_mostUrgent_60 rfl ?_
            refine J_istore_n (i := 2) (lw := [(2, .int w58), (7, .int v105), (6, .int (v102 * (hof u 44 w58 (5 : Int32)))), (1, .ref 44), (3, .int w56), (4, .int w57), (5, .int w58)]) dX0_mostUrgent_62 rfl (by decide) rfl ?_
            refine J_iload (i := 6) (j := 2) dX0_mostUrgent_63 rfl ?_
            refine J_istore_n (i := 3) (lw := [(3, .int (v102 * (hof u 44 w58 (5 : Int32)))), (2, .int w58), (7, .int v105), (6, .int (v102 * (hof u 44 w58 (5 : Int32)))), (1, .ref 44), (4, .int w57), (5, .int w58)]) dX0_mostUrgent_65 rfl (by decide) rfl ?_
            refine J_iload (i := 7) (j := 2) dX0_mostUrgent_66 rfl ?_
            refine J_istore (i := 4) (lw := [(4, .int v105), (3, .int (v102 * (hof u 44 w58 (5 : Int32)))), (2, .int w58), (7, .int v105), (6, .int (v102 * (hof u 44 w58 (5 : Int32)))), (1, .ref 44), (5, .int w58)]) dX0_mostUrgent_68 (by decide) rfl ?_
            refine J_lv [5, 2, 1, 0, 6] rfl ?_
            exact jn111 w58 (v102 * (hof u 44 w58 (5 : Int32))) v105 (bd_w (l := (-1)) (h := 9) (bd_lt_hi bw58 (i_nle c88) hp0) (by decide)) (bd_w (l := 0) (h := 2147483647) (bd_lt_lo (bd_any (v102 * (hof u 44 w58 (5 : Int32)))) (i_nle c106) (bd_c (v := 0) (lo := 0) (hi := 0) (by decide))) (by decide))
  refine J_lv [5, 3, 2, 1, 0] rfl ?_
  exact lp84 _ ((-1) : Int32) (0 : Int32) (1 : Int32) (0 : Int32) (bd_w (l := (-1)) (h := 9) (bd_c (v := (-1)) (lo := (-1)) (hi := (-1)) (by decide)) (by decide)) (bd_w (l := 0) (h := 2147483647) (bd_c (v := 0) (lo := 0) (hi := 0) (by decide)) (by decide)) (bd_w (l := 0) (h := 9) (bd_c (v := 0) (lo := 0) (hi := 0) (by decide)) (by decide)) (Nat.lt_succ_self _)
set_option maxHeartbeats 4000000 in
set_option maxRecDepth 100000 in
theorem c_C_heaviest {d : Nat} {u : Nat → Nat → Int32} {g : Nat → Nat → Int64} {ex : List MC}  (hd : 4 ≤ d) (hp0 : Bd 0 9 (u 44 0)) (hp1 : Bd 0 4 (u 44 2)) (hp2 : AB u 66 0 511) : CT con0 d 0 0 yX0_heaviest cX0_heaviest 10 (some .int) [.ref 56, .ref 44] (Wd u g ex) (fun r h2 => ∃ (z : Int32) (u2 : Nat → Nat → Int32) (g2 : Nat → Nat → Int64), r = some (.int z) ∧ h2 = Wd u2 g2 ex ∧ Bd 0 9 (u2 61 0) ∧ Bd 0 4 (u2 61 2) ∧ AB u2 66 0 511 ∧ (∀ c, nin c [(58, 67)] = true → u2 c = u c) ∧ (∀ j, j ≠ 0 → j ≠ 1 → j ≠ 2 → j ≠ 3 → j ≠ 4 → u2 58 j = u 58 j) ∧ (∀ j, j ≠ 0 → j ≠ 2 → u2 61 j = u 61 j)) := by
  refine CT_of (by decide) (Nat.le_of_ble_eq_true rfl) (fun x hq => ?_)
  show J x yX0_heaviest cX0_heaviest 10 (some .int) d 0 0 (Wd u g ex).length 0 [(0, .ref 56), (1, .ref 44)] [] (Wd u g ex) 0 0
  refine J_aload_n (i := 0) (j := 0) dX0_heaviest_0 rfl rfl ?_
  refine J_get (C := RX0) (T := TX0) (Z := 10) (ci := 0) (f := 0) dX0_heaviest_1 inG0 rfl (by decide) k386 wc_56 rfl ?_
  refine J_aload_n (i := 1) (j := 1) dX0_heaviest_4 rfl rfl ?_
  refine J_iconst (v := (-1)) dX0_heaviest_5 (by decide) ?_
  refine J_aload_n (i := 1) (j := 1) dX0_heaviest_6 rfl rfl ?_
  refine J_callV (As := []) (rest := [.int (-1), .ref 44, .ref 57]) dX0_heaviest_7 (c_H_all (d := 0) (u := u) (g := g) (ex := ex)  (t := 44) (by decide) (by decide) hp0 hp1) hq.n k954 k801 k802 wc_44 rfl rfl k89 k803 np_X1_all (Nat.le_trans (by decide) hd) (by decide) (Nat.le_refl _) (Nat.le_refl _) wlen rfl (Nat.le_of_ble_eq_true rfl) (fun r_ h_ p1 => ?_)
  obtain ⟨v2, rfl, rfl, h3⟩ := p1
  refine J_callV (As := [.ref 44, .int (-1), .int v2]) (rest := []) dX0_heaviest_10 (c_O_look_44 (d := 3) (u := u) (g := g) (ex := ex) (keeper := (-1)) (mayGo := v2)  (by decide) hp0 hp1 hp2) hq.n k948 k862 k863 wc_57 rfl rfl k96 k864 np_X2_look (Nat.le_trans (by decide) hd) (by decide) (Nat.le_refl _) (Nat.le_refl _) wlen rfl (Nat.le_of_ble_eq_true rfl) (fun r_ h_ p4 => ?_)
  obtain ⟨u5, g6, rfl, rfl, h7, h8, h9, fr10, fc11, fc12⟩ := p4
  refine J_aload_n (i := 0) (j := 0) dX0_heaviest_13 rfl rfl ?_
  refine J_get (C := RX0) (T := TX0) (Z := 10) (ci := 0) (f := 0) dX0_heaviest_14 inG0 rfl (by decide) k386 wc_56 rfl ?_
  refine J_aload_n (i := 1) (j := 1) dX0_heaviest_17 rfl rfl ?_
  refine J_callV (As := []) (rest := [.ref 57]) dX0_heaviest_18 (c_H_all (d := 0) (u := u5) (g := g6) (ex := ex)  (t := 44) (by decide) (by decide) (bd_r (congrFun (fr10 44 rfl) 0) hp0) (bd_r (congrFun (fr10 44 rfl) 2) hp1)) hq.n k954 k801 k802 wc_44 rfl rfl k89 k803 np_X1_all (Nat.le_trans (by decide) hd) (by decide) (Nat.le_refl _) (Nat.le_refl _) wlen rfl (Nat.le_of_ble_eq_true rfl) (fun r_ h_ p13 => ?_)
  obtain ⟨v14, rfl, rfl, h15⟩ := p13
  refine J_callV (As := [.int v14]) (rest := []) dX0_heaviest_21 (c_O_meanOf (d := 2) (u := u5) (g := g6) (ex := ex) (counted := v14)  (by decide) h7 h8 h9) hq.n k955 k908 k909 wc_57 rfl rfl k96 k910 np_X2_meanOf (Nat.le_trans (by decide) hd) (by decide) (Nat.le_refl _) (Nat.le_refl _) wlen rfl (Nat.le_of_ble_eq_true rfl) (fun r_ h_ p16 => ?_)
  obtain ⟨l17, rfl, rfl⟩ := p16
  refine J_lstore_n (i := 2) (lw := [(2, .long l17), (0, .ref 56), (1, .ref 44)]) dX0_heaviest_24 rfl (by decide) rfl ?_
  refine J_lconst (v := 0) dX0_heaviest_25 (by decide) ?_
  refine J_lstore (i := 4) (lw := [(4, .long 0), (2, .long l17), (0, .ref 56), (1, .ref 44)]) dX0_heaviest_26 (by decide) rfl ?_
  refine J_iconst (v := (-1)) dX0_heaviest_28 (by decide) ?_
  refine J_istore (i := 6) (lw := [(6, .int (-1)), (4, .long 0), (2, .long l17), (0, .ref 56), (1, .ref 44)]) dX0_heaviest_29 (by decide) rfl ?_
  refine J_iconst (v := 0) dX0_heaviest_31 (by decide) ?_
  refine J_istore (i := 7) (lw := [(7, .int 0), (6, .int (-1)), (4, .long 0), (2, .long l17), (0, .ref 56), (1, .ref 44)]) dX0_heaviest_32 (by decide) rfl ?_
  have lp209 : ∀ (n210 : Nat) (w144 : Int64) (w145 : Int32) (w146 : Int32) (g147 : Nat → Nat → Int64), Bd (-1) 9 w145 → Bd 0 9 w146 → (9 - w146.toInt).toNat < n210 → J x yX0_heaviest cX0_heaviest 10 (some .int) d 0 0 (Wd u g ex).length 34 [(0, .ref 56), (1, .ref 44), (2, .long l17), (4, .long w144), (6, .int w145), (7, .int w146)] [] (Wd u5 g147 ex) 0 0 := by
    intro n210
    induction n210 with
    | zero => intro w144 w145 w146 g147 bw145 bw146 hm212; exact absurd hm212 (Nat.not_lt_zero _)
    | succ n210 ih211 =>
      intro w144 w145 w146 g147 bw145 bw146 hm212
      refine J_iload (i := 7) (j := 5) dX0_heaviest_34 rfl ?_
      refine J_aload_n (i := 1) (j := 1) dX0_heaviest_36 rfl rfl ?_
      refine J_getN (C := RX1) (T := TX1) (Z := 6) (ci := 1) (f := 0) dX0_heaviest_37 inG1 rfl (by decide) k134 wc_44 rfl ?_
      refine J_ci (v := u 44 0) (congrFun (fr10 44 rfl) 0) ?_
      refine J_icmp_ge (tgt := 105) dX0_heaviest_40 (by decide) (fun c213 => ?_) (fun c213 => ?_)
      · refine J_iload (i := 6) (j := 4) dX0_heaviest_105 rfl ?_
        exact J_iret hq dX0_heaviest_107 rfl wlen (Nat.le_refl _) (Nat.le_refl _) ⟨w145, u5, g147, rfl, rfl, h7, h8, h9, (fun c k_ => (fr10 c (nin_sub (M := [(58, 67)]) k_ rfl))), (fun j k0_ k1_ k2_ k3_ k4_ => (fc11 j k0_ k1_ k2_ k3_ k4_)), (fun j k0_ k2_ => (fc12 j k0_ k2_))⟩
      · refine J_aload_n (i := 1) (j := 1) dX0_heaviest_43 rfl rfl ?_
        refine J_iload (i := 7) (j := 5) dX0_heaviest_44 rfl ?_
        refine J_iconst (v := 4) dX0_heaviest_46 (by decide) ?_
        refine J_callV (As := [.int w146, .int 4]) (rest := []) dX0_heaviest_47 (c_H_of (d := 0) (u := u5) (g := g147) (ex := ex) (pond := w146) (column := 4) (t := 44) (by decide) (by decide)) hq.n k974 k749 k750 wc_44 rfl rfl k89 k751 np_X1_of (Nat.le_trans (by decide) hd) (by decide) (Nat.le_refl _) (Nat.le_refl _) wlen rfl (Nat.le_of_ble_eq_true rfl) (fun r_ h_ p244 => ?_)
        obtain ⟨rfl, rfl⟩ := p244
        refine J_ci (v := (hof u 44 w146 (4 : Int32))) (hof_c (fr10 45 rfl)) ?_
        refine J_bipush (v := 10) dX0_heaviest_50 (by decide) ?_
        have jn261 : ∀ (w258 : Int64) (w259 : Int32) (g260 : Nat → Nat → Int64), Bd (-1) 9 w259 → J x yX0_heaviest cX0_heaviest 10 (some .int) d 0 0 (Wd u g ex).length 99 [(0, .ref 56), (1, .ref 44), (2, .long l17), (4, .long w258), (6, .int w259), (7, .int w146)] [] (Wd u5 g260 ex) 0 0 := by
          intro w258 w259 g260 bw259
          refine J_iinc (i := 7) (j := 5) (v := (w146 + 1)) (lw := [(7, .int (w146 + 1)), (0, .ref 56), (1, .ref 44), (2, .long l17), (4, .long w258), (6, .int w259)]) dX0_heaviest_99 rfl rfl (by decide) rfl ?_
          refine J_goto (tgt := 34) dX0_heaviest_102 (by decide) ?_
          refine J_lv [1, 2, 3, 4, 5, 0] rfl ?_
          exact ih211 w258 w259 (w146 + 1) g260 bw259 (bd_w (l := 0) (h := 9) (bd_add (l := 1) (h := 9) (bd_lt_hi bw146 (i_nle c213) hp0) (bd_c (v := 1) (lo := 1) (hi := 1) (by decide)) (by decide)) (by decide)) (mu_up 1 bw146 rfl (by decide) (bd_w (l := 1) (h := 9) (bd_add (l := 1) (h := 9) (bd_lt_hi bw146 (i_nle c213) hp0) (bd_c (v := 1) (lo := 1) (hi := 1) (by decide)) (by decide)) (by decide)) hm212)
        refine J_icmp_ge (tgt := 99) dX0_heaviest_52 (by decide) (fun c245 => ?_) (fun c245 => ?_)
        · refine J_lv [0, 1, 2, 3, 4, 5] rfl ?_
          exact jn261 w144 w145 g147 bw145
        · refine J_aload_n (i := 0) (j := 0) dX0_heaviest_55 rfl rfl ?_
          refine J_get (C := RX0) (T := TX0) (Z := 10) (ci := 0) (f := 0) dX0_heaviest_56 inG0 rfl (by decide) k386 wc_56 rfl ?_
          refine J_iconst (v := 0) dX0_heaviest_59 (by decide) ?_
          refine J_iload (i := 7) (j := 5) dX0_heaviest_60 rfl ?_
          refine J_callSN (As := [.int w146]) (rest := [.int 0, .ref 57]) dX0_heaviest_62 (c_bit9 (d := 0) (u := u5) (g := g147) (ex := ex) (pond := w146)  (by decide) (bd_w (l := (-1)) (h := 8) (bd_lt_hi bw146 (i_nle c213) hp0) (by decide))) hq.n k972 k819 k87 k820 np_X10_bit (Nat.le_trans (by decide) hd) (by decide) (Nat.le_refl _) (Nat.le_refl _) wlen rfl (Nat.le_of_ble_eq_true rfl) (fun r_ h_ p262 => ?_)
          obtain ⟨v263, rfl, rfl, h264⟩ := p262
          refine J_callV (As := [.int 0, .int v263]) (rest := []) dX0_heaviest_65 (c_O_weigh (d := 1) (u := u5) (g := g147) (ex := ex) (mended := 0) (weaker := v263)  (by decide) h7 h8) hq.n k953 k871 k872 wc_57 rfl rfl k96 k873 np_X2_weigh (Nat.le_trans (by decide) hd) (by decide) (Nat.le_refl _) (Nat.le_refl _) wlen rfl (Nat.le_of_ble_eq_true rfl) (fun r_ h_ p265 => ?_)
          obtain ⟨g266, rfl, rfl⟩ := p265
          refine J_aload_n (i := 0) (j := 0) dX0_heaviest_68 rfl rfl ?_
          refine J_get (C := RX0) (T := TX0) (Z := 10) (ci := 0) (f := 0) dX0_heaviest_69 inG0 rfl (by decide) k386 wc_56 rfl ?_
          refine J_aload_n (i := 1) (j := 1) dX0_heaviest_72 rfl rfl ?_
          refine J_callV (As := []) (rest := [.ref 57]) dX0_heaviest_73 (c_H_all (d := 0) (u := u5) (g := g266) (ex := ex)  (t := 44) (by decide) (by decide) (bd_r (congrFun (fr10 44 rfl) 0) (bd_w (l := 0) (h := 9) (bd_lt_lo hp0 (i_nle c213) bw146) (by decide))) (bd_r (congrFun (fr10 44 rfl) 2) hp1)) hq.n k954 k801 k802 wc_44 rfl rfl k89 k803 np_X1_all (Nat.le_trans (by decide) hd) (by decide) (Nat.le_refl _) (Nat.le_refl _) wlen rfl (Nat.le_of_ble_eq_true rfl) (fun r_ h_ p267 => ?_)
          obtain ⟨v268, rfl, rfl, h269⟩ := p267
          refine J_callV (As := [.int v268]) (rest := []) dX0_heaviest_76 (c_O_meanOf (d := 2) (u := u5) (g := g266) (ex := ex) (counted := v268)  (by decide) h7 h8 h9) hq.n k955 k908 k909 wc_57 rfl rfl k96 k910 np_X2_meanOf (Nat.le_trans (by decide) hd) (by decide) (Nat.le_refl _) (Nat.le_refl _) wlen rfl (Nat.le_of_ble_eq_true rfl) (fun r_ h_ p270 => ?_)
          obtain ⟨l271, rfl, rfl⟩ := p270
          refine J_lload_n (i := 2) (j := 2) dX0_heaviest_79 rfl rfl ?_
          refine J_lsub dX0_heaviest_80 ?_
          refine J_topl (fun l272 _ => ?_)
          refine J_lstore (i := 8) (lw := [(8, .long l272), (0, .ref 56), (1, .ref 44), (2, .long l17), (4, .long w144), (6, .int w145), (7, .int w146)]) dX0_heaviest_81 (by decide) rfl ?_
          refine J_lload (i := 8) (j := 0) dX0_heaviest_83 rfl ?_
          refine J_lload (i := 4) (j := 4) dX0_heaviest_85 rfl ?_
          refine J_lcmp dX0_heaviest_87 ?_
          refine J_if_le (tgt := 99) dX0_heaviest_88 (by decide) (fun c273 => ?_) (fun c273 => ?_)
          · refine J_lv [1, 2, 3, 4, 5, 6] rfl ?_
            exact jn261 w144 w145 g266 bw145
          · refine J_lload (i := 8) (j := 0) dX0_heaviest_91 rfl ?_
            refine J_lstore (i := 4) (lw := [(4, .long l272), (8, .long l272), (0, .ref 56), (1, .ref 44), (2, .long l17), (6, .int w145), (7, .int w146)]) dX0_heaviest_93 (by decide) rfl ?_
            refine J_iload (i := 7) (j := 6) dX0_heaviest_95 rfl ?_
            refine J_istore (i := 6) (lw := [(6, .int w146), (4, .long l272), (8, .long l272), (0, .ref 56), (1, .ref 44), (2, .long l17), (7, .int w146)]) dX0_heaviest_97 (by decide) rfl ?_
            refine J_lv [3, 4, 5, 1, 0, 6] rfl ?_
            exact jn261 l272 w146 g266 (bd_w (l := (-1)) (h := 9) (bd_lt_hi bw146 (i_nle c213) hp0) (by decide))
  refine J_lv [4, 5, 3, 2, 1, 0] rfl ?_
  exact lp209 _ (0 : Int64) ((-1) : Int32) (0 : Int32) g6 (bd_w (l := (-1)) (h := 9) (bd_c (v := (-1)) (lo := (-1)) (hi := (-1)) (by decide)) (by decide)) (bd_w (l := 0) (h := 9) (bd_c (v := 0) (lo := 0) (hi := 0) (by decide)) (by decide)) (Nat.lt_succ_self _)
set_option maxHeartbeats 4000000 in
set_option maxRecDepth 100000 in
theorem c_C_turnAround {d : Nat} {u : Nat → Nat → Int32} {g : Nat → Nat → Int64} {ex : List MC}  (hd : 5 ≤ d) (hp0 : Bd 0 9 (u 44 0)) (hp1 : Bd 0 4 (u 44 2)) (hp2 : AB u 66 0 511) (hp3 : Bd 0 9 (u 70 0)) (hp4 : Bd 0 4 (u 70 2)) : CT con0 d 0 0 yX0_turnAround cX0_turnAround 6 none [.ref 56, .ref 44] (Wd u g ex) (fun r h2 => ∃ (u2 : Nat → Nat → Int32) (g2 : Nat → Nat → Int64), r = none ∧ h2 = Wd u2 g2 ex ∧ Bd 0 9 (u2 61 0) ∧ Bd 0 4 (u2 61 2) ∧ AB u2 66 0 511 ∧ Bd 0 9 (u2 70 0) ∧ Bd 0 4 (u2 70 2) ∧ (∀ c, nin c [(56, 56), (58, 67), (70, 74)] = true → u2 c = u c) ∧ (∀ j, j ≠ 2 → j ≠ 3 → u2 56 j = u 56 j) ∧ (∀ j, j ≠ 0 → j ≠ 1 → j ≠ 2 → j ≠ 3 → j ≠ 4 → u2 58 j = u 58 j) ∧ (∀ j, j ≠ 0 → j ≠ 2 → u2 61 j = u 61 j) ∧ (∀ j, j ≠ 0 → j ≠ 2 → u2 70 j = u 70 j)) := by
  refine CT_of (by decide) (Nat.le_of_ble_eq_true rfl) (fun x hq => ?_)
  show J x yX0_turnAround cX0_turnAround 6 none d 0 0 (Wd u g ex).length 0 [(0, .ref 56), (1, .ref 44)] [] (Wd u g ex) 0 0
  refine J_aload_n (i := 0) (j := 0) dX0_turnAround_0 rfl rfl ?_
  refine J_iconst (v := (-1)) dX0_turnAround_1 (by decide) ?_
  obtain ⟨u1, e2⟩ : ∃ z, z = ms u 56 2 (-1) := ⟨_, rfl⟩
  refine J_put (C := RX0) (T := TX0) (Z := 10) (ci := 0) (f := 2) (ty0 := tyX0) dX0_turnAround_2 inG0 rfl tyX0_ok nmX0 (by decide) k389 rfl rfl wc_56 (Nat.le_of_ble_eq_true rfl) (fun _ _ => ⟨rfl, rfl⟩) (ws e2 wk_56 rfl) ?_
  refine J_aload_n (i := 0) (j := 0) dX0_turnAround_5 rfl rfl ?_
  refine J_iconst (v := (-1)) dX0_turnAround_6 (by decide) ?_
  obtain ⟨u3, e4⟩ : ∃ z, z = ms u1 56 3 (-1) := ⟨_, rfl⟩
  refine J_put (C := RX0) (T := TX0) (Z := 10) (ci := 0) (f := 3) (ty0 := tyX0) dX0_turnAround_7 inG0 rfl tyX0_ok nmX0 (by decide) k391 rfl rfl wc_56 (Nat.le_of_ble_eq_true rfl) (fun _ _ => ⟨rfl, rfl⟩) (ws e4 wk_56 rfl) ?_
  refine J_aload_n (i := 0) (j := 0) dX0_turnAround_10 rfl rfl ?_
  refine J_aload_n (i := 0) (j := 0) dX0_turnAround_11 rfl rfl ?_
  refine J_get (C := RX0) (T := TX0) (Z := 10) (ci := 0) (f := 0) dX0_turnAround_12 inG0 rfl (by decide) k386 wc_56 rfl ?_
  refine J_aload_n (i := 1) (j := 1) dX0_turnAround_15 rfl rfl ?_
  refine J_iconst (v := (-1)) dX0_turnAround_16 (by decide) ?_
  refine J_callV (As := [.ref 44, .int (-1)]) (rest := [.ref 56]) dX0_turnAround_17 (c_O_wholeMean_44 (d := 4) (u := u3) (g := g) (ex := ex) (keeper := (-1))  (by decide) (bd_r ((congrFun (ms_c e4 (Nat.ne_of_beq_eq_false rfl)) 0).trans (congrFun (ms_c e2 (Nat.ne_of_beq_eq_false rfl)) 0)) hp0) (bd_r ((congrFun (ms_c e4 (Nat.ne_of_beq_eq_false rfl)) 2).trans (congrFun (ms_c e2 (Nat.ne_of_beq_eq_false rfl)) 2)) hp1) (ab_c ((ms_c e4 (Nat.ne_of_beq_eq_false rfl)).trans (ms_c e2 (Nat.ne_of_beq_eq_false rfl))) hp2)) hq.n k994 k995 k996 wc_57 rfl rfl k96 k997 np_X2_wholeMean (Nat.le_trans (by decide) hd) (by decide) (Nat.le_refl _) (Nat.le_refl _) wlen rfl (Nat.le_of_ble_eq_true rfl) (fun r_ h_ p5 => ?_)
  obtain ⟨l6, u7, g8, rfl, rfl, h9, h10, h11, fr12, fc13, fc14⟩ := p5
  obtain ⟨g15, e16⟩ : ∃ z, z = ml g8 56 4 l6 := ⟨_, rfl⟩
  refine J_put (C := RX0) (T := TX0) (Z := 10) (ci := 0) (f := 4) (ty0 := tyX0) dX0_turnAround_20 inG0 rfl tyX0_ok nmX0 (by decide) k393 rfl rfl wc_56 (Nat.le_of_ble_eq_true rfl) (fun _ _ => ⟨rfl, rfl⟩) (wsl e16 wk_56 rfl) ?_
  refine J_aload_n (i := 0) (j := 0) dX0_turnAround_23 rfl rfl ?_
  refine J_get (C := RX0) (T := TX0) (Z := 10) (ci := 0) (f := 1) dX0_turnAround_24 inG0 rfl (by decide) k388 wc_56 rfl ?_
  refine J_aload_n (i := 1) (j := 1) dX0_turnAround_27 rfl rfl ?_
  refine J_callV (As := [.ref 44]) (rest := []) dX0_turnAround_28 (c_H_copy (d := 1) (u := u7) (g := g15) (ex := ex)  (t := 70) (f := 44) (by decide) (by decide) (by decide) (Nat.ne_of_beq_eq_false rfl) (bd_r ((congrFun (fr12 44 rfl) 0).trans ((congrFun (ms_c e4 (Nat.ne_of_beq_eq_false rfl)) 0).trans (congrFun (ms_c e2 (Nat.ne_of_beq_eq_false rfl)) 0))) hp0) (bd_r ((congrFun (fr12 44 rfl) 2).trans ((congrFun (ms_c e4 (Nat.ne_of_beq_eq_false rfl)) 2).trans (congrFun (ms_c e2 (Nat.ne_of_beq_eq_false rfl)) 2))) hp1)) hq.n k1013 k681 k682 wc_70 rfl rfl k89 k683 np_X1_copy (Nat.le_trans (by decide) hd) (by decide) (Nat.le_refl _) (Nat.le_refl _) wlen rfl (Nat.le_of_ble_eq_true rfl) (fun r_ h_ p17 => ?_)
  obtain ⟨u18, rfl, rfl, h19, h20, fr21, fc22⟩ := p17
  refine J_iconst (v := 0) dX0_turnAround_31 (by decide) ?_
  refine J_istore_n (i := 2) (lw := [(2, .int 0), (0, .ref 56), (1, .ref 44)]) dX0_turnAround_32 rfl (by decide) rfl ?_
  have lp1519 : ∀ (n1520 : Nat) (w1109 : Int32) (u1110 : Nat → Nat → Int32) (g1120 : Nat → Nat → Int64), Bd 0 9 w1109 → (∀ c, nin c [(56, 56), (58, 67), (71, 71)] = true → u1110 c = u18 c) → (∀ j, j ≠ 2 → j ≠ 3 → u1110 56 j = u18 56 j) → Bd (-1) 9 (u1110 56 2) → Bd (-1) 9 (u1110 56 3) → (∀ j, j ≠ 0 → j ≠ 1 → j ≠ 2 → j ≠ 3 → j ≠ 4 → u1110 58 j = u18 58 j) → (∀ j, j ≠ 0 → j ≠ 2 → u1110 61 j = u18 61 j) → Bd 0 9 (u1110 61 0) → Bd 0 4 (u1110 61 2) → AB u1110 66 0 511 → (9 - w1109.toInt).toNat < n1520 → J x yX0_turnAround cX0_turnAround 6 none d 0 0 (Wd u g ex).length 33 [(0, .ref 56), (1, .ref 44), (2, .int w1109)] [] (Wd u1110 g1120 ex) 0 0 := by
    intro n1520
    induction n1520 with
    | zero => intro w1109 u1110 g1120 bw1109 fr1111 fc1112 bm1113 bm1114 fc1115 fc1116 bm1117 bm1118 ab1119 hm1522; exact absurd hm1522 (Nat.not_lt_zero _)
    | succ n1520 ih1521 =>
      intro w1109 u1110 g1120 bw1109 fr1111 fc1112 bm1113 bm1114 fc1115 fc1116 bm1117 bm1118 ab1119 hm1522
      refine J_iload_n (i := 2) (j := 2) dX0_turnAround_33 rfl rfl ?_
      refine J_aload_n (i := 1) (j := 1) dX0_turnAround_34 rfl rfl ?_
      refine J_getN (C := RX1) (T := TX1) (Z := 6) (ci := 1) (f := 0) dX0_turnAround_35 inG1 rfl (by decide) k134 wc_44 rfl ?_
      refine J_ci (v := u 44 0) ((congrFun (fr1111 44 rfl) 0).trans ((congrFun (fr21 44 (Nat.ne_of_beq_eq_false rfl) (Nat.ne_of_beq_eq_false rfl) (Nat.ne_of_beq_eq_false rfl) (Nat.ne_of_beq_eq_false rfl) (Nat.ne_of_beq_eq_false rfl)) 0).trans ((congrFun (fr12 44 rfl) 0).trans ((congrFun (ms_c e4 (Nat.ne_of_beq_eq_false rfl)) 0).trans (congrFun (ms_c e2 (Nat.ne_of_beq_eq_false rfl)) 0))))) ?_
      refine J_icmp_ge (tgt := 152) dX0_turnAround_38 (by decide) (fun c1523 => ?_) (fun c1523 => ?_)
      · exact J_vret hq dX0_turnAround_152 rfl wlen (Nat.le_refl _) (Nat.le_refl _) ⟨u1110, g1120, rfl, rfl, bm1117, bm1118, ab1119, (bd_r (congrFun (fr1111 70 rfl) 0) h19), (bd_r (congrFun (fr1111 70 rfl) 2) h20), (fun c k_ => ((fr1111 c (nin_sub (M := [(56, 56), (58, 67), (71, 71)]) k_ rfl)).trans ((fr21 c (nin_ne (a := 70) k_ rfl) (nin_ne (a := 71) k_ rfl) (nin_ne (a := 72) k_ rfl) (nin_ne (a := 73) k_ rfl) (nin_ne (a := 74) k_ rfl)).trans ((fr12 c (nin_sub (M := [(58, 67)]) k_ rfl)).trans ((ms_c e4 (nin_ne (a := 56) k_ rfl)).trans (ms_c e2 (nin_ne (a := 56) k_ rfl))))))), (fun j k2_ k3_ => ((fc1112 j k2_ k3_).trans ((congrFun (fr21 56 (Nat.ne_of_beq_eq_false rfl) (Nat.ne_of_beq_eq_false rfl) (Nat.ne_of_beq_eq_false rfl) (Nat.ne_of_beq_eq_false rfl) (Nat.ne_of_beq_eq_false rfl)) j).trans ((congrFun (fr12 56 rfl) j).trans ((ms_i e4 k3_).trans (ms_i e2 k2_)))))), (fun j k0_ k1_ k2_ k3_ k4_ => ((fc1115 j k0_ k1_ k2_ k3_ k4_).trans ((congrFun (fr21 58 (Nat.ne_of_beq_eq_false rfl) (Nat.ne_of_beq_eq_false rfl) (Nat.ne_of_beq_eq_false rfl) (Nat.ne_of_beq_eq_false rfl) (Nat.ne_of_beq_eq_false rfl)) j).trans ((fc13 j k0_ k1_ k2_ k3_ k4_).trans ((congrFun (ms_c e4 (Nat.ne_of_beq_eq_false rfl)) j).trans (congrFun (ms_c e2 (Nat.ne_of_beq_eq_false rfl)) j)))))), (fun j k0_ k2_ => ((fc1116 j k0_ k2_).trans ((congrFun (fr21 61 (Nat.ne_of_beq_eq_false rfl) (Nat.ne_of_beq_eq_false rfl) (Nat.ne_of_beq_eq_false rfl) (Nat.ne_of_beq_eq_false rfl) (Nat.ne_of_beq_eq_false rfl)) j).trans ((fc14 j k0_ k2_).trans ((congrFun (ms_c e4 (Nat.ne_of_beq_eq_false rfl)) j).trans (congrFun (ms_c e2 (Nat.ne_of_beq_eq_false rfl)) j)))))), (fun j k0_ k2_ => ((congrFun (fr1111 70 rfl) j).trans ((fc22 j k0_ k2_).trans ((congrFun (fr12 70 rfl) j).trans ((congrFun (ms_c e4 (Nat.ne_of_beq_eq_false rfl)) j).trans (congrFun (ms_c e2 (Nat.ne_of_beq_eq_false rfl)) j))))))⟩
      · refine J_iload_n (i := 2) (j := 2) dX0_turnAround_41 rfl rfl ?_
        refine J_iconst (v := 1) dX0_turnAround_42 (by decide) ?_
        refine J_iadd dX0_turnAround_43 ?_
        refine J_istore_n (i := 3) (lw := [(3, .int (w1109 + 1)), (0, .ref 56), (1, .ref 44), (2, .int w1109)]) dX0_turnAround_44 rfl (by decide) rfl ?_
        have lp1790 : ∀ (n1791 : Nat) (w1651 : Int32) (u1652 : Nat → Nat → Int32) (g1662 : Nat → Nat → Int64), Bd 1 9 w1651 → (∀ c, nin c [(56, 56), (58, 67), (71, 71)] = true → u1652 c = u1110 c) → (∀ j, j ≠ 2 → j ≠ 3 → u1652 56 j = u1110 56 j) → Bd (-1) 9 (u1652 56 2) → Bd (-1) 9 (u1652 56 3) → (∀ j, j ≠ 0 → j ≠ 1 → j ≠ 2 → j ≠ 3 → j ≠ 4 → u1652 58 j = u1110 58 j) → (∀ j, j ≠ 0 → j ≠ 2 → u1652 61 j = u1110 61 j) → Bd 0 9 (u1652 61 0) → Bd 0 4 (u1652 61 2) → AB u1652 66 0 511 → (9 - w1651.toInt).toNat < n1791 → J x yX0_turnAround cX0_turnAround 6 none d 0 0 (Wd u g ex).length 45 [(0, .ref 56), (1, .ref 44), (2, .int w1109), (3, .int w1651)] [] (Wd u1652 g1662 ex) 0 0 := by
          intro n1791
          induction n1791 with
          | zero => intro w1651 u1652 g1662 bw1651 fr1653 fc1654 bm1655 bm1656 fc1657 fc1658 bm1659 bm1660 ab1661 hm1793; exact absurd hm1793 (Nat.not_lt_zero _)
          | succ n1791 ih1792 =>
            intro w1651 u1652 g1662 bw1651 fr1653 fc1654 bm1655 bm1656 fc1657 fc1658 bm1659 bm1660 ab1661 hm1793
            refine J_iload_n (i := 3) (j := 3) dX0_turnAround_45 rfl rfl ?_
            refine J_aload_n (i := 1) (j := 1) dX0_turnAround_46 rfl rfl ?_
            refine J_getN (C := RX1) (T := TX1) (Z := 6) (ci := 1) (f := 0) dX0_turnAround_47 inG1 rfl (by decide) k134 wc_44 rfl ?_
            refine J_ci (v := u 44 0) ((congrFun (fr1653 44 rfl) 0).trans ((congrFun (fr1111 44 rfl) 0).trans ((congrFun (fr21 44 (Nat.ne_of_beq_eq_false rfl) (Nat.ne_of_beq_eq_false rfl) (Nat.ne_of_beq_eq_false rfl) (Nat.ne_of_beq_eq_false rfl) (Nat.ne_of_beq_eq_false rfl)) 0).trans ((congrFun (fr12 44 rfl) 0).trans ((congrFun (ms_c e4 (Nat.ne_of_beq_eq_false rfl)) 0).trans (congrFun (ms_c e2 (Nat.ne_of_beq_eq_false rfl)) 0)))))) ?_
            refine J_icmp_ge (tgt := 129) dX0_turnAround_50 (by decide) (fun c1794 => ?_) (fun c1794 => ?_)
            · refine J_aload_n (i := 0) (j := 0) dX0_turnAround_129 rfl rfl ?_
              refine J_get (C := RX0) (T := TX0) (Z := 10) (ci := 0) (f := 1) dX0_turnAround_130 inG0 rfl (by decide) k388 wc_56 rfl ?_
              refine J_iload_n (i := 2) (j := 2) dX0_turnAround_133 rfl rfl ?_
              refine J_bipush (v := 8) dX0_turnAround_134 (by decide) ?_
              refine J_aload_n (i := 1) (j := 1) dX0_turnAround_136 rfl rfl ?_
              refine J_iload_n (i := 2) (j := 2) dX0_turnAround_137 rfl rfl ?_
              refine J_bipush (v := 8) dX0_turnAround_138 (by decide) ?_
              refine J_callV (As := [.int w1109, .int 8]) (rest := [.int 8, .int w1109, .ref 70]) dX0_turnAround_140 (c_H_of (d := 0) (u := u1652) (g := g1662) (ex := ex) (pond := w1109) (column := 8) (t := 44) (by decide) (by decide)) hq.n k974 k749 k750 wc_44 rfl rfl k89 k751 np_X1_of (Nat.le_trans (by decide) hd) (by decide) (Nat.le_refl _) (Nat.le_refl _) wlen rfl (Nat.le_of_ble_eq_true rfl) (fun r_ h_ p1856 => ?_)
              obtain ⟨rfl, rfl⟩ := p1856
              refine J_ci (v := (hof u 44 w1109 (8 : Int32))) (hof_c ((fr1653 45 rfl).trans ((fr1111 45 rfl).trans ((fr21 45 (Nat.ne_of_beq_eq_false rfl) (Nat.ne_of_beq_eq_false rfl) (Nat.ne_of_beq_eq_false rfl) (Nat.ne_of_beq_eq_false rfl) (Nat.ne_of_beq_eq_false rfl)).trans ((fr12 45 rfl).trans ((ms_c e4 (Nat.ne_of_beq_eq_false rfl)).trans (ms_c e2 (Nat.ne_of_beq_eq_false rfl)))))))) ?_
              refine J_callV (As := [.int w1109, .int 8, .int (hof u 44 w1109 (8 : Int32))]) (rest := []) dX0_turnAround_143 (c_H_put (d := 0) (u := u1652) (g := g1662) (ex := ex) (pond := w1109) (column := 8) (value := (hof u 44 w1109 (8 : Int32))) (t := 70) (by decide) (by decide)) hq.n k1014 k650 k651 wc_70 rfl rfl k89 k652 np_X1_put (Nat.le_trans (by decide) hd) (by decide) (Nat.le_refl _) (Nat.le_refl _) wlen rfl (Nat.le_of_ble_eq_true rfl) (fun r_ h_ p1857 => ?_)
              obtain ⟨u1858, rfl, rfl, fr1859⟩ := p1857
              refine J_iinc (i := 2) (j := 2) (v := (w1109 + 1)) (lw := [(2, .int (w1109 + 1)), (0, .ref 56), (1, .ref 44), (3, .int w1651)]) dX0_turnAround_146 rfl rfl (by decide) rfl ?_
              refine J_goto (tgt := 33) dX0_turnAround_149 (by decide) ?_
              refine J_lv [1, 2, 0] rfl ?_
              exact ih1521 (w1109 + 1) u1858 g1662 (bd_w (l := 0) (h := 9) (bd_add (l := 1) (h := 9) (bd_lt_hi bw1109 (i_nle c1523) hp0) (bd_c (v := 1) (lo := 1) (hi := 1) (by decide)) (by decide)) (by decide)) (fun c k_ => ((fr1859 c (nin_ne (a := 71) k_ rfl)).trans ((fr1653 c (nin_sub (M := [(56, 56), (58, 67), (71, 71)]) k_ rfl)).trans (fr1111 c (nin_sub (M := [(56, 56), (58, 67), (71, 71)]) k_ rfl))))) (fun j k2_ k3_ => ((congrFun (fr1859 56 (Nat.ne_of_beq_eq_false rfl)) j).trans ((fc1654 j k2_ k3_).trans (fc1112 j k2_ k3_)))) (bd_r (congrFun (fr1859 56 (Nat.ne_of_beq_eq_false rfl)) 2) bm1655) (bd_r (congrFun (fr1859 56 (Nat.ne_of_beq_eq_false rfl)) 3) bm1656) (fun j k0_ k1_ k2_ k3_ k4_ => ((congrFun (fr1859 58 (Nat.ne_of_beq_eq_false rfl)) j).trans ((fc1657 j k0_ k1_ k2_ k3_ k4_).trans (fc1115 j k0_ k1_ k2_ k3_ k4_)))) (fun j k0_ k2_ => ((congrFun (fr1859 61 (Nat.ne_of_beq_eq_false rfl)) j).trans ((fc1658 j k0_ k2_).trans (fc1116 j k0_ k2_)))) (bd_r (congrFun (fr1859 61 (Nat.ne_of_beq_eq_false rfl)) 0) bm1659) (bd_r (congrFun (fr1859 61 (Nat.ne_of_beq_eq_false rfl)) 2) bm1660) (ab_c (fr1859 66 (Nat.ne_of_beq_eq_false rfl)) ab1661) (mu_up 1 bw1109 rfl (by decide) (bd_w (l := 1) (h := 9) (bd_add (l := 1) (h := 9) (bd_lt_hi bw1109 (i_nle c1523) hp0) (bd_c (v := 1) (lo := 1) (hi := 1) (by decide)) (by decide)) (by decide)) hm1522)
            · refine J_aload_n (i := 1) (j := 1) dX0_turnAround_53 rfl rfl ?_
              refine J_iload_n (i := 2) (j := 2) dX0_turnAround_54 rfl rfl ?_
              refine J_callV (As := [.int w1109]) (rest := []) dX0_turnAround_55 (c_H_isOut (d := 1) (u := u1652) (g := g1662) (ex := ex) (pond := w1109) (t := 44) (by decide) (by decide)) hq.n k1215 k745 k746 wc_44 rfl rfl k89 k747 np_X1_isOut (Nat.le_trans (by decide) hd) (by decide) (Nat.le_refl _) (Nat.le_refl _) wlen rfl (Nat.le_of_ble_eq_true rfl) (fun r_ h_ p1860 => ?_)
              obtain ⟨t1861, rfl, rfl⟩ := p1860
              have jn1897 : ∀ (u1886 : Nat → Nat → Int32) (g1896 : Nat → Nat → Int64), (∀ c, nin c [(56, 56), (58, 67), (71, 71)] = true → u1886 c = u1652 c) → (∀ j, j ≠ 2 → j ≠ 3 → u1886 56 j = u1652 56 j) → Bd (-1) 9 (u1886 56 2) → Bd (-1) 9 (u1886 56 3) → (∀ j, j ≠ 0 → j ≠ 1 → j ≠ 2 → j ≠ 3 → j ≠ 4 → u1886 58 j = u1652 58 j) → (∀ j, j ≠ 0 → j ≠ 2 → u1886 61 j = u1652 61 j) → Bd 0 9 (u1886 61 0) → Bd 0 4 (u1886 61 2) → AB u1886 66 0 511 → J x yX0_turnAround cX0_turnAround 6 none d 0 0 (Wd u g ex).length 123 [(0, .ref 56), (1, .ref 44), (2, .int w1109), (3, .int w1651)] [] (Wd u1886 g1896 ex) 0 0 := by
                intro u1886 g1896 fr1887 fc1888 bm1889 bm1890 fc1891 fc1892 bm1893 bm1894 ab1895
                refine J_iinc (i := 3) (j := 3) (v := (w1651 + 1)) (lw := [(3, .int (w1651 + 1)), (0, .ref 56), (1, .ref 44), (2, .int w1109)]) dX0_turnAround_123 rfl rfl (by decide) rfl ?_
                refine J_goto (tgt := 45) dX0_turnAround_126 (by decide) ?_
                refine J_lv [1, 2, 3, 0] rfl ?_
                exact ih1792 (w1651 + 1) u1886 g1896 (bd_w (l := 1) (h := 9) (bd_add (l := 2) (h := 9) (bd_lt_hi bw1651 (i_nle c1794) (bd_lt_lo hp0 (i_nle c1523) bw1109)) (bd_c (v := 1) (lo := 1) (hi := 1) (by decide)) (by decide)) (by decide)) (fun c k_ => ((fr1887 c (nin_sub (M := [(56, 56), (58, 67), (71, 71)]) k_ rfl)).trans (fr1653 c (nin_sub (M := [(56, 56), (58, 67), (71, 71)]) k_ rfl)))) (fun j k2_ k3_ => ((fc1888 j k2_ k3_).trans (fc1654 j k2_ k3_))) bm1889 bm1890 (fun j k0_ k1_ k2_ k3_ k4_ => ((fc1891 j k0_ k1_ k2_ k3_ k4_).trans (fc1657 j k0_ k1_ k2_ k3_ k4_))) (fun j k0_ k2_ => ((fc1892 j k0_ k2_).trans (fc1658 j k0_ k2_))) bm1893 bm1894 ab1895 (mu_up 1 bw1651 rfl (by decide) (bd_w (l := 2) (h := 9) (bd_add (l := 2) (h := 9) (bd_lt_hi bw1651 (i_nle c1794) (bd_lt_lo hp0 (i_nle c1523) bw1109)) (bd_c (v := 1) (lo := 1) (hi := 1) (by decide)) (by decide)) (by decide)) hm1793)
              refine J_ifB_ne (tgt := 123) dX0_turnAround_58 (by decide) (fun c1862 => ?_) (fun c1862 => ?_)
              · refine J_lv [0, 1, 2, 3] rfl ?_
                exact jn1897 u1652 g1662 (fun c k_ => rfl) (fun j k2_ k3_ => rfl) bm1655 bm1656 (fun j k0_ k1_ k2_ k3_ k4_ => rfl) (fun j k0_ k2_ => rfl) bm1659 bm1660 ab1661
              · refine J_iload_n (i := 3) (j := 3) dX0_turnAround_61 rfl rfl ?_
                refine J_aload_n (i := 1) (j := 1) dX0_turnAround_62 rfl rfl ?_
                refine J_iload_n (i := 2) (j := 2) dX0_turnAround_63 rfl rfl ?_
                refine J_bipush (v := 8) dX0_turnAround_64 (by decide) ?_
                refine J_callV (As := [.int w1109, .int 8]) (rest := [.int w1651]) dX0_turnAround_66 (c_H_of (d := 0) (u := u1652) (g := g1662) (ex := ex) (pond := w1109) (column := 8) (t := 44) (by decide) (by decide)) hq.n k974 k749 k750 wc_44 rfl rfl k89 k751 np_X1_of (Nat.le_trans (by decide) hd) (by decide) (Nat.le_refl _) (Nat.le_refl _) wlen rfl (Nat.le_of_ble_eq_true rfl) (fun r_ h_ p1898 => ?_)
                obtain ⟨rfl, rfl⟩ := p1898
                refine J_ci (v := (hof u 44 w1109 (8 : Int32))) (hof_c ((fr1653 45 rfl).trans ((fr1111 45 rfl).trans ((fr21 45 (Nat.ne_of_beq_eq_false rfl) (Nat.ne_of_beq_eq_false rfl) (Nat.ne_of_beq_eq_false rfl) (Nat.ne_of_beq_eq_false rfl) (Nat.ne_of_beq_eq_false rfl)).trans ((fr12 45 rfl).trans ((ms_c e4 (Nat.ne_of_beq_eq_false rfl)).trans (ms_c e2 (Nat.ne_of_beq_eq_false rfl)))))))) ?_
                refine J_icmp_eq (tgt := 123) dX0_turnAround_69 (by decide) (fun c1899 => ?_) (fun c1899 => ?_)
                · refine J_lv [0, 1, 2, 3] rfl ?_
                  exact jn1897 u1652 g1662 (fun c k_ => rfl) (fun j k2_ k3_ => rfl) bm1655 bm1656 (fun j k0_ k1_ k2_ k3_ k4_ => rfl) (fun j k0_ k2_ => rfl) bm1659 bm1660 ab1661
                · refine J_aload_n (i := 0) (j := 0) dX0_turnAround_72 rfl rfl ?_
                  refine J_get (C := RX0) (T := TX0) (Z := 10) (ci := 0) (f := 1) dX0_turnAround_73 inG0 rfl (by decide) k388 wc_56 rfl ?_
                  refine J_iload_n (i := 2) (j := 2) dX0_turnAround_76 rfl rfl ?_
                  refine J_bipush (v := 8) dX0_turnAround_77 (by decide) ?_
                  refine J_iload_n (i := 3) (j := 3) dX0_turnAround_79 rfl rfl ?_
                  refine J_callV (As := [.int w1109, .int 8, .int w1651]) (rest := []) dX0_turnAround_80 (c_H_put (d := 0) (u := u1652) (g := g1662) (ex := ex) (pond := w1109) (column := 8) (value := w1651) (t := 70) (by decide) (by decide)) hq.n k1014 k650 k651 wc_70 rfl rfl k89 k652 np_X1_put (Nat.le_trans (by decide) hd) (by decide) (Nat.le_refl _) (Nat.le_refl _) wlen rfl (Nat.le_of_ble_eq_true rfl) (fun r_ h_ p1900 => ?_)
                  obtain ⟨u1901, rfl, rfl, fr1902⟩ := p1900
                  refine J_aload_n (i := 0) (j := 0) dX0_turnAround_83 rfl rfl ?_
                  refine J_get (C := RX0) (T := TX0) (Z := 10) (ci := 0) (f := 0) dX0_turnAround_84 inG0 rfl (by decide) k386 wc_56 rfl ?_
                  refine J_aload_n (i := 0) (j := 0) dX0_turnAround_87 rfl rfl ?_
                  refine J_get (C := RX0) (T := TX0) (Z := 10) (ci := 0) (f := 1) dX0_turnAround_88 inG0 rfl (by decide) k388 wc_56 rfl ?_
                  refine J_iconst (v := (-1)) dX0_turnAround_91 (by decide) ?_
                  refine J_callV (As := [.ref 70, .int (-1)]) (rest := []) dX0_turnAround_92 (c_O_wholeMean_70 (d := 4) (u := u1901) (g := g1662) (ex := ex) (keeper := (-1))  (by decide) (bd_r ((congrFun (fr1902 70 (Nat.ne_of_beq_eq_false rfl)) 0).trans ((congrFun (fr1653 70 rfl) 0).trans (congrFun (fr1111 70 rfl) 0))) h19) (bd_r ((congrFun (fr1902 70 (Nat.ne_of_beq_eq_false rfl)) 2).trans ((congrFun (fr1653 70 rfl) 2).trans (congrFun (fr1111 70 rfl) 2))) h20) (ab_c (fr1902 66 (Nat.ne_of_beq_eq_false rfl)) ab1661)) hq.n k994 k995 k996 wc_57 rfl rfl k96 k997 np_X2_wholeMean (Nat.le_trans (by decide) hd) (by decide) (Nat.le_refl _) (Nat.le_refl _) wlen rfl (Nat.le_of_ble_eq_true rfl) (fun r_ h_ p1903 => ?_)
                  obtain ⟨l1904, u1905, g1906, rfl, rfl, h1907, h1908, h1909, fr1910, fc1911, fc1912⟩ := p1903
                  refine J_lstore (i := 4) (lw := [(4, .long l1904), (0, .ref 56), (1, .ref 44), (2, .int w1109), (3, .int w1651)]) dX0_turnAround_95 (by decide) rfl ?_
                  refine J_lload (i := 4) (j := 0) dX0_turnAround_97 rfl ?_
                  refine J_aload_n (i := 0) (j := 1) dX0_turnAround_99 rfl rfl ?_
                  refine J_get (C := RX0) (T := TX0) (Z := 10) (ci := 0) (f := 4) dX0_turnAround_100 inG0 rfl (by decide) k393 wc_56 rfl ?_
                  refine J_topl (fun l1913 _ => ?_)
                  refine J_lcmp dX0_turnAround_103 ?_
                  refine J_if_ge (tgt := 123) dX0_turnAround_104 (by decide) (fun c1914 => ?_) (fun c1914 => ?_)
                  · refine J_lv [1, 2, 3, 4] rfl ?_
                    exact jn1897 u1905 g1906 (fun c k_ => ((fr1910 c (nin_sub (M := [(58, 67)]) k_ rfl)).trans (fr1902 c (nin_ne (a := 71) k_ rfl)))) (fun j k2_ k3_ => ((congrFun (fr1910 56 rfl) j).trans (congrFun (fr1902 56 (Nat.ne_of_beq_eq_false rfl)) j))) (bd_r ((congrFun (fr1910 56 rfl) 2).trans (congrFun (fr1902 56 (Nat.ne_of_beq_eq_false rfl)) 2)) bm1655) (bd_r ((congrFun (fr1910 56 rfl) 3).trans (congrFun (fr1902 56 (Nat.ne_of_beq_eq_false rfl)) 3)) bm1656) (fun j k0_ k1_ k2_ k3_ k4_ => ((fc1911 j k0_ k1_ k2_ k3_ k4_).trans (congrFun (fr1902 58 (Nat.ne_of_beq_eq_false rfl)) j))) (fun j k0_ k2_ => ((fc1912 j k0_ k2_).trans (congrFun (fr1902 61 (Nat.ne_of_beq_eq_false rfl)) j))) h1907 h1908 h1909
                  · refine J_aload_n (i := 0) (j := 1) dX0_turnAround_107 rfl rfl ?_
                    refine J_iload_n (i := 2) (j := 3) dX0_turnAround_108 rfl rfl ?_
                    obtain ⟨u1915, e1916⟩ : ∃ z, z = ms u1905 56 2 w1109 := ⟨_, rfl⟩
                    refine J_put (C := RX0) (T := TX0) (Z := 10) (ci := 0) (f := 2) (ty0 := tyX0) dX0_turnAround_109 inG0 rfl tyX0_ok nmX0 (by decide) k389 rfl rfl wc_56 (Nat.le_of_ble_eq_true rfl) (fun _ _ => ⟨rfl, rfl⟩) (ws e1916 wk_56 rfl) ?_
                    refine J_aload_n (i := 0) (j := 1) dX0_turnAround_112 rfl rfl ?_
                    refine J_iload_n (i := 3) (j := 4) dX0_turnAround_113 rfl rfl ?_
                    obtain ⟨u1917, e1918⟩ : ∃ z, z = ms u1915 56 3 w1651 := ⟨_, rfl⟩
                    refine J_put (C := RX0) (T := TX0) (Z := 10) (ci := 0) (f := 3) (ty0 := tyX0) dX0_turnAround_114 inG0 rfl tyX0_ok nmX0 (by decide) k391 rfl rfl wc_56 (Nat.le_of_ble_eq_true rfl) (fun _ _ => ⟨rfl, rfl⟩) (ws e1918 wk_56 rfl) ?_
                    refine J_aload_n (i := 0) (j := 1) dX0_turnAround_117 rfl rfl ?_
                    refine J_lload (i := 4) (j := 0) dX0_turnAround_118 rfl ?_
                    obtain ⟨g1919, e1920⟩ : ∃ z, z = ml g1906 56 4 l1904 := ⟨_, rfl⟩
                    refine J_put (C := RX0) (T := TX0) (Z := 10) (ci := 0) (f := 4) (ty0 := tyX0) dX0_turnAround_120 inG0 rfl tyX0_ok nmX0 (by decide) k393 rfl rfl wc_56 (Nat.le_of_ble_eq_true rfl) (fun _ _ => ⟨rfl, rfl⟩) (wsl e1920 wk_56 rfl) ?_
                    refine J_lv [1, 2, 3, 4] rfl ?_
                    exact jn1897 u1917 g1919 (fun c k_ => ((ms_c e1918 (nin_ne (a := 56) k_ rfl)).trans ((ms_c e1916 (nin_ne (a := 56) k_ rfl)).trans ((fr1910 c (nin_sub (M := [(58, 67)]) k_ rfl)).trans (fr1902 c (nin_ne (a := 71) k_ rfl)))))) (fun j k2_ k3_ => ((ms_i e1918 k3_).trans ((ms_i e1916 k2_).trans ((congrFun (fr1910 56 rfl) j).trans (congrFun (fr1902 56 (Nat.ne_of_beq_eq_false rfl)) j))))) (bd_r ((ms_i e1918 (Nat.ne_of_beq_eq_false rfl)).trans (ms_e e1916)) (bd_w (l := (-1)) (h := 9) (bd_lt_hi bw1109 (i_nle c1523) (bd_lt_lo hp0 (i_nle c1794) bw1651)) (by decide))) (bd_r (ms_e e1918) (bd_w (l := (-1)) (h := 9) (bd_lt_hi bw1651 (i_nle c1794) (bd_lt_lo hp0 (i_nle c1523) bw1109)) (by decide))) (fun j k0_ k1_ k2_ k3_ k4_ => ((congrFun (ms_c e1918 (Nat.ne_of_beq_eq_false rfl)) j).trans ((congrFun (ms_c e1916 (Nat.ne_of_beq_eq_false rfl)) j).trans ((fc1911 j k0_ k1_ k2_ k3_ k4_).trans (congrFun (fr1902 58 (Nat.ne_of_beq_eq_false rfl)) j))))) (fun j k0_ k2_ => ((congrFun (ms_c e1918 (Nat.ne_of_beq_eq_false rfl)) j).trans ((congrFun (ms_c e1916 (Nat.ne_of_beq_eq_false rfl)) j).trans ((fc1912 j k0_ k2_).trans (congrFun (fr1902 61 (Nat.ne_of_beq_eq_false rfl)) j))))) (bd_r ((congrFun (ms_c e1918 (Nat.ne_of_beq_eq_false rfl)) 0).trans (congrFun (ms_c e1916 (Nat.ne_of_beq_eq_false rfl)) 0)) h1907) (bd_r ((congrFun (ms_c e1918 (Nat.ne_of_beq_eq_false rfl)) 2).trans (congrFun (ms_c e1916 (Nat.ne_of_beq_eq_false rfl)) 2)) h1908) (ab_c ((ms_c e1918 (Nat.ne_of_beq_eq_false rfl)).trans (ms_c e1916 (Nat.ne_of_beq_eq_false rfl))) h1909)
        refine J_lv [1, 2, 3, 0] rfl ?_
        exact lp1790 _ (w1109 + 1) u1110 g1120 (bd_add (l := 1) (h := 9) (bd_lt_hi bw1109 (i_nle c1523) hp0) (bd_c (v := 1) (lo := 1) (hi := 1) (by decide)) (by decide)) (fun c k_ => rfl) (fun j k2_ k3_ => rfl) bm1113 bm1114 (fun j k0_ k1_ k2_ k3_ k4_ => rfl) (fun j k0_ k2_ => rfl) bm1117 bm1118 ab1119 (Nat.lt_succ_self _)
  refine J_lv [1, 2, 0] rfl ?_
  exact lp1519 _ (0 : Int32) u18 g15 (bd_w (l := 0) (h := 9) (bd_c (v := 0) (lo := 0) (hi := 0) (by decide)) (by decide)) (fun c k_ => rfl) (fun j k2_ k3_ => rfl) (bd_r ((congrFun (fr21 56 (Nat.ne_of_beq_eq_false rfl) (Nat.ne_of_beq_eq_false rfl) (Nat.ne_of_beq_eq_false rfl) (Nat.ne_of_beq_eq_false rfl) (Nat.ne_of_beq_eq_false rfl)) 2).trans ((congrFun (fr12 56 rfl) 2).trans ((ms_i e4 (Nat.ne_of_beq_eq_false rfl)).trans (ms_e e2)))) (bd_w (l := (-1)) (h := 9) (bd_c (v := (-1)) (lo := (-1)) (hi := (-1)) (by decide)) (by decide))) (bd_r ((congrFun (fr21 56 (Nat.ne_of_beq_eq_false rfl) (Nat.ne_of_beq_eq_false rfl) (Nat.ne_of_beq_eq_false rfl) (Nat.ne_of_beq_eq_false rfl) (Nat.ne_of_beq_eq_false rfl)) 3).trans ((congrFun (fr12 56 rfl) 3).trans (ms_e e4))) (bd_w (l := (-1)) (h := 9) (bd_c (v := (-1)) (lo := (-1)) (hi := (-1)) (by decide)) (by decide))) (fun j k0_ k1_ k2_ k3_ k4_ => rfl) (fun j k0_ k2_ => rfl) (bd_r (congrFun (fr21 61 (Nat.ne_of_beq_eq_false rfl) (Nat.ne_of_beq_eq_false rfl) (Nat.ne_of_beq_eq_false rfl) (Nat.ne_of_beq_eq_false rfl) (Nat.ne_of_beq_eq_false rfl)) 0) h9) (bd_r (congrFun (fr21 61 (Nat.ne_of_beq_eq_false rfl) (Nat.ne_of_beq_eq_false rfl) (Nat.ne_of_beq_eq_false rfl) (Nat.ne_of_beq_eq_false rfl) (Nat.ne_of_beq_eq_false rfl)) 2) h10) (ab_c (fr21 66 (Nat.ne_of_beq_eq_false rfl) (Nat.ne_of_beq_eq_false rfl) (Nat.ne_of_beq_eq_false rfl) (Nat.ne_of_beq_eq_false rfl) (Nat.ne_of_beq_eq_false rfl)) h11) (Nat.lt_succ_self _)
set_option maxHeartbeats 4000000 in
set_option maxRecDepth 100000 in
theorem c_C_takeOrder {d : Nat} {u : Nat → Nat → Int32} {g : Nat → Nat → Int64} {ex : List MC} {code : Int32} (hd : 1 ≤ d) (hp0 : Bd 0 4 (u 56 5)) (hp1 : AB u 77 0 3) : CT con0 d 0 0 yX0_takeOrder cX0_takeOrder 4 (some .boolean) [.ref 56, .int code] (Wd u g ex) (fun r h2 => ∃ (z : Bool) (u2 : Nat → Nat → Int32), r = some (.int (bI z)) ∧ h2 = Wd u2 g ex ∧ AB u2 77 0 3 ∧ (∀ c, c ≠ 77 → u2 c = u c)) := by
  refine CT_of (by decide) (Nat.le_of_ble_eq_true rfl) (fun x hq => ?_)
  show J x yX0_takeOrder cX0_takeOrder 4 (some .boolean) d 0 0 (Wd u g ex).length 0 [(0, .ref 56), (1, .int code)] [] (Wd u g ex) 0 0
  refine J_iconst (v := 0) dX0_takeOrder_0 (by decide) ?_
  refine J_istore_n (i := 2) (lw := [(2, .int 0), (0, .ref 56), (1, .int code)]) dX0_takeOrder_1 rfl (by decide) rfl ?_
  refine J_iconst (v := 0) dX0_takeOrder_2 (by decide) ?_
  refine J_istore_n (i := 3) (lw := [(3, .int 0), (2, .int 0), (0, .ref 56), (1, .int code)]) dX0_takeOrder_3 rfl (by decide) rfl ?_
  have lp70 : ∀ (n71 : Nat) (w51 : Int32) (w52 : Int32) (u53 : Nat → Nat → Int32), Bd 0 15 w51 → Bd 0 4 w52 → (∀ c, c ≠ 77 → u53 c = u c) → AB u53 77 0 3 → (4 - w52.toInt).toNat < n71 → J x yX0_takeOrder cX0_takeOrder 4 (some .boolean) d 0 0 (Wd u g ex).length 4 [(0, .ref 56), (1, .int code), (2, .int w51), (3, .int w52)] [] (Wd u53 g ex) 0 0 := by
    intro n71
    induction n71 with
    | zero => intro w51 w52 u53 bw51 bw52 fr54 ab55 hm73; exact absurd hm73 (Nat.not_lt_zero _)
    | succ n71 ih72 =>
      intro w51 w52 u53 bw51 bw52 fr54 ab55 hm73
      refine J_iload_n (i := 3) (j := 3) dX0_takeOrder_4 rfl rfl ?_
      refine J_aload_n (i := 0) (j := 0) dX0_takeOrder_5 rfl rfl ?_
      refine J_get (C := RX0) (T := TX0) (Z := 10) (ci := 0) (f := 5) dX0_takeOrder_6 inG0 rfl (by decide) k395 wc_56 rfl ?_
      refine J_ci (v := u 56 5) (congrFun (fr54 56 (Nat.ne_of_beq_eq_false rfl)) 5) ?_
      refine J_icmp_ge (tgt := 50) dX0_takeOrder_9 (by decide) (fun c74 => ?_) (fun c74 => ?_)
      · refine J_iload_n (i := 2) (j := 2) dX0_takeOrder_50 rfl rfl ?_
        refine J_iconst (v := 1) dX0_takeOrder_51 (by decide) ?_
        refine J_aload_n (i := 0) (j := 0) dX0_takeOrder_52 rfl rfl ?_
        refine J_get (C := RX0) (T := TX0) (Z := 10) (ci := 0) (f := 5) dX0_takeOrder_53 inG0 rfl (by decide) k395 wc_56 rfl ?_
        refine J_ci (v := u 56 5) (congrFun (fr54 56 (Nat.ne_of_beq_eq_false rfl)) 5) ?_
        refine J_ishl dX0_takeOrder_56 ?_
        refine J_iconst (v := 1) dX0_takeOrder_57 (by decide) ?_
        refine J_isub dX0_takeOrder_58 ?_
        refine J_icmp_ne (tgt := 66) dX0_takeOrder_59 (by decide) (fun c81 => ?_) (fun c81 => ?_)
        · refine J_iconst (v := 0) dX0_takeOrder_66 (by decide) ?_
          exact J_zret hq dX0_takeOrder_67 rfl rfl wlen (Nat.le_refl _) (Nat.le_refl _) ⟨false, u53, rfl, rfl, ab55, (fun c k0_ => (fr54 c k0_))⟩
        · refine J_iconst (v := 1) dX0_takeOrder_62 (by decide) ?_
          refine J_goto (tgt := 67) dX0_takeOrder_63 (by decide) ?_
          exact J_zret hq dX0_takeOrder_67 rfl rfl wlen (Nat.le_refl _) (Nat.le_refl _) ⟨true, u53, rfl, rfl, ab55, (fun c k0_ => (fr54 c k0_))⟩
      · refine J_aload_n (i := 0) (j := 0) dX0_takeOrder_12 rfl rfl ?_
        refine J_get (C := RX0) (T := TX0) (Z := 10) (ci := 0) (f := 8) dX0_takeOrder_13 inG0 rfl (by decide) k398 wc_56 rfl ?_
        refine J_iload_n (i := 3) (j := 3) dX0_takeOrder_16 rfl rfl ?_
        refine J_iload_n (i := 1) (j := 1) dX0_takeOrder_17 rfl rfl ?_
        refine J_iconst (v := 2) dX0_takeOrder_18 (by decide) ?_
        refine J_aload_n (i := 0) (j := 0) dX0_takeOrder_19 rfl rfl ?_
        refine J_get (C := RX0) (T := TX0) (Z := 10) (ci := 0) (f := 5) dX0_takeOrder_20 inG0 rfl (by decide) k395 wc_56 rfl ?_
        refine J_ci (v := u 56 5) (congrFun (fr54 56 (Nat.ne_of_beq_eq_false rfl)) 5) ?_
        refine J_iconst (v := 1) dX0_takeOrder_23 (by decide) ?_
        refine J_isub dX0_takeOrder_24 ?_
        refine J_iload_n (i := 3) (j := 3) dX0_takeOrder_25 rfl rfl ?_
        refine J_isub dX0_takeOrder_26 ?_
        refine J_imul dX0_takeOrder_27 ?_
        refine J_ishr dX0_takeOrder_28 ?_
        refine J_iconst (v := 3) dX0_takeOrder_29 (by decide) ?_
        refine J_iand dX0_takeOrder_30 ?_
        obtain ⟨u82, e83⟩ : ∃ z, z = ms u53 77 w52.toNatClampNeg ((code >>> (((2 : Int32) * (((u 56 5) - 1) - w52)) &&& 31)) &&& 3) := ⟨_, rfl⟩
        refine J_iast dX0_takeOrder_31 wc_77 (vin (bd_lt_hi bw52 (i_nle c74) hp0) (by decide)) (ws e83 wk_77 rfl) ?_
        refine J_iload_n (i := 2) (j := 2) dX0_takeOrder_32 rfl rfl ?_
        refine J_aload_n (i := 0) (j := 0) dX0_takeOrder_33 rfl rfl ?_
        refine J_get (C := RX0) (T := TX0) (Z := 10) (ci := 0) (f := 8) dX0_takeOrder_34 inG0 rfl (by decide) k398 wc_56 rfl ?_
        refine J_iload_n (i := 3) (j := 3) dX0_takeOrder_37 rfl rfl ?_
        refine J_iald dX0_takeOrder_38 wc_77 (vin (bd_lt_hi bw52 (i_nle c74) hp0) (by decide)) ?_
        refine J_topi (fun v84 qv84 => ?_)
        refine J_callSN (As := [.int v84]) (rest := [.int w51]) dX0_takeOrder_39 (c_bit3 (d := 0) (u := u82) (g := g) (ex := ex) (pond := v84)  (by decide) (bd_w (l := (-1)) (h := 3) (bd_r qv84 ((ab_s e83 ab55 (bd_andr (bd_c (v := 3) (lo := 3) (hi := 3) (by decide)) (by decide))) w52.toNatClampNeg)) (by decide))) hq.n k972 k819 k87 k820 np_X10_bit (Nat.le_trans (by decide) hd) (by decide) (Nat.le_refl _) (Nat.le_refl _) wlen rfl (Nat.le_of_ble_eq_true rfl) (fun r_ h_ p85 => ?_)
        obtain ⟨v86, rfl, rfl, h87⟩ := p85
        refine J_ior dX0_takeOrder_42 ?_
        refine J_istore_n (i := 2) (lw := [(2, .int (w51 ||| v86)), (0, .ref 56), (1, .int code), (3, .int w52)]) dX0_takeOrder_43 rfl (by decide) rfl ?_
        refine J_iinc (i := 3) (j := 3) (v := (w52 + 1)) (lw := [(3, .int (w52 + 1)), (2, .int (w51 ||| v86)), (0, .ref 56), (1, .int code)]) dX0_takeOrder_44 rfl rfl (by decide) rfl ?_
        refine J_goto (tgt := 4) dX0_takeOrder_47 (by decide) ?_
        refine J_lv [2, 3, 1, 0] rfl ?_
        exact ih72 (w51 ||| v86) (w52 + 1) u82 (bd_or (k := 4) (h := 15) bw51 h87 (by decide)) (bd_w (l := 0) (h := 4) (bd_add (l := 1) (h := 4) (bd_lt_hi bw52 (i_nle c74) hp0) (bd_c (v := 1) (lo := 1) (hi := 1) (by decide)) (by decide)) (by decide)) (fun c k0_ => ((ms_c e83 k0_).trans (fr54 c k0_))) (ab_s e83 ab55 (bd_andr (bd_c (v := 3) (lo := 3) (hi := 3) (by decide)) (by decide))) (mu_up 1 bw52 rfl (by decide) (bd_w (l := 1) (h := 4) (bd_add (l := 1) (h := 4) (bd_lt_hi bw52 (i_nle c74) hp0) (bd_c (v := 1) (lo := 1) (hi := 1) (by decide)) (by decide)) (by decide)) hm73)
  refine J_lv [2, 3, 1, 0] rfl ?_
  exact lp70 _ (0 : Int32) (0 : Int32) u (bd_w (l := 0) (h := 15) (bd_c (v := 0) (lo := 0) (hi := 0) (by decide)) (by decide)) (bd_w (l := 0) (h := 4) (bd_c (v := 0) (lo := 0) (hi := 0) (by decide)) (by decide)) (fun c k0_ => rfl) hp1 (Nat.lt_succ_self _)
set_option maxHeartbeats 4000000 in
set_option maxRecDepth 100000 in
theorem c_C_mayOfTried {d : Nat} {u : Nat → Nat → Int32} {g : Nat → Nat → Int64} {ex : List MC}  (hd : 1 ≤ d) (hp0 : Bd 0 4 (u 56 5)) (hp1 : AB u 77 0 3) : CT con0 d 0 0 yX0_mayOfTried cX0_mayOfTried 5 (some .long) [.ref 56] (Wd u g ex) (fun r h2 => ∃ (z : Int64), r = some (.long z) ∧ h2 = Wd u g ex) := by
  refine CT_of (by decide) (Nat.le_of_ble_eq_true rfl) (fun x hq => ?_)
  show J x yX0_mayOfTried cX0_mayOfTried 5 (some .long) d 0 0 (Wd u g ex).length 0 [(0, .ref 56)] [] (Wd u g ex) 0 0
  refine J_lconst (v := 0) dX0_mayOfTried_0 (by decide) ?_
  refine J_lstore_n (i := 1) (lw := [(1, .long 0), (0, .ref 56)]) dX0_mayOfTried_1 rfl (by decide) rfl ?_
  refine J_iconst (v := 0) dX0_mayOfTried_2 (by decide) ?_
  refine J_istore_n (i := 3) (lw := [(3, .int 0), (1, .long 0), (0, .ref 56)]) dX0_mayOfTried_3 rfl (by decide) rfl ?_
  refine J_iconst (v := 0) dX0_mayOfTried_4 (by decide) ?_
  refine J_istore (i := 4) (lw := [(4, .int 0), (3, .int 0), (1, .long 0), (0, .ref 56)]) dX0_mayOfTried_5 (by decide) rfl ?_
  have lp60 : ∀ (n61 : Nat) (w44 : Int64) (w45 : Int32) (w46 : Int32), Bd 0 15 w45 → Bd 0 4 w46 → (4 - w46.toInt).toNat < n61 → J x yX0_mayOfTried cX0_mayOfTried 5 (some .long) d 0 0 (Wd u g ex).length 7 [(0, .ref 56), (1, .long w44), (3, .int w45), (4, .int w46)] [] (Wd u g ex) 0 0 := by
    intro n61
    induction n61 with
    | zero => intro w44 w45 w46 bw45 bw46 hm63; exact absurd hm63 (Nat.not_lt_zero _)
    | succ n61 ih62 =>
      intro w44 w45 w46 bw45 bw46 hm63
      refine J_iload (i := 4) (j := 3) dX0_mayOfTried_7 rfl ?_
      refine J_aload_n (i := 0) (j := 0) dX0_mayOfTried_9 rfl rfl ?_
      refine J_get (C := RX0) (T := TX0) (Z := 10) (ci := 0) (f := 5) dX0_mayOfTried_10 inG0 rfl (by decide) k395 wc_56 rfl ?_
      refine J_icmp_ge (tgt := 44) dX0_mayOfTried_13 (by decide) (fun c64 => ?_) (fun c64 => ?_)
      · refine J_lload_n (i := 1) (j := 1) dX0_mayOfTried_44 rfl rfl ?_
        exact J_lret hq dX0_mayOfTried_45 rfl wlen (Nat.le_refl _) (Nat.le_refl _) ⟨w44, rfl, rfl⟩
      · refine J_iload_n (i := 3) (j := 2) dX0_mayOfTried_16 rfl rfl ?_
        refine J_aload_n (i := 0) (j := 0) dX0_mayOfTried_17 rfl rfl ?_
        refine J_get (C := RX0) (T := TX0) (Z := 10) (ci := 0) (f := 8) dX0_mayOfTried_18 inG0 rfl (by decide) k398 wc_56 rfl ?_
        refine J_iload (i := 4) (j := 3) dX0_mayOfTried_21 rfl ?_
        refine J_iald dX0_mayOfTried_23 wc_77 (vin (bd_lt_hi bw46 (i_nle c64) hp0) (by decide)) ?_
        refine J_topi (fun v71 qv71 => ?_)
        refine J_callSN (As := [.int v71]) (rest := [.int w45]) dX0_mayOfTried_24 (c_bit3 (d := 0) (u := u) (g := g) (ex := ex) (pond := v71)  (by decide) (bd_w (l := (-1)) (h := 3) (bd_r qv71 (hp1 w46.toNatClampNeg)) (by decide))) hq.n k972 k819 k87 k820 np_X10_bit (Nat.le_trans (by decide) hd) (by decide) (Nat.le_refl _) (Nat.le_refl _) wlen rfl (Nat.le_of_ble_eq_true rfl) (fun r_ h_ p72 => ?_)
        obtain ⟨v73, rfl, rfl, h74⟩ := p72
        refine J_ior dX0_mayOfTried_27 ?_
        refine J_istore_n (i := 3) (lw := [(3, .int (w45 ||| v73)), (0, .ref 56), (1, .long w44), (4, .int w46)]) dX0_mayOfTried_28 rfl (by decide) rfl ?_
        refine J_lload_n (i := 1) (j := 2) dX0_mayOfTried_29 rfl rfl ?_
        refine J_aload_n (i := 0) (j := 1) dX0_mayOfTried_30 rfl rfl ?_
        refine J_get (C := RX0) (T := TX0) (Z := 10) (ci := 0) (f := 9) dX0_mayOfTried_31 inG0 rfl (by decide) k399 wc_56 rfl ?_
        refine J_iload_n (i := 3) (j := 0) dX0_mayOfTried_34 rfl rfl ?_
        refine J_lald dX0_mayOfTried_35 wc_78 (vin (bd_or (k := 4) (h := 15) bw45 h74 (by decide)) (by decide)) ?_
        refine J_topl (fun l75 _ => ?_)
        refine J_ladd dX0_mayOfTried_36 ?_
        refine J_topl (fun l76 _ => ?_)
        refine J_lstore_n (i := 1) (lw := [(1, .long l76), (3, .int (w45 ||| v73)), (0, .ref 56), (4, .int w46)]) dX0_mayOfTried_37 rfl (by decide) rfl ?_
        refine J_iinc (i := 4) (j := 3) (v := (w46 + 1)) (lw := [(4, .int (w46 + 1)), (1, .long l76), (3, .int (w45 ||| v73)), (0, .ref 56)]) dX0_mayOfTried_38 rfl rfl (by decide) rfl ?_
        refine J_goto (tgt := 7) dX0_mayOfTried_41 (by decide) ?_
        refine J_lv [3, 1, 2, 0] rfl ?_
        exact ih62 l76 (w45 ||| v73) (w46 + 1) (bd_or (k := 4) (h := 15) bw45 h74 (by decide)) (bd_w (l := 0) (h := 4) (bd_add (l := 1) (h := 4) (bd_lt_hi bw46 (i_nle c64) hp0) (bd_c (v := 1) (lo := 1) (hi := 1) (by decide)) (by decide)) (by decide)) (mu_up 1 bw46 rfl (by decide) (bd_w (l := 1) (h := 4) (bd_add (l := 1) (h := 4) (bd_lt_hi bw46 (i_nle c64) hp0) (bd_c (v := 1) (lo := 1) (hi := 1) (by decide)) (by decide)) (by decide)) hm63)
  refine J_lv [3, 2, 1, 0] rfl ?_
  exact lp60 _ (0 : Int64) (0 : Int32) (0 : Int32) (bd_w (l := 0) (h := 15) (bd_c (v := 0) (lo := 0) (hi := 0) (by decide)) (by decide)) (bd_w (l := 0) (h := 4) (bd_c (v := 0) (lo := 0) (hi := 0) (by decide)) (by decide)) (Nat.lt_succ_self _)
set_option maxHeartbeats 4000000 in
set_option maxRecDepth 100000 in
theorem c_C_downwards {d : Nat} {u : Nat → Nat → Int32} {g : Nat → Nat → Int64} {ex : List MC}  (hd : 2 ≤ d) (hp0 : Bd 0 4 (u 56 5)) (hp1 : AB u 77 0 3) : CT con0 d 0 0 yX0_downwards cX0_downwards 2 (some .long) [.ref 56] (Wd u g ex) (fun r h2 => ∃ (z : Int64) (u2 : Nat → Nat → Int32), r = some (.long z) ∧ h2 = Wd u2 g ex ∧ AB u2 77 0 3 ∧ (∀ c, c ≠ 77 → u2 c = u c)) := by
  refine CT_of (by decide) (Nat.le_of_ble_eq_true rfl) (fun x hq => ?_)
  show J x yX0_downwards cX0_downwards 2 (some .long) d 0 0 (Wd u g ex).length 0 [(0, .ref 56)] [] (Wd u g ex) 0 0
  refine J_iconst (v := 0) dX0_downwards_0 (by decide) ?_
  refine J_istore_n (i := 1) (lw := [(1, .int 0), (0, .ref 56)]) dX0_downwards_1 rfl (by decide) rfl ?_
  have lp41 : ∀ (n42 : Nat) (w30 : Int32) (u31 : Nat → Nat → Int32), Bd 0 4 w30 → (∀ c, c ≠ 77 → u31 c = u c) → AB u31 77 0 3 → (4 - w30.toInt).toNat < n42 → J x yX0_downwards cX0_downwards 2 (some .long) d 0 0 (Wd u g ex).length 2 [(0, .ref 56), (1, .int w30)] [] (Wd u31 g ex) 0 0 := by
    intro n42
    induction n42 with
    | zero => intro w30 u31 bw30 fr32 ab33 hm44; exact absurd hm44 (Nat.not_lt_zero _)
    | succ n42 ih43 =>
      intro w30 u31 bw30 fr32 ab33 hm44
      refine J_iload_n (i := 1) (j := 1) dX0_downwards_2 rfl rfl ?_
      refine J_aload_n (i := 0) (j := 0) dX0_downwards_3 rfl rfl ?_
      refine J_get (C := RX0) (T := TX0) (Z := 10) (ci := 0) (f := 5) dX0_downwards_4 inG0 rfl (by decide) k395 wc_56 rfl ?_
      refine J_ci (v := u 56 5) (congrFun (fr32 56 (Nat.ne_of_beq_eq_false rfl)) 5) ?_
      refine J_icmp_ge (tgt := 30) dX0_downwards_7 (by decide) (fun c45 => ?_) (fun c45 => ?_)
      · refine J_aload_n (i := 0) (j := 0) dX0_downwards_30 rfl rfl ?_
        refine J_callV (As := []) (rest := []) dX0_downwards_31 (c_C_mayOfTried (d := 1) (u := u31) (g := g) (ex := ex)   (by decide) (bd_r (congrFun (fr32 56 (Nat.ne_of_beq_eq_false rfl)) 5) hp0) ab33) hq.n k1049 k1051 k31 wc_56 rfl rfl k95 k1052 np_X0_mayOfTried (Nat.le_trans (by decide) hd) (by decide) (Nat.le_refl _) (Nat.le_refl _) wlen rfl (Nat.le_of_ble_eq_true rfl) (fun r_ h_ p48 => ?_)
        obtain ⟨l49, rfl, rfl⟩ := p48
        exact J_lret hq dX0_downwards_34 rfl wlen (Nat.le_refl _) (Nat.le_refl _) ⟨l49, u31, rfl, rfl, ab33, (fun c k0_ => (fr32 c k0_))⟩
      · refine J_aload_n (i := 0) (j := 0) dX0_downwards_10 rfl rfl ?_
        refine J_get (C := RX0) (T := TX0) (Z := 10) (ci := 0) (f := 8) dX0_downwards_11 inG0 rfl (by decide) k398 wc_56 rfl ?_
        refine J_iload_n (i := 1) (j := 1) dX0_downwards_14 rfl rfl ?_
        refine J_aload_n (i := 0) (j := 0) dX0_downwards_15 rfl rfl ?_
        refine J_get (C := RX0) (T := TX0) (Z := 10) (ci := 0) (f := 5) dX0_downwards_16 inG0 rfl (by decide) k395 wc_56 rfl ?_
        refine J_ci (v := u 56 5) (congrFun (fr32 56 (Nat.ne_of_beq_eq_false rfl)) 5) ?_
        refine J_iconst (v := 1) dX0_downwards_19 (by decide) ?_
        refine J_isub dX0_downwards_20 ?_
        refine J_iload_n (i := 1) (j := 1) dX0_downwards_21 rfl rfl ?_
        refine J_isub dX0_downwards_22 ?_
        obtain ⟨u50, e51⟩ : ∃ z, z = ms u31 77 w30.toNatClampNeg (((u 56 5) - 1) - w30) := ⟨_, rfl⟩
        refine J_iast dX0_downwards_23 wc_77 (vin (bd_lt_hi bw30 (i_nle c45) hp0) (by decide)) (ws e51 wk_77 rfl) ?_
        refine J_iinc (i := 1) (j := 1) (v := (w30 + 1)) (lw := [(1, .int (w30 + 1)), (0, .ref 56)]) dX0_downwards_24 rfl rfl (by decide) rfl ?_
        refine J_goto (tgt := 2) dX0_downwards_27 (by decide) ?_
        refine J_lv [1, 0] rfl ?_
        exact ih43 (w30 + 1) u50 (bd_w (l := 0) (h := 4) (bd_add (l := 1) (h := 4) (bd_lt_hi bw30 (i_nle c45) hp0) (bd_c (v := 1) (lo := 1) (hi := 1) (by decide)) (by decide)) (by decide)) (fun c k0_ => ((ms_c e51 k0_).trans (fr32 c k0_))) (ab_s e51 ab33 (bd_subl (h := 3) (bd_sub (l := 0) (h := 3) (bd_lt_lo hp0 (i_nle c45) bw30) (bd_c (v := 1) (lo := 1) (hi := 1) (by decide)) (by decide)) (bd_lt_hi bw30 (i_nle c45) hp0) (lt_pred (i_nle c45)) (by decide))) (mu_up 1 bw30 rfl (by decide) (bd_w (l := 1) (h := 4) (bd_add (l := 1) (h := 4) (bd_lt_hi bw30 (i_nle c45) hp0) (bd_c (v := 1) (lo := 1) (hi := 1) (by decide)) (by decide)) (by decide)) hm44)
  refine J_lv [1, 0] rfl ?_
  exact lp41 _ (0 : Int32) u (bd_w (l := 0) (h := 4) (bd_c (v := 0) (lo := 0) (hi := 0) (by decide)) (by decide)) (fun c k0_ => rfl) hp1 (Nat.lt_succ_self _)
set_option maxHeartbeats 4000000 in
set_option maxRecDepth 100000 in
theorem c_C_findOrder {d : Nat} {u : Nat → Nat → Int32} {g : Nat → Nat → Int64} {ex : List MC}  (hd : 2 ≤ d) (hp0 : Bd 0 4 (u 56 5)) (hp1 : AB u 77 0 3) (hp2 : AB u 76 0 3) : CT con0 d 0 0 yX0_findOrder cX0_findOrder 6 none [.ref 56] (Wd u g ex) (fun r h2 => ∃ (u2 : Nat → Nat → Int32) (g2 : Nat → Nat → Int64), r = none ∧ h2 = Wd u2 g2 ex ∧ AB u2 77 0 3 ∧ AB u2 76 0 3 ∧ (∀ c, c ≠ 76 → c ≠ 77 → u2 c = u c)) := by
  refine CT_of (by decide) (Nat.le_of_ble_eq_true rfl) (fun x hq => ?_)
  show J x yX0_findOrder cX0_findOrder 6 none d 0 0 (Wd u g ex).length 0 [(0, .ref 56)] [] (Wd u g ex) 0 0
  refine J_iconst (v := 0) dX0_findOrder_0 (by decide) ?_
  refine J_istore_n (i := 1) (lw := [(1, .int 0), (0, .ref 56)]) dX0_findOrder_1 rfl (by decide) rfl ?_
  refine J_iconst (v := 1) dX0_findOrder_2 (by decide) ?_
  refine J_iconst (v := 2) dX0_findOrder_3 (by decide) ?_
  refine J_aload_n (i := 0) (j := 1) dX0_findOrder_4 rfl rfl ?_
  refine J_get (C := RX0) (T := TX0) (Z := 10) (ci := 0) (f := 5) dX0_findOrder_5 inG0 rfl (by decide) k395 wc_56 rfl ?_
  refine J_imul dX0_findOrder_8 ?_
  refine J_ishl dX0_findOrder_9 ?_
  refine J_istore_n (i := 2) (lw := [(2, .int ((1 : Int32) <<< (((2 : Int32) * (u 56 5)) &&& 31))), (1, .int 0), (0, .ref 56)]) dX0_findOrder_10 rfl (by decide) rfl ?_
  refine J_iconst (v := 0) dX0_findOrder_11 (by decide) ?_
  refine J_istore_n (i := 3) (lw := [(3, .int 0), (2, .int ((1 : Int32) <<< (((2 : Int32) * (u 56 5)) &&& 31))), (1, .int 0), (0, .ref 56)]) dX0_findOrder_12 rfl (by decide) rfl ?_
  have lp302 : ∀ (n303 : Nat) (w256 : Int32) (w257 : Int32) (u258 : Nat → Nat → Int32) (g262 : Nat → Nat → Int64), Bd 0 1 w256 → Bd 0 256 w257 → (∀ c, c ≠ 76 → c ≠ 77 → u258 c = u c) → AB u258 76 0 3 → AB u258 77 0 3 → (256 - w257.toInt).toNat < n303 → J x yX0_findOrder cX0_findOrder 6 none d 0 0 (Wd u g ex).length 13 [(0, .ref 56), (1, .int w256), (2, .int ((1 : Int32) <<< (((2 : Int32) * (u 56 5)) &&& 31))), (3, .int w257)] [] (Wd u258 g262 ex) 0 0 := by
    intro n303
    induction n303 with
    | zero => intro w256 w257 u258 g262 bw256 bw257 fr259 ab260 ab261 hm305; exact absurd hm305 (Nat.not_lt_zero _)
    | succ n303 ih304 =>
      intro w256 w257 u258 g262 bw256 bw257 fr259 ab260 ab261 hm305
      refine J_iload_n (i := 3) (j := 3) dX0_findOrder_13 rfl rfl ?_
      refine J_iload_n (i := 2) (j := 2) dX0_findOrder_14 rfl rfl ?_
      refine J_icmp_ge (tgt := 74) dX0_findOrder_15 (by decide) (fun c306 => ?_) (fun c306 => ?_)
      · exact J_vret hq dX0_findOrder_74 rfl wlen (Nat.le_refl _) (Nat.le_refl _) ⟨u258, g262, rfl, rfl, ab261, ab260, (fun c k0_ k1_ => (fr259 c k0_ k1_))⟩
      · refine J_aload_n (i := 0) (j := 0) dX0_findOrder_18 rfl rfl ?_
        refine J_iload_n (i := 3) (j := 3) dX0_findOrder_19 rfl rfl ?_
        refine J_callV (As := [.int w257]) (rest := []) dX0_findOrder_20 (c_C_takeOrder (d := 1) (u := u258) (g := g262) (ex := ex) (code := w257)  (by decide) (bd_r (congrFun (fr259 56 (Nat.ne_of_beq_eq_false rfl) (Nat.ne_of_beq_eq_false rfl)) 5) hp0) ab261) hq.n k1057 k1059 k32 wc_56 rfl rfl k95 k1060 np_X0_takeOrder (Nat.le_trans (by decide) hd) (by decide) (Nat.le_refl _) (Nat.le_refl _) wlen rfl (Nat.le_of_ble_eq_true rfl) (fun r_ h_ p307 => ?_)
        obtain ⟨t308, u309, rfl, rfl, h310, fr311⟩ := p307
        have jn331 : ∀ (w326 : Int32) (u327 : Nat → Nat → Int32) (g330 : Nat → Nat → Int64), Bd 0 1 w326 → (∀ c, c ≠ 76 → u327 c = u309 c) → AB u327 76 0 3 → J x yX0_findOrder cX0_findOrder 6 none d 0 0 (Wd u g ex).length 68 [(0, .ref 56), (1, .int w326), (2, .int ((1 : Int32) <<< (((2 : Int32) * (u 56 5)) &&& 31))), (3, .int w257)] [] (Wd u327 g330 ex) 0 0 := by
          intro w326 u327 g330 bw326 fr328 ab329
          refine J_iinc (i := 3) (j := 3) (v := (w257 + 1)) (lw := [(3, .int (w257 + 1)), (0, .ref 56), (1, .int w326), (2, .int ((1 : Int32) <<< (((2 : Int32) * (u 56 5)) &&& 31)))]) dX0_findOrder_68 rfl rfl (by decide) rfl ?_
          refine J_goto (tgt := 13) dX0_findOrder_71 (by decide) ?_
          refine J_lv [1, 2, 3, 0] rfl ?_
          exact ih304 w326 (w257 + 1) u327 g330 bw326 (bd_w (l := 0) (h := 256) (bd_add (l := 1) (h := 256) (bd_lt_hi bw257 (i_nle c306) (bd_shl (lo := 0) (hi := 8) (l := 1) (h := 256) (bd_mul (l := 0) (h := 8) (bd_c (v := 2) (lo := 2) (hi := 2) (by decide)) hp0 (by decide)) (by decide))) (bd_c (v := 1) (lo := 1) (hi := 1) (by decide)) (by decide)) (by decide)) (fun c k0_ k1_ => ((fr328 c k0_).trans ((fr311 c k1_).trans (fr259 c k0_ k1_)))) ab329 (ab_c (fr328 77 (Nat.ne_of_beq_eq_false rfl)) h310) (mu_up 1 bw257 rfl (by decide) (bd_w (l := 1) (h := 256) (bd_add (l := 1) (h := 256) (bd_lt_hi bw257 (i_nle c306) (bd_shl (lo := 0) (hi := 8) (l := 1) (h := 256) (bd_mul (l := 0) (h := 8) (bd_c (v := 2) (lo := 2) (hi := 2) (by decide)) hp0 (by decide)) (by decide))) (bd_c (v := 1) (lo := 1) (hi := 1) (by decide)) (by decide)) (by decide)) hm305)
        refine J_ifB_eq (tgt := 68) dX0_findOrder_23 (by decide) (fun c312 => ?_) (fun c312 => ?_)
        · refine J_lv [0, 1, 2, 3] rfl ?_
          exact jn331 w256 u309 g262 bw256 (fun c k0_ => rfl) (ab_c (fr311 76 (Nat.ne_of_beq_eq_false rfl)) ab260)
        · refine J_aload_n (i := 0) (j := 0) dX0_findOrder_26 rfl rfl ?_
          refine J_callV (As := []) (rest := []) dX0_findOrder_27 (c_C_mayOfTried (d := 1) (u := u309) (g := g262) (ex := ex)   (by decide) (bd_r ((congrFun (fr311 56 (Nat.ne_of_beq_eq_false rfl)) 5).trans (congrFun (fr259 56 (Nat.ne_of_beq_eq_false rfl) (Nat.ne_of_beq_eq_false rfl)) 5)) hp0) h310) hq.n k1049 k1051 k31 wc_56 rfl rfl k95 k1052 np_X0_mayOfTried (Nat.le_trans (by decide) hd) (by decide) (Nat.le_refl _) (Nat.le_refl _) wlen rfl (Nat.le_of_ble_eq_true rfl) (fun r_ h_ p332 => ?_)
          obtain ⟨l333, rfl, rfl⟩ := p332
          refine J_lstore (i := 4) (lw := [(4, .long l333), (0, .ref 56), (1, .int w256), (2, .int ((1 : Int32) <<< (((2 : Int32) * (u 56 5)) &&& 31))), (3, .int w257)]) dX0_findOrder_30 (by decide) rfl ?_
          refine J_iload_n (i := 1) (j := 2) dX0_findOrder_32 rfl rfl ?_
          refine J_if_eq (tgt := 46) dX0_findOrder_33 (by decide) (fun c334 => ?_) (fun c334 => ?_)
          · refine J_iconst (v := 1) dX0_findOrder_46 (by decide) ?_
            refine J_istore_n (i := 1) (lw := [(1, .int 1), (4, .long l333), (0, .ref 56), (2, .int ((1 : Int32) <<< (((2 : Int32) * (u 56 5)) &&& 31))), (3, .int w257)]) dX0_findOrder_47 rfl (by decide) rfl ?_
            refine J_aload_n (i := 0) (j := 2) dX0_findOrder_48 rfl rfl ?_
            refine J_lload (i := 4) (j := 1) dX0_findOrder_49 rfl ?_
            obtain ⟨g335, e336⟩ : ∃ z, z = ml g262 56 4 l333 := ⟨_, rfl⟩
            refine J_put (C := RX0) (T := TX0) (Z := 10) (ci := 0) (f := 4) (ty0 := tyX0) dX0_findOrder_51 inG0 rfl tyX0_ok nmX0 (by decide) k393 rfl rfl wc_56 (Nat.le_of_ble_eq_true rfl) (fun _ _ => ⟨rfl, rfl⟩) (wsl e336 wk_56 rfl) ?_
            refine J_aload_n (i := 0) (j := 2) dX0_findOrder_54 rfl rfl ?_
            refine J_get (C := RX0) (T := TX0) (Z := 10) (ci := 0) (f := 8) dX0_findOrder_55 inG0 rfl (by decide) k398 wc_56 rfl ?_
            refine J_iconst (v := 0) dX0_findOrder_58 (by decide) ?_
            refine J_aload_n (i := 0) (j := 2) dX0_findOrder_59 rfl rfl ?_
            refine J_get (C := RX0) (T := TX0) (Z := 10) (ci := 0) (f := 7) dX0_findOrder_60 inG0 rfl (by decide) k397 wc_56 rfl ?_
            refine J_iconst (v := 0) dX0_findOrder_63 (by decide) ?_
            refine J_iconst (v := 4) dX0_findOrder_64 (by decide) ?_
            obtain ⟨u337, e338⟩ : ∃ z, z = mr u309 76 (va_cpy (u309 77) (u309 76) 0 0 4) := ⟨_, rfl⟩
            refine J_copyi (sp := 0) (dp := 0) (nn := 4) dX0_findOrder_65 k1061 k686 k685 k104 wc_77 wc_76 (by decide) (by decide) (by decide) (by decide) (by decide) (Nat.le_trans (by decide) hd) (Nat.le_of_ble_eq_true rfl) (wsr e338 wk_76 rfl) ?_
            refine J_lv [2, 0, 3, 4] rfl ?_
            exact jn331 (1 : Int32) u337 g335 (bd_w (l := 0) (h := 1) (bd_c (v := 1) (lo := 1) (hi := 1) (by decide)) (by decide)) (fun c k0_ => (mr_c e338 k0_)) (ab_cp e338 h310 (ab_c (fr311 76 (Nat.ne_of_beq_eq_false rfl)) ab260))
          · refine J_lload (i := 4) (j := 0) dX0_findOrder_36 rfl ?_
            refine J_aload_n (i := 0) (j := 1) dX0_findOrder_38 rfl rfl ?_
            refine J_get (C := RX0) (T := TX0) (Z := 10) (ci := 0) (f := 4) dX0_findOrder_39 inG0 rfl (by decide) k393 wc_56 rfl ?_
            refine J_topl (fun l339 _ => ?_)
            refine J_lcmp dX0_findOrder_42 ?_
            refine J_if_ge (tgt := 68) dX0_findOrder_43 (by decide) (fun c340 => ?_) (fun c340 => ?_)
            · refine J_lv [1, 2, 3, 4] rfl ?_
              exact jn331 w256 u309 g262 (bd_w (l := 0) (h := 1) (bd_ne_lo bw256 c334 (by decide)) (by decide)) (fun c k0_ => rfl) (ab_c (fr311 76 (Nat.ne_of_beq_eq_false rfl)) ab260)
            · refine J_iconst (v := 1) dX0_findOrder_46 (by decide) ?_
              refine J_istore_n (i := 1) (lw := [(1, .int 1), (4, .long l333), (0, .ref 56), (2, .int ((1 : Int32) <<< (((2 : Int32) * (u 56 5)) &&& 31))), (3, .int w257)]) dX0_findOrder_47 rfl (by decide) rfl ?_
              refine J_aload_n (i := 0) (j := 2) dX0_findOrder_48 rfl rfl ?_
              refine J_lload (i := 4) (j := 1) dX0_findOrder_49 rfl ?_
              obtain ⟨g341, e342⟩ : ∃ z, z = ml g262 56 4 l333 := ⟨_, rfl⟩
              refine J_put (C := RX0) (T := TX0) (Z := 10) (ci := 0) (f := 4) (ty0 := tyX0) dX0_findOrder_51 inG0 rfl tyX0_ok nmX0 (by decide) k393 rfl rfl wc_56 (Nat.le_of_ble_eq_true rfl) (fun _ _ => ⟨rfl, rfl⟩) (wsl e342 wk_56 rfl) ?_
              refine J_aload_n (i := 0) (j := 2) dX0_findOrder_54 rfl rfl ?_
              refine J_get (C := RX0) (T := TX0) (Z := 10) (ci := 0) (f := 8) dX0_findOrder_55 inG0 rfl (by decide) k398 wc_56 rfl ?_
              refine J_iconst (v := 0) dX0_findOrder_58 (by decide) ?_
              refine J_aload_n (i := 0) (j := 2) dX0_findOrder_59 rfl rfl ?_
              refine J_get (C := RX0) (T := TX0) (Z := 10) (ci := 0) (f := 7) dX0_findOrder_60 inG0 rfl (by decide) k397 wc_56 rfl ?_
              refine J_iconst (v := 0) dX0_findOrder_63 (by decide) ?_
              refine J_iconst (v := 4) dX0_findOrder_64 (by decide) ?_
              obtain ⟨u343, e344⟩ : ∃ z, z = mr u309 76 (va_cpy (u309 77) (u309 76) 0 0 4) := ⟨_, rfl⟩
              refine J_copyi (sp := 0) (dp := 0) (nn := 4) dX0_findOrder_65 k1061 k686 k685 k104 wc_77 wc_76 (by decide) (by decide) (by decide) (by decide) (by decide) (Nat.le_trans (by decide) hd) (Nat.le_of_ble_eq_true rfl) (wsr e344 wk_76 rfl) ?_
              refine J_lv [2, 0, 3, 4] rfl ?_
              exact jn331 (1 : Int32) u343 g341 (bd_w (l := 0) (h := 1) (bd_c (v := 1) (lo := 1) (hi := 1) (by decide)) (by decide)) (fun c k0_ => (mr_c e344 k0_)) (ab_cp e344 h310 (ab_c (fr311 76 (Nat.ne_of_beq_eq_false rfl)) ab260))
  refine J_lv [3, 2, 1, 0] rfl ?_
  exact lp302 _ (0 : Int32) (0 : Int32) u g (bd_w (l := 0) (h := 1) (bd_c (v := 0) (lo := 0) (hi := 0) (by decide)) (by decide)) (bd_w (l := 0) (h := 256) (bd_c (v := 0) (lo := 0) (hi := 0) (by decide)) (by decide)) (fun c k0_ k1_ => rfl) hp2 hp1 (Nat.lt_succ_self _)
set_option maxHeartbeats 4000000 in
set_option maxRecDepth 100000 in
theorem c_C_filledAt {d : Nat} {u : Nat → Nat → Int32} {g : Nat → Nat → Int64} {ex : List MC} {k : Int32} (hd : 0 ≤ d) (hp0 : Bd 0 4 (u 56 5)) (hp1 : AB u 76 0 3) : CT con0 d 0 0 yX0_filledAt cX0_filledAt 2 (some .int) [.ref 56, .int k] (Wd u g ex) (fun r h2 => ∃ (z : Int32), r = some (.int z) ∧ h2 = Wd u g ex) := by
  refine CT_of (by decide) (Nat.le_of_ble_eq_true rfl) (fun x hq => ?_)
  show J x yX0_filledAt cX0_filledAt 2 (some .int) d 0 0 (Wd u g ex).length 0 [(0, .ref 56), (1, .int k)] [] (Wd u g ex) 0 0
  refine J_iload_n (i := 1) (j := 1) dX0_filledAt_0 rfl rfl ?_
  refine J_if_lt (tgt := 26) dX0_filledAt_1 (by decide) (fun c1 => ?_) (fun c1 => ?_)
  · refine J_iconst (v := (-1)) dX0_filledAt_26 (by decide) ?_
    exact J_iret hq dX0_filledAt_27 rfl wlen (Nat.le_refl _) (Nat.le_refl _) ⟨((-1) : Int32), rfl, rfl⟩
  · refine J_iload_n (i := 1) (j := 1) dX0_filledAt_4 rfl rfl ?_
    refine J_aload_n (i := 0) (j := 0) dX0_filledAt_5 rfl rfl ?_
    refine J_get (C := RX0) (T := TX0) (Z := 10) (ci := 0) (f := 5) dX0_filledAt_6 inG0 rfl (by decide) k395 wc_56 rfl ?_
    refine J_icmp_ge (tgt := 26) dX0_filledAt_9 (by decide) (fun c2 => ?_) (fun c2 => ?_)
    · refine J_iconst (v := (-1)) dX0_filledAt_26 (by decide) ?_
      exact J_iret hq dX0_filledAt_27 rfl wlen (Nat.le_refl _) (Nat.le_refl _) ⟨((-1) : Int32), rfl, rfl⟩
    · refine J_aload_n (i := 0) (j := 0) dX0_filledAt_12 rfl rfl ?_
      refine J_get (C := RX0) (T := TX0) (Z := 10) (ci := 0) (f := 6) dX0_filledAt_13 inG0 rfl (by decide) k396 wc_56 rfl ?_
      refine J_aload_n (i := 0) (j := 0) dX0_filledAt_16 rfl rfl ?_
      refine J_get (C := RX0) (T := TX0) (Z := 10) (ci := 0) (f := 7) dX0_filledAt_17 inG0 rfl (by decide) k397 wc_56 rfl ?_
      refine J_iload_n (i := 1) (j := 1) dX0_filledAt_20 rfl rfl ?_
      refine J_iald dX0_filledAt_21 wc_76 (vin (bd_lt_hi (bd_le_lo (bd_any k) (i_nlt c1) (bd_c (v := 0) (lo := 0) (hi := 0) (by decide))) (i_nle c2) hp0) (by decide)) ?_
      refine J_topi (fun v3 qv3 => ?_)
      refine J_iald dX0_filledAt_22 wc_75 (vin (bd_r qv3 (hp1 k.toNatClampNeg)) (by decide)) ?_
      refine J_topi (fun v4 qv4 => ?_)
      refine J_goto (tgt := 27) dX0_filledAt_23 (by decide) ?_
      exact J_iret hq dX0_filledAt_27 rfl wlen (Nat.le_refl _) (Nat.le_refl _) ⟨v4, rfl, rfl⟩
set_option maxHeartbeats 4000000 in
set_option maxRecDepth 100000 in
theorem c_C_lookAtFilled {d : Nat} {u : Nat → Nat → Int32} {g : Nat → Nat → Int64} {ex : List MC} {ponds : Int32} (hd : 5 ≤ d) (hp0 : Bd 0 9 (u 44 0)) (hp1 : Bd 0 4 (u 44 2)) (hp2 : Bd 0 9 (u 61 0)) (hp3 : Bd 0 4 (u 61 2)) (hp4 : AB u 66 0 511) (hp5 : Bd 0 9 (u 70 0)) (hp6 : Bd 0 4 (u 70 2)) : CT con0 d 0 0 yX0_lookAtFilled cX0_lookAtFilled 5 none [.ref 56, .ref 44, .int ponds] (Wd u g ex) (fun r h2 => ∃ (u2 : Nat → Nat → Int32) (g2 : Nat → Nat → Int64), r = none ∧ h2 = Wd u2 g2 ex ∧ Bd 0 9 (u2 61 0) ∧ Bd 0 4 (u2 61 2) ∧ AB u2 66 0 511 ∧ Bd 0 9 (u2 70 0) ∧ Bd 0 4 (u2 70 2) ∧ Bd 0 4 (u2 56 5) ∧ (∀ c, nin c [(56, 56), (58, 67), (70, 75)] = true → u2 c = u c) ∧ (∀ j, j ≠ 5 → u2 56 j = u 56 j) ∧ (∀ j, j ≠ 0 → j ≠ 1 → j ≠ 2 → j ≠ 3 → j ≠ 4 → u2 58 j = u 58 j) ∧ (∀ j, j ≠ 0 → j ≠ 2 → u2 61 j = u 61 j) ∧ (∀ j, j ≠ 0 → j ≠ 2 → u2 70 j = u 70 j)) := by
  refine CT_of (by decide) (Nat.le_of_ble_eq_true rfl) (fun x hq => ?_)
  show J x yX0_lookAtFilled cX0_lookAtFilled 5 none d 0 0 (Wd u g ex).length 0 [(0, .ref 56), (1, .ref 44), (2, .int ponds)] [] (Wd u g ex) 0 0
  refine J_aload_n (i := 0) (j := 0) dX0_lookAtFilled_0 rfl rfl ?_
  refine J_iconst (v := 0) dX0_lookAtFilled_1 (by decide) ?_
  obtain ⟨u1, e2⟩ : ∃ z, z = ms u 56 5 0 := ⟨_, rfl⟩
  refine J_put (C := RX0) (T := TX0) (Z := 10) (ci := 0) (f := 5) (ty0 := tyX0) dX0_lookAtFilled_2 inG0 rfl tyX0_ok nmX0 (by decide) k395 rfl rfl wc_56 (Nat.le_of_ble_eq_true rfl) (fun _ _ => ⟨rfl, rfl⟩) (ws e2 wk_56 rfl) ?_
  refine J_iconst (v := 0) dX0_lookAtFilled_5 (by decide) ?_
  refine J_istore_n (i := 3) (lw := [(3, .int 0), (0, .ref 56), (1, .ref 44), (2, .int ponds)]) dX0_lookAtFilled_6 rfl (by decide) rfl ?_
  have lp3321 : ∀ (n3322 : Nat) (w1949 : Int32) (u1950 : Nat → Nat → Int32), Bd 0 9 w1949 → (∀ c, c ≠ 56 → c ≠ 75 → u1950 c = u1 c) → (∀ j, j ≠ 5 → u1950 56 j = u1 56 j) → Bd 0 4 (u1950 56 5) → (9 - w1949.toInt).toNat < n3322 → J x yX0_lookAtFilled cX0_lookAtFilled 5 none d 0 0 (Wd u g ex).length 7 [(0, .ref 56), (1, .ref 44), (2, .int ponds), (3, .int w1949)] [] (Wd u1950 g ex) 0 0 := by
    intro n3322
    induction n3322 with
    | zero => intro w1949 u1950 bw1949 fr1951 fc1952 bm1953 hm3324; exact absurd hm3324 (Nat.not_lt_zero _)
    | succ n3322 ih3323 =>
      intro w1949 u1950 bw1949 fr1951 fc1952 bm1953 hm3324
      refine J_iload_n (i := 3) (j := 3) dX0_lookAtFilled_7 rfl rfl ?_
      refine J_aload_n (i := 1) (j := 1) dX0_lookAtFilled_8 rfl rfl ?_
      refine J_getN (C := RX1) (T := TX1) (Z := 6) (ci := 1) (f := 0) dX0_lookAtFilled_9 inG1 rfl (by decide) k134 wc_44 rfl ?_
      refine J_ci (v := u 44 0) ((congrFun (fr1951 44 (Nat.ne_of_beq_eq_false rfl) (Nat.ne_of_beq_eq_false rfl)) 0).trans (congrFun (ms_c e2 (Nat.ne_of_beq_eq_false rfl)) 0)) ?_
      refine J_icmp_ge (tgt := 57) dX0_lookAtFilled_12 (by decide) (fun c3325 => ?_) (fun c3325 => ?_)
      · refine J_iconst (v := 1) dX0_lookAtFilled_57 (by decide) ?_
        refine J_istore_n (i := 3) (lw := [(3, .int 1), (0, .ref 56), (1, .ref 44), (2, .int ponds)]) dX0_lookAtFilled_58 rfl (by decide) rfl ?_
        have lp4457 : ∀ (n4458 : Nat) (w4232 : Int32) (u4233 : Nat → Nat → Int32) (g4243 : Nat → Nat → Int64), Bd 1 16 w4232 → (∀ c, nin c [(58, 67), (70, 74)] = true → u4233 c = u1950 c) → (∀ j, j ≠ 0 → j ≠ 1 → j ≠ 2 → j ≠ 3 → j ≠ 4 → u4233 58 j = u1950 58 j) → (∀ j, j ≠ 0 → j ≠ 2 → u4233 61 j = u1950 61 j) → Bd 0 9 (u4233 61 0) → Bd 0 4 (u4233 61 2) → AB u4233 66 0 511 → (∀ j, j ≠ 0 → j ≠ 2 → u4233 70 j = u1950 70 j) → Bd 0 9 (u4233 70 0) → Bd 0 4 (u4233 70 2) → (16 - w4232.toInt).toNat < n4458 → J x yX0_lookAtFilled cX0_lookAtFilled 5 none d 0 0 (Wd u g ex).length 59 [(0, .ref 56), (1, .ref 44), (3, .int w4232)] [] (Wd u4233 g4243 ex) 0 0 := by
          intro n4458
          induction n4458 with
          | zero => intro w4232 u4233 g4243 bw4232 fr4234 fc4235 fc4236 bm4237 bm4238 ab4239 fc4240 bm4241 bm4242 hm4460; exact absurd hm4460 (Nat.not_lt_zero _)
          | succ n4458 ih4459 =>
            intro w4232 u4233 g4243 bw4232 fr4234 fc4235 fc4236 bm4237 bm4238 ab4239 fc4240 bm4241 bm4242 hm4460
            refine J_iload_n (i := 3) (j := 2) dX0_lookAtFilled_59 rfl rfl ?_
            refine J_iconst (v := 1) dX0_lookAtFilled_60 (by decide) ?_
            refine J_aload_n (i := 0) (j := 0) dX0_lookAtFilled_61 rfl rfl ?_
            refine J_get (C := RX0) (T := TX0) (Z := 10) (ci := 0) (f := 5) dX0_lookAtFilled_62 inG0 rfl (by decide) k395 wc_56 rfl ?_
            refine J_ci (v := u1950 56 5) (congrFun (fr4234 56 rfl) 5) ?_
            refine J_ishl dX0_lookAtFilled_65 ?_
            refine J_icmp_ge (tgt := 177) dX0_lookAtFilled_66 (by decide) (fun c4461 => ?_) (fun c4461 => ?_)
            · exact J_vret hq dX0_lookAtFilled_177 rfl wlen (Nat.le_refl _) (Nat.le_refl _) ⟨u4233, g4243, rfl, rfl, bm4237, bm4238, ab4239, bm4241, bm4242, (bd_r (congrFun (fr4234 56 rfl) 5) bm1953), (fun c k_ => ((fr4234 c (nin_sub (M := [(58, 67), (70, 74)]) k_ rfl)).trans ((fr1951 c (nin_ne (a := 56) k_ rfl) (nin_ne (a := 75) k_ rfl)).trans (ms_c e2 (nin_ne (a := 56) k_ rfl))))), (fun j k5_ => ((congrFun (fr4234 56 rfl) j).trans ((fc1952 j k5_).trans (ms_i e2 k5_)))), (fun j k0_ k1_ k2_ k3_ k4_ => ((fc4235 j k0_ k1_ k2_ k3_ k4_).trans ((congrFun (fr1951 58 (Nat.ne_of_beq_eq_false rfl) (Nat.ne_of_beq_eq_false rfl)) j).trans (congrFun (ms_c e2 (Nat.ne_of_beq_eq_false rfl)) j)))), (fun j k0_ k2_ => ((fc4236 j k0_ k2_).trans ((congrFun (fr1951 61 (Nat.ne_of_beq_eq_false rfl) (Nat.ne_of_beq_eq_false rfl)) j).trans (congrFun (ms_c e2 (Nat.ne_of_beq_eq_false rfl)) j)))), (fun j k0_ k2_ => ((fc4240 j k0_ k2_).trans ((congrFun (fr1951 70 (Nat.ne_of_beq_eq_false rfl) (Nat.ne_of_beq_eq_false rfl)) j).trans (congrFun (ms_c e2 (Nat.ne_of_beq_eq_false rfl)) j))))⟩
            · refine J_aload_n (i := 0) (j := 0) dX0_lookAtFilled_69 rfl rfl ?_
              refine J_get (C := RX0) (T := TX0) (Z := 10) (ci := 0) (f := 1) dX0_lookAtFilled_70 inG0 rfl (by decide) k388 wc_56 rfl ?_
              refine J_aload_n (i := 1) (j := 1) dX0_lookAtFilled_73 rfl rfl ?_
              refine J_callV (As := [.ref 44]) (rest := []) dX0_lookAtFilled_74 (c_H_copy (d := 1) (u := u4233) (g := g4243) (ex := ex)  (t := 70) (f := 44) (by decide) (by decide) (by decide) (Nat.ne_of_beq_eq_false rfl) (bd_r ((congrFun (fr4234 44 rfl) 0).trans ((congrFun (fr1951 44 (Nat.ne_of_beq_eq_false rfl) (Nat.ne_of_beq_eq_false rfl)) 0).trans (congrFun (ms_c e2 (Nat.ne_of_beq_eq_false rfl)) 0))) hp0) (bd_r ((congrFun (fr4234 44 rfl) 2).trans ((congrFun (fr1951 44 (Nat.ne_of_beq_eq_false rfl) (Nat.ne_of_beq_eq_false rfl)) 2).trans (congrFun (ms_c e2 (Nat.ne_of_beq_eq_false rfl)) 2))) hp1)) hq.n k1013 k681 k682 wc_70 rfl rfl k89 k683 np_X1_copy (Nat.le_trans (by decide) hd) (by decide) (Nat.le_refl _) (Nat.le_refl _) wlen rfl (Nat.le_of_ble_eq_true rfl) (fun r_ h_ p4462 => ?_)
              obtain ⟨u4463, rfl, rfl, h4464, h4465, fr4466, fc4467⟩ := p4462
              refine J_aload_n (i := 0) (j := 0) dX0_lookAtFilled_77 rfl rfl ?_
              refine J_get (C := RX0) (T := TX0) (Z := 10) (ci := 0) (f := 1) dX0_lookAtFilled_78 inG0 rfl (by decide) k388 wc_56 rfl ?_
              refine J_iconst (v := 0) dX0_lookAtFilled_81 (by decide) ?_
              obtain ⟨u4468, e4469⟩ : ∃ z, z = ms u4463 70 2 0 := ⟨_, rfl⟩
              refine J_putN (C := RX1) (T := TX1) (Z := 6) (ci := 1) (f := 2) (ty0 := tyX1) dX0_lookAtFilled_82 inG1 rfl tyX1_ok nmX1 (by decide) k142 rfl rfl wc_70 (Nat.le_of_ble_eq_true rfl) (fun _ _ => ⟨rfl, rfl⟩) (ws e4469 wk_70 rfl) ?_
              refine J_aload_n (i := 0) (j := 0) dX0_lookAtFilled_85 rfl rfl ?_
              refine J_get (C := RX0) (T := TX0) (Z := 10) (ci := 0) (f := 1) dX0_lookAtFilled_86 inG0 rfl (by decide) k388 wc_56 rfl ?_
              refine J_iconst (v := 0) dX0_lookAtFilled_89 (by decide) ?_
              refine J_bipush (v := 100) dX0_lookAtFilled_90 (by decide) ?_
              refine J_callV (As := [.int 0, .int 100]) (rest := []) dX0_lookAtFilled_92 (c_H_addRain (d := 0) (u := u4468) (g := g4243) (ex := ex) (steps := 0) (chance := 100) (t := 70) (by decide) (by decide) (bd_r (ms_i e4469 (Nat.ne_of_beq_eq_false rfl)) h4464) (bd_r (ms_e e4469) (bd_w (l := 0) (h := 4) (bd_c (v := 0) (lo := 0) (hi := 0) (by decide)) (by decide)))) hq.n k1044 k654 k655 wc_70 rfl rfl k89 k656 np_X1_addRain (Nat.le_trans (by decide) hd) (by decide) (Nat.le_refl _) (Nat.le_refl _) wlen rfl (Nat.le_of_ble_eq_true rfl) (fun r_ h_ p4470 => ?_)
              obtain ⟨t4471, u4472, rfl, rfl, h4473, fr4474, fc4475⟩ := p4470
              refine J_pop dX0_lookAtFilled_95 rfl ?_
              refine J_iconst (v := 0) dX0_lookAtFilled_96 (by decide) ?_
              refine J_istore (i := 4) (lw := [(4, .int 0), (0, .ref 56), (1, .ref 44), (3, .int w4232)]) dX0_lookAtFilled_97 (by decide) rfl ?_
              have lp4621 : ∀ (n4622 : Nat) (w4569 : Int32) (u4570 : Nat → Nat → Int32), Bd 0 4 w4569 → (∀ c, c ≠ 71 → u4570 c = u4472 c) → (4 - w4569.toInt).toNat < n4622 → J x yX0_lookAtFilled cX0_lookAtFilled 5 none d 0 0 (Wd u g ex).length 99 [(0, .ref 56), (1, .ref 44), (3, .int w4232), (4, .int w4569)] [] (Wd u4570 g4243 ex) 0 0 := by
                intro n4622
                induction n4622 with
                | zero => intro w4569 u4570 bw4569 fr4571 hm4624; exact absurd hm4624 (Nat.not_lt_zero _)
                | succ n4622 ih4623 =>
                  intro w4569 u4570 bw4569 fr4571 hm4624
                  refine J_iload (i := 4) (j := 3) dX0_lookAtFilled_99 rfl ?_
                  refine J_aload_n (i := 0) (j := 0) dX0_lookAtFilled_101 rfl rfl ?_
                  refine J_get (C := RX0) (T := TX0) (Z := 10) (ci := 0) (f := 5) dX0_lookAtFilled_102 inG0 rfl (by decide) k395 wc_56 rfl ?_
                  refine J_ci (v := u1950 56 5) ((congrFun (fr4571 56 (Nat.ne_of_beq_eq_false rfl)) 5).trans ((congrFun (fr4474 56 (Nat.ne_of_beq_eq_false rfl) (Nat.ne_of_beq_eq_false rfl) (Nat.ne_of_beq_eq_false rfl)) 5).trans ((congrFun (ms_c e4469 (Nat.ne_of_beq_eq_false rfl)) 5).trans ((congrFun (fr4466 56 (Nat.ne_of_beq_eq_false rfl) (Nat.ne_of_beq_eq_false rfl) (Nat.ne_of_beq_eq_false rfl) (Nat.ne_of_beq_eq_false rfl) (Nat.ne_of_beq_eq_false rfl)) 5).trans (congrFun (fr4234 56 rfl) 5))))) ?_
                  refine J_icmp_ge (tgt := 153) dX0_lookAtFilled_105 (by decide) (fun c4625 => ?_) (fun c4625 => ?_)
                  · refine J_aload_n (i := 0) (j := 0) dX0_lookAtFilled_153 rfl rfl ?_
                    refine J_get (C := RX0) (T := TX0) (Z := 10) (ci := 0) (f := 9) dX0_lookAtFilled_154 inG0 rfl (by decide) k399 wc_56 rfl ?_
                    refine J_iload_n (i := 3) (j := 2) dX0_lookAtFilled_157 rfl rfl ?_
                    refine J_aload_n (i := 0) (j := 0) dX0_lookAtFilled_158 rfl rfl ?_
                    refine J_get (C := RX0) (T := TX0) (Z := 10) (ci := 0) (f := 0) dX0_lookAtFilled_159 inG0 rfl (by decide) k386 wc_56 rfl ?_
                    refine J_aload_n (i := 0) (j := 0) dX0_lookAtFilled_162 rfl rfl ?_
                    refine J_get (C := RX0) (T := TX0) (Z := 10) (ci := 0) (f := 1) dX0_lookAtFilled_163 inG0 rfl (by decide) k388 wc_56 rfl ?_
                    refine J_iconst (v := (-1)) dX0_lookAtFilled_166 (by decide) ?_
                    refine J_callV (As := [.ref 70, .int (-1)]) (rest := [.int w4232, .ref 78]) dX0_lookAtFilled_167 (c_O_wholeMean_70 (d := 4) (u := u4570) (g := g4243) (ex := ex) (keeper := (-1))  (by decide) (bd_r ((congrFun (fr4571 70 (Nat.ne_of_beq_eq_false rfl)) 0).trans ((fc4475 0 (Nat.ne_of_beq_eq_false rfl)).trans (ms_i e4469 (Nat.ne_of_beq_eq_false rfl)))) h4464) (bd_r (congrFun (fr4571 70 (Nat.ne_of_beq_eq_false rfl)) 2) h4473) (ab_c ((fr4571 66 (Nat.ne_of_beq_eq_false rfl)).trans ((fr4474 66 (Nat.ne_of_beq_eq_false rfl) (Nat.ne_of_beq_eq_false rfl) (Nat.ne_of_beq_eq_false rfl)).trans ((ms_c e4469 (Nat.ne_of_beq_eq_false rfl)).trans (fr4466 66 (Nat.ne_of_beq_eq_false rfl) (Nat.ne_of_beq_eq_false rfl) (Nat.ne_of_beq_eq_false rfl) (Nat.ne_of_beq_eq_false rfl) (Nat.ne_of_beq_eq_false rfl))))) ab4239)) hq.n k994 k995 k996 wc_57 rfl rfl k96 k997 np_X2_wholeMean (Nat.le_trans (by decide) hd) (by decide) (Nat.le_refl _) (Nat.le_refl _) wlen rfl (Nat.le_of_ble_eq_true rfl) (fun r_ h_ p4644 => ?_)
                    obtain ⟨l4645, u4646, g4647, rfl, rfl, h4648, h4649, h4650, fr4651, fc4652, fc4653⟩ := p4644
                    obtain ⟨g4654, e4655⟩ : ∃ z, z = ml g4647 78 w4232.toNatClampNeg l4645 := ⟨_, rfl⟩
                    refine J_last dX0_lookAtFilled_170 wc_78 (vin (bd_lt_hi bw4232 (i_nle c4461) (bd_shl (lo := 0) (hi := 4) (l := 1) (h := 16) bm1953 (by decide))) (by decide)) (wsl e4655 wk_78 rfl) ?_
                    refine J_iinc (i := 3) (j := 2) (v := (w4232 + 1)) (lw := [(3, .int (w4232 + 1)), (0, .ref 56), (1, .ref 44), (4, .int w4569)]) dX0_lookAtFilled_171 rfl rfl (by decide) rfl ?_
                    refine J_goto (tgt := 59) dX0_lookAtFilled_174 (by decide) ?_
                    refine J_lv [1, 2, 0] rfl ?_
                    exact ih4459 (w4232 + 1) u4646 g4654 (bd_w (l := 1) (h := 16) (bd_add (l := 2) (h := 16) (bd_lt_hi bw4232 (i_nle c4461) (bd_shl (lo := 0) (hi := 4) (l := 1) (h := 16) bm1953 (by decide))) (bd_c (v := 1) (lo := 1) (hi := 1) (by decide)) (by decide)) (by decide)) (fun c k_ => ((fr4651 c (nin_sub (M := [(58, 67)]) k_ rfl)).trans ((fr4571 c (nin_ne (a := 71) k_ rfl)).trans ((fr4474 c (nin_ne (a := 70) k_ rfl) (nin_ne (a := 72) k_ rfl) (nin_ne (a := 73) k_ rfl)).trans ((ms_c e4469 (nin_ne (a := 70) k_ rfl)).trans ((fr4466 c (nin_ne (a := 70) k_ rfl) (nin_ne (a := 71) k_ rfl) (nin_ne (a := 72) k_ rfl) (nin_ne (a := 73) k_ rfl) (nin_ne (a := 74) k_ rfl)).trans (fr4234 c (nin_sub (M := [(58, 67), (70, 74)]) k_ rfl)))))))) (fun j k0_ k1_ k2_ k3_ k4_ => ((fc4652 j k0_ k1_ k2_ k3_ k4_).trans ((congrFun (fr4571 58 (Nat.ne_of_beq_eq_false rfl)) j).trans ((congrFun (fr4474 58 (Nat.ne_of_beq_eq_false rfl) (Nat.ne_of_beq_eq_false rfl) (Nat.ne_of_beq_eq_false rfl)) j).trans ((congrFun (ms_c e4469 (Nat.ne_of_beq_eq_false rfl)) j).trans ((congrFun (fr4466 58 (Nat.ne_of_beq_eq_false rfl) (Nat.ne_of_beq_eq_false rfl) (Nat.ne_of_beq_eq_false rfl) (Nat.ne_of_beq_eq_false rfl) (Nat.ne_of_beq_eq_false rfl)) j).trans (fc4235 j k0_ k1_ k2_ k3_ k4_))))))) (fun j k0_ k2_ => ((fc4653 j k0_ k2_).trans ((congrFun (fr4571 61 (Nat.ne_of_beq_eq_false rfl)) j).trans ((congrFun (fr4474 61 (Nat.ne_of_beq_eq_false rfl) (Nat.ne_of_beq_eq_false rfl) (Nat.ne_of_beq_eq_false rfl)) j).trans ((congrFun (ms_c e4469 (Nat.ne_of_beq_eq_false rfl)) j).trans ((congrFun (fr4466 61 (Nat.ne_of_beq_eq_false rfl) (Nat.ne_of_beq_eq_false rfl) (Nat.ne_of_beq_eq_false rfl) (Nat.ne_of_beq_eq_false rfl) (Nat.ne_of_beq_eq_false rfl)) j).trans (fc4236 j k0_ k2_))))))) h4648 h4649 h4650 (fun j k0_ k2_ => ((congrFun (fr4651 70 rfl) j).trans ((congrFun (fr4571 70 (Nat.ne_of_beq_eq_false rfl)) j).trans ((fc4475 j k2_).trans ((ms_i e4469 k2_).trans ((fc4467 j k0_ k2_).trans (fc4240 j k0_ k2_))))))) (bd_r ((congrFun (fr4651 70 rfl) 0).trans ((congrFun (fr4571 70 (Nat.ne_of_beq_eq_false rfl)) 0).trans ((fc4475 0 (Nat.ne_of_beq_eq_false rfl)).trans (ms_i e4469 (Nat.ne_of_beq_eq_false rfl))))) h4464) (bd_r ((congrFun (fr4651 70 rfl) 2).trans (congrFun (fr4571 70 (Nat.ne_of_beq_eq_false rfl)) 2)) h4473) (mu_up 1 bw4232 rfl (by decide) (bd_w (l := 2) (h := 16) (bd_add (l := 2) (h := 16) (bd_lt_hi bw4232 (i_nle c4461) (bd_shl (lo := 0) (hi := 4) (l := 1) (h := 16) bm1953 (by decide))) (bd_c (v := 1) (lo := 1) (hi := 1) (by decide)) (by decide)) (by decide)) hm4460)
                  · refine J_iload_n (i := 3) (j := 2) dX0_lookAtFilled_108 rfl rfl ?_
                    refine J_iload (i := 4) (j := 3) dX0_lookAtFilled_109 rfl ?_
                    refine J_callSN (As := [.int w4232, .int w4569]) (rest := []) dX0_lookAtFilled_111 (c_isIn (d := 0) (u := u4570) (g := g4243) (ex := ex) (set := w4232) (pond := w4569)  (by decide) ) hq.n k973 k816 k87 k817 np_X10_isIn (Nat.le_trans (by decide) hd) (by decide) (Nat.le_refl _) (Nat.le_refl _) wlen rfl (Nat.le_of_ble_eq_true rfl) (fun r_ h_ p4656 => ?_)
                    obtain ⟨t4657, rfl, rfl⟩ := p4656
                    have jn4667 : ∀ (u4665 : Nat → Nat → Int32), (∀ c, c ≠ 71 → u4665 c = u4570 c) → J x yX0_lookAtFilled cX0_lookAtFilled 5 none d 0 0 (Wd u g ex).length 147 [(0, .ref 56), (1, .ref 44), (3, .int w4232), (4, .int w4569)] [] (Wd u4665 g4243 ex) 0 0 := by
                      intro u4665 fr4666
                      refine J_iinc (i := 4) (j := 3) (v := (w4569 + 1)) (lw := [(4, .int (w4569 + 1)), (0, .ref 56), (1, .ref 44), (3, .int w4232)]) dX0_lookAtFilled_147 rfl rfl (by decide) rfl ?_
                      refine J_goto (tgt := 99) dX0_lookAtFilled_150 (by decide) ?_
                      refine J_lv [1, 2, 3, 0] rfl ?_
                      exact ih4623 (w4569 + 1) u4665 (bd_w (l := 0) (h := 4) (bd_add (l := 1) (h := 4) (bd_lt_hi bw4569 (i_nle c4625) bm1953) (bd_c (v := 1) (lo := 1) (hi := 1) (by decide)) (by decide)) (by decide)) (fun c k0_ => ((fr4666 c k0_).trans (fr4571 c k0_))) (mu_up 1 bw4569 rfl (by decide) (bd_w (l := 1) (h := 4) (bd_add (l := 1) (h := 4) (bd_lt_hi bw4569 (i_nle c4625) bm1953) (bd_c (v := 1) (lo := 1) (hi := 1) (by decide)) (by decide)) (by decide)) hm4624)
                    refine J_ifB_eq (tgt := 147) dX0_lookAtFilled_114 (by decide) (fun c4658 => ?_) (fun c4658 => ?_)
                    · refine J_lv [0, 1, 2, 3] rfl ?_
                      exact jn4667 u4570 (fun c k0_ => rfl)
                    · refine J_aload_n (i := 0) (j := 0) dX0_lookAtFilled_117 rfl rfl ?_
                      refine J_get (C := RX0) (T := TX0) (Z := 10) (ci := 0) (f := 1) dX0_lookAtFilled_118 inG0 rfl (by decide) k388 wc_56 rfl ?_
                      refine J_aload_n (i := 0) (j := 0) dX0_lookAtFilled_121 rfl rfl ?_
                      refine J_get (C := RX0) (T := TX0) (Z := 10) (ci := 0) (f := 6) dX0_lookAtFilled_122 inG0 rfl (by decide) k396 wc_56 rfl ?_
                      refine J_iload (i := 4) (j := 3) dX0_lookAtFilled_125 rfl ?_
                      refine J_iald dX0_lookAtFilled_127 wc_75 (vin (bd_lt_hi bw4569 (i_nle c4625) bm1953) (by decide)) ?_
                      refine J_topi (fun v4668 qv4668 => ?_)
                      refine J_iconst (v := 1) dX0_lookAtFilled_128 (by decide) ?_
                      refine J_aload_n (i := 0) (j := 0) dX0_lookAtFilled_129 rfl rfl ?_
                      refine J_get (C := RX0) (T := TX0) (Z := 10) (ci := 0) (f := 1) dX0_lookAtFilled_130 inG0 rfl (by decide) k388 wc_56 rfl ?_
                      refine J_aload_n (i := 0) (j := 0) dX0_lookAtFilled_133 rfl rfl ?_
                      refine J_get (C := RX0) (T := TX0) (Z := 10) (ci := 0) (f := 6) dX0_lookAtFilled_134 inG0 rfl (by decide) k396 wc_56 rfl ?_
                      refine J_iload (i := 4) (j := 3) dX0_lookAtFilled_137 rfl ?_
                      refine J_iald dX0_lookAtFilled_139 wc_75 (vin (bd_lt_hi bw4569 (i_nle c4625) bm1953) (by decide)) ?_
                      refine J_topi (fun v4669 qv4669 => ?_)
                      refine J_iconst (v := 0) dX0_lookAtFilled_140 (by decide) ?_
                      refine J_callV (As := [.int v4669, .int 0]) (rest := [.int 1, .int v4668, .ref 70]) dX0_lookAtFilled_141 (c_H_of (d := 0) (u := u4570) (g := g4243) (ex := ex) (pond := v4669) (column := 0) (t := 70) (by decide) (by decide)) hq.n k974 k749 k750 wc_70 rfl rfl k89 k751 np_X1_of (Nat.le_trans (by decide) hd) (by decide) (Nat.le_refl _) (Nat.le_refl _) wlen rfl (Nat.le_of_ble_eq_true rfl) (fun r_ h_ p4670 => ?_)
                      obtain ⟨rfl, rfl⟩ := p4670
                      refine J_callV (As := [.int v4668, .int 1, .int (hof u4570 70 v4669 (0 : Int32))]) (rest := []) dX0_lookAtFilled_144 (c_H_put (d := 0) (u := u4570) (g := g4243) (ex := ex) (pond := v4668) (column := 1) (value := (hof u4570 70 v4669 (0 : Int32))) (t := 70) (by decide) (by decide)) hq.n k1014 k650 k651 wc_70 rfl rfl k89 k652 np_X1_put (Nat.le_trans (by decide) hd) (by decide) (Nat.le_refl _) (Nat.le_refl _) wlen rfl (Nat.le_of_ble_eq_true rfl) (fun r_ h_ p4671 => ?_)
                      obtain ⟨u4672, rfl, rfl, fr4673⟩ := p4671
                      refine J_lv [0, 1, 2, 3] rfl ?_
                      exact jn4667 u4672 (fun c k0_ => (fr4673 c k0_))
              refine J_lv [1, 2, 3, 0] rfl ?_
              exact lp4621 _ (0 : Int32) u4472 (bd_w (l := 0) (h := 4) (bd_c (v := 0) (lo := 0) (hi := 0) (by decide)) (by decide)) (fun c k0_ => rfl) (Nat.lt_succ_self _)
        refine J_lv [1, 2, 0] rfl ?_
        exact lp4457 _ (1 : Int32) u1950 g (bd_w (l := 1) (h := 16) (bd_c (v := 1) (lo := 1) (hi := 1) (by decide)) (by decide)) (fun c k_ => rfl) (fun j k0_ k1_ k2_ k3_ k4_ => rfl) (fun j k0_ k2_ => rfl) (bd_r ((congrFun (fr1951 61 (Nat.ne_of_beq_eq_false rfl) (Nat.ne_of_beq_eq_false rfl)) 0).trans (congrFun (ms_c e2 (Nat.ne_of_beq_eq_false rfl)) 0)) hp2) (bd_r ((congrFun (fr1951 61 (Nat.ne_of_beq_eq_false rfl) (Nat.ne_of_beq_eq_false rfl)) 2).trans (congrFun (ms_c e2 (Nat.ne_of_beq_eq_false rfl)) 2)) hp3) (ab_c ((fr1951 66 (Nat.ne_of_beq_eq_false rfl) (Nat.ne_of_beq_eq_false rfl)).trans (ms_c e2 (Nat.ne_of_beq_eq_false rfl))) hp4) (fun j k0_ k2_ => rfl) (bd_r ((congrFun (fr1951 70 (Nat.ne_of_beq_eq_false rfl) (Nat.ne_of_beq_eq_false rfl)) 0).trans (congrFun (ms_c e2 (Nat.ne_of_beq_eq_false rfl)) 0)) hp5) (bd_r ((congrFun (fr1951 70 (Nat.ne_of_beq_eq_false rfl) (Nat.ne_of_beq_eq_false rfl)) 2).trans (congrFun (ms_c e2 (Nat.ne_of_beq_eq_false rfl)) 2)) hp6) (Nat.lt_succ_self _)
      · refine J_iload_n (i := 2) (j := 2) dX0_lookAtFilled_15 rfl rfl ?_
        refine J_iload_n (i := 3) (j := 3) dX0_lookAtFilled_16 rfl rfl ?_
        refine J_callSN (As := [.int ponds, .int w1949]) (rest := []) dX0_lookAtFilled_17 (c_isIn (d := 0) (u := u1950) (g := g) (ex := ex) (set := ponds) (pond := w1949)  (by decide) ) hq.n k973 k816 k87 k817 np_X10_isIn (Nat.le_trans (by decide) hd) (by decide) (Nat.le_refl _) (Nat.le_refl _) wlen rfl (Nat.le_of_ble_eq_true rfl) (fun r_ h_ p4674 => ?_)
        obtain ⟨t4675, rfl, rfl⟩ := p4674
        have jn4686 : ∀ (u4682 : Nat → Nat → Int32), (∀ c, c ≠ 56 → c ≠ 75 → u4682 c = u1950 c) → (∀ j, j ≠ 5 → u4682 56 j = u1950 56 j) → Bd 0 4 (u4682 56 5) → J x yX0_lookAtFilled cX0_lookAtFilled 5 none d 0 0 (Wd u g ex).length 51 [(0, .ref 56), (1, .ref 44), (2, .int ponds), (3, .int w1949)] [] (Wd u4682 g ex) 0 0 := by
          intro u4682 fr4683 fc4684 bm4685
          refine J_iinc (i := 3) (j := 3) (v := (w1949 + 1)) (lw := [(3, .int (w1949 + 1)), (0, .ref 56), (1, .ref 44), (2, .int ponds)]) dX0_lookAtFilled_51 rfl rfl (by decide) rfl ?_
          refine J_goto (tgt := 7) dX0_lookAtFilled_54 (by decide) ?_
          refine J_lv [1, 2, 3, 0] rfl ?_
          exact ih3323 (w1949 + 1) u4682 (bd_w (l := 0) (h := 9) (bd_add (l := 1) (h := 9) (bd_lt_hi bw1949 (i_nle c3325) hp0) (bd_c (v := 1) (lo := 1) (hi := 1) (by decide)) (by decide)) (by decide)) (fun c k0_ k1_ => ((fr4683 c k0_ k1_).trans (fr1951 c k0_ k1_))) (fun j k5_ => ((fc4684 j k5_).trans (fc1952 j k5_))) bm4685 (mu_up 1 bw1949 rfl (by decide) (bd_w (l := 1) (h := 9) (bd_add (l := 1) (h := 9) (bd_lt_hi bw1949 (i_nle c3325) hp0) (bd_c (v := 1) (lo := 1) (hi := 1) (by decide)) (by decide)) (by decide)) hm3324)
        refine J_ifB_eq (tgt := 51) dX0_lookAtFilled_20 (by decide) (fun c4676 => ?_) (fun c4676 => ?_)
        · refine J_lv [0, 1, 2, 3] rfl ?_
          exact jn4686 u1950 (fun c k0_ k1_ => rfl) (fun j k5_ => rfl) bm1953
        · refine J_aload_n (i := 0) (j := 0) dX0_lookAtFilled_23 rfl rfl ?_
          refine J_get (C := RX0) (T := TX0) (Z := 10) (ci := 0) (f := 5) dX0_lookAtFilled_24 inG0 rfl (by decide) k395 wc_56 rfl ?_
          refine J_iconst (v := 4) dX0_lookAtFilled_27 (by decide) ?_
          refine J_icmp_ge (tgt := 51) dX0_lookAtFilled_28 (by decide) (fun c4687 => ?_) (fun c4687 => ?_)
          · refine J_lv [0, 1, 2, 3] rfl ?_
            exact jn4686 u1950 (fun c k0_ k1_ => rfl) (fun j k5_ => rfl) (bd_w (l := 0) (h := 4) (bd_le_lo bm1953 c4687 (bd_c (v := 4) (lo := 4) (hi := 4) (by decide))) (by decide))
          · refine J_aload_n (i := 0) (j := 0) dX0_lookAtFilled_31 rfl rfl ?_
            refine J_get (C := RX0) (T := TX0) (Z := 10) (ci := 0) (f := 6) dX0_lookAtFilled_32 inG0 rfl (by decide) k396 wc_56 rfl ?_
            refine J_aload_n (i := 0) (j := 0) dX0_lookAtFilled_35 rfl rfl ?_
            refine J_get (C := RX0) (T := TX0) (Z := 10) (ci := 0) (f := 5) dX0_lookAtFilled_36 inG0 rfl (by decide) k395 wc_56 rfl ?_
            refine J_iload_n (i := 3) (j := 3) dX0_lookAtFilled_39 rfl rfl ?_
            obtain ⟨u4688, e4689⟩ : ∃ z, z = ms u1950 75 ((u1950 56 5).toNatClampNeg) w1949 := ⟨_, rfl⟩
            refine J_iast dX0_lookAtFilled_40 wc_75 (vin (bd_lt_hi bm1953 (i_nle c4687) (bd_c (v := 4) (lo := 4) (hi := 4) (by decide))) (by decide)) (ws e4689 wk_75 rfl) ?_
            refine J_aload_n (i := 0) (j := 0) dX0_lookAtFilled_41 rfl rfl ?_
            refine J_dup dX0_lookAtFilled_42 rfl ?_
            refine J_get (C := RX0) (T := TX0) (Z := 10) (ci := 0) (f := 5) dX0_lookAtFilled_43 inG0 rfl (by decide) k395 wc_56 rfl ?_
            refine J_ci (v := u1950 56 5) (congrFun (ms_c e4689 (Nat.ne_of_beq_eq_false rfl)) 5) ?_
            refine J_iconst (v := 1) dX0_lookAtFilled_46 (by decide) ?_
            refine J_iadd dX0_lookAtFilled_47 ?_
            obtain ⟨u4690, e4691⟩ : ∃ z, z = ms u4688 56 5 ((u1950 56 5) + 1) := ⟨_, rfl⟩
            refine J_put (C := RX0) (T := TX0) (Z := 10) (ci := 0) (f := 5) (ty0 := tyX0) dX0_lookAtFilled_48 inG0 rfl tyX0_ok nmX0 (by decide) k395 rfl rfl wc_56 (Nat.le_of_ble_eq_true rfl) (fun _ _ => ⟨rfl, rfl⟩) (ws e4691 wk_56 rfl) ?_
            refine J_lv [0, 1, 2, 3] rfl ?_
            exact jn4686 u4690 (fun c k0_ k1_ => ((ms_c e4691 k0_).trans (ms_c e4689 k1_))) (fun j k5_ => ((ms_i e4691 k5_).trans (congrFun (ms_c e4689 (Nat.ne_of_beq_eq_false rfl)) j))) (bd_r (ms_e e4691) (bd_w (l := 0) (h := 4) (bd_add (l := 1) (h := 4) (bd_lt_hi bm1953 (i_nle c4687) (bd_c (v := 4) (lo := 4) (hi := 4) (by decide))) (bd_c (v := 1) (lo := 1) (hi := 1) (by decide)) (by decide)) (by decide)))
  refine J_lv [1, 2, 3, 0] rfl ?_
  exact lp3321 _ (0 : Int32) u1 (bd_w (l := 0) (h := 9) (bd_c (v := 0) (lo := 0) (hi := 0) (by decide)) (by decide)) (fun c k0_ k1_ => rfl) (fun j k5_ => rfl) (bd_r (ms_e e2) (bd_w (l := 0) (h := 4) (bd_c (v := 0) (lo := 0) (hi := 0) (by decide)) (by decide))) (Nat.lt_succ_self _)
