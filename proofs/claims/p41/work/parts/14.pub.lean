theorem k1089 : Cond.methodLink RX10 352 yJ9_max_f86c9 ∈ gt := gt_5_1 (i := 19) rfl rfl
theorem k1086 : Cond.methodLink RX10 348 yX10_commonDivisor ∈ gt := gt_5_1 (i := 16) rfl rfl
theorem k1087 : Cond.static yX10_commonDivisor ∈ gt := gt_5_1 (i := 17) rfl rfl
theorem k1088 : Cond.code yX10_commonDivisor cX10_commonDivisor 11 (some .long) ∈ gt := gt_5_1 (i := 18) rfl rfl
theorem np_X10_commonDivisor : yX10_commonDivisor.cls ≠ "java/lang/invoke/MethodHandle" ∧ yX10_commonDivisor.cls ≠ "java/lang/invoke/VarHandle" ∧ (parseMethodDescriptor yX10_commonDivisor.desc).map (fun d => d.parameters.length) = some 2 := ⟨cq_RX10.1, cq_RX10.2, pd_37⟩
theorem k774 : Cond.methodLink RX10 121 yX1_has ∈ gt := gt_3_8 (i := 16) rfl rfl
theorem k942 : Cond.methodLink RX10 215 yX1_hasSet ∈ gt := gt_4_5 (i := 16) rfl rfl
theorem k928 : Cond.methodLink RX10 199 yJ6_bitCount_0f7a4 ∈ gt := gt_4_5 (i := 2) rfl rfl
theorem k191 : Cond.fieldLinkNest RX10 79 "PondStair$Told" "fault" "I" "PondStair" ∈ nt := nt_1_4 (i := 9) rfl rfl
theorem k193 : Cond.fieldLinkNest RX10 82 "PondStair$Told" "place" "I" "PondStair" ∈ nt := nt_1_4 (i := 11) rfl rfl
theorem k707 : Cond.methodLink RX10 111 yX1_told ∈ gt := gt_3_5 (i := 21) rfl rfl
theorem k708 : Cond.instanceMethod yX1_told ∈ gt := gt_3_5 (i := 22) rfl rfl
theorem k709 : Cond.selects RX1 yX1_told yX1_told ∈ gt := gt_3_5 (i := 23) rfl rfl
theorem k710 : Cond.code yX1_told cX1_told 2 (some .int) ∈ gt := gt_3_6 (i := 0) rfl rfl
theorem np_X1_told : yX1_told.cls ≠ "java/lang/invoke/MethodHandle" ∧ yX1_told.cls ≠ "java/lang/invoke/VarHandle" ∧ (parseMethodDescriptor yX1_told.desc).map (fun d => d.parameters.length) = some 1 := ⟨cq_RX1.1, cq_RX1.2, pd_6⟩
theorem k775 : Cond.methodLink RX10 124 yX1_of ∈ gt := gt_3_8 (i := 17) rfl rfl
theorem k780 : Cond.methodLink RX10 134 yX8_told ∈ gt := gt_3_8 (i := 22) rfl rfl
theorem k781 : Cond.instanceMethod yX8_told ∈ gt := gt_3_8 (i := 23) rfl rfl
theorem k782 : Cond.selects RX8 yX8_told yX8_told ∈ gt := gt_3_9 (i := 0) rfl rfl
theorem k783 : Cond.code yX8_told cX8_told 3 (some .int) ∈ gt := gt_3_9 (i := 1) rfl rfl
theorem np_X8_told : yX8_told.cls ≠ "java/lang/invoke/MethodHandle" ∧ yX8_told.cls ≠ "java/lang/invoke/VarHandle" ∧ (parseMethodDescriptor yX8_told.desc).map (fun d => d.parameters.length) = some 2 := ⟨cq_RX8.1, cq_RX8.2, pd_11⟩
theorem k297 : Cond.fieldLinkNest RX10 136 "PondStair$Site" "stop" "I" "PondStair" ∈ nt := nt_1_8 (i := 19) rfl rfl
theorem k299 : Cond.fieldLinkNest RX10 139 "PondStair$Site" "days" "I" "PondStair" ∈ nt := nt_1_8 (i := 21) rfl rfl
theorem k301 : Cond.fieldLinkNest RX10 142 "PondStair$Site" "lost" "I" "PondStair" ∈ nt := nt_1_8 (i := 23) rfl rfl
theorem k792 : Cond.methodLink RX10 145 yX1_hasStorm ∈ gt := gt_3_9 (i := 10) rfl rfl
theorem k793 : Cond.instanceMethod yX1_hasStorm ∈ gt := gt_3_9 (i := 11) rfl rfl
theorem k794 : Cond.selects RX1 yX1_hasStorm yX1_hasStorm ∈ gt := gt_3_9 (i := 12) rfl rfl
theorem k795 : Cond.code yX1_hasStorm cX1_hasStorm 3 (some .boolean) ∈ gt := gt_3_9 (i := 13) rfl rfl
theorem np_X1_hasStorm : yX1_hasStorm.cls ≠ "java/lang/invoke/MethodHandle" ∧ yX1_hasStorm.cls ≠ "java/lang/invoke/VarHandle" ∧ (parseMethodDescriptor yX1_hasStorm.desc).map (fun d => d.parameters.length) = some 2 := ⟨cq_RX1.1, cq_RX1.2, pd_14⟩
theorem k804 : Cond.methodLink RX10 148 yX1_stepsOf ∈ gt := gt_3_9 (i := 22) rfl rfl
theorem k805 : Cond.methodLink RX10 151 yX5_run ∈ gt := gt_3_9 (i := 23) rfl rfl
theorem k840 : Cond.methodLink RX10 155 yX5_told ∈ gt := gt_4_1 (i := 10) rfl rfl
theorem k841 : Cond.instanceMethod yX5_told ∈ gt := gt_4_1 (i := 11) rfl rfl
theorem k842 : Cond.selects RX5 yX5_told yX5_told ∈ gt := gt_4_1 (i := 12) rfl rfl
theorem k843 : Cond.code yX5_told cX5_told 2 (some .int) ∈ gt := gt_4_1 (i := 13) rfl rfl
theorem np_X5_told : yX5_told.cls ≠ "java/lang/invoke/MethodHandle" ∧ yX5_told.cls ≠ "java/lang/invoke/VarHandle" ∧ (parseMethodDescriptor yX5_told.desc).map (fun d => d.parameters.length) = some 1 := ⟨cq_RX5.1, cq_RX5.2, pd_6⟩
theorem k852 : Cond.methodLink RX10 156 yX10_looks ∈ gt := gt_4_1 (i := 22) rfl rfl
theorem k854 : Cond.instanceMethod yX10_looks ∈ gt := gt_4_2 (i := 0) rfl rfl
theorem k23 : Cond.selects RX10 yX10_looks yX10_looks ∈ gt := gs_2 (i := 7) rfl rfl
theorem k855 : Cond.code yX10_looks cX10_looks 3 (some .boolean) ∈ gt := gt_4_2 (i := 1) rfl rfl
theorem np_X10_looks : yX10_looks.cls ≠ "java/lang/invoke/MethodHandle" ∧ yX10_looks.cls ≠ "java/lang/invoke/VarHandle" ∧ (parseMethodDescriptor yX10_looks.desc).map (fun d => d.parameters.length) = some 2 := ⟨cq_RX10.1, cq_RX10.2, pd_14⟩
theorem k877 : Cond.constantLong RX10 159 (-1) ∈ gt := gt_4_2 (i := 23) rfl rfl
theorem k878 : Cond.methodLink RX10 161 yX10_bit ∈ gt := gt_4_3 (i := 0) rfl rfl
theorem k879 : Cond.methodLink RX10 164 yX2_partsOf ∈ gt := gt_4_3 (i := 1) rfl rfl
theorem k902 : Cond.methodLink RX10 173 yX1_all ∈ gt := gt_4_4 (i := 0) rfl rfl
theorem k907 : Cond.methodLink RX10 180 yX2_meanOf ∈ gt := gt_4_4 (i := 5) rfl rfl
theorem k899 : Cond.methodLink RX10 170 yX10_isOwner ∈ gt := gt_4_3 (i := 21) rfl rfl
theorem k900 : Cond.static yX10_isOwner ∈ gt := gt_4_3 (i := 22) rfl rfl
theorem k901 : Cond.code yX10_isOwner cX10_isOwner 1 (some .boolean) ∈ gt := gt_4_3 (i := 23) rfl rfl
theorem np_X10_isOwner : yX10_isOwner.cls ≠ "java/lang/invoke/MethodHandle" ∧ yX10_isOwner.cls ≠ "java/lang/invoke/VarHandle" ∧ (parseMethodDescriptor yX10_isOwner.desc).map (fun d => d.parameters.length) = some 1 := ⟨cq_RX10.1, cq_RX10.2, pd_10⟩
theorem k903 : Cond.methodLink RX10 177 yX1_ownedBy ∈ gt := gt_4_4 (i := 1) rfl rfl
theorem k904 : Cond.instanceMethod yX1_ownedBy ∈ gt := gt_4_4 (i := 2) rfl rfl
theorem k905 : Cond.selects RX1 yX1_ownedBy yX1_ownedBy ∈ gt := gt_4_4 (i := 3) rfl rfl
theorem k906 : Cond.code yX1_ownedBy cX1_ownedBy 4 (some .int) ∈ gt := gt_4_4 (i := 4) rfl rfl
theorem np_X1_ownedBy : yX1_ownedBy.cls ≠ "java/lang/invoke/MethodHandle" ∧ yX1_ownedBy.cls ≠ "java/lang/invoke/VarHandle" ∧ (parseMethodDescriptor yX1_ownedBy.desc).map (fun d => d.parameters.length) = some 1 := ⟨cq_RX1.1, cq_RX1.2, pd_6⟩
theorem k915 : Cond.methodLink RX10 183 yX2_likeliest ∈ gt := gt_4_4 (i := 13) rfl rfl
theorem k916 : Cond.instanceMethod yX2_likeliest ∈ gt := gt_4_4 (i := 14) rfl rfl
theorem k917 : Cond.selects RX2 yX2_likeliest yX2_likeliest ∈ gt := gt_4_4 (i := 15) rfl rfl
theorem k918 : Cond.code yX2_likeliest cX2_likeliest 3 (some .int) ∈ gt := gt_4_4 (i := 16) rfl rfl
theorem np_X2_likeliest : yX2_likeliest.cls ≠ "java/lang/invoke/MethodHandle" ∧ yX2_likeliest.cls ≠ "java/lang/invoke/VarHandle" ∧ (parseMethodDescriptor yX2_likeliest.desc).map (fun d => d.parameters.length) = some 0 := ⟨cq_RX2.1, cq_RX2.2, pd_1⟩
theorem k369 : Cond.fieldLinkNest RX10 186 "PondStair$Odds" "together" "[J" "PondStair" ∈ nt := nt_2_1 (i := 19) rfl rfl
theorem k926 : Cond.methodLink RX10 190 yX1_hasRain ∈ gt := gt_4_5 (i := 0) rfl rfl
theorem k323 : Cond.fieldLinkNest RX10 193 "PondStair$Storm" "went" "I" "PondStair" ∈ nt := nt_1_9 (i := 21) rfl rfl
theorem k927 : Cond.methodLink RX10 196 yX10_isIn ∈ gt := gt_4_5 (i := 1) rfl rfl
theorem k938 : Cond.methodLink RX10 204 yX10_canMend ∈ gt := gt_4_5 (i := 12) rfl rfl
theorem k940 : Cond.instanceMethod yX10_canMend ∈ gt := gt_4_5 (i := 14) rfl rfl
theorem k26 : Cond.selects RX10 yX10_canMend yX10_canMend ∈ gt := gs_2 (i := 10) rfl rfl
theorem k941 : Cond.code yX10_canMend cX10_canMend 6 (some .boolean) ∈ gt := gt_4_5 (i := 15) rfl rfl
theorem np_X10_canMend : yX10_canMend.cls ≠ "java/lang/invoke/MethodHandle" ∧ yX10_canMend.cls ≠ "java/lang/invoke/VarHandle" ∧ (parseMethodDescriptor yX10_canMend.desc).map (fun d => d.parameters.length) = some 5 := ⟨cq_RX10.1, cq_RX10.2, pd_25⟩
theorem k943 : Cond.methodLink RX10 208 yX0_bestSet ∈ gt := gt_4_5 (i := 17) rfl rfl
theorem k944 : Cond.instanceMethod yX0_bestSet ∈ gt := gt_4_5 (i := 18) rfl rfl
theorem k945 : Cond.selects RX0 yX0_bestSet yX0_bestSet ∈ gt := gt_4_5 (i := 19) rfl rfl
theorem k946 : Cond.code yX0_bestSet cX0_bestSet 9 (some .int) ∈ gt := gt_4_5 (i := 20) rfl rfl
theorem np_X0_bestSet : yX0_bestSet.cls ≠ "java/lang/invoke/MethodHandle" ∧ yX0_bestSet.cls ≠ "java/lang/invoke/VarHandle" ∧ (parseMethodDescriptor yX0_bestSet.desc).map (fun d => d.parameters.length) = some 3 := ⟨cq_RX0.1, cq_RX0.2, pd_46⟩
theorem k964 : Cond.methodLink RX10 212 yX0_stepByStep ∈ gt := gt_4_6 (i := 14) rfl rfl
theorem k965 : Cond.instanceMethod yX0_stepByStep ∈ gt := gt_4_6 (i := 15) rfl rfl
theorem k966 : Cond.selects RX0 yX0_stepByStep yX0_stepByStep ∈ gt := gt_4_6 (i := 16) rfl rfl
theorem k967 : Cond.code yX0_stepByStep cX0_stepByStep 8 (some .int) ∈ gt := gt_4_6 (i := 17) rfl rfl
theorem np_X0_stepByStep : yX0_stepByStep.cls ≠ "java/lang/invoke/MethodHandle" ∧ yX0_stepByStep.cls ≠ "java/lang/invoke/VarHandle" ∧ (parseMethodDescriptor yX0_stepByStep.desc).map (fun d => d.parameters.length) = some 3 := ⟨cq_RX0.1, cq_RX0.2, pd_46⟩
theorem k1236 : Cond.methodLink RX10 325 yX0_fewestDays ∈ gt := gt_5_7 (i := 22) rfl rfl
theorem k1237 : Cond.instanceMethod yX0_fewestDays ∈ gt := gt_5_7 (i := 23) rfl rfl
theorem k1238 : Cond.selects RX0 yX0_fewestDays yX0_fewestDays ∈ gt := gt_5_8 (i := 0) rfl rfl
theorem k1239 : Cond.code yX0_fewestDays cX0_fewestDays 9 (some .int) ∈ gt := gt_5_8 (i := 1) rfl rfl
theorem np_X0_fewestDays : yX0_fewestDays.cls ≠ "java/lang/invoke/MethodHandle" ∧ yX0_fewestDays.cls ≠ "java/lang/invoke/VarHandle" ∧ (parseMethodDescriptor yX0_fewestDays.desc).map (fun d => d.parameters.length) = some 3 := ⟨cq_RX0.1, cq_RX0.2, pd_46⟩
theorem k985 : Cond.methodLink RX10 218 yX2_weigh ∈ gt := gt_4_7 (i := 11) rfl rfl
theorem k136 : Cond.fieldLinkNest RX10 222 "PondStair$Hill" "ponds" "I" "PondStair" ∈ nt := nt_1_2 (i := 2) rfl rfl
theorem k990 : Cond.methodLink RX10 225 yX0_holdAll ∈ gt := gt_4_7 (i := 16) rfl rfl
theorem k991 : Cond.instanceMethod yX0_holdAll ∈ gt := gt_4_7 (i := 17) rfl rfl
theorem k992 : Cond.selects RX0 yX0_holdAll yX0_holdAll ∈ gt := gt_4_7 (i := 18) rfl rfl
theorem k993 : Cond.code yX0_holdAll cX0_holdAll 5 none ∈ gt := gt_4_7 (i := 19) rfl rfl
theorem np_X0_holdAll : yX0_holdAll.cls ≠ "java/lang/invoke/MethodHandle" ∧ yX0_holdAll.cls ≠ "java/lang/invoke/VarHandle" ∧ (parseMethodDescriptor yX0_holdAll.desc).map (fun d => d.parameters.length) = some 1 := ⟨cq_RX0.1, cq_RX0.2, pd_41⟩
theorem k390 : Cond.fieldLinkNest RX10 233 "PondStair$Choice" "first" "I" "PondStair" ∈ nt := nt_2_2 (i := 16) rfl rfl
theorem k394 : Cond.fieldLinkNest RX10 229 "PondStair$Choice" "least" "J" "PondStair" ∈ nt := nt_2_2 (i := 20) rfl rfl
theorem k1005 : Cond.methodLink RX10 236 yX10_hasPond ∈ gt := gt_4_8 (i := 7) rfl rfl
theorem k1007 : Cond.instanceMethod yX10_hasPond ∈ gt := gt_4_8 (i := 9) rfl rfl
theorem k29 : Cond.selects RX10 yX10_hasPond yX10_hasPond ∈ gt := gs_2 (i := 13) rfl rfl
theorem k1008 : Cond.code yX10_hasPond cX10_hasPond 4 (some .boolean) ∈ gt := gt_4_8 (i := 10) rfl rfl
theorem np_X10_hasPond : yX10_hasPond.cls ≠ "java/lang/invoke/MethodHandle" ∧ yX10_hasPond.cls ≠ "java/lang/invoke/VarHandle" ∧ (parseMethodDescriptor yX10_hasPond.desc).map (fun d => d.parameters.length) = some 3 := ⟨cq_RX10.1, cq_RX10.2, pd_18⟩
theorem k1009 : Cond.methodLink RX10 240 yX0_lowerBy ∈ gt := gt_4_8 (i := 11) rfl rfl
theorem k1010 : Cond.instanceMethod yX0_lowerBy ∈ gt := gt_4_8 (i := 12) rfl rfl
theorem k1011 : Cond.selects RX0 yX0_lowerBy yX0_lowerBy ∈ gt := gt_4_8 (i := 13) rfl rfl
theorem k1012 : Cond.code yX0_lowerBy cX0_lowerBy 8 (some .int) ∈ gt := gt_4_8 (i := 14) rfl rfl
theorem np_X0_lowerBy : yX0_lowerBy.cls ≠ "java/lang/invoke/MethodHandle" ∧ yX0_lowerBy.cls ≠ "java/lang/invoke/VarHandle" ∧ (parseMethodDescriptor yX0_lowerBy.desc).map (fun d => d.parameters.length) = some 2 := ⟨cq_RX0.1, cq_RX0.2, pd_42⟩
theorem k1028 : Cond.constantLong RX10 246 (-9223372036854775808) ∈ gt := gt_4_9 (i := 6) rfl rfl
theorem k1029 : Cond.methodLink RX10 248 yX2_wholeMean ∈ gt := gt_4_9 (i := 7) rfl rfl
theorem k1030 : Cond.methodLink RX10 252 yX1_copy ∈ gt := gt_4_9 (i := 8) rfl rfl
theorem k1031 : Cond.methodLink RX10 255 yX1_put ∈ gt := gt_4_9 (i := 9) rfl rfl
theorem k1036 : Cond.methodLink RX10 259 yX10_canFill ∈ gt := gt_4_9 (i := 14) rfl rfl
theorem k1038 : Cond.instanceMethod yX10_canFill ∈ gt := gt_4_9 (i := 16) rfl rfl
theorem k30 : Cond.selects RX10 yX10_canFill yX10_canFill ∈ gt := gs_2 (i := 14) rfl rfl
theorem k1039 : Cond.code yX10_canFill cX10_canFill 4 (some .boolean) ∈ gt := gt_4_9 (i := 17) rfl rfl
theorem np_X10_canFill : yX10_canFill.cls ≠ "java/lang/invoke/MethodHandle" ∧ yX10_canFill.cls ≠ "java/lang/invoke/VarHandle" ∧ (parseMethodDescriptor yX10_canFill.desc).map (fun d => d.parameters.length) = some 3 := ⟨cq_RX10.1, cq_RX10.2, pd_18⟩
theorem k1040 : Cond.methodLink RX10 262 yX0_lookAtFilled ∈ gt := gt_4_9 (i := 18) rfl rfl
theorem k1041 : Cond.instanceMethod yX0_lookAtFilled ∈ gt := gt_4_9 (i := 19) rfl rfl
theorem k1042 : Cond.selects RX0 yX0_lookAtFilled yX0_lookAtFilled ∈ gt := gt_4_9 (i := 20) rfl rfl
theorem k1043 : Cond.code yX0_lookAtFilled cX0_lookAtFilled 5 none ∈ gt := gt_4_9 (i := 21) rfl rfl
theorem np_X0_lookAtFilled : yX0_lookAtFilled.cls ≠ "java/lang/invoke/MethodHandle" ∧ yX0_lookAtFilled.cls ≠ "java/lang/invoke/VarHandle" ∧ (parseMethodDescriptor yX0_lookAtFilled.desc).map (fun d => d.parameters.length) = some 2 := ⟨cq_RX0.1, cq_RX0.2, pd_44⟩
theorem k1053 : Cond.methodLink RX10 270 yX0_findOrder ∈ gt := gt_5_0 (i := 7) rfl rfl
theorem k1054 : Cond.instanceMethod yX0_findOrder ∈ gt := gt_5_0 (i := 8) rfl rfl
theorem k1055 : Cond.selects RX0 yX0_findOrder yX0_findOrder ∈ gt := gt_5_0 (i := 9) rfl rfl
theorem k1056 : Cond.code yX0_findOrder cX0_findOrder 6 none ∈ gt := gt_5_0 (i := 10) rfl rfl
theorem np_X0_findOrder : yX0_findOrder.cls ≠ "java/lang/invoke/MethodHandle" ∧ yX0_findOrder.cls ≠ "java/lang/invoke/VarHandle" ∧ (parseMethodDescriptor yX0_findOrder.desc).map (fun d => d.parameters.length) = some 0 := ⟨cq_RX0.1, cq_RX0.2, pd_3⟩
theorem k1045 : Cond.methodLink RX10 266 yX0_downwards ∈ gt := gt_4_9 (i := 23) rfl rfl
theorem k1046 : Cond.instanceMethod yX0_downwards ∈ gt := gt_5_0 (i := 0) rfl rfl
theorem k1047 : Cond.selects RX0 yX0_downwards yX0_downwards ∈ gt := gt_5_0 (i := 1) rfl rfl
theorem k1048 : Cond.code yX0_downwards cX0_downwards 2 (some .long) ∈ gt := gt_5_0 (i := 2) rfl rfl
theorem np_X0_downwards : yX0_downwards.cls ≠ "java/lang/invoke/MethodHandle" ∧ yX0_downwards.cls ≠ "java/lang/invoke/VarHandle" ∧ (parseMethodDescriptor yX0_downwards.desc).map (fun d => d.parameters.length) = some 0 := ⟨cq_RX0.1, cq_RX0.2, pd_2⟩
theorem k1066 : Cond.methodLink RX10 273 yX0_filledAt ∈ gt := gt_5_0 (i := 20) rfl rfl
theorem k1067 : Cond.instanceMethod yX0_filledAt ∈ gt := gt_5_0 (i := 21) rfl rfl
theorem k1068 : Cond.selects RX0 yX0_filledAt yX0_filledAt ∈ gt := gt_5_0 (i := 22) rfl rfl
theorem k1069 : Cond.code yX0_filledAt cX0_filledAt 2 (some .int) ∈ gt := gt_5_0 (i := 23) rfl rfl
theorem np_X0_filledAt : yX0_filledAt.cls ≠ "java/lang/invoke/MethodHandle" ∧ yX0_filledAt.cls ≠ "java/lang/invoke/VarHandle" ∧ (parseMethodDescriptor yX0_filledAt.desc).map (fun d => d.parameters.length) = some 1 := ⟨cq_RX0.1, cq_RX0.2, pd_6⟩
theorem k1074 : Cond.methodLink RX10 276 yX1_seenAndGoes ∈ gt := gt_5_1 (i := 4) rfl rfl
theorem k1078 : Cond.methodLink RX10 279 yX1_seen ∈ gt := gt_5_1 (i := 8) rfl rfl
theorem k1083 : Cond.methodLink RX10 282 yX10_inLeastTerms ∈ gt := gt_5_1 (i := 13) rfl rfl
theorem k1084 : Cond.static yX10_inLeastTerms ∈ gt := gt_5_1 (i := 14) rfl rfl
theorem k1085 : Cond.code yX10_inLeastTerms cX10_inLeastTerms 7 (some .long) ∈ gt := gt_5_1 (i := 15) rfl rfl
theorem np_X10_inLeastTerms : yX10_inLeastTerms.cls ≠ "java/lang/invoke/MethodHandle" ∧ yX10_inLeastTerms.cls ≠ "java/lang/invoke/VarHandle" ∧ (parseMethodDescriptor yX10_inLeastTerms.desc).map (fun d => d.parameters.length) = some 3 := ⟨cq_RX10.1, cq_RX10.2, pd_39⟩
theorem k1094 : Cond.methodLink RX10 286 yX0_mostUrgent ∈ gt := gt_5_2 (i := 0) rfl rfl
theorem k1095 : Cond.instanceMethod yX0_mostUrgent ∈ gt := gt_5_2 (i := 1) rfl rfl
theorem k1096 : Cond.selects RX0 yX0_mostUrgent yX0_mostUrgent ∈ gt := gt_5_2 (i := 2) rfl rfl
theorem k1097 : Cond.code yX0_mostUrgent cX0_mostUrgent 8 (some .int) ∈ gt := gt_5_2 (i := 3) rfl rfl
theorem np_X0_mostUrgent : yX0_mostUrgent.cls ≠ "java/lang/invoke/MethodHandle" ∧ yX0_mostUrgent.cls ≠ "java/lang/invoke/VarHandle" ∧ (parseMethodDescriptor yX0_mostUrgent.desc).map (fun d => d.parameters.length) = some 1 := ⟨cq_RX0.1, cq_RX0.2, pd_40⟩
theorem k1144 : Cond.methodLink RX10 298 yX2_mostThatWent ∈ gt := gt_5_4 (i := 2) rfl rfl
theorem k1145 : Cond.instanceMethod yX2_mostThatWent ∈ gt := gt_5_4 (i := 3) rfl rfl
theorem k1146 : Cond.selects RX2 yX2_mostThatWent yX2_mostThatWent ∈ gt := gt_5_4 (i := 4) rfl rfl
theorem k1147 : Cond.code yX2_mostThatWent cX2_mostThatWent 5 (some .int) ∈ gt := gt_5_4 (i := 5) rfl rfl
theorem np_X2_mostThatWent : yX2_mostThatWent.cls ≠ "java/lang/invoke/MethodHandle" ∧ yX2_mostThatWent.cls ≠ "java/lang/invoke/VarHandle" ∧ (parseMethodDescriptor yX2_mostThatWent.desc).map (fun d => d.parameters.length) = some 0 := ⟨cq_RX2.1, cq_RX2.2, pd_1⟩
theorem k1158 : Cond.methodLink RX10 301 yX0_heaviest ∈ gt := gt_5_4 (i := 16) rfl rfl
theorem k1159 : Cond.instanceMethod yX0_heaviest ∈ gt := gt_5_4 (i := 17) rfl rfl
theorem k1160 : Cond.selects RX0 yX0_heaviest yX0_heaviest ∈ gt := gt_5_4 (i := 18) rfl rfl
theorem k1161 : Cond.code yX0_heaviest cX0_heaviest 10 (some .int) ∈ gt := gt_5_4 (i := 19) rfl rfl
theorem np_X0_heaviest : yX0_heaviest.cls ≠ "java/lang/invoke/MethodHandle" ∧ yX0_heaviest.cls ≠ "java/lang/invoke/VarHandle" ∧ (parseMethodDescriptor yX0_heaviest.desc).map (fun d => d.parameters.length) = some 1 := ⟨cq_RX0.1, cq_RX0.2, pd_40⟩
theorem k1174 : Cond.methodLink RX10 307 yX1_reaching ∈ gt := gt_5_5 (i := 8) rfl rfl
theorem k1175 : Cond.instanceMethod yX1_reaching ∈ gt := gt_5_5 (i := 9) rfl rfl
theorem k1176 : Cond.selects RX1 yX1_reaching yX1_reaching ∈ gt := gt_5_5 (i := 10) rfl rfl
theorem k1177 : Cond.code yX1_reaching cX1_reaching 4 (some .int) ∈ gt := gt_5_5 (i := 11) rfl rfl
theorem np_X1_reaching : yX1_reaching.cls ≠ "java/lang/invoke/MethodHandle" ∧ yX1_reaching.cls ≠ "java/lang/invoke/VarHandle" ∧ (parseMethodDescriptor yX1_reaching.desc).map (fun d => d.parameters.length) = some 1 := ⟨cq_RX1.1, cq_RX1.2, pd_6⟩
theorem k1166 : Cond.methodLink RX10 304 yX1_reachedFrom ∈ gt := gt_5_5 (i := 0) rfl rfl
theorem k1167 : Cond.instanceMethod yX1_reachedFrom ∈ gt := gt_5_5 (i := 1) rfl rfl
theorem k1168 : Cond.selects RX1 yX1_reachedFrom yX1_reachedFrom ∈ gt := gt_5_5 (i := 2) rfl rfl
theorem k1169 : Cond.code yX1_reachedFrom cX1_reachedFrom 4 (some .int) ∈ gt := gt_5_5 (i := 3) rfl rfl
theorem np_X1_reachedFrom : yX1_reachedFrom.cls ≠ "java/lang/invoke/MethodHandle" ∧ yX1_reachedFrom.cls ≠ "java/lang/invoke/VarHandle" ∧ (parseMethodDescriptor yX1_reachedFrom.desc).map (fun d => d.parameters.length) = some 1 := ⟨cq_RX1.1, cq_RX1.2, pd_6⟩
theorem k1194 : Cond.methodLink RX10 310 yX2_worstTold ∈ gt := gt_5_6 (i := 4) rfl rfl
theorem k1195 : Cond.instanceMethod yX2_worstTold ∈ gt := gt_5_6 (i := 5) rfl rfl
theorem k1196 : Cond.selects RX2 yX2_worstTold yX2_worstTold ∈ gt := gt_5_6 (i := 6) rfl rfl
theorem k1197 : Cond.code yX2_worstTold cX2_worstTold 7 (some .long) ∈ gt := gt_5_6 (i := 7) rfl rfl
theorem np_X2_worstTold : yX2_worstTold.cls ≠ "java/lang/invoke/MethodHandle" ∧ yX2_worstTold.cls ≠ "java/lang/invoke/VarHandle" ∧ (parseMethodDescriptor yX2_worstTold.desc).map (fun d => d.parameters.length) = some 1 := ⟨cq_RX2.1, cq_RX2.2, pd_7⟩
theorem k1203 : Cond.methodLink RX10 313 yX2_mostInBrook ∈ gt := gt_5_6 (i := 13) rfl rfl
theorem k1204 : Cond.instanceMethod yX2_mostInBrook ∈ gt := gt_5_6 (i := 14) rfl rfl
theorem k1205 : Cond.selects RX2 yX2_mostInBrook yX2_mostInBrook ∈ gt := gt_5_6 (i := 15) rfl rfl
theorem k1206 : Cond.code yX2_mostInBrook cX2_mostInBrook 4 (some .int) ∈ gt := gt_5_6 (i := 16) rfl rfl
theorem np_X2_mostInBrook : yX2_mostInBrook.cls ≠ "java/lang/invoke/MethodHandle" ∧ yX2_mostInBrook.cls ≠ "java/lang/invoke/VarHandle" ∧ (parseMethodDescriptor yX2_mostInBrook.desc).map (fun d => d.parameters.length) = some 0 := ⟨cq_RX2.1, cq_RX2.2, pd_1⟩
theorem k1211 : Cond.methodLink RX10 316 yX0_turnAround ∈ gt := gt_5_6 (i := 21) rfl rfl
theorem k1212 : Cond.instanceMethod yX0_turnAround ∈ gt := gt_5_6 (i := 22) rfl rfl
theorem k1213 : Cond.selects RX0 yX0_turnAround yX0_turnAround ∈ gt := gt_5_6 (i := 23) rfl rfl
theorem k1214 : Cond.code yX0_turnAround cX0_turnAround 6 none ∈ gt := gt_5_7 (i := 0) rfl rfl
theorem np_X0_turnAround : yX0_turnAround.cls ≠ "java/lang/invoke/MethodHandle" ∧ yX0_turnAround.cls ≠ "java/lang/invoke/VarHandle" ∧ (parseMethodDescriptor yX0_turnAround.desc).map (fun d => d.parameters.length) = some 1 := ⟨cq_RX0.1, cq_RX0.2, pd_41⟩
theorem k392 : Cond.fieldLinkNest RX10 319 "PondStair$Choice" "second" "I" "PondStair" ∈ nt := nt_2_2 (i := 18) rfl rfl
theorem k1220 : Cond.methodLink RX10 322 yX5_leaveBehind ∈ gt := gt_5_7 (i := 6) rfl rfl
theorem k1221 : Cond.instanceMethod yX5_leaveBehind ∈ gt := gt_5_7 (i := 7) rfl rfl
theorem k1222 : Cond.selects RX5 yX5_leaveBehind yX5_leaveBehind ∈ gt := gt_5_7 (i := 8) rfl rfl
theorem k1223 : Cond.code yX5_leaveBehind cX5_leaveBehind 3 none ∈ gt := gt_5_7 (i := 9) rfl rfl
theorem np_X5_leaveBehind : yX5_leaveBehind.cls ≠ "java/lang/invoke/MethodHandle" ∧ yX5_leaveBehind.cls ≠ "java/lang/invoke/VarHandle" ∧ (parseMethodDescriptor yX5_leaveBehind.desc).map (fun d => d.parameters.length) = some 1 := ⟨cq_RX5.1, cq_RX5.2, pd_41⟩
theorem k197 : Cond.fieldLinkNest RX10 328 "PondStair$Told" "hills" "I" "PondStair" ∈ nt := nt_1_4 (i := 15) rfl rfl
theorem k201 : Cond.fieldLinkNest RX10 331 "PondStair$Told" "plans" "I" "PondStair" ∈ nt := nt_1_4 (i := 19) rfl rfl
theorem dX10_commonDivisor_0 : decode cX10_commonDivisor 0 = .ok (.lload_n 0, 1) := dqn_30 (k := 50) qh_cX10_commonDivisor rfl rfl
theorem dX10_commonDivisor_1 : decode cX10_commonDivisor 1 = .ok (.lstore 4, 2) := dqn_55 (k := 48) qh_cX10_commonDivisor rfl rfl rfl
theorem dX10_commonDivisor_3 : decode cX10_commonDivisor 3 = .ok (.lload_n 2, 1) := dqn_32 (k := 47) qh_cX10_commonDivisor rfl rfl
theorem dX10_commonDivisor_4 : decode cX10_commonDivisor 4 = .ok (.lstore 6, 2) := dqn_55 (k := 45) qh_cX10_commonDivisor rfl rfl rfl
theorem dX10_commonDivisor_6 : decode cX10_commonDivisor 6 = .ok (.iconst 0, 1) := dqn_3 (k := 44) qh_cX10_commonDivisor rfl rfl
theorem dX10_commonDivisor_7 : decode cX10_commonDivisor 7 = .ok (.istore 8, 2) := dqn_54 (k := 42) qh_cX10_commonDivisor rfl rfl rfl
theorem dX10_commonDivisor_9 : decode cX10_commonDivisor 9 = .ok (.iload 8, 2) := dqn_21 (k := 40) qh_cX10_commonDivisor rfl rfl rfl
theorem dX10_commonDivisor_11 : decode cX10_commonDivisor 11 = .ok (.bipush 100, 2) := dqn_16 (k := 38) (u := 100) qh_cX10_commonDivisor rfl rfl rfl (by decide)
theorem dX10_commonDivisor_13 : decode cX10_commonDivisor 13 = .ok (.if_icmp .ge 31, 3) := dqn_162 (k := 35) (u := 31) qh_cX10_commonDivisor rfl rfl rfl (sg_p rfl rfl)
theorem dX10_commonDivisor_16 : decode cX10_commonDivisor 16 = .ok (.lload 6, 2) := dqn_22 (k := 33) qh_cX10_commonDivisor rfl rfl rfl
theorem dX10_commonDivisor_18 : decode cX10_commonDivisor 18 = .ok (.lconst 0, 1) := dqn_9 (k := 32) qh_cX10_commonDivisor rfl rfl
theorem dX10_commonDivisor_19 : decode cX10_commonDivisor 19 = .ok (.lcmp, 1) := dqn_148 (k := 31) qh_cX10_commonDivisor rfl rfl
theorem dX10_commonDivisor_20 : decode cX10_commonDivisor 20 = .ok (.ifCond .eq 24, 3) := dqn_153 (k := 28) (u := 24) qh_cX10_commonDivisor rfl rfl rfl (sg_p rfl rfl)
theorem dX10_commonDivisor_23 : decode cX10_commonDivisor 23 = .ok (.lload 4, 2) := dqn_22 (k := 26) qh_cX10_commonDivisor rfl rfl rfl
theorem dX10_commonDivisor_25 : decode cX10_commonDivisor 25 = .ok (.lload 6, 2) := dqn_22 (k := 24) qh_cX10_commonDivisor rfl rfl rfl
theorem dX10_commonDivisor_27 : decode cX10_commonDivisor 27 = .ok (.lrem, 1) := dqn_113 (k := 23) qh_cX10_commonDivisor rfl rfl
theorem dX10_commonDivisor_28 : decode cX10_commonDivisor 28 = .ok (.lstore 9, 2) := dqn_55 (k := 21) qh_cX10_commonDivisor rfl rfl rfl
theorem dX10_commonDivisor_30 : decode cX10_commonDivisor 30 = .ok (.lload 6, 2) := dqn_22 (k := 19) qh_cX10_commonDivisor rfl rfl rfl
theorem dX10_commonDivisor_32 : decode cX10_commonDivisor 32 = .ok (.lstore 4, 2) := dqn_55 (k := 17) qh_cX10_commonDivisor rfl rfl rfl
theorem dX10_commonDivisor_34 : decode cX10_commonDivisor 34 = .ok (.lload 9, 2) := dqn_22 (k := 15) qh_cX10_commonDivisor rfl rfl rfl
theorem dX10_commonDivisor_36 : decode cX10_commonDivisor 36 = .ok (.lstore 6, 2) := dqn_55 (k := 13) qh_cX10_commonDivisor rfl rfl rfl
theorem dX10_commonDivisor_38 : decode cX10_commonDivisor 38 = .ok (.iinc 8 1, 3) := dqn_132 (k := 10) (u := 1) qh_cX10_commonDivisor rfl rfl rfl rfl (by decide)
theorem dX10_commonDivisor_41 : decode cX10_commonDivisor 41 = .ok (.goto (-32), 3) := dqn_167 (k := 7) (u := 65504) qh_cX10_commonDivisor rfl rfl rfl (sg_n (k := 32) rfl rfl rfl)
theorem dX10_commonDivisor_44 : decode cX10_commonDivisor 44 = .ok (.lload 4, 2) := dqn_22 (k := 5) qh_cX10_commonDivisor rfl rfl rfl
theorem dX10_commonDivisor_46 : decode cX10_commonDivisor 46 = .ok (.lconst 1, 1) := dqn_10 (k := 4) qh_cX10_commonDivisor rfl rfl
theorem dX10_commonDivisor_47 : decode cX10_commonDivisor 47 = .ok (.invokestatic 352, 3) := dqn_184 (k := 1) qh_cX10_commonDivisor rfl rfl rfl
theorem dX10_commonDivisor_50 : decode cX10_commonDivisor 50 = .ok (.lreturn, 1) := dqn_173 (k := 0) qh_cX10_commonDivisor rfl rfl
theorem dX10_inLeastTerms_0 : decode cX10_inLeastTerms 0 = .ok (.lload_n 2, 1) := dqn_32 (k := 37) qh_cX10_inLeastTerms rfl rfl
theorem dX10_inLeastTerms_1 : decode cX10_inLeastTerms 1 = .ok (.lconst 0, 1) := dqn_9 (k := 36) qh_cX10_inLeastTerms rfl rfl
theorem dX10_inLeastTerms_2 : decode cX10_inLeastTerms 2 = .ok (.lcmp, 1) := dqn_148 (k := 35) qh_cX10_inLeastTerms rfl rfl
theorem dX10_inLeastTerms_3 : decode cX10_inLeastTerms 3 = .ok (.ifCond .ne 14, 3) := dqn_154 (k := 32) (u := 14) qh_cX10_inLeastTerms rfl rfl rfl (sg_p rfl rfl)
theorem dX10_inLeastTerms_6 : decode cX10_inLeastTerms 6 = .ok (.iload 4, 2) := dqn_21 (k := 30) qh_cX10_inLeastTerms rfl rfl rfl
theorem dX10_inLeastTerms_8 : decode cX10_inLeastTerms 8 = .ok (.ifCond .eq 7, 3) := dqn_153 (k := 27) (u := 7) qh_cX10_inLeastTerms rfl rfl rfl (sg_p rfl rfl)
theorem dX10_inLeastTerms_11 : decode cX10_inLeastTerms 11 = .ok (.lconst 1, 1) := dqn_10 (k := 26) qh_cX10_inLeastTerms rfl rfl
theorem dX10_inLeastTerms_12 : decode cX10_inLeastTerms 12 = .ok (.goto 4, 3) := dqn_167 (k := 23) (u := 4) qh_cX10_inLeastTerms rfl rfl rfl (sg_p rfl rfl)
theorem dX10_inLeastTerms_15 : decode cX10_inLeastTerms 15 = .ok (.lconst 0, 1) := dqn_9 (k := 22) qh_cX10_inLeastTerms rfl rfl
theorem dX10_inLeastTerms_16 : decode cX10_inLeastTerms 16 = .ok (.lreturn, 1) := dqn_173 (k := 21) qh_cX10_inLeastTerms rfl rfl
theorem dX10_inLeastTerms_17 : decode cX10_inLeastTerms 17 = .ok (.lload_n 0, 1) := dqn_30 (k := 20) qh_cX10_inLeastTerms rfl rfl
theorem dX10_inLeastTerms_18 : decode cX10_inLeastTerms 18 = .ok (.lload_n 2, 1) := dqn_32 (k := 19) qh_cX10_inLeastTerms rfl rfl
theorem dX10_inLeastTerms_19 : decode cX10_inLeastTerms 19 = .ok (.invokestatic 348, 3) := dqn_184 (k := 16) qh_cX10_inLeastTerms rfl rfl rfl
theorem dX10_inLeastTerms_22 : decode cX10_inLeastTerms 22 = .ok (.lstore 5, 2) := dqn_55 (k := 14) qh_cX10_inLeastTerms rfl rfl rfl
theorem dX10_inLeastTerms_24 : decode cX10_inLeastTerms 24 = .ok (.iload 4, 2) := dqn_21 (k := 12) qh_cX10_inLeastTerms rfl rfl rfl
theorem dX10_inLeastTerms_26 : decode cX10_inLeastTerms 26 = .ok (.ifCond .eq 7, 3) := dqn_153 (k := 9) (u := 7) qh_cX10_inLeastTerms rfl rfl rfl (sg_p rfl rfl)
theorem dX10_inLeastTerms_29 : decode cX10_inLeastTerms 29 = .ok (.lload_n 2, 1) := dqn_32 (k := 8) qh_cX10_inLeastTerms rfl rfl
theorem dX10_inLeastTerms_30 : decode cX10_inLeastTerms 30 = .ok (.goto 4, 3) := dqn_167 (k := 5) (u := 4) qh_cX10_inLeastTerms rfl rfl rfl (sg_p rfl rfl)
theorem dX10_inLeastTerms_33 : decode cX10_inLeastTerms 33 = .ok (.lload_n 0, 1) := dqn_30 (k := 4) qh_cX10_inLeastTerms rfl rfl
theorem dX10_inLeastTerms_34 : decode cX10_inLeastTerms 34 = .ok (.lload 5, 2) := dqn_22 (k := 2) qh_cX10_inLeastTerms rfl rfl rfl
theorem dX10_inLeastTerms_36 : decode cX10_inLeastTerms 36 = .ok (.ldiv, 1) := dqn_109 (k := 1) qh_cX10_inLeastTerms rfl rfl
theorem dX10_inLeastTerms_37 : decode cX10_inLeastTerms 37 = .ok (.lreturn, 1) := dqn_173 (k := 0) qh_cX10_inLeastTerms rfl rfl
theorem dX10_hasPond_0 : decode cX10_hasPond 0 = .ok (.aload_n 0, 1) := dqn_42 (k := 28) qh_cX10_hasPond rfl rfl
theorem dX10_hasPond_1 : decode cX10_hasPond 1 = .ok (.iload_n 1, 1) := dqn_27 (k := 27) qh_cX10_hasPond rfl rfl
theorem dX10_hasPond_2 : decode cX10_hasPond 2 = .ok (.iload_n 2, 1) := dqn_28 (k := 26) qh_cX10_hasPond rfl rfl
theorem dX10_hasPond_3 : decode cX10_hasPond 3 = .ok (.invokevirtual 114, 3) := dqn_182 (k := 23) qh_cX10_hasPond rfl rfl rfl
theorem dX10_hasPond_6 : decode cX10_hasPond 6 = .ok (.ifCond .eq 21, 3) := dqn_153 (k := 20) (u := 21) qh_cX10_hasPond rfl rfl rfl (sg_p rfl rfl)
theorem dX10_hasPond_9 : decode cX10_hasPond 9 = .ok (.aload_n 0, 1) := dqn_42 (k := 19) qh_cX10_hasPond rfl rfl
theorem dX10_hasPond_10 : decode cX10_hasPond 10 = .ok (.getfield 34, 3) := dqn_180 (k := 16) qh_cX10_hasPond rfl rfl rfl
theorem dX10_hasPond_13 : decode cX10_hasPond 13 = .ok (.getfield 118, 3) := dqn_180 (k := 13) qh_cX10_hasPond rfl rfl rfl
theorem dX10_hasPond_16 : decode cX10_hasPond 16 = .ok (.iload_n 3, 1) := dqn_29 (k := 12) qh_cX10_hasPond rfl rfl
theorem dX10_hasPond_17 : decode cX10_hasPond 17 = .ok (.invokevirtual 121, 3) := dqn_182 (k := 9) qh_cX10_hasPond rfl rfl rfl
theorem dX10_hasPond_20 : decode cX10_hasPond 20 = .ok (.ifCond .eq 7, 3) := dqn_153 (k := 6) (u := 7) qh_cX10_hasPond rfl rfl rfl (sg_p rfl rfl)
theorem dX10_hasPond_23 : decode cX10_hasPond 23 = .ok (.iconst 1, 1) := dqn_4 (k := 5) qh_cX10_hasPond rfl rfl
theorem dX10_hasPond_24 : decode cX10_hasPond 24 = .ok (.goto 4, 3) := dqn_167 (k := 2) (u := 4) qh_cX10_hasPond rfl rfl rfl (sg_p rfl rfl)
theorem dX10_hasPond_27 : decode cX10_hasPond 27 = .ok (.iconst 0, 1) := dqn_3 (k := 1) qh_cX10_hasPond rfl rfl
theorem dX10_hasPond_28 : decode cX10_hasPond 28 = .ok (.ireturn, 1) := dqn_172 (k := 0) qh_cX10_hasPond rfl rfl
theorem dX10_canMend_0 : decode cX10_canMend 0 = .ok (.aload_n 0, 1) := dqn_42 (k := 48) qh_cX10_canMend rfl rfl
theorem dX10_canMend_1 : decode cX10_canMend 1 = .ok (.iload_n 1, 1) := dqn_27 (k := 47) qh_cX10_canMend rfl rfl
theorem dX10_canMend_2 : decode cX10_canMend 2 = .ok (.iload_n 2, 1) := dqn_28 (k := 46) qh_cX10_canMend rfl rfl
theorem dX10_canMend_3 : decode cX10_canMend 3 = .ok (.invokevirtual 114, 3) := dqn_182 (k := 43) qh_cX10_canMend rfl rfl rfl
theorem dX10_canMend_6 : decode cX10_canMend 6 = .ok (.ifCond .eq 41, 3) := dqn_153 (k := 40) (u := 41) qh_cX10_canMend rfl rfl rfl (sg_p rfl rfl)
theorem dX10_canMend_9 : decode cX10_canMend 9 = .ok (.aload_n 0, 1) := dqn_42 (k := 39) qh_cX10_canMend rfl rfl
theorem dX10_canMend_10 : decode cX10_canMend 10 = .ok (.getfield 34, 3) := dqn_180 (k := 36) qh_cX10_canMend rfl rfl rfl
theorem dX10_canMend_13 : decode cX10_canMend 13 = .ok (.getfield 118, 3) := dqn_180 (k := 33) qh_cX10_canMend rfl rfl rfl
theorem dX10_canMend_16 : decode cX10_canMend 16 = .ok (.iload_n 3, 1) := dqn_29 (k := 32) qh_cX10_canMend rfl rfl
theorem dX10_canMend_17 : decode cX10_canMend 17 = .ok (.invokevirtual 215, 3) := dqn_182 (k := 29) qh_cX10_canMend rfl rfl rfl
theorem dX10_canMend_20 : decode cX10_canMend 20 = .ok (.ifCond .eq 27, 3) := dqn_153 (k := 26) (u := 27) qh_cX10_canMend rfl rfl rfl (sg_p rfl rfl)
theorem dX10_canMend_23 : decode cX10_canMend 23 = .ok (.iload_n 3, 1) := dqn_29 (k := 25) qh_cX10_canMend rfl rfl
theorem dX10_canMend_24 : decode cX10_canMend 24 = .ok (.invokestatic 199, 3) := dqn_184 (k := 22) qh_cX10_canMend rfl rfl rfl
theorem dX10_canMend_27 : decode cX10_canMend 27 = .ok (.iconst 5, 1) := dqn_8 (k := 21) qh_cX10_canMend rfl rfl
theorem dX10_canMend_28 : decode cX10_canMend 28 = .ok (.if_icmp .gt 19, 3) := dqn_163 (k := 18) (u := 19) qh_cX10_canMend rfl rfl rfl (sg_p rfl rfl)
theorem dX10_canMend_31 : decode cX10_canMend 31 = .ok (.iload 4, 2) := dqn_21 (k := 16) qh_cX10_canMend rfl rfl rfl
theorem dX10_canMend_33 : decode cX10_canMend 33 = .ok (.ifCond .lt 14, 3) := dqn_155 (k := 13) (u := 14) qh_cX10_canMend rfl rfl rfl (sg_p rfl rfl)
theorem dX10_canMend_36 : decode cX10_canMend 36 = .ok (.iload 4, 2) := dqn_21 (k := 11) qh_cX10_canMend rfl rfl rfl
theorem dX10_canMend_38 : decode cX10_canMend 38 = .ok (.iload 5, 2) := dqn_21 (k := 9) qh_cX10_canMend rfl rfl rfl
theorem dX10_canMend_40 : decode cX10_canMend 40 = .ok (.if_icmp .gt 7, 3) := dqn_163 (k := 6) (u := 7) qh_cX10_canMend rfl rfl rfl (sg_p rfl rfl)
theorem dX10_canMend_43 : decode cX10_canMend 43 = .ok (.iconst 1, 1) := dqn_4 (k := 5) qh_cX10_canMend rfl rfl
theorem dX10_canMend_44 : decode cX10_canMend 44 = .ok (.goto 4, 3) := dqn_167 (k := 2) (u := 4) qh_cX10_canMend rfl rfl rfl (sg_p rfl rfl)
theorem dX10_canMend_47 : decode cX10_canMend 47 = .ok (.iconst 0, 1) := dqn_3 (k := 1) qh_cX10_canMend rfl rfl
theorem dX10_canMend_48 : decode cX10_canMend 48 = .ok (.ireturn, 1) := dqn_172 (k := 0) qh_cX10_canMend rfl rfl
theorem dX10_canFill_0 : decode cX10_canFill 0 = .ok (.aload_n 0, 1) := dqn_42 (k := 40) qh_cX10_canFill rfl rfl
theorem dX10_canFill_1 : decode cX10_canFill 1 = .ok (.iload_n 1, 1) := dqn_27 (k := 39) qh_cX10_canFill rfl rfl
theorem dX10_canFill_2 : decode cX10_canFill 2 = .ok (.iload_n 2, 1) := dqn_28 (k := 38) qh_cX10_canFill rfl rfl
theorem dX10_canFill_3 : decode cX10_canFill 3 = .ok (.invokevirtual 114, 3) := dqn_182 (k := 35) qh_cX10_canFill rfl rfl rfl
theorem dX10_canFill_6 : decode cX10_canFill 6 = .ok (.ifCond .eq 33, 3) := dqn_153 (k := 32) (u := 33) qh_cX10_canFill rfl rfl rfl (sg_p rfl rfl)
theorem dX10_canFill_9 : decode cX10_canFill 9 = .ok (.aload_n 0, 1) := dqn_42 (k := 31) qh_cX10_canFill rfl rfl
theorem dX10_canFill_10 : decode cX10_canFill 10 = .ok (.getfield 34, 3) := dqn_180 (k := 28) qh_cX10_canFill rfl rfl rfl
theorem dX10_canFill_13 : decode cX10_canFill 13 = .ok (.getfield 118, 3) := dqn_180 (k := 25) qh_cX10_canFill rfl rfl rfl
theorem dX10_canFill_16 : decode cX10_canFill 16 = .ok (.iload_n 3, 1) := dqn_29 (k := 24) qh_cX10_canFill rfl rfl
theorem dX10_canFill_17 : decode cX10_canFill 17 = .ok (.invokevirtual 215, 3) := dqn_182 (k := 21) qh_cX10_canFill rfl rfl rfl
theorem dX10_canFill_20 : decode cX10_canFill 20 = .ok (.ifCond .eq 19, 3) := dqn_153 (k := 18) (u := 19) qh_cX10_canFill rfl rfl rfl (sg_p rfl rfl)
theorem dX10_canFill_23 : decode cX10_canFill 23 = .ok (.iload_n 3, 1) := dqn_29 (k := 17) qh_cX10_canFill rfl rfl
theorem dX10_canFill_24 : decode cX10_canFill 24 = .ok (.ifCond .eq 15, 3) := dqn_153 (k := 14) (u := 15) qh_cX10_canFill rfl rfl rfl (sg_p rfl rfl)
theorem dX10_canFill_27 : decode cX10_canFill 27 = .ok (.iload_n 3, 1) := dqn_29 (k := 13) qh_cX10_canFill rfl rfl
theorem dX10_canFill_28 : decode cX10_canFill 28 = .ok (.invokestatic 199, 3) := dqn_184 (k := 10) qh_cX10_canFill rfl rfl rfl
theorem dX10_canFill_31 : decode cX10_canFill 31 = .ok (.iconst 4, 1) := dqn_7 (k := 9) qh_cX10_canFill rfl rfl
theorem dX10_canFill_32 : decode cX10_canFill 32 = .ok (.if_icmp .gt 7, 3) := dqn_163 (k := 6) (u := 7) qh_cX10_canFill rfl rfl rfl (sg_p rfl rfl)
theorem dX10_canFill_35 : decode cX10_canFill 35 = .ok (.iconst 1, 1) := dqn_4 (k := 5) qh_cX10_canFill rfl rfl
theorem dX10_canFill_36 : decode cX10_canFill 36 = .ok (.goto 4, 3) := dqn_167 (k := 2) (u := 4) qh_cX10_canFill rfl rfl rfl (sg_p rfl rfl)
theorem dX10_canFill_39 : decode cX10_canFill 39 = .ok (.iconst 0, 1) := dqn_3 (k := 1) qh_cX10_canFill rfl rfl
theorem dX10_canFill_40 : decode cX10_canFill 40 = .ok (.ireturn, 1) := dqn_172 (k := 0) qh_cX10_canFill rfl rfl
theorem dX10_fault_0 : decode cX10_fault 0 = .ok (.iload_n 1, 1) := dqn_27 (k := 45) qh_cX10_fault rfl rfl
theorem dX10_fault_1 : decode cX10_fault 1 = .ok (.lookupswitch 43 #[(0, 27), (1, 35)], 27) := by decide +kernel
theorem dX10_fault_28 : decode cX10_fault 28 = .ok (.aload_n 0, 1) := dqn_42 (k := 17) qh_cX10_fault rfl rfl
theorem dX10_fault_29 : decode cX10_fault 29 = .ok (.getfield 10, 3) := dqn_180 (k := 14) qh_cX10_fault rfl rfl rfl
theorem dX10_fault_32 : decode cX10_fault 32 = .ok (.getfield 79, 3) := dqn_180 (k := 11) qh_cX10_fault rfl rfl rfl
theorem dX10_fault_35 : decode cX10_fault 35 = .ok (.ireturn, 1) := dqn_172 (k := 10) qh_cX10_fault rfl rfl
theorem dX10_fault_36 : decode cX10_fault 36 = .ok (.aload_n 0, 1) := dqn_42 (k := 9) qh_cX10_fault rfl rfl
theorem dX10_fault_37 : decode cX10_fault 37 = .ok (.getfield 10, 3) := dqn_180 (k := 6) qh_cX10_fault rfl rfl rfl
theorem dX10_fault_40 : decode cX10_fault 40 = .ok (.getfield 82, 3) := dqn_180 (k := 3) qh_cX10_fault rfl rfl rfl
theorem dX10_fault_43 : decode cX10_fault 43 = .ok (.ireturn, 1) := dqn_172 (k := 2) qh_cX10_fault rfl rfl
theorem dX10_fault_44 : decode cX10_fault 44 = .ok (.iconst (-1), 1) := dqn_2 (k := 1) qh_cX10_fault rfl rfl
theorem dX10_fault_45 : decode cX10_fault 45 = .ok (.ireturn, 1) := dqn_172 (k := 0) qh_cX10_fault rfl rfl
theorem dX10_hill_0 : decode cX10_hill 0 = .ok (.aload_n 0, 1) := dqn_42 (k := 28) qh_cX10_hill rfl rfl
theorem dX10_hill_1 : decode cX10_hill 1 = .ok (.getfield 10, 3) := dqn_180 (k := 25) qh_cX10_hill rfl rfl rfl
theorem dX10_hill_4 : decode cX10_hill 4 = .ok (.iload_n 1, 1) := dqn_27 (k := 24) qh_cX10_hill rfl rfl
theorem dX10_hill_5 : decode cX10_hill 5 = .ok (.invokevirtual 103, 3) := dqn_182 (k := 21) qh_cX10_hill rfl rfl rfl
theorem dX10_hill_8 : decode cX10_hill 8 = .ok (.ifCond .eq 19, 3) := dqn_153 (k := 18) (u := 19) qh_cX10_hill rfl rfl rfl (sg_p rfl rfl)
theorem dX10_hill_11 : decode cX10_hill 11 = .ok (.aload_n 0, 1) := dqn_42 (k := 17) qh_cX10_hill rfl rfl
theorem dX10_hill_12 : decode cX10_hill 12 = .ok (.getfield 10, 3) := dqn_180 (k := 14) qh_cX10_hill rfl rfl rfl
theorem dX10_hill_15 : decode cX10_hill 15 = .ok (.getfield 107, 3) := dqn_180 (k := 11) qh_cX10_hill rfl rfl rfl
theorem dX10_hill_18 : decode cX10_hill 18 = .ok (.iload_n 1, 1) := dqn_27 (k := 10) qh_cX10_hill rfl rfl
theorem dX10_hill_19 : decode cX10_hill 19 = .ok (.aaload, 1) := dqn_50 (k := 9) qh_cX10_hill rfl rfl
theorem dX10_hill_20 : decode cX10_hill 20 = .ok (.iload_n 2, 1) := dqn_28 (k := 8) qh_cX10_hill rfl rfl
theorem dX10_hill_21 : decode cX10_hill 21 = .ok (.invokevirtual 111, 3) := dqn_182 (k := 5) qh_cX10_hill rfl rfl rfl
theorem dX10_hill_24 : decode cX10_hill 24 = .ok (.goto 4, 3) := dqn_167 (k := 2) (u := 4) qh_cX10_hill rfl rfl rfl (sg_p rfl rfl)
theorem dX10_hill_27 : decode cX10_hill 27 = .ok (.iconst (-1), 1) := dqn_2 (k := 1) qh_cX10_hill rfl rfl
theorem dX10_hill_28 : decode cX10_hill 28 = .ok (.ireturn, 1) := dqn_172 (k := 0) qh_cX10_hill rfl rfl
theorem dX10_pond_0 : decode cX10_pond 0 = .ok (.aload_n 0, 1) := dqn_42 (k := 51) qh_cX10_pond rfl rfl
theorem dX10_pond_1 : decode cX10_pond 1 = .ok (.iload_n 1, 1) := dqn_27 (k := 50) qh_cX10_pond rfl rfl
theorem dX10_pond_2 : decode cX10_pond 2 = .ok (.iload_n 2, 1) := dqn_28 (k := 49) qh_cX10_pond rfl rfl
theorem dX10_pond_3 : decode cX10_pond 3 = .ok (.invokevirtual 114, 3) := dqn_182 (k := 46) qh_cX10_pond rfl rfl rfl
theorem dX10_pond_6 : decode cX10_pond 6 = .ok (.ifCond .eq 29, 3) := dqn_153 (k := 43) (u := 29) qh_cX10_pond rfl rfl rfl (sg_p rfl rfl)
theorem dX10_pond_9 : decode cX10_pond 9 = .ok (.aload_n 0, 1) := dqn_42 (k := 42) qh_cX10_pond rfl rfl
theorem dX10_pond_10 : decode cX10_pond 10 = .ok (.getfield 34, 3) := dqn_180 (k := 39) qh_cX10_pond rfl rfl rfl
theorem dX10_pond_13 : decode cX10_pond 13 = .ok (.getfield 118, 3) := dqn_180 (k := 36) qh_cX10_pond rfl rfl rfl
theorem dX10_pond_16 : decode cX10_pond 16 = .ok (.iload_n 3, 1) := dqn_29 (k := 35) qh_cX10_pond rfl rfl
theorem dX10_pond_17 : decode cX10_pond 17 = .ok (.invokevirtual 121, 3) := dqn_182 (k := 32) qh_cX10_pond rfl rfl rfl
theorem dX10_pond_20 : decode cX10_pond 20 = .ok (.ifCond .eq 15, 3) := dqn_153 (k := 29) (u := 15) qh_cX10_pond rfl rfl rfl (sg_p rfl rfl)
theorem dX10_pond_23 : decode cX10_pond 23 = .ok (.iload 4, 2) := dqn_21 (k := 27) qh_cX10_pond rfl rfl rfl
theorem dX10_pond_25 : decode cX10_pond 25 = .ok (.ifCond .lt 10, 3) := dqn_155 (k := 24) (u := 10) qh_cX10_pond rfl rfl rfl (sg_p rfl rfl)
theorem dX10_pond_28 : decode cX10_pond 28 = .ok (.iload 4, 2) := dqn_21 (k := 22) qh_cX10_pond rfl rfl rfl
theorem dX10_pond_30 : decode cX10_pond 30 = .ok (.bipush 16, 2) := dqn_16 (k := 20) (u := 16) qh_cX10_pond rfl rfl rfl (by decide)
theorem dX10_pond_32 : decode cX10_pond 32 = .ok (.if_icmp .lt 6, 3) := dqn_161 (k := 17) (u := 6) qh_cX10_pond rfl rfl rfl (sg_p rfl rfl)
theorem dX10_pond_35 : decode cX10_pond 35 = .ok (.bipush (-2), 2) := dqn_16 (k := 15) (u := 254) qh_cX10_pond rfl rfl rfl (by decide)
theorem dX10_pond_37 : decode cX10_pond 37 = .ok (.ireturn, 1) := dqn_172 (k := 14) qh_cX10_pond rfl rfl
theorem dX10_pond_38 : decode cX10_pond 38 = .ok (.aload_n 0, 1) := dqn_42 (k := 13) qh_cX10_pond rfl rfl
theorem dX10_pond_39 : decode cX10_pond 39 = .ok (.getfield 34, 3) := dqn_180 (k := 10) qh_cX10_pond rfl rfl rfl
theorem dX10_pond_42 : decode cX10_pond 42 = .ok (.getfield 118, 3) := dqn_180 (k := 7) qh_cX10_pond rfl rfl rfl
theorem dX10_pond_45 : decode cX10_pond 45 = .ok (.iload_n 3, 1) := dqn_29 (k := 6) qh_cX10_pond rfl rfl
theorem dX10_pond_46 : decode cX10_pond 46 = .ok (.iload 4, 2) := dqn_21 (k := 4) qh_cX10_pond rfl rfl rfl
theorem dX10_pond_48 : decode cX10_pond 48 = .ok (.invokevirtual 124, 3) := dqn_182 (k := 1) qh_cX10_pond rfl rfl rfl
theorem dX10_pond_51 : decode cX10_pond 51 = .ok (.ireturn, 1) := dqn_172 (k := 0) qh_cX10_pond rfl rfl
theorem dX10_work_0 : decode cX10_work 0 = .ok (.aload_n 0, 1) := dqn_42 (k := 30) qh_cX10_work rfl rfl
theorem dX10_work_1 : decode cX10_work 1 = .ok (.getfield 10, 3) := dqn_180 (k := 27) qh_cX10_work rfl rfl rfl
theorem dX10_work_4 : decode cX10_work 4 = .ok (.iload_n 1, 1) := dqn_27 (k := 26) qh_cX10_work rfl rfl
theorem dX10_work_5 : decode cX10_work 5 = .ok (.invokevirtual 127, 3) := dqn_182 (k := 23) qh_cX10_work rfl rfl rfl
theorem dX10_work_8 : decode cX10_work 8 = .ok (.ifCond .eq 20, 3) := dqn_153 (k := 20) (u := 20) qh_cX10_work rfl rfl rfl (sg_p rfl rfl)
theorem dX10_work_11 : decode cX10_work 11 = .ok (.aload_n 0, 1) := dqn_42 (k := 19) qh_cX10_work rfl rfl
theorem dX10_work_12 : decode cX10_work 12 = .ok (.getfield 10, 3) := dqn_180 (k := 16) qh_cX10_work rfl rfl rfl
theorem dX10_work_15 : decode cX10_work 15 = .ok (.getfield 130, 3) := dqn_180 (k := 13) qh_cX10_work rfl rfl rfl
theorem dX10_work_18 : decode cX10_work 18 = .ok (.iload_n 1, 1) := dqn_27 (k := 12) qh_cX10_work rfl rfl
theorem dX10_work_19 : decode cX10_work 19 = .ok (.aaload, 1) := dqn_50 (k := 11) qh_cX10_work rfl rfl
theorem dX10_work_20 : decode cX10_work 20 = .ok (.iload_n 2, 1) := dqn_28 (k := 10) qh_cX10_work rfl rfl
theorem dX10_work_21 : decode cX10_work 21 = .ok (.iload_n 3, 1) := dqn_29 (k := 9) qh_cX10_work rfl rfl
theorem dX10_work_22 : decode cX10_work 22 = .ok (.invokevirtual 134, 3) := dqn_182 (k := 6) qh_cX10_work rfl rfl rfl
theorem dX10_work_25 : decode cX10_work 25 = .ok (.goto 5, 3) := dqn_167 (k := 3) (u := 5) qh_cX10_work rfl rfl rfl (sg_p rfl rfl)
theorem dX10_work_28 : decode cX10_work 28 = .ok (.bipush (-2), 2) := dqn_16 (k := 1) (u := 254) qh_cX10_work rfl rfl rfl (by decide)
theorem dX10_work_30 : decode cX10_work 30 = .ok (.ireturn, 1) := dqn_172 (k := 0) qh_cX10_work rfl rfl
theorem dX10_plan_0 : decode cX10_plan 0 = .ok (.aload_n 0, 1) := dqn_42 (k := 65) qh_cX10_plan rfl rfl
theorem dX10_plan_1 : decode cX10_plan 1 = .ok (.iload_n 1, 1) := dqn_27 (k := 64) qh_cX10_plan rfl rfl
theorem dX10_plan_2 : decode cX10_plan 2 = .ok (.iload_n 2, 1) := dqn_28 (k := 63) qh_cX10_plan rfl rfl
theorem dX10_plan_3 : decode cX10_plan 3 = .ok (.invokevirtual 114, 3) := dqn_182 (k := 60) qh_cX10_plan rfl rfl rfl
theorem dX10_plan_6 : decode cX10_plan 6 = .ok (.ifCond .ne 5, 3) := dqn_154 (k := 57) (u := 5) qh_cX10_plan rfl rfl rfl (sg_p rfl rfl)
theorem dX10_plan_9 : decode cX10_plan 9 = .ok (.iconst (-1), 1) := dqn_2 (k := 56) qh_cX10_plan rfl rfl
theorem dX10_plan_10 : decode cX10_plan 10 = .ok (.ireturn, 1) := dqn_172 (k := 55) qh_cX10_plan rfl rfl
theorem dX10_plan_11 : decode cX10_plan 11 = .ok (.iload_n 3, 1) := dqn_29 (k := 54) qh_cX10_plan rfl rfl
theorem dX10_plan_12 : decode cX10_plan 12 = .ok (.tableswitch 52 0 2 #[28, 36, 44], 28) := by decide +kernel
theorem dX10_plan_40 : decode cX10_plan 40 = .ok (.aload_n 0, 1) := dqn_42 (k := 25) qh_cX10_plan rfl rfl
theorem dX10_plan_41 : decode cX10_plan 41 = .ok (.getfield 34, 3) := dqn_180 (k := 22) qh_cX10_plan rfl rfl rfl
theorem dX10_plan_44 : decode cX10_plan 44 = .ok (.getfield 136, 3) := dqn_180 (k := 19) qh_cX10_plan rfl rfl rfl
theorem dX10_plan_47 : decode cX10_plan 47 = .ok (.ireturn, 1) := dqn_172 (k := 18) qh_cX10_plan rfl rfl
theorem dX10_plan_48 : decode cX10_plan 48 = .ok (.aload_n 0, 1) := dqn_42 (k := 17) qh_cX10_plan rfl rfl
theorem dX10_plan_49 : decode cX10_plan 49 = .ok (.getfield 34, 3) := dqn_180 (k := 14) qh_cX10_plan rfl rfl rfl
theorem dX10_plan_52 : decode cX10_plan 52 = .ok (.getfield 139, 3) := dqn_180 (k := 11) qh_cX10_plan rfl rfl rfl
theorem dX10_plan_55 : decode cX10_plan 55 = .ok (.ireturn, 1) := dqn_172 (k := 10) qh_cX10_plan rfl rfl
theorem dX10_plan_56 : decode cX10_plan 56 = .ok (.aload_n 0, 1) := dqn_42 (k := 9) qh_cX10_plan rfl rfl
theorem dX10_plan_57 : decode cX10_plan 57 = .ok (.getfield 34, 3) := dqn_180 (k := 6) qh_cX10_plan rfl rfl rfl
theorem dX10_plan_60 : decode cX10_plan 60 = .ok (.getfield 142, 3) := dqn_180 (k := 3) qh_cX10_plan rfl rfl rfl
theorem dX10_plan_63 : decode cX10_plan 63 = .ok (.ireturn, 1) := dqn_172 (k := 2) qh_cX10_plan rfl rfl
theorem dX10_plan_64 : decode cX10_plan 64 = .ok (.iconst (-1), 1) := dqn_2 (k := 1) qh_cX10_plan rfl rfl
theorem dX10_plan_65 : decode cX10_plan 65 = .ok (.ireturn, 1) := dqn_172 (k := 0) qh_cX10_plan rfl rfl
theorem dX10_storm_0 : decode cX10_storm 0 = .ok (.aload_n 0, 1) := dqn_42 (k := 64) qh_cX10_storm rfl rfl
theorem dX10_storm_1 : decode cX10_storm 1 = .ok (.iload_n 1, 1) := dqn_27 (k := 63) qh_cX10_storm rfl rfl
theorem dX10_storm_2 : decode cX10_storm 2 = .ok (.iload_n 2, 1) := dqn_28 (k := 62) qh_cX10_storm rfl rfl
theorem dX10_storm_3 : decode cX10_storm 3 = .ok (.invokevirtual 114, 3) := dqn_182 (k := 59) qh_cX10_storm rfl rfl rfl
theorem dX10_storm_6 : decode cX10_storm 6 = .ok (.ifCond .eq 19, 3) := dqn_153 (k := 56) (u := 19) qh_cX10_storm rfl rfl rfl (sg_p rfl rfl)
theorem dX10_storm_9 : decode cX10_storm 9 = .ok (.aload_n 0, 1) := dqn_42 (k := 55) qh_cX10_storm rfl rfl
theorem dX10_storm_10 : decode cX10_storm 10 = .ok (.getfield 34, 3) := dqn_180 (k := 52) qh_cX10_storm rfl rfl rfl
theorem dX10_storm_13 : decode cX10_storm 13 = .ok (.getfield 118, 3) := dqn_180 (k := 49) qh_cX10_storm rfl rfl rfl
theorem dX10_storm_16 : decode cX10_storm 16 = .ok (.iload_n 3, 1) := dqn_29 (k := 48) qh_cX10_storm rfl rfl
theorem dX10_storm_17 : decode cX10_storm 17 = .ok (.iload 4, 2) := dqn_21 (k := 46) qh_cX10_storm rfl rfl rfl
theorem dX10_storm_19 : decode cX10_storm 19 = .ok (.invokevirtual 145, 3) := dqn_182 (k := 43) qh_cX10_storm rfl rfl rfl
theorem dX10_storm_22 : decode cX10_storm 22 = .ok (.ifCond .ne 5, 3) := dqn_154 (k := 40) (u := 5) qh_cX10_storm rfl rfl rfl (sg_p rfl rfl)
theorem dX10_storm_25 : decode cX10_storm 25 = .ok (.iconst (-1), 1) := dqn_2 (k := 39) qh_cX10_storm rfl rfl
theorem dX10_storm_26 : decode cX10_storm 26 = .ok (.ireturn, 1) := dqn_172 (k := 38) qh_cX10_storm rfl rfl
theorem dX10_storm_27 : decode cX10_storm 27 = .ok (.aload_n 0, 1) := dqn_42 (k := 37) qh_cX10_storm rfl rfl
theorem dX10_storm_28 : decode cX10_storm 28 = .ok (.getfield 48, 3) := dqn_180 (k := 34) qh_cX10_storm rfl rfl rfl
theorem dX10_storm_31 : decode cX10_storm 31 = .ok (.aload_n 0, 1) := dqn_42 (k := 33) qh_cX10_storm rfl rfl
theorem dX10_storm_32 : decode cX10_storm 32 = .ok (.getfield 34, 3) := dqn_180 (k := 30) qh_cX10_storm rfl rfl rfl
theorem dX10_storm_35 : decode cX10_storm 35 = .ok (.getfield 118, 3) := dqn_180 (k := 27) qh_cX10_storm rfl rfl rfl
theorem dX10_storm_38 : decode cX10_storm 38 = .ok (.aload_n 0, 1) := dqn_42 (k := 26) qh_cX10_storm rfl rfl
theorem dX10_storm_39 : decode cX10_storm 39 = .ok (.getfield 34, 3) := dqn_180 (k := 23) qh_cX10_storm rfl rfl rfl
theorem dX10_storm_42 : decode cX10_storm 42 = .ok (.getfield 118, 3) := dqn_180 (k := 20) qh_cX10_storm rfl rfl rfl
theorem dX10_storm_45 : decode cX10_storm 45 = .ok (.iload_n 3, 1) := dqn_29 (k := 19) qh_cX10_storm rfl rfl
theorem dX10_storm_46 : decode cX10_storm 46 = .ok (.invokevirtual 148, 3) := dqn_182 (k := 16) qh_cX10_storm rfl rfl rfl
theorem dX10_storm_49 : decode cX10_storm 49 = .ok (.iload 4, 2) := dqn_21 (k := 14) qh_cX10_storm rfl rfl rfl
theorem dX10_storm_51 : decode cX10_storm 51 = .ok (.iconst (-1), 1) := dqn_2 (k := 13) qh_cX10_storm rfl rfl
theorem dX10_storm_52 : decode cX10_storm 52 = .ok (.invokevirtual 151, 3) := dqn_182 (k := 10) qh_cX10_storm rfl rfl rfl
theorem dX10_storm_55 : decode cX10_storm 55 = .ok (.aload_n 0, 1) := dqn_42 (k := 9) qh_cX10_storm rfl rfl
theorem dX10_storm_56 : decode cX10_storm 56 = .ok (.getfield 48, 3) := dqn_180 (k := 6) qh_cX10_storm rfl rfl rfl
theorem dX10_storm_59 : decode cX10_storm 59 = .ok (.iload 5, 2) := dqn_21 (k := 4) qh_cX10_storm rfl rfl rfl
theorem dX10_storm_61 : decode cX10_storm 61 = .ok (.invokevirtual 155, 3) := dqn_182 (k := 1) qh_cX10_storm rfl rfl rfl
theorem dX10_storm_64 : decode cX10_storm 64 = .ok (.ireturn, 1) := dqn_172 (k := 0) qh_cX10_storm rfl rfl
theorem dX10_likely_0 : decode cX10_likely 0 = .ok (.aload_n 0, 1) := dqn_42 (k := 43) qh_cX10_likely rfl rfl
theorem dX10_likely_1 : decode cX10_likely 1 = .ok (.iload_n 1, 1) := dqn_27 (k := 42) qh_cX10_likely rfl rfl
theorem dX10_likely_2 : decode cX10_likely 2 = .ok (.iload_n 2, 1) := dqn_28 (k := 41) qh_cX10_likely rfl rfl
theorem dX10_likely_3 : decode cX10_likely 3 = .ok (.invokevirtual 156, 3) := dqn_182 (k := 38) qh_cX10_likely rfl rfl rfl
theorem dX10_likely_6 : decode cX10_likely 6 = .ok (.ifCond .eq 22, 3) := dqn_153 (k := 35) (u := 22) qh_cX10_likely rfl rfl rfl (sg_p rfl rfl)
theorem dX10_likely_9 : decode cX10_likely 9 = .ok (.iload_n 3, 1) := dqn_29 (k := 34) qh_cX10_likely rfl rfl
theorem dX10_likely_10 : decode cX10_likely 10 = .ok (.iconst (-1), 1) := dqn_2 (k := 33) qh_cX10_likely rfl rfl
theorem dX10_likely_11 : decode cX10_likely 11 = .ok (.if_icmp .eq 21, 3) := dqn_159 (k := 30) (u := 21) qh_cX10_likely rfl rfl rfl (sg_p rfl rfl)
theorem dX10_likely_14 : decode cX10_likely 14 = .ok (.aload_n 0, 1) := dqn_42 (k := 29) qh_cX10_likely rfl rfl
theorem dX10_likely_15 : decode cX10_likely 15 = .ok (.getfield 34, 3) := dqn_180 (k := 26) qh_cX10_likely rfl rfl rfl
theorem dX10_likely_18 : decode cX10_likely 18 = .ok (.getfield 118, 3) := dqn_180 (k := 23) qh_cX10_likely rfl rfl rfl
theorem dX10_likely_21 : decode cX10_likely 21 = .ok (.iload_n 3, 1) := dqn_29 (k := 22) qh_cX10_likely rfl rfl
theorem dX10_likely_22 : decode cX10_likely 22 = .ok (.invokevirtual 121, 3) := dqn_182 (k := 19) qh_cX10_likely rfl rfl rfl
theorem dX10_likely_25 : decode cX10_likely 25 = .ok (.ifCond .ne 7, 3) := dqn_154 (k := 16) (u := 7) qh_cX10_likely rfl rfl rfl (sg_p rfl rfl)
theorem dX10_likely_28 : decode cX10_likely 28 = .ok (.ldc2_w 159, 3) := dqn_20 (k := 13) qh_cX10_likely rfl rfl rfl
theorem dX10_likely_31 : decode cX10_likely 31 = .ok (.lreturn, 1) := dqn_173 (k := 12) qh_cX10_likely rfl rfl
theorem dX10_likely_32 : decode cX10_likely 32 = .ok (.aload_n 0, 1) := dqn_42 (k := 11) qh_cX10_likely rfl rfl
theorem dX10_likely_33 : decode cX10_likely 33 = .ok (.getfield 63, 3) := dqn_180 (k := 8) qh_cX10_likely rfl rfl rfl
theorem dX10_likely_36 : decode cX10_likely 36 = .ok (.iload_n 3, 1) := dqn_29 (k := 7) qh_cX10_likely rfl rfl
theorem dX10_likely_37 : decode cX10_likely 37 = .ok (.invokestatic 161, 3) := dqn_184 (k := 4) qh_cX10_likely rfl rfl rfl
theorem dX10_likely_40 : decode cX10_likely 40 = .ok (.invokevirtual 164, 3) := dqn_182 (k := 1) qh_cX10_likely rfl rfl rfl
theorem dX10_likely_43 : decode cX10_likely 43 = .ok (.lreturn, 1) := dqn_173 (k := 0) qh_cX10_likely rfl rfl
theorem dX10_mean_0 : decode cX10_mean 0 = .ok (.aload_n 0, 1) := dqn_42 (k := 61) qh_cX10_mean rfl rfl
theorem dX10_mean_1 : decode cX10_mean 1 = .ok (.iload_n 1, 1) := dqn_27 (k := 60) qh_cX10_mean rfl rfl
theorem dX10_mean_2 : decode cX10_mean 2 = .ok (.iload_n 2, 1) := dqn_28 (k := 59) qh_cX10_mean rfl rfl
theorem dX10_mean_3 : decode cX10_mean 3 = .ok (.invokevirtual 156, 3) := dqn_182 (k := 56) qh_cX10_mean rfl rfl rfl
theorem dX10_mean_6 : decode cX10_mean 6 = .ok (.ifCond .eq 15, 3) := dqn_153 (k := 53) (u := 15) qh_cX10_mean rfl rfl rfl (sg_p rfl rfl)
theorem dX10_mean_9 : decode cX10_mean 9 = .ok (.iload_n 3, 1) := dqn_29 (k := 52) qh_cX10_mean rfl rfl
theorem dX10_mean_10 : decode cX10_mean 10 = .ok (.iconst (-1), 1) := dqn_2 (k := 51) qh_cX10_mean rfl rfl
theorem dX10_mean_11 : decode cX10_mean 11 = .ok (.if_icmp .eq 14, 3) := dqn_159 (k := 48) (u := 14) qh_cX10_mean rfl rfl rfl (sg_p rfl rfl)
theorem dX10_mean_14 : decode cX10_mean 14 = .ok (.iload_n 3, 1) := dqn_29 (k := 47) qh_cX10_mean rfl rfl
theorem dX10_mean_15 : decode cX10_mean 15 = .ok (.invokestatic 170, 3) := dqn_184 (k := 44) qh_cX10_mean rfl rfl rfl
theorem dX10_mean_18 : decode cX10_mean 18 = .ok (.ifCond .ne 7, 3) := dqn_154 (k := 41) (u := 7) qh_cX10_mean rfl rfl rfl (sg_p rfl rfl)
theorem dX10_mean_21 : decode cX10_mean 21 = .ok (.ldc2_w 159, 3) := dqn_20 (k := 38) qh_cX10_mean rfl rfl rfl
theorem dX10_mean_24 : decode cX10_mean 24 = .ok (.lreturn, 1) := dqn_173 (k := 37) qh_cX10_mean rfl rfl
theorem dX10_mean_25 : decode cX10_mean 25 = .ok (.aload_n 0, 1) := dqn_42 (k := 36) qh_cX10_mean rfl rfl
theorem dX10_mean_26 : decode cX10_mean 26 = .ok (.getfield 63, 3) := dqn_180 (k := 33) qh_cX10_mean rfl rfl rfl
theorem dX10_mean_29 : decode cX10_mean 29 = .ok (.iload_n 3, 1) := dqn_29 (k := 32) qh_cX10_mean rfl rfl
theorem dX10_mean_30 : decode cX10_mean 30 = .ok (.iconst (-1), 1) := dqn_2 (k := 31) qh_cX10_mean rfl rfl
theorem dX10_mean_31 : decode cX10_mean 31 = .ok (.if_icmp .ne 16, 3) := dqn_160 (k := 28) (u := 16) qh_cX10_mean rfl rfl rfl (sg_p rfl rfl)
theorem dX10_mean_34 : decode cX10_mean 34 = .ok (.aload_n 0, 1) := dqn_42 (k := 27) qh_cX10_mean rfl rfl
theorem dX10_mean_35 : decode cX10_mean 35 = .ok (.getfield 34, 3) := dqn_180 (k := 24) qh_cX10_mean rfl rfl rfl
theorem dX10_mean_38 : decode cX10_mean 38 = .ok (.getfield 118, 3) := dqn_180 (k := 21) qh_cX10_mean rfl rfl rfl
theorem dX10_mean_41 : decode cX10_mean 41 = .ok (.invokevirtual 173, 3) := dqn_182 (k := 18) qh_cX10_mean rfl rfl rfl
theorem dX10_mean_44 : decode cX10_mean 44 = .ok (.goto 14, 3) := dqn_167 (k := 15) (u := 14) qh_cX10_mean rfl rfl rfl (sg_p rfl rfl)
theorem dX10_mean_47 : decode cX10_mean 47 = .ok (.aload_n 0, 1) := dqn_42 (k := 14) qh_cX10_mean rfl rfl
theorem dX10_mean_48 : decode cX10_mean 48 = .ok (.getfield 34, 3) := dqn_180 (k := 11) qh_cX10_mean rfl rfl rfl
theorem dX10_mean_51 : decode cX10_mean 51 = .ok (.getfield 118, 3) := dqn_180 (k := 8) qh_cX10_mean rfl rfl rfl
theorem dX10_mean_54 : decode cX10_mean 54 = .ok (.iload_n 3, 1) := dqn_29 (k := 7) qh_cX10_mean rfl rfl
theorem dX10_mean_55 : decode cX10_mean 55 = .ok (.invokevirtual 177, 3) := dqn_182 (k := 4) qh_cX10_mean rfl rfl rfl
theorem dX10_mean_58 : decode cX10_mean 58 = .ok (.invokevirtual 180, 3) := dqn_182 (k := 1) qh_cX10_mean rfl rfl rfl
theorem dX10_mean_61 : decode cX10_mean 61 = .ok (.lreturn, 1) := dqn_173 (k := 0) qh_cX10_mean rfl rfl
theorem dX10_rows_0 : decode cX10_rows 0 = .ok (.aload_n 0, 1) := dqn_42 (k := 42) qh_cX10_rows rfl rfl
theorem dX10_rows_1 : decode cX10_rows 1 = .ok (.iload_n 1, 1) := dqn_27 (k := 41) qh_cX10_rows rfl rfl
theorem dX10_rows_2 : decode cX10_rows 2 = .ok (.iload_n 2, 1) := dqn_28 (k := 40) qh_cX10_rows rfl rfl
theorem dX10_rows_3 : decode cX10_rows 3 = .ok (.invokevirtual 156, 3) := dqn_182 (k := 37) qh_cX10_rows rfl rfl rfl
theorem dX10_rows_6 : decode cX10_rows 6 = .ok (.ifCond .ne 7, 3) := dqn_154 (k := 34) (u := 7) qh_cX10_rows rfl rfl rfl (sg_p rfl rfl)
theorem dX10_rows_9 : decode cX10_rows 9 = .ok (.ldc2_w 159, 3) := dqn_20 (k := 31) qh_cX10_rows rfl rfl rfl
theorem dX10_rows_12 : decode cX10_rows 12 = .ok (.lreturn, 1) := dqn_173 (k := 30) qh_cX10_rows rfl rfl
theorem dX10_rows_13 : decode cX10_rows 13 = .ok (.aload_n 0, 1) := dqn_42 (k := 29) qh_cX10_rows rfl rfl
theorem dX10_rows_14 : decode cX10_rows 14 = .ok (.getfield 63, 3) := dqn_180 (k := 26) qh_cX10_rows rfl rfl rfl
theorem dX10_rows_17 : decode cX10_rows 17 = .ok (.invokevirtual 183, 3) := dqn_182 (k := 23) qh_cX10_rows rfl rfl rfl
theorem dX10_rows_20 : decode cX10_rows 20 = .ok (.istore 4, 2) := dqn_54 (k := 21) qh_cX10_rows rfl rfl rfl
theorem dX10_rows_22 : decode cX10_rows 22 = .ok (.iload_n 3, 1) := dqn_29 (k := 20) qh_cX10_rows rfl rfl
theorem dX10_rows_23 : decode cX10_rows 23 = .ok (.ifCond .eq 16, 3) := dqn_153 (k := 17) (u := 16) qh_cX10_rows rfl rfl rfl (sg_p rfl rfl)
theorem dX10_rows_26 : decode cX10_rows 26 = .ok (.aload_n 0, 1) := dqn_42 (k := 16) qh_cX10_rows rfl rfl
theorem dX10_rows_27 : decode cX10_rows 27 = .ok (.getfield 63, 3) := dqn_180 (k := 13) qh_cX10_rows rfl rfl rfl
theorem dX10_rows_30 : decode cX10_rows 30 = .ok (.getfield 186, 3) := dqn_180 (k := 10) qh_cX10_rows rfl rfl rfl
theorem dX10_rows_33 : decode cX10_rows 33 = .ok (.iload 4, 2) := dqn_21 (k := 8) qh_cX10_rows rfl rfl rfl
theorem dX10_rows_35 : decode cX10_rows 35 = .ok (.laload, 1) := dqn_47 (k := 7) qh_cX10_rows rfl rfl
theorem dX10_rows_36 : decode cX10_rows 36 = .ok (.goto 6, 3) := dqn_167 (k := 4) (u := 6) qh_cX10_rows rfl rfl rfl (sg_p rfl rfl)
theorem dX10_rows_39 : decode cX10_rows 39 = .ok (.iload 4, 2) := dqn_21 (k := 2) qh_cX10_rows rfl rfl rfl
theorem dX10_rows_41 : decode cX10_rows 41 = .ok (.i2l, 1) := dqn_133 (k := 1) qh_cX10_rows rfl rfl
theorem dX10_rows_42 : decode cX10_rows 42 = .ok (.lreturn, 1) := dqn_173 (k := 0) qh_cX10_rows rfl rfl
theorem dX10_brings_0 : decode cX10_brings 0 = .ok (.aload_n 0, 1) := dqn_42 (k := 135) qh_cX10_brings rfl rfl
theorem dX10_brings_1 : decode cX10_brings 1 = .ok (.iload_n 1, 1) := dqn_27 (k := 134) qh_cX10_brings rfl rfl
theorem dX10_brings_2 : decode cX10_brings 2 = .ok (.iload_n 2, 1) := dqn_28 (k := 133) qh_cX10_brings rfl rfl
theorem dX10_brings_3 : decode cX10_brings 3 = .ok (.invokevirtual 114, 3) := dqn_182 (k := 130) qh_cX10_brings rfl rfl rfl
theorem dX10_brings_6 : decode cX10_brings 6 = .ok (.ifCond .eq 32, 3) := dqn_153 (k := 127) (u := 32) qh_cX10_brings rfl rfl rfl (sg_p rfl rfl)
theorem dX10_brings_9 : decode cX10_brings 9 = .ok (.aload_n 0, 1) := dqn_42 (k := 126) qh_cX10_brings rfl rfl
theorem dX10_brings_10 : decode cX10_brings 10 = .ok (.getfield 34, 3) := dqn_180 (k := 123) qh_cX10_brings rfl rfl rfl
theorem dX10_brings_13 : decode cX10_brings 13 = .ok (.getfield 118, 3) := dqn_180 (k := 120) qh_cX10_brings rfl rfl rfl
theorem dX10_brings_16 : decode cX10_brings 16 = .ok (.iload_n 3, 1) := dqn_29 (k := 119) qh_cX10_brings rfl rfl
theorem dX10_brings_17 : decode cX10_brings 17 = .ok (.invokevirtual 190, 3) := dqn_182 (k := 116) qh_cX10_brings rfl rfl rfl
theorem dX10_brings_20 : decode cX10_brings 20 = .ok (.ifCond .eq 18, 3) := dqn_153 (k := 113) (u := 18) qh_cX10_brings rfl rfl rfl (sg_p rfl rfl)
theorem dX10_brings_23 : decode cX10_brings 23 = .ok (.aload_n 0, 1) := dqn_42 (k := 112) qh_cX10_brings rfl rfl
theorem dX10_brings_24 : decode cX10_brings 24 = .ok (.getfield 34, 3) := dqn_180 (k := 109) qh_cX10_brings rfl rfl rfl
theorem dX10_brings_27 : decode cX10_brings 27 = .ok (.getfield 118, 3) := dqn_180 (k := 106) qh_cX10_brings rfl rfl rfl
theorem dX10_brings_30 : decode cX10_brings 30 = .ok (.iload 4, 2) := dqn_21 (k := 104) qh_cX10_brings rfl rfl rfl
theorem dX10_brings_32 : decode cX10_brings 32 = .ok (.invokevirtual 121, 3) := dqn_182 (k := 101) qh_cX10_brings rfl rfl rfl
theorem dX10_brings_35 : decode cX10_brings 35 = .ok (.ifCond .ne 5, 3) := dqn_154 (k := 98) (u := 5) qh_cX10_brings rfl rfl rfl (sg_p rfl rfl)
theorem dX10_brings_38 : decode cX10_brings 38 = .ok (.iconst (-1), 1) := dqn_2 (k := 97) qh_cX10_brings rfl rfl
theorem dX10_brings_39 : decode cX10_brings 39 = .ok (.ireturn, 1) := dqn_172 (k := 96) qh_cX10_brings rfl rfl
theorem dX10_brings_40 : decode cX10_brings 40 = .ok (.iconst (-1), 1) := dqn_2 (k := 95) qh_cX10_brings rfl rfl
theorem dX10_brings_41 : decode cX10_brings 41 = .ok (.istore 5, 2) := dqn_54 (k := 93) qh_cX10_brings rfl rfl rfl
theorem dX10_brings_43 : decode cX10_brings 43 = .ok (.iconst 0, 1) := dqn_3 (k := 92) qh_cX10_brings rfl rfl
theorem dX10_brings_44 : decode cX10_brings 44 = .ok (.istore 6, 2) := dqn_54 (k := 90) qh_cX10_brings rfl rfl rfl
theorem dX10_brings_46 : decode cX10_brings 46 = .ok (.iload 6, 2) := dqn_21 (k := 88) qh_cX10_brings rfl rfl rfl
theorem dX10_brings_48 : decode cX10_brings 48 = .ok (.aload_n 0, 1) := dqn_42 (k := 87) qh_cX10_brings rfl rfl
theorem dX10_brings_49 : decode cX10_brings 49 = .ok (.getfield 34, 3) := dqn_180 (k := 84) qh_cX10_brings rfl rfl rfl
theorem dX10_brings_52 : decode cX10_brings 52 = .ok (.getfield 118, 3) := dqn_180 (k := 81) qh_cX10_brings rfl rfl rfl
theorem dX10_brings_55 : decode cX10_brings 55 = .ok (.invokevirtual 173, 3) := dqn_182 (k := 78) qh_cX10_brings rfl rfl rfl
theorem dX10_brings_58 : decode cX10_brings 58 = .ok (.if_icmp .gt 75, 3) := dqn_163 (k := 75) (u := 75) qh_cX10_brings rfl rfl rfl (sg_p rfl rfl)
theorem dX10_brings_61 : decode cX10_brings 61 = .ok (.aload_n 0, 1) := dqn_42 (k := 74) qh_cX10_brings rfl rfl
theorem dX10_brings_62 : decode cX10_brings 62 = .ok (.getfield 48, 3) := dqn_180 (k := 71) qh_cX10_brings rfl rfl rfl
theorem dX10_brings_65 : decode cX10_brings 65 = .ok (.aload_n 0, 1) := dqn_42 (k := 70) qh_cX10_brings rfl rfl
theorem dX10_brings_66 : decode cX10_brings 66 = .ok (.getfield 34, 3) := dqn_180 (k := 67) qh_cX10_brings rfl rfl rfl
theorem dX10_brings_69 : decode cX10_brings 69 = .ok (.getfield 118, 3) := dqn_180 (k := 64) qh_cX10_brings rfl rfl rfl
theorem dX10_brings_72 : decode cX10_brings 72 = .ok (.aload_n 0, 1) := dqn_42 (k := 63) qh_cX10_brings rfl rfl
theorem dX10_brings_73 : decode cX10_brings 73 = .ok (.getfield 34, 3) := dqn_180 (k := 60) qh_cX10_brings rfl rfl rfl
theorem dX10_brings_76 : decode cX10_brings 76 = .ok (.getfield 118, 3) := dqn_180 (k := 57) qh_cX10_brings rfl rfl rfl
theorem dX10_brings_79 : decode cX10_brings 79 = .ok (.iload_n 3, 1) := dqn_29 (k := 56) qh_cX10_brings rfl rfl
theorem dX10_brings_80 : decode cX10_brings 80 = .ok (.invokevirtual 148, 3) := dqn_182 (k := 53) qh_cX10_brings rfl rfl rfl
theorem dX10_brings_83 : decode cX10_brings 83 = .ok (.iload 6, 2) := dqn_21 (k := 51) qh_cX10_brings rfl rfl rfl
theorem dX10_brings_85 : decode cX10_brings 85 = .ok (.iconst (-1), 1) := dqn_2 (k := 50) qh_cX10_brings rfl rfl
theorem dX10_brings_86 : decode cX10_brings 86 = .ok (.invokevirtual 151, 3) := dqn_182 (k := 47) qh_cX10_brings rfl rfl rfl
theorem dX10_brings_89 : decode cX10_brings 89 = .ok (.aload_n 0, 1) := dqn_42 (k := 46) qh_cX10_brings rfl rfl
theorem dX10_brings_90 : decode cX10_brings 90 = .ok (.getfield 48, 3) := dqn_180 (k := 43) qh_cX10_brings rfl rfl rfl
theorem dX10_brings_93 : decode cX10_brings 93 = .ok (.getfield 193, 3) := dqn_180 (k := 40) qh_cX10_brings rfl rfl rfl
theorem dX10_brings_96 : decode cX10_brings 96 = .ok (.iload 4, 2) := dqn_21 (k := 38) qh_cX10_brings rfl rfl rfl
theorem dX10_brings_98 : decode cX10_brings 98 = .ok (.invokestatic 196, 3) := dqn_184 (k := 35) qh_cX10_brings rfl rfl rfl
theorem dX10_brings_101 : decode cX10_brings 101 = .ok (.ifCond .eq 26, 3) := dqn_153 (k := 32) (u := 26) qh_cX10_brings rfl rfl rfl (sg_p rfl rfl)
theorem dX10_brings_104 : decode cX10_brings 104 = .ok (.iload 5, 2) := dqn_21 (k := 30) qh_cX10_brings rfl rfl rfl
theorem dX10_brings_106 : decode cX10_brings 106 = .ok (.iconst (-1), 1) := dqn_2 (k := 29) qh_cX10_brings rfl rfl
theorem dX10_brings_107 : decode cX10_brings 107 = .ok (.if_icmp .eq 16, 3) := dqn_159 (k := 26) (u := 16) qh_cX10_brings rfl rfl rfl (sg_p rfl rfl)
theorem dX10_brings_110 : decode cX10_brings 110 = .ok (.iload 6, 2) := dqn_21 (k := 24) qh_cX10_brings rfl rfl rfl
theorem dX10_brings_112 : decode cX10_brings 112 = .ok (.invokestatic 199, 3) := dqn_184 (k := 21) qh_cX10_brings rfl rfl rfl
theorem dX10_brings_115 : decode cX10_brings 115 = .ok (.iload 5, 2) := dqn_21 (k := 19) qh_cX10_brings rfl rfl rfl
theorem dX10_brings_117 : decode cX10_brings 117 = .ok (.invokestatic 199, 3) := dqn_184 (k := 16) qh_cX10_brings rfl rfl rfl
theorem dX10_brings_120 : decode cX10_brings 120 = .ok (.if_icmp .ge 7, 3) := dqn_162 (k := 13) (u := 7) qh_cX10_brings rfl rfl rfl (sg_p rfl rfl)
theorem dX10_brings_123 : decode cX10_brings 123 = .ok (.iload 6, 2) := dqn_21 (k := 11) qh_cX10_brings rfl rfl rfl
theorem dX10_brings_125 : decode cX10_brings 125 = .ok (.istore 5, 2) := dqn_54 (k := 9) qh_cX10_brings rfl rfl rfl
theorem dX10_brings_127 : decode cX10_brings 127 = .ok (.iinc 6 1, 3) := dqn_132 (k := 6) (u := 1) qh_cX10_brings rfl rfl rfl rfl (by decide)
theorem dX10_brings_130 : decode cX10_brings 130 = .ok (.goto (-84), 3) := dqn_167 (k := 3) (u := 65452) qh_cX10_brings rfl rfl rfl (sg_n (k := 84) rfl rfl rfl)
theorem dX10_brings_133 : decode cX10_brings 133 = .ok (.iload 5, 2) := dqn_21 (k := 1) qh_cX10_brings rfl rfl rfl
theorem dX10_brings_135 : decode cX10_brings 135 = .ok (.ireturn, 1) := dqn_172 (k := 0) qh_cX10_brings rfl rfl
theorem dX10_best_0 : decode cX10_best 0 = .ok (.aload_n 0, 1) := dqn_42 (k := 36) qh_cX10_best rfl rfl
theorem dX10_best_1 : decode cX10_best 1 = .ok (.iload_n 1, 1) := dqn_27 (k := 35) qh_cX10_best rfl rfl
theorem dX10_best_2 : decode cX10_best 2 = .ok (.iload_n 2, 1) := dqn_28 (k := 34) qh_cX10_best rfl rfl
theorem dX10_best_3 : decode cX10_best 3 = .ok (.iload_n 3, 1) := dqn_29 (k := 33) qh_cX10_best rfl rfl
theorem dX10_best_4 : decode cX10_best 4 = .ok (.iload 4, 2) := dqn_21 (k := 31) qh_cX10_best rfl rfl rfl
theorem dX10_best_6 : decode cX10_best 6 = .ok (.sipush 9999, 3) := dqn_17 (k := 28) (u := 9999) qh_cX10_best rfl rfl rfl (sg_p rfl rfl)
theorem dX10_best_9 : decode cX10_best 9 = .ok (.invokevirtual 204, 3) := dqn_182 (k := 25) qh_cX10_best rfl rfl rfl
theorem dX10_best_12 : decode cX10_best 12 = .ok (.ifCond .eq 23, 3) := dqn_153 (k := 22) (u := 23) qh_cX10_best rfl rfl rfl (sg_p rfl rfl)
theorem dX10_best_15 : decode cX10_best 15 = .ok (.aload_n 0, 1) := dqn_42 (k := 21) qh_cX10_best rfl rfl
theorem dX10_best_16 : decode cX10_best 16 = .ok (.getfield 55, 3) := dqn_180 (k := 18) qh_cX10_best rfl rfl rfl
theorem dX10_best_19 : decode cX10_best 19 = .ok (.aload_n 0, 1) := dqn_42 (k := 17) qh_cX10_best rfl rfl
theorem dX10_best_20 : decode cX10_best 20 = .ok (.getfield 34, 3) := dqn_180 (k := 14) qh_cX10_best rfl rfl rfl
theorem dX10_best_23 : decode cX10_best 23 = .ok (.getfield 118, 3) := dqn_180 (k := 11) qh_cX10_best rfl rfl rfl
theorem dX10_best_26 : decode cX10_best 26 = .ok (.iload_n 3, 1) := dqn_29 (k := 10) qh_cX10_best rfl rfl
theorem dX10_best_27 : decode cX10_best 27 = .ok (.iload 4, 2) := dqn_21 (k := 8) qh_cX10_best rfl rfl rfl
theorem dX10_best_29 : decode cX10_best 29 = .ok (.invokevirtual 208, 3) := dqn_182 (k := 5) qh_cX10_best rfl rfl rfl
theorem dX10_best_32 : decode cX10_best 32 = .ok (.goto 4, 3) := dqn_167 (k := 2) (u := 4) qh_cX10_best rfl rfl rfl (sg_p rfl rfl)
theorem dX10_best_35 : decode cX10_best 35 = .ok (.iconst (-1), 1) := dqn_2 (k := 1) qh_cX10_best rfl rfl
theorem dX10_best_36 : decode cX10_best 36 = .ok (.ireturn, 1) := dqn_172 (k := 0) qh_cX10_best rfl rfl
theorem dX10_steps_0 : decode cX10_steps 0 = .ok (.aload_n 0, 1) := dqn_42 (k := 36) qh_cX10_steps rfl rfl
theorem dX10_steps_1 : decode cX10_steps 1 = .ok (.iload_n 1, 1) := dqn_27 (k := 35) qh_cX10_steps rfl rfl
theorem dX10_steps_2 : decode cX10_steps 2 = .ok (.iload_n 2, 1) := dqn_28 (k := 34) qh_cX10_steps rfl rfl
theorem dX10_steps_3 : decode cX10_steps 3 = .ok (.iload_n 3, 1) := dqn_29 (k := 33) qh_cX10_steps rfl rfl
theorem dX10_steps_4 : decode cX10_steps 4 = .ok (.iload 4, 2) := dqn_21 (k := 31) qh_cX10_steps rfl rfl rfl
theorem dX10_steps_6 : decode cX10_steps 6 = .ok (.sipush 9999, 3) := dqn_17 (k := 28) (u := 9999) qh_cX10_steps rfl rfl rfl (sg_p rfl rfl)
theorem dX10_steps_9 : decode cX10_steps 9 = .ok (.invokevirtual 204, 3) := dqn_182 (k := 25) qh_cX10_steps rfl rfl rfl
theorem dX10_steps_12 : decode cX10_steps 12 = .ok (.ifCond .eq 23, 3) := dqn_153 (k := 22) (u := 23) qh_cX10_steps rfl rfl rfl (sg_p rfl rfl)
theorem dX10_steps_15 : decode cX10_steps 15 = .ok (.aload_n 0, 1) := dqn_42 (k := 21) qh_cX10_steps rfl rfl
theorem dX10_steps_16 : decode cX10_steps 16 = .ok (.getfield 55, 3) := dqn_180 (k := 18) qh_cX10_steps rfl rfl rfl
theorem dX10_steps_19 : decode cX10_steps 19 = .ok (.aload_n 0, 1) := dqn_42 (k := 17) qh_cX10_steps rfl rfl
theorem dX10_steps_20 : decode cX10_steps 20 = .ok (.getfield 34, 3) := dqn_180 (k := 14) qh_cX10_steps rfl rfl rfl
theorem dX10_steps_23 : decode cX10_steps 23 = .ok (.getfield 118, 3) := dqn_180 (k := 11) qh_cX10_steps rfl rfl rfl
theorem dX10_steps_26 : decode cX10_steps 26 = .ok (.iload_n 3, 1) := dqn_29 (k := 10) qh_cX10_steps rfl rfl
theorem dX10_steps_27 : decode cX10_steps 27 = .ok (.iload 4, 2) := dqn_21 (k := 8) qh_cX10_steps rfl rfl rfl
theorem dX10_steps_29 : decode cX10_steps 29 = .ok (.invokevirtual 212, 3) := dqn_182 (k := 5) qh_cX10_steps rfl rfl rfl
theorem dX10_steps_32 : decode cX10_steps 32 = .ok (.goto 4, 3) := dqn_167 (k := 2) (u := 4) qh_cX10_steps rfl rfl rfl (sg_p rfl rfl)
theorem dX10_steps_35 : decode cX10_steps 35 = .ok (.iconst (-1), 1) := dqn_2 (k := 1) qh_cX10_steps rfl rfl
theorem dX10_steps_36 : decode cX10_steps 36 = .ok (.ireturn, 1) := dqn_172 (k := 0) qh_cX10_steps rfl rfl
theorem dX10_spend_0 : decode cX10_spend 0 = .ok (.aload_n 0, 1) := dqn_42 (k := 35) qh_cX10_spend rfl rfl
theorem dX10_spend_1 : decode cX10_spend 1 = .ok (.iload_n 1, 1) := dqn_27 (k := 34) qh_cX10_spend rfl rfl
theorem dX10_spend_2 : decode cX10_spend 2 = .ok (.iload_n 2, 1) := dqn_28 (k := 33) qh_cX10_spend rfl rfl
theorem dX10_spend_3 : decode cX10_spend 3 = .ok (.iload_n 3, 1) := dqn_29 (k := 32) qh_cX10_spend rfl rfl
theorem dX10_spend_4 : decode cX10_spend 4 = .ok (.iload 4, 2) := dqn_21 (k := 30) qh_cX10_spend rfl rfl rfl
theorem dX10_spend_6 : decode cX10_spend 6 = .ok (.bipush 100, 2) := dqn_16 (k := 28) (u := 100) qh_cX10_spend rfl rfl rfl (by decide)
theorem dX10_spend_8 : decode cX10_spend 8 = .ok (.invokevirtual 204, 3) := dqn_182 (k := 25) qh_cX10_spend rfl rfl rfl
theorem dX10_spend_11 : decode cX10_spend 11 = .ok (.ifCond .eq 23, 3) := dqn_153 (k := 22) (u := 23) qh_cX10_spend rfl rfl rfl (sg_p rfl rfl)
theorem dX10_spend_14 : decode cX10_spend 14 = .ok (.aload_n 0, 1) := dqn_42 (k := 21) qh_cX10_spend rfl rfl
theorem dX10_spend_15 : decode cX10_spend 15 = .ok (.getfield 55, 3) := dqn_180 (k := 18) qh_cX10_spend rfl rfl rfl
theorem dX10_spend_18 : decode cX10_spend 18 = .ok (.aload_n 0, 1) := dqn_42 (k := 17) qh_cX10_spend rfl rfl
theorem dX10_spend_19 : decode cX10_spend 19 = .ok (.getfield 34, 3) := dqn_180 (k := 14) qh_cX10_spend rfl rfl rfl
theorem dX10_spend_22 : decode cX10_spend 22 = .ok (.getfield 118, 3) := dqn_180 (k := 11) qh_cX10_spend rfl rfl rfl
theorem dX10_spend_25 : decode cX10_spend 25 = .ok (.iload_n 3, 1) := dqn_29 (k := 10) qh_cX10_spend rfl rfl
theorem dX10_spend_26 : decode cX10_spend 26 = .ok (.iload 4, 2) := dqn_21 (k := 8) qh_cX10_spend rfl rfl rfl
theorem dX10_spend_28 : decode cX10_spend 28 = .ok (.invokevirtual 325, 3) := dqn_182 (k := 5) qh_cX10_spend rfl rfl rfl
theorem dX10_spend_31 : decode cX10_spend 31 = .ok (.goto 4, 3) := dqn_167 (k := 2) (u := 4) qh_cX10_spend rfl rfl rfl (sg_p rfl rfl)
theorem dX10_spend_34 : decode cX10_spend 34 = .ok (.iconst (-1), 1) := dqn_2 (k := 1) qh_cX10_spend rfl rfl
theorem dX10_spend_35 : decode cX10_spend 35 = .ok (.ireturn, 1) := dqn_172 (k := 0) qh_cX10_spend rfl rfl
theorem dX10_mended_0 : decode cX10_mended 0 = .ok (.aload_n 0, 1) := dqn_42 (k := 53) qh_cX10_mended rfl rfl
theorem dX10_mended_1 : decode cX10_mended 1 = .ok (.iload_n 1, 1) := dqn_27 (k := 52) qh_cX10_mended rfl rfl
theorem dX10_mended_2 : decode cX10_mended 2 = .ok (.iload_n 2, 1) := dqn_28 (k := 51) qh_cX10_mended rfl rfl
theorem dX10_mended_3 : decode cX10_mended 3 = .ok (.invokevirtual 156, 3) := dqn_182 (k := 48) qh_cX10_mended rfl rfl rfl
theorem dX10_mended_6 : decode cX10_mended 6 = .ok (.ifCond .eq 17, 3) := dqn_153 (k := 45) (u := 17) qh_cX10_mended rfl rfl rfl (sg_p rfl rfl)
theorem dX10_mended_9 : decode cX10_mended 9 = .ok (.aload_n 0, 1) := dqn_42 (k := 44) qh_cX10_mended rfl rfl
theorem dX10_mended_10 : decode cX10_mended 10 = .ok (.getfield 34, 3) := dqn_180 (k := 41) qh_cX10_mended rfl rfl rfl
theorem dX10_mended_13 : decode cX10_mended 13 = .ok (.getfield 118, 3) := dqn_180 (k := 38) qh_cX10_mended rfl rfl rfl
theorem dX10_mended_16 : decode cX10_mended 16 = .ok (.iload_n 3, 1) := dqn_29 (k := 37) qh_cX10_mended rfl rfl
theorem dX10_mended_17 : decode cX10_mended 17 = .ok (.invokevirtual 215, 3) := dqn_182 (k := 34) qh_cX10_mended rfl rfl rfl
theorem dX10_mended_20 : decode cX10_mended 20 = .ok (.ifCond .ne 7, 3) := dqn_154 (k := 31) (u := 7) qh_cX10_mended rfl rfl rfl (sg_p rfl rfl)
theorem dX10_mended_23 : decode cX10_mended 23 = .ok (.ldc2_w 159, 3) := dqn_20 (k := 28) qh_cX10_mended rfl rfl rfl
theorem dX10_mended_26 : decode cX10_mended 26 = .ok (.lreturn, 1) := dqn_173 (k := 27) qh_cX10_mended rfl rfl
theorem dX10_mended_27 : decode cX10_mended 27 = .ok (.aload_n 0, 1) := dqn_42 (k := 26) qh_cX10_mended rfl rfl
theorem dX10_mended_28 : decode cX10_mended 28 = .ok (.getfield 63, 3) := dqn_180 (k := 23) qh_cX10_mended rfl rfl rfl
theorem dX10_mended_31 : decode cX10_mended 31 = .ok (.iload_n 3, 1) := dqn_29 (k := 22) qh_cX10_mended rfl rfl
theorem dX10_mended_32 : decode cX10_mended 32 = .ok (.iconst 0, 1) := dqn_3 (k := 21) qh_cX10_mended rfl rfl
theorem dX10_mended_33 : decode cX10_mended 33 = .ok (.invokevirtual 218, 3) := dqn_182 (k := 18) qh_cX10_mended rfl rfl rfl
theorem dX10_mended_36 : decode cX10_mended 36 = .ok (.aload_n 0, 1) := dqn_42 (k := 17) qh_cX10_mended rfl rfl
theorem dX10_mended_37 : decode cX10_mended 37 = .ok (.getfield 63, 3) := dqn_180 (k := 14) qh_cX10_mended rfl rfl rfl
theorem dX10_mended_40 : decode cX10_mended 40 = .ok (.aload_n 0, 1) := dqn_42 (k := 13) qh_cX10_mended rfl rfl
theorem dX10_mended_41 : decode cX10_mended 41 = .ok (.getfield 34, 3) := dqn_180 (k := 10) qh_cX10_mended rfl rfl rfl
theorem dX10_mended_44 : decode cX10_mended 44 = .ok (.getfield 118, 3) := dqn_180 (k := 7) qh_cX10_mended rfl rfl rfl
theorem dX10_mended_47 : decode cX10_mended 47 = .ok (.invokevirtual 173, 3) := dqn_182 (k := 4) qh_cX10_mended rfl rfl rfl
theorem dX10_mended_50 : decode cX10_mended 50 = .ok (.invokevirtual 180, 3) := dqn_182 (k := 1) qh_cX10_mended rfl rfl rfl
theorem dX10_mended_53 : decode cX10_mended 53 = .ok (.lreturn, 1) := dqn_173 (k := 0) qh_cX10_mended rfl rfl
theorem dX10_one_0 : decode cX10_one 0 = .ok (.aload_n 0, 1) := dqn_42 (k := 62) qh_cX10_one rfl rfl
theorem dX10_one_1 : decode cX10_one 1 = .ok (.iload_n 1, 1) := dqn_27 (k := 61) qh_cX10_one rfl rfl
theorem dX10_one_2 : decode cX10_one 2 = .ok (.iload_n 2, 1) := dqn_28 (k := 60) qh_cX10_one rfl rfl
theorem dX10_one_3 : decode cX10_one 3 = .ok (.invokevirtual 114, 3) := dqn_182 (k := 57) qh_cX10_one rfl rfl rfl
theorem dX10_one_6 : decode cX10_one 6 = .ok (.ifCond .eq 16, 3) := dqn_153 (k := 54) (u := 16) qh_cX10_one rfl rfl rfl (sg_p rfl rfl)
theorem dX10_one_9 : decode cX10_one 9 = .ok (.aload_n 0, 1) := dqn_42 (k := 53) qh_cX10_one rfl rfl
theorem dX10_one_10 : decode cX10_one 10 = .ok (.getfield 34, 3) := dqn_180 (k := 50) qh_cX10_one rfl rfl rfl
theorem dX10_one_13 : decode cX10_one 13 = .ok (.getfield 118, 3) := dqn_180 (k := 47) qh_cX10_one rfl rfl rfl
theorem dX10_one_16 : decode cX10_one 16 = .ok (.getfield 222, 3) := dqn_180 (k := 44) qh_cX10_one rfl rfl rfl
theorem dX10_one_19 : decode cX10_one 19 = .ok (.ifCond .ne 7, 3) := dqn_154 (k := 41) (u := 7) qh_cX10_one rfl rfl rfl (sg_p rfl rfl)
theorem dX10_one_22 : decode cX10_one 22 = .ok (.ldc2_w 159, 3) := dqn_20 (k := 38) qh_cX10_one rfl rfl rfl
theorem dX10_one_25 : decode cX10_one 25 = .ok (.lreturn, 1) := dqn_173 (k := 37) qh_cX10_one rfl rfl
theorem dX10_one_26 : decode cX10_one 26 = .ok (.aload_n 0, 1) := dqn_42 (k := 36) qh_cX10_one rfl rfl
theorem dX10_one_27 : decode cX10_one 27 = .ok (.getfield 55, 3) := dqn_180 (k := 33) qh_cX10_one rfl rfl rfl
theorem dX10_one_30 : decode cX10_one 30 = .ok (.aload_n 0, 1) := dqn_42 (k := 32) qh_cX10_one rfl rfl
theorem dX10_one_31 : decode cX10_one 31 = .ok (.getfield 34, 3) := dqn_180 (k := 29) qh_cX10_one rfl rfl rfl
theorem dX10_one_34 : decode cX10_one 34 = .ok (.getfield 118, 3) := dqn_180 (k := 26) qh_cX10_one rfl rfl rfl
theorem dX10_one_37 : decode cX10_one 37 = .ok (.invokevirtual 225, 3) := dqn_182 (k := 23) qh_cX10_one rfl rfl rfl
theorem dX10_one_40 : decode cX10_one 40 = .ok (.iload_n 3, 1) := dqn_29 (k := 22) qh_cX10_one rfl rfl
theorem dX10_one_41 : decode cX10_one 41 = .ok (.ifCond .eq 13, 3) := dqn_153 (k := 19) (u := 13) qh_cX10_one rfl rfl rfl (sg_p rfl rfl)
theorem dX10_one_44 : decode cX10_one 44 = .ok (.aload_n 0, 1) := dqn_42 (k := 18) qh_cX10_one rfl rfl
theorem dX10_one_45 : decode cX10_one 45 = .ok (.getfield 55, 3) := dqn_180 (k := 15) qh_cX10_one rfl rfl rfl
theorem dX10_one_48 : decode cX10_one 48 = .ok (.getfield 229, 3) := dqn_180 (k := 12) qh_cX10_one rfl rfl rfl
theorem dX10_one_51 : decode cX10_one 51 = .ok (.goto 11, 3) := dqn_167 (k := 9) (u := 11) qh_cX10_one rfl rfl rfl (sg_p rfl rfl)
theorem dX10_one_54 : decode cX10_one 54 = .ok (.aload_n 0, 1) := dqn_42 (k := 8) qh_cX10_one rfl rfl
theorem dX10_one_55 : decode cX10_one 55 = .ok (.getfield 55, 3) := dqn_180 (k := 5) qh_cX10_one rfl rfl rfl
theorem dX10_one_58 : decode cX10_one 58 = .ok (.getfield 233, 3) := dqn_180 (k := 2) qh_cX10_one rfl rfl rfl
theorem dX10_one_61 : decode cX10_one 61 = .ok (.i2l, 1) := dqn_133 (k := 1) qh_cX10_one rfl rfl
theorem dX10_one_62 : decode cX10_one 62 = .ok (.lreturn, 1) := dqn_173 (k := 0) qh_cX10_one rfl rfl
theorem dX10_low_0 : decode cX10_low 0 = .ok (.aload_n 0, 1) := dqn_42 (k := 29) qh_cX10_low rfl rfl
theorem dX10_low_1 : decode cX10_low 1 = .ok (.iload_n 1, 1) := dqn_27 (k := 28) qh_cX10_low rfl rfl
theorem dX10_low_2 : decode cX10_low 2 = .ok (.iload_n 2, 1) := dqn_28 (k := 27) qh_cX10_low rfl rfl
theorem dX10_low_3 : decode cX10_low 3 = .ok (.iload_n 3, 1) := dqn_29 (k := 26) qh_cX10_low rfl rfl
theorem dX10_low_4 : decode cX10_low 4 = .ok (.invokevirtual 236, 3) := dqn_182 (k := 23) qh_cX10_low rfl rfl rfl
theorem dX10_low_7 : decode cX10_low 7 = .ok (.ifCond .eq 21, 3) := dqn_153 (k := 20) (u := 21) qh_cX10_low rfl rfl rfl (sg_p rfl rfl)
theorem dX10_low_10 : decode cX10_low 10 = .ok (.aload_n 0, 1) := dqn_42 (k := 19) qh_cX10_low rfl rfl
theorem dX10_low_11 : decode cX10_low 11 = .ok (.getfield 55, 3) := dqn_180 (k := 16) qh_cX10_low rfl rfl rfl
theorem dX10_low_14 : decode cX10_low 14 = .ok (.aload_n 0, 1) := dqn_42 (k := 15) qh_cX10_low rfl rfl
theorem dX10_low_15 : decode cX10_low 15 = .ok (.getfield 34, 3) := dqn_180 (k := 12) qh_cX10_low rfl rfl rfl
theorem dX10_low_18 : decode cX10_low 18 = .ok (.getfield 118, 3) := dqn_180 (k := 9) qh_cX10_low rfl rfl rfl
theorem dX10_low_21 : decode cX10_low 21 = .ok (.iload_n 3, 1) := dqn_29 (k := 8) qh_cX10_low rfl rfl
theorem dX10_low_22 : decode cX10_low 22 = .ok (.invokevirtual 240, 3) := dqn_182 (k := 5) qh_cX10_low rfl rfl rfl
theorem dX10_low_25 : decode cX10_low 25 = .ok (.goto 4, 3) := dqn_167 (k := 2) (u := 4) qh_cX10_low rfl rfl rfl (sg_p rfl rfl)
theorem dX10_low_28 : decode cX10_low 28 = .ok (.iconst (-1), 1) := dqn_2 (k := 1) qh_cX10_low rfl rfl
theorem dX10_low_29 : decode cX10_low 29 = .ok (.ireturn, 1) := dqn_172 (k := 0) qh_cX10_low rfl rfl
theorem dX10_helps_0 : decode cX10_helps 0 = .ok (.aload_n 0, 1) := dqn_42 (k := 84) qh_cX10_helps rfl rfl
theorem dX10_helps_1 : decode cX10_helps 1 = .ok (.iload_n 1, 1) := dqn_27 (k := 83) qh_cX10_helps rfl rfl
theorem dX10_helps_2 : decode cX10_helps 2 = .ok (.iload_n 2, 1) := dqn_28 (k := 82) qh_cX10_helps rfl rfl
theorem dX10_helps_3 : decode cX10_helps 3 = .ok (.invokevirtual 156, 3) := dqn_182 (k := 79) qh_cX10_helps rfl rfl rfl
theorem dX10_helps_6 : decode cX10_helps 6 = .ok (.ifCond .eq 18, 3) := dqn_153 (k := 76) (u := 18) qh_cX10_helps rfl rfl rfl (sg_p rfl rfl)
theorem dX10_helps_9 : decode cX10_helps 9 = .ok (.iload_n 3, 1) := dqn_29 (k := 75) qh_cX10_helps rfl rfl
theorem dX10_helps_10 : decode cX10_helps 10 = .ok (.invokestatic 170, 3) := dqn_184 (k := 72) qh_cX10_helps rfl rfl rfl
theorem dX10_helps_13 : decode cX10_helps 13 = .ok (.ifCond .eq 11, 3) := dqn_153 (k := 69) (u := 11) qh_cX10_helps rfl rfl rfl (sg_p rfl rfl)
theorem dX10_helps_16 : decode cX10_helps 16 = .ok (.iload 4, 2) := dqn_21 (k := 67) qh_cX10_helps rfl rfl rfl
theorem dX10_helps_18 : decode cX10_helps 18 = .ok (.invokestatic 170, 3) := dqn_184 (k := 64) qh_cX10_helps rfl rfl rfl
theorem dX10_helps_21 : decode cX10_helps 21 = .ok (.ifCond .ne 7, 3) := dqn_154 (k := 61) (u := 7) qh_cX10_helps rfl rfl rfl (sg_p rfl rfl)
theorem dX10_helps_24 : decode cX10_helps 24 = .ok (.ldc2_w 159, 3) := dqn_20 (k := 58) qh_cX10_helps rfl rfl rfl
theorem dX10_helps_27 : decode cX10_helps 27 = .ok (.lreturn, 1) := dqn_173 (k := 57) qh_cX10_helps rfl rfl
theorem dX10_helps_28 : decode cX10_helps 28 = .ok (.aload_n 0, 1) := dqn_42 (k := 56) qh_cX10_helps rfl rfl
theorem dX10_helps_29 : decode cX10_helps 29 = .ok (.getfield 34, 3) := dqn_180 (k := 53) qh_cX10_helps rfl rfl rfl
theorem dX10_helps_32 : decode cX10_helps 32 = .ok (.getfield 118, 3) := dqn_180 (k := 50) qh_cX10_helps rfl rfl rfl
theorem dX10_helps_35 : decode cX10_helps 35 = .ok (.iload 4, 2) := dqn_21 (k := 48) qh_cX10_helps rfl rfl rfl
theorem dX10_helps_37 : decode cX10_helps 37 = .ok (.invokevirtual 177, 3) := dqn_182 (k := 45) qh_cX10_helps rfl rfl rfl
theorem dX10_helps_40 : decode cX10_helps 40 = .ok (.istore 5, 2) := dqn_54 (k := 43) qh_cX10_helps rfl rfl rfl
theorem dX10_helps_42 : decode cX10_helps 42 = .ok (.aload_n 0, 1) := dqn_42 (k := 42) qh_cX10_helps rfl rfl
theorem dX10_helps_43 : decode cX10_helps 43 = .ok (.getfield 63, 3) := dqn_180 (k := 39) qh_cX10_helps rfl rfl rfl
theorem dX10_helps_46 : decode cX10_helps 46 = .ok (.iload 5, 2) := dqn_21 (k := 37) qh_cX10_helps rfl rfl rfl
theorem dX10_helps_48 : decode cX10_helps 48 = .ok (.invokevirtual 180, 3) := dqn_182 (k := 34) qh_cX10_helps rfl rfl rfl
theorem dX10_helps_51 : decode cX10_helps 51 = .ok (.lstore 6, 2) := dqn_55 (k := 32) qh_cX10_helps rfl rfl rfl
theorem dX10_helps_53 : decode cX10_helps 53 = .ok (.aload_n 0, 1) := dqn_42 (k := 31) qh_cX10_helps rfl rfl
theorem dX10_helps_54 : decode cX10_helps 54 = .ok (.getfield 63, 3) := dqn_180 (k := 28) qh_cX10_helps rfl rfl rfl
theorem dX10_helps_57 : decode cX10_helps 57 = .ok (.aload_n 0, 1) := dqn_42 (k := 27) qh_cX10_helps rfl rfl
theorem dX10_helps_58 : decode cX10_helps 58 = .ok (.getfield 34, 3) := dqn_180 (k := 24) qh_cX10_helps rfl rfl rfl
theorem dX10_helps_61 : decode cX10_helps 61 = .ok (.getfield 118, 3) := dqn_180 (k := 21) qh_cX10_helps rfl rfl rfl
theorem dX10_helps_64 : decode cX10_helps 64 = .ok (.iload_n 3, 1) := dqn_29 (k := 20) qh_cX10_helps rfl rfl
theorem dX10_helps_65 : decode cX10_helps 65 = .ok (.invokevirtual 177, 3) := dqn_182 (k := 17) qh_cX10_helps rfl rfl rfl
theorem dX10_helps_68 : decode cX10_helps 68 = .ok (.iconst 0, 1) := dqn_3 (k := 16) qh_cX10_helps rfl rfl
theorem dX10_helps_69 : decode cX10_helps 69 = .ok (.invokevirtual 218, 3) := dqn_182 (k := 13) qh_cX10_helps rfl rfl rfl
theorem dX10_helps_72 : decode cX10_helps 72 = .ok (.lload 6, 2) := dqn_22 (k := 11) qh_cX10_helps rfl rfl rfl
theorem dX10_helps_74 : decode cX10_helps 74 = .ok (.aload_n 0, 1) := dqn_42 (k := 10) qh_cX10_helps rfl rfl
theorem dX10_helps_75 : decode cX10_helps 75 = .ok (.getfield 63, 3) := dqn_180 (k := 7) qh_cX10_helps rfl rfl rfl
theorem dX10_helps_78 : decode cX10_helps 78 = .ok (.iload 5, 2) := dqn_21 (k := 5) qh_cX10_helps rfl rfl rfl
theorem dX10_helps_80 : decode cX10_helps 80 = .ok (.invokevirtual 180, 3) := dqn_182 (k := 2) qh_cX10_helps rfl rfl rfl
theorem dX10_helps_83 : decode cX10_helps 83 = .ok (.lsub, 1) := dqn_101 (k := 1) qh_cX10_helps rfl rfl
theorem dX10_helps_84 : decode cX10_helps 84 = .ok (.lreturn, 1) := dqn_173 (k := 0) qh_cX10_helps rfl rfl
theorem dX10_alone_0 : decode cX10_alone 0 = .ok (.aload_n 0, 1) := dqn_42 (k := 65) qh_cX10_alone rfl rfl
theorem dX10_alone_1 : decode cX10_alone 1 = .ok (.iload_n 1, 1) := dqn_27 (k := 64) qh_cX10_alone rfl rfl
theorem dX10_alone_2 : decode cX10_alone 2 = .ok (.iload_n 2, 1) := dqn_28 (k := 63) qh_cX10_alone rfl rfl
theorem dX10_alone_3 : decode cX10_alone 3 = .ok (.invokevirtual 156, 3) := dqn_182 (k := 60) qh_cX10_alone rfl rfl rfl
theorem dX10_alone_6 : decode cX10_alone 6 = .ok (.ifCond .eq 10, 3) := dqn_153 (k := 57) (u := 10) qh_cX10_alone rfl rfl rfl (sg_p rfl rfl)
theorem dX10_alone_9 : decode cX10_alone 9 = .ok (.iload_n 3, 1) := dqn_29 (k := 56) qh_cX10_alone rfl rfl
theorem dX10_alone_10 : decode cX10_alone 10 = .ok (.invokestatic 170, 3) := dqn_184 (k := 53) qh_cX10_alone rfl rfl rfl
theorem dX10_alone_13 : decode cX10_alone 13 = .ok (.ifCond .ne 7, 3) := dqn_154 (k := 50) (u := 7) qh_cX10_alone rfl rfl rfl (sg_p rfl rfl)
theorem dX10_alone_16 : decode cX10_alone 16 = .ok (.ldc2_w 159, 3) := dqn_20 (k := 47) qh_cX10_alone rfl rfl rfl
theorem dX10_alone_19 : decode cX10_alone 19 = .ok (.lreturn, 1) := dqn_173 (k := 46) qh_cX10_alone rfl rfl
theorem dX10_alone_20 : decode cX10_alone 20 = .ok (.aload_n 0, 1) := dqn_42 (k := 45) qh_cX10_alone rfl rfl
theorem dX10_alone_21 : decode cX10_alone 21 = .ok (.getfield 34, 3) := dqn_180 (k := 42) qh_cX10_alone rfl rfl rfl
theorem dX10_alone_24 : decode cX10_alone 24 = .ok (.getfield 118, 3) := dqn_180 (k := 39) qh_cX10_alone rfl rfl rfl
theorem dX10_alone_27 : decode cX10_alone 27 = .ok (.iload_n 3, 1) := dqn_29 (k := 38) qh_cX10_alone rfl rfl
theorem dX10_alone_28 : decode cX10_alone 28 = .ok (.invokevirtual 177, 3) := dqn_182 (k := 35) qh_cX10_alone rfl rfl rfl
theorem dX10_alone_31 : decode cX10_alone 31 = .ok (.istore 4, 2) := dqn_54 (k := 33) qh_cX10_alone rfl rfl rfl
theorem dX10_alone_33 : decode cX10_alone 33 = .ok (.aload_n 0, 1) := dqn_42 (k := 32) qh_cX10_alone rfl rfl
theorem dX10_alone_34 : decode cX10_alone 34 = .ok (.getfield 63, 3) := dqn_180 (k := 29) qh_cX10_alone rfl rfl rfl
theorem dX10_alone_37 : decode cX10_alone 37 = .ok (.aload_n 0, 1) := dqn_42 (k := 28) qh_cX10_alone rfl rfl
theorem dX10_alone_38 : decode cX10_alone 38 = .ok (.getfield 34, 3) := dqn_180 (k := 25) qh_cX10_alone rfl rfl rfl
theorem dX10_alone_41 : decode cX10_alone 41 = .ok (.getfield 118, 3) := dqn_180 (k := 22) qh_cX10_alone rfl rfl rfl
theorem dX10_alone_44 : decode cX10_alone 44 = .ok (.invokevirtual 173, 3) := dqn_182 (k := 19) qh_cX10_alone rfl rfl rfl
theorem dX10_alone_47 : decode cX10_alone 47 = .ok (.iload 4, 2) := dqn_21 (k := 17) qh_cX10_alone rfl rfl rfl
theorem dX10_alone_49 : decode cX10_alone 49 = .ok (.iconst (-1), 1) := dqn_2 (k := 16) qh_cX10_alone rfl rfl
theorem dX10_alone_50 : decode cX10_alone 50 = .ok (.ixor, 1) := dqn_130 (k := 15) qh_cX10_alone rfl rfl
theorem dX10_alone_51 : decode cX10_alone 51 = .ok (.iand, 1) := dqn_126 (k := 14) qh_cX10_alone rfl rfl
theorem dX10_alone_52 : decode cX10_alone 52 = .ok (.iconst 0, 1) := dqn_3 (k := 13) qh_cX10_alone rfl rfl
theorem dX10_alone_53 : decode cX10_alone 53 = .ok (.invokevirtual 218, 3) := dqn_182 (k := 10) qh_cX10_alone rfl rfl rfl
theorem dX10_alone_56 : decode cX10_alone 56 = .ok (.aload_n 0, 1) := dqn_42 (k := 9) qh_cX10_alone rfl rfl
theorem dX10_alone_57 : decode cX10_alone 57 = .ok (.getfield 63, 3) := dqn_180 (k := 6) qh_cX10_alone rfl rfl rfl
theorem dX10_alone_60 : decode cX10_alone 60 = .ok (.iload 4, 2) := dqn_21 (k := 4) qh_cX10_alone rfl rfl rfl
theorem dX10_alone_62 : decode cX10_alone 62 = .ok (.invokevirtual 180, 3) := dqn_182 (k := 1) qh_cX10_alone rfl rfl rfl
theorem dX10_alone_65 : decode cX10_alone 65 = .ok (.lreturn, 1) := dqn_173 (k := 0) qh_cX10_alone rfl rfl
theorem dX10_hear_0 : decode cX10_hear 0 = .ok (.aload_n 0, 1) := dqn_42 (k := 84) qh_cX10_hear rfl rfl
theorem dX10_hear_1 : decode cX10_hear 1 = .ok (.iload_n 1, 1) := dqn_27 (k := 83) qh_cX10_hear rfl rfl
theorem dX10_hear_2 : decode cX10_hear 2 = .ok (.iload_n 2, 1) := dqn_28 (k := 82) qh_cX10_hear rfl rfl
theorem dX10_hear_3 : decode cX10_hear 3 = .ok (.iload_n 3, 1) := dqn_29 (k := 81) qh_cX10_hear rfl rfl
theorem dX10_hear_4 : decode cX10_hear 4 = .ok (.invokevirtual 236, 3) := dqn_182 (k := 78) qh_cX10_hear rfl rfl rfl
theorem dX10_hear_7 : decode cX10_hear 7 = .ok (.ifCond .eq 15, 3) := dqn_153 (k := 75) (u := 15) qh_cX10_hear rfl rfl rfl (sg_p rfl rfl)
theorem dX10_hear_10 : decode cX10_hear 10 = .ok (.iload 4, 2) := dqn_21 (k := 73) qh_cX10_hear rfl rfl rfl
theorem dX10_hear_12 : decode cX10_hear 12 = .ok (.ifCond .lt 10, 3) := dqn_155 (k := 70) (u := 10) qh_cX10_hear rfl rfl rfl (sg_p rfl rfl)
theorem dX10_hear_15 : decode cX10_hear 15 = .ok (.iload 4, 2) := dqn_21 (k := 68) qh_cX10_hear rfl rfl rfl
theorem dX10_hear_17 : decode cX10_hear 17 = .ok (.bipush 99, 2) := dqn_16 (k := 66) (u := 99) qh_cX10_hear rfl rfl rfl (by decide)
theorem dX10_hear_19 : decode cX10_hear 19 = .ok (.if_icmp .le 7, 3) := dqn_164 (k := 63) (u := 7) qh_cX10_hear rfl rfl rfl (sg_p rfl rfl)
theorem dX10_hear_22 : decode cX10_hear 22 = .ok (.ldc2_w 246, 3) := dqn_20 (k := 60) qh_cX10_hear rfl rfl rfl
theorem dX10_hear_25 : decode cX10_hear 25 = .ok (.lreturn, 1) := dqn_173 (k := 59) qh_cX10_hear rfl rfl
theorem dX10_hear_26 : decode cX10_hear 26 = .ok (.aload_n 0, 1) := dqn_42 (k := 58) qh_cX10_hear rfl rfl
theorem dX10_hear_27 : decode cX10_hear 27 = .ok (.getfield 63, 3) := dqn_180 (k := 55) qh_cX10_hear rfl rfl rfl
theorem dX10_hear_30 : decode cX10_hear 30 = .ok (.aload_n 0, 1) := dqn_42 (k := 54) qh_cX10_hear rfl rfl
theorem dX10_hear_31 : decode cX10_hear 31 = .ok (.getfield 34, 3) := dqn_180 (k := 51) qh_cX10_hear rfl rfl rfl
theorem dX10_hear_34 : decode cX10_hear 34 = .ok (.getfield 118, 3) := dqn_180 (k := 48) qh_cX10_hear rfl rfl rfl
theorem dX10_hear_37 : decode cX10_hear 37 = .ok (.iconst (-1), 1) := dqn_2 (k := 47) qh_cX10_hear rfl rfl
theorem dX10_hear_38 : decode cX10_hear 38 = .ok (.invokevirtual 248, 3) := dqn_182 (k := 44) qh_cX10_hear rfl rfl rfl
theorem dX10_hear_41 : decode cX10_hear 41 = .ok (.lstore 5, 2) := dqn_55 (k := 42) qh_cX10_hear rfl rfl rfl
theorem dX10_hear_43 : decode cX10_hear 43 = .ok (.aload_n 0, 1) := dqn_42 (k := 41) qh_cX10_hear rfl rfl
theorem dX10_hear_44 : decode cX10_hear 44 = .ok (.getfield 67, 3) := dqn_180 (k := 38) qh_cX10_hear rfl rfl rfl
theorem dX10_hear_47 : decode cX10_hear 47 = .ok (.aload_n 0, 1) := dqn_42 (k := 37) qh_cX10_hear rfl rfl
theorem dX10_hear_48 : decode cX10_hear 48 = .ok (.getfield 34, 3) := dqn_180 (k := 34) qh_cX10_hear rfl rfl rfl
theorem dX10_hear_51 : decode cX10_hear 51 = .ok (.getfield 118, 3) := dqn_180 (k := 31) qh_cX10_hear rfl rfl rfl
theorem dX10_hear_54 : decode cX10_hear 54 = .ok (.invokevirtual 252, 3) := dqn_182 (k := 28) qh_cX10_hear rfl rfl rfl
theorem dX10_hear_57 : decode cX10_hear 57 = .ok (.aload_n 0, 1) := dqn_42 (k := 27) qh_cX10_hear rfl rfl
theorem dX10_hear_58 : decode cX10_hear 58 = .ok (.getfield 67, 3) := dqn_180 (k := 24) qh_cX10_hear rfl rfl rfl
theorem dX10_hear_61 : decode cX10_hear 61 = .ok (.iload_n 3, 1) := dqn_29 (k := 23) qh_cX10_hear rfl rfl
theorem dX10_hear_62 : decode cX10_hear 62 = .ok (.bipush 12, 2) := dqn_16 (k := 21) (u := 12) qh_cX10_hear rfl rfl rfl (by decide)
theorem dX10_hear_64 : decode cX10_hear 64 = .ok (.iload 4, 2) := dqn_21 (k := 19) qh_cX10_hear rfl rfl rfl
theorem dX10_hear_66 : decode cX10_hear 66 = .ok (.invokevirtual 255, 3) := dqn_182 (k := 16) qh_cX10_hear rfl rfl rfl
theorem dX10_hear_69 : decode cX10_hear 69 = .ok (.lload 5, 2) := dqn_22 (k := 14) qh_cX10_hear rfl rfl rfl
theorem dX10_hear_71 : decode cX10_hear 71 = .ok (.aload_n 0, 1) := dqn_42 (k := 13) qh_cX10_hear rfl rfl
theorem dX10_hear_72 : decode cX10_hear 72 = .ok (.getfield 63, 3) := dqn_180 (k := 10) qh_cX10_hear rfl rfl rfl
theorem dX10_hear_75 : decode cX10_hear 75 = .ok (.aload_n 0, 1) := dqn_42 (k := 9) qh_cX10_hear rfl rfl
theorem dX10_hear_76 : decode cX10_hear 76 = .ok (.getfield 67, 3) := dqn_180 (k := 6) qh_cX10_hear rfl rfl rfl
theorem dX10_hear_79 : decode cX10_hear 79 = .ok (.iconst (-1), 1) := dqn_2 (k := 5) qh_cX10_hear rfl rfl
theorem dX10_hear_80 : decode cX10_hear 80 = .ok (.invokevirtual 248, 3) := dqn_182 (k := 2) qh_cX10_hear rfl rfl rfl
theorem dX10_hear_83 : decode cX10_hear 83 = .ok (.lsub, 1) := dqn_101 (k := 1) qh_cX10_hear rfl rfl
theorem dX10_hear_84 : decode cX10_hear 84 = .ok (.lreturn, 1) := dqn_173 (k := 0) qh_cX10_hear rfl rfl
theorem dX10_may_0 : decode cX10_may 0 = .ok (.aload_n 0, 1) := dqn_42 (k := 56) qh_cX10_may rfl rfl
theorem dX10_may_1 : decode cX10_may 1 = .ok (.iload_n 1, 1) := dqn_27 (k := 55) qh_cX10_may rfl rfl
theorem dX10_may_2 : decode cX10_may 2 = .ok (.iload_n 2, 1) := dqn_28 (k := 54) qh_cX10_may rfl rfl
theorem dX10_may_3 : decode cX10_may 3 = .ok (.iload_n 3, 1) := dqn_29 (k := 53) qh_cX10_may rfl rfl
theorem dX10_may_4 : decode cX10_may 4 = .ok (.invokevirtual 259, 3) := dqn_182 (k := 50) qh_cX10_may rfl rfl rfl
theorem dX10_may_7 : decode cX10_may 7 = .ok (.ifCond .ne 7, 3) := dqn_154 (k := 47) (u := 7) qh_cX10_may rfl rfl rfl (sg_p rfl rfl)
theorem dX10_may_10 : decode cX10_may 10 = .ok (.ldc2_w 159, 3) := dqn_20 (k := 44) qh_cX10_may rfl rfl rfl
theorem dX10_may_13 : decode cX10_may 13 = .ok (.lreturn, 1) := dqn_173 (k := 43) qh_cX10_may rfl rfl
theorem dX10_may_14 : decode cX10_may 14 = .ok (.aload_n 0, 1) := dqn_42 (k := 42) qh_cX10_may rfl rfl
theorem dX10_may_15 : decode cX10_may 15 = .ok (.getfield 55, 3) := dqn_180 (k := 39) qh_cX10_may rfl rfl rfl
theorem dX10_may_18 : decode cX10_may 18 = .ok (.aload_n 0, 1) := dqn_42 (k := 38) qh_cX10_may rfl rfl
theorem dX10_may_19 : decode cX10_may 19 = .ok (.getfield 34, 3) := dqn_180 (k := 35) qh_cX10_may rfl rfl rfl
theorem dX10_may_22 : decode cX10_may 22 = .ok (.getfield 118, 3) := dqn_180 (k := 32) qh_cX10_may rfl rfl rfl
theorem dX10_may_25 : decode cX10_may 25 = .ok (.iload_n 3, 1) := dqn_29 (k := 31) qh_cX10_may rfl rfl
theorem dX10_may_26 : decode cX10_may 26 = .ok (.invokevirtual 262, 3) := dqn_182 (k := 28) qh_cX10_may rfl rfl rfl
theorem dX10_may_29 : decode cX10_may 29 = .ok (.iload 4, 2) := dqn_21 (k := 26) qh_cX10_may rfl rfl rfl
theorem dX10_may_31 : decode cX10_may 31 = .ok (.ifCond .eq 11, 3) := dqn_153 (k := 23) (u := 11) qh_cX10_may rfl rfl rfl (sg_p rfl rfl)
theorem dX10_may_34 : decode cX10_may 34 = .ok (.aload_n 0, 1) := dqn_42 (k := 22) qh_cX10_may rfl rfl
theorem dX10_may_35 : decode cX10_may 35 = .ok (.getfield 55, 3) := dqn_180 (k := 19) qh_cX10_may rfl rfl rfl
theorem dX10_may_38 : decode cX10_may 38 = .ok (.invokevirtual 266, 3) := dqn_182 (k := 16) qh_cX10_may rfl rfl rfl
theorem dX10_may_41 : decode cX10_may 41 = .ok (.lreturn, 1) := dqn_173 (k := 15) qh_cX10_may rfl rfl
theorem dX10_may_42 : decode cX10_may 42 = .ok (.aload_n 0, 1) := dqn_42 (k := 14) qh_cX10_may rfl rfl
theorem dX10_may_43 : decode cX10_may 43 = .ok (.getfield 55, 3) := dqn_180 (k := 11) qh_cX10_may rfl rfl rfl
theorem dX10_may_46 : decode cX10_may 46 = .ok (.invokevirtual 270, 3) := dqn_182 (k := 8) qh_cX10_may rfl rfl rfl
theorem dX10_may_49 : decode cX10_may 49 = .ok (.aload_n 0, 1) := dqn_42 (k := 7) qh_cX10_may rfl rfl
theorem dX10_may_50 : decode cX10_may 50 = .ok (.getfield 55, 3) := dqn_180 (k := 4) qh_cX10_may rfl rfl rfl
theorem dX10_may_53 : decode cX10_may 53 = .ok (.getfield 229, 3) := dqn_180 (k := 1) qh_cX10_may rfl rfl rfl
theorem dX10_may_56 : decode cX10_may 56 = .ok (.lreturn, 1) := dqn_173 (k := 0) qh_cX10_may rfl rfl
theorem dX10_order_0 : decode cX10_order 0 = .ok (.aload_n 0, 1) := dqn_42 (k := 57) qh_cX10_order rfl rfl
theorem dX10_order_1 : decode cX10_order 1 = .ok (.iload_n 1, 1) := dqn_27 (k := 56) qh_cX10_order rfl rfl
theorem dX10_order_2 : decode cX10_order 2 = .ok (.iload_n 2, 1) := dqn_28 (k := 55) qh_cX10_order rfl rfl
theorem dX10_order_3 : decode cX10_order 3 = .ok (.iload_n 3, 1) := dqn_29 (k := 54) qh_cX10_order rfl rfl
theorem dX10_order_4 : decode cX10_order 4 = .ok (.invokevirtual 259, 3) := dqn_182 (k := 51) qh_cX10_order rfl rfl rfl
theorem dX10_order_7 : decode cX10_order 7 = .ok (.ifCond .eq 17, 3) := dqn_153 (k := 48) (u := 17) qh_cX10_order rfl rfl rfl (sg_p rfl rfl)
theorem dX10_order_10 : decode cX10_order 10 = .ok (.iload 4, 2) := dqn_21 (k := 46) qh_cX10_order rfl rfl rfl
theorem dX10_order_12 : decode cX10_order 12 = .ok (.ifCond .lt 12, 3) := dqn_155 (k := 43) (u := 12) qh_cX10_order rfl rfl rfl (sg_p rfl rfl)
theorem dX10_order_15 : decode cX10_order 15 = .ok (.iload 4, 2) := dqn_21 (k := 41) qh_cX10_order rfl rfl rfl
theorem dX10_order_17 : decode cX10_order 17 = .ok (.iload_n 3, 1) := dqn_29 (k := 40) qh_cX10_order rfl rfl
theorem dX10_order_18 : decode cX10_order 18 = .ok (.invokestatic 199, 3) := dqn_184 (k := 37) qh_cX10_order rfl rfl rfl
theorem dX10_order_21 : decode cX10_order 21 = .ok (.if_icmp .lt 5, 3) := dqn_161 (k := 34) (u := 5) qh_cX10_order rfl rfl rfl (sg_p rfl rfl)
theorem dX10_order_24 : decode cX10_order 24 = .ok (.iconst (-1), 1) := dqn_2 (k := 33) qh_cX10_order rfl rfl
theorem dX10_order_25 : decode cX10_order 25 = .ok (.ireturn, 1) := dqn_172 (k := 32) qh_cX10_order rfl rfl
theorem dX10_order_26 : decode cX10_order 26 = .ok (.aload_n 0, 1) := dqn_42 (k := 31) qh_cX10_order rfl rfl
theorem dX10_order_27 : decode cX10_order 27 = .ok (.getfield 55, 3) := dqn_180 (k := 28) qh_cX10_order rfl rfl rfl
theorem dX10_order_30 : decode cX10_order 30 = .ok (.aload_n 0, 1) := dqn_42 (k := 27) qh_cX10_order rfl rfl
theorem dX10_order_31 : decode cX10_order 31 = .ok (.getfield 34, 3) := dqn_180 (k := 24) qh_cX10_order rfl rfl rfl
theorem dX10_order_34 : decode cX10_order 34 = .ok (.getfield 118, 3) := dqn_180 (k := 21) qh_cX10_order rfl rfl rfl
theorem dX10_order_37 : decode cX10_order 37 = .ok (.iload_n 3, 1) := dqn_29 (k := 20) qh_cX10_order rfl rfl
theorem dX10_order_38 : decode cX10_order 38 = .ok (.invokevirtual 262, 3) := dqn_182 (k := 17) qh_cX10_order rfl rfl rfl
theorem dX10_order_41 : decode cX10_order 41 = .ok (.aload_n 0, 1) := dqn_42 (k := 16) qh_cX10_order rfl rfl
theorem dX10_order_42 : decode cX10_order 42 = .ok (.getfield 55, 3) := dqn_180 (k := 13) qh_cX10_order rfl rfl rfl
theorem dX10_order_45 : decode cX10_order 45 = .ok (.invokevirtual 270, 3) := dqn_182 (k := 10) qh_cX10_order rfl rfl rfl
theorem dX10_order_48 : decode cX10_order 48 = .ok (.aload_n 0, 1) := dqn_42 (k := 9) qh_cX10_order rfl rfl
theorem dX10_order_49 : decode cX10_order 49 = .ok (.getfield 55, 3) := dqn_180 (k := 6) qh_cX10_order rfl rfl rfl
theorem dX10_order_52 : decode cX10_order 52 = .ok (.iload 4, 2) := dqn_21 (k := 4) qh_cX10_order rfl rfl rfl
theorem dX10_order_54 : decode cX10_order 54 = .ok (.invokevirtual 273, 3) := dqn_182 (k := 1) qh_cX10_order rfl rfl rfl
theorem dX10_order_57 : decode cX10_order 57 = .ok (.ireturn, 1) := dqn_172 (k := 0) qh_cX10_order rfl rfl
theorem dX10_think_0 : decode cX10_think 0 = .ok (.aload_n 0, 1) := dqn_42 (k := 50) qh_cX10_think rfl rfl
theorem dX10_think_1 : decode cX10_think 1 = .ok (.iload_n 1, 1) := dqn_27 (k := 49) qh_cX10_think rfl rfl
theorem dX10_think_2 : decode cX10_think 2 = .ok (.iload_n 2, 1) := dqn_28 (k := 48) qh_cX10_think rfl rfl
theorem dX10_think_3 : decode cX10_think 3 = .ok (.iload_n 3, 1) := dqn_29 (k := 47) qh_cX10_think rfl rfl
theorem dX10_think_4 : decode cX10_think 4 = .ok (.invokevirtual 236, 3) := dqn_182 (k := 44) qh_cX10_think rfl rfl rfl
theorem dX10_think_7 : decode cX10_think 7 = .ok (.ifCond .ne 5, 3) := dqn_154 (k := 41) (u := 5) qh_cX10_think rfl rfl rfl (sg_p rfl rfl)
theorem dX10_think_10 : decode cX10_think 10 = .ok (.iconst (-1), 1) := dqn_2 (k := 40) qh_cX10_think rfl rfl
theorem dX10_think_11 : decode cX10_think 11 = .ok (.ireturn, 1) := dqn_172 (k := 39) qh_cX10_think rfl rfl
theorem dX10_think_12 : decode cX10_think 12 = .ok (.aload_n 0, 1) := dqn_42 (k := 38) qh_cX10_think rfl rfl
theorem dX10_think_13 : decode cX10_think 13 = .ok (.getfield 34, 3) := dqn_180 (k := 35) qh_cX10_think rfl rfl rfl
theorem dX10_think_16 : decode cX10_think 16 = .ok (.getfield 118, 3) := dqn_180 (k := 32) qh_cX10_think rfl rfl rfl
theorem dX10_think_19 : decode cX10_think 19 = .ok (.iload_n 3, 1) := dqn_29 (k := 31) qh_cX10_think rfl rfl
theorem dX10_think_20 : decode cX10_think 20 = .ok (.invokevirtual 276, 3) := dqn_182 (k := 28) qh_cX10_think rfl rfl rfl
theorem dX10_think_23 : decode cX10_think 23 = .ok (.istore 5, 2) := dqn_54 (k := 26) qh_cX10_think rfl rfl rfl
theorem dX10_think_25 : decode cX10_think 25 = .ok (.aload_n 0, 1) := dqn_42 (k := 25) qh_cX10_think rfl rfl
theorem dX10_think_26 : decode cX10_think 26 = .ok (.getfield 34, 3) := dqn_180 (k := 22) qh_cX10_think rfl rfl rfl
theorem dX10_think_29 : decode cX10_think 29 = .ok (.getfield 118, 3) := dqn_180 (k := 19) qh_cX10_think rfl rfl rfl
theorem dX10_think_32 : decode cX10_think 32 = .ok (.iload_n 3, 1) := dqn_29 (k := 18) qh_cX10_think rfl rfl
theorem dX10_think_33 : decode cX10_think 33 = .ok (.invokevirtual 279, 3) := dqn_182 (k := 15) qh_cX10_think rfl rfl rfl
theorem dX10_think_36 : decode cX10_think 36 = .ok (.istore 6, 2) := dqn_54 (k := 13) qh_cX10_think rfl rfl rfl
theorem dX10_think_38 : decode cX10_think 38 = .ok (.iload 5, 2) := dqn_21 (k := 11) qh_cX10_think rfl rfl rfl
theorem dX10_think_40 : decode cX10_think 40 = .ok (.i2l, 1) := dqn_133 (k := 10) qh_cX10_think rfl rfl
theorem dX10_think_41 : decode cX10_think 41 = .ok (.iload 6, 2) := dqn_21 (k := 8) qh_cX10_think rfl rfl rfl
theorem dX10_think_43 : decode cX10_think 43 = .ok (.i2l, 1) := dqn_133 (k := 7) qh_cX10_think rfl rfl
theorem dX10_think_44 : decode cX10_think 44 = .ok (.iload 4, 2) := dqn_21 (k := 5) qh_cX10_think rfl rfl rfl
theorem dX10_think_46 : decode cX10_think 46 = .ok (.invokestatic 282, 3) := dqn_184 (k := 2) qh_cX10_think rfl rfl rfl
theorem dX10_think_49 : decode cX10_think 49 = .ok (.l2i, 1) := dqn_136 (k := 1) qh_cX10_think rfl rfl
theorem dX10_think_50 : decode cX10_think 50 = .ok (.ireturn, 1) := dqn_172 (k := 0) qh_cX10_think rfl rfl
theorem dX10_now_0 : decode cX10_now 0 = .ok (.aload_n 0, 1) := dqn_42 (k := 27) qh_cX10_now rfl rfl
theorem dX10_now_1 : decode cX10_now 1 = .ok (.iload_n 1, 1) := dqn_27 (k := 26) qh_cX10_now rfl rfl
theorem dX10_now_2 : decode cX10_now 2 = .ok (.iload_n 2, 1) := dqn_28 (k := 25) qh_cX10_now rfl rfl
theorem dX10_now_3 : decode cX10_now 3 = .ok (.invokevirtual 114, 3) := dqn_182 (k := 22) qh_cX10_now rfl rfl rfl
theorem dX10_now_6 : decode cX10_now 6 = .ok (.ifCond .eq 20, 3) := dqn_153 (k := 19) (u := 20) qh_cX10_now rfl rfl rfl (sg_p rfl rfl)
theorem dX10_now_9 : decode cX10_now 9 = .ok (.aload_n 0, 1) := dqn_42 (k := 18) qh_cX10_now rfl rfl
theorem dX10_now_10 : decode cX10_now 10 = .ok (.getfield 55, 3) := dqn_180 (k := 15) qh_cX10_now rfl rfl rfl
theorem dX10_now_13 : decode cX10_now 13 = .ok (.aload_n 0, 1) := dqn_42 (k := 14) qh_cX10_now rfl rfl
theorem dX10_now_14 : decode cX10_now 14 = .ok (.getfield 34, 3) := dqn_180 (k := 11) qh_cX10_now rfl rfl rfl
theorem dX10_now_17 : decode cX10_now 17 = .ok (.getfield 118, 3) := dqn_180 (k := 8) qh_cX10_now rfl rfl rfl
theorem dX10_now_20 : decode cX10_now 20 = .ok (.invokevirtual 286, 3) := dqn_182 (k := 5) qh_cX10_now rfl rfl rfl
theorem dX10_now_23 : decode cX10_now 23 = .ok (.goto 4, 3) := dqn_167 (k := 2) (u := 4) qh_cX10_now rfl rfl rfl (sg_p rfl rfl)
theorem dX10_now_26 : decode cX10_now 26 = .ok (.iconst (-1), 1) := dqn_2 (k := 1) qh_cX10_now rfl rfl
theorem dX10_now_27 : decode cX10_now 27 = .ok (.ireturn, 1) := dqn_172 (k := 0) qh_cX10_now rfl rfl
theorem dX10_spared_0 : decode cX10_spared 0 = .ok (.aload_n 0, 1) := dqn_42 (k := 100) qh_cX10_spared rfl rfl
theorem dX10_spared_1 : decode cX10_spared 1 = .ok (.iload_n 1, 1) := dqn_27 (k := 99) qh_cX10_spared rfl rfl
theorem dX10_spared_2 : decode cX10_spared 2 = .ok (.iload_n 2, 1) := dqn_28 (k := 98) qh_cX10_spared rfl rfl
theorem dX10_spared_3 : decode cX10_spared 3 = .ok (.invokevirtual 114, 3) := dqn_182 (k := 95) qh_cX10_spared rfl rfl rfl
theorem dX10_spared_6 : decode cX10_spared 6 = .ok (.ifCond .eq 17, 3) := dqn_153 (k := 92) (u := 17) qh_cX10_spared rfl rfl rfl (sg_p rfl rfl)
theorem dX10_spared_9 : decode cX10_spared 9 = .ok (.aload_n 0, 1) := dqn_42 (k := 91) qh_cX10_spared rfl rfl
theorem dX10_spared_10 : decode cX10_spared 10 = .ok (.getfield 34, 3) := dqn_180 (k := 88) qh_cX10_spared rfl rfl rfl
theorem dX10_spared_13 : decode cX10_spared 13 = .ok (.getfield 118, 3) := dqn_180 (k := 85) qh_cX10_spared rfl rfl rfl
theorem dX10_spared_16 : decode cX10_spared 16 = .ok (.iload_n 3, 1) := dqn_29 (k := 84) qh_cX10_spared rfl rfl
theorem dX10_spared_17 : decode cX10_spared 17 = .ok (.invokevirtual 190, 3) := dqn_182 (k := 81) qh_cX10_spared rfl rfl rfl
theorem dX10_spared_20 : decode cX10_spared 20 = .ok (.ifCond .ne 5, 3) := dqn_154 (k := 78) (u := 5) qh_cX10_spared rfl rfl rfl (sg_p rfl rfl)
theorem dX10_spared_23 : decode cX10_spared 23 = .ok (.iconst (-1), 1) := dqn_2 (k := 77) qh_cX10_spared rfl rfl
theorem dX10_spared_24 : decode cX10_spared 24 = .ok (.ireturn, 1) := dqn_172 (k := 76) qh_cX10_spared rfl rfl
theorem dX10_spared_25 : decode cX10_spared 25 = .ok (.iconst 0, 1) := dqn_3 (k := 75) qh_cX10_spared rfl rfl
theorem dX10_spared_26 : decode cX10_spared 26 = .ok (.istore 4, 2) := dqn_54 (k := 73) qh_cX10_spared rfl rfl rfl
theorem dX10_spared_28 : decode cX10_spared 28 = .ok (.iconst 0, 1) := dqn_3 (k := 72) qh_cX10_spared rfl rfl
theorem dX10_spared_29 : decode cX10_spared 29 = .ok (.istore 5, 2) := dqn_54 (k := 70) qh_cX10_spared rfl rfl rfl
theorem dX10_spared_31 : decode cX10_spared 31 = .ok (.iload 5, 2) := dqn_21 (k := 68) qh_cX10_spared rfl rfl rfl
theorem dX10_spared_33 : decode cX10_spared 33 = .ok (.aload_n 0, 1) := dqn_42 (k := 67) qh_cX10_spared rfl rfl
theorem dX10_spared_34 : decode cX10_spared 34 = .ok (.getfield 34, 3) := dqn_180 (k := 64) qh_cX10_spared rfl rfl rfl
theorem dX10_spared_37 : decode cX10_spared 37 = .ok (.getfield 118, 3) := dqn_180 (k := 61) qh_cX10_spared rfl rfl rfl
theorem dX10_spared_40 : decode cX10_spared 40 = .ok (.invokevirtual 173, 3) := dqn_182 (k := 58) qh_cX10_spared rfl rfl rfl
theorem dX10_spared_43 : decode cX10_spared 43 = .ok (.if_icmp .gt 55, 3) := dqn_163 (k := 55) (u := 55) qh_cX10_spared rfl rfl rfl (sg_p rfl rfl)
theorem dX10_spared_46 : decode cX10_spared 46 = .ok (.aload_n 0, 1) := dqn_42 (k := 54) qh_cX10_spared rfl rfl
theorem dX10_spared_47 : decode cX10_spared 47 = .ok (.getfield 48, 3) := dqn_180 (k := 51) qh_cX10_spared rfl rfl rfl
theorem dX10_spared_50 : decode cX10_spared 50 = .ok (.aload_n 0, 1) := dqn_42 (k := 50) qh_cX10_spared rfl rfl
theorem dX10_spared_51 : decode cX10_spared 51 = .ok (.getfield 34, 3) := dqn_180 (k := 47) qh_cX10_spared rfl rfl rfl
theorem dX10_spared_54 : decode cX10_spared 54 = .ok (.getfield 118, 3) := dqn_180 (k := 44) qh_cX10_spared rfl rfl rfl
theorem dX10_spared_57 : decode cX10_spared 57 = .ok (.aload_n 0, 1) := dqn_42 (k := 43) qh_cX10_spared rfl rfl
theorem dX10_spared_58 : decode cX10_spared 58 = .ok (.getfield 34, 3) := dqn_180 (k := 40) qh_cX10_spared rfl rfl rfl
theorem dX10_spared_61 : decode cX10_spared 61 = .ok (.getfield 118, 3) := dqn_180 (k := 37) qh_cX10_spared rfl rfl rfl
theorem dX10_spared_64 : decode cX10_spared 64 = .ok (.iload_n 3, 1) := dqn_29 (k := 36) qh_cX10_spared rfl rfl
theorem dX10_spared_65 : decode cX10_spared 65 = .ok (.invokevirtual 148, 3) := dqn_182 (k := 33) qh_cX10_spared rfl rfl rfl
theorem dX10_spared_68 : decode cX10_spared 68 = .ok (.iload 5, 2) := dqn_21 (k := 31) qh_cX10_spared rfl rfl rfl
theorem dX10_spared_70 : decode cX10_spared 70 = .ok (.iconst (-1), 1) := dqn_2 (k := 30) qh_cX10_spared rfl rfl
theorem dX10_spared_71 : decode cX10_spared 71 = .ok (.invokevirtual 151, 3) := dqn_182 (k := 27) qh_cX10_spared rfl rfl rfl
theorem dX10_spared_74 : decode cX10_spared 74 = .ok (.aload_n 0, 1) := dqn_42 (k := 26) qh_cX10_spared rfl rfl
theorem dX10_spared_75 : decode cX10_spared 75 = .ok (.getfield 48, 3) := dqn_180 (k := 23) qh_cX10_spared rfl rfl rfl
theorem dX10_spared_78 : decode cX10_spared 78 = .ok (.getfield 193, 3) := dqn_180 (k := 20) qh_cX10_spared rfl rfl rfl
theorem dX10_spared_81 : decode cX10_spared 81 = .ok (.iload 5, 2) := dqn_21 (k := 18) qh_cX10_spared rfl rfl rfl
theorem dX10_spared_83 : decode cX10_spared 83 = .ok (.iconst (-1), 1) := dqn_2 (k := 17) qh_cX10_spared rfl rfl
theorem dX10_spared_84 : decode cX10_spared 84 = .ok (.ixor, 1) := dqn_130 (k := 16) qh_cX10_spared rfl rfl
theorem dX10_spared_85 : decode cX10_spared 85 = .ok (.iand, 1) := dqn_126 (k := 15) qh_cX10_spared rfl rfl
theorem dX10_spared_86 : decode cX10_spared 86 = .ok (.ifCond .ne 6, 3) := dqn_154 (k := 12) (u := 6) qh_cX10_spared rfl rfl rfl (sg_p rfl rfl)
theorem dX10_spared_89 : decode cX10_spared 89 = .ok (.iinc 4 1, 3) := dqn_132 (k := 9) (u := 1) qh_cX10_spared rfl rfl rfl rfl (by decide)
theorem dX10_spared_92 : decode cX10_spared 92 = .ok (.iinc 5 1, 3) := dqn_132 (k := 6) (u := 1) qh_cX10_spared rfl rfl rfl rfl (by decide)
theorem dX10_spared_95 : decode cX10_spared 95 = .ok (.goto (-64), 3) := dqn_167 (k := 3) (u := 65472) qh_cX10_spared rfl rfl rfl (sg_n (k := 64) rfl rfl rfl)
theorem dX10_spared_98 : decode cX10_spared 98 = .ok (.iload 4, 2) := dqn_21 (k := 1) qh_cX10_spared rfl rfl rfl
theorem dX10_spared_100 : decode cX10_spared 100 = .ok (.ireturn, 1) := dqn_172 (k := 0) qh_cX10_spared rfl rfl
theorem dX10_deep_0 : decode cX10_deep 0 = .ok (.aload_n 0, 1) := dqn_42 (k := 20) qh_cX10_deep rfl rfl
theorem dX10_deep_1 : decode cX10_deep 1 = .ok (.iload_n 1, 1) := dqn_27 (k := 19) qh_cX10_deep rfl rfl
theorem dX10_deep_2 : decode cX10_deep 2 = .ok (.iload_n 2, 1) := dqn_28 (k := 18) qh_cX10_deep rfl rfl
theorem dX10_deep_3 : decode cX10_deep 3 = .ok (.invokevirtual 156, 3) := dqn_182 (k := 15) qh_cX10_deep rfl rfl rfl
theorem dX10_deep_6 : decode cX10_deep 6 = .ok (.ifCond .eq 13, 3) := dqn_153 (k := 12) (u := 13) qh_cX10_deep rfl rfl rfl (sg_p rfl rfl)
theorem dX10_deep_9 : decode cX10_deep 9 = .ok (.aload_n 0, 1) := dqn_42 (k := 11) qh_cX10_deep rfl rfl
theorem dX10_deep_10 : decode cX10_deep 10 = .ok (.getfield 63, 3) := dqn_180 (k := 8) qh_cX10_deep rfl rfl rfl
theorem dX10_deep_13 : decode cX10_deep 13 = .ok (.invokevirtual 298, 3) := dqn_182 (k := 5) qh_cX10_deep rfl rfl rfl
theorem dX10_deep_16 : decode cX10_deep 16 = .ok (.goto 4, 3) := dqn_167 (k := 2) (u := 4) qh_cX10_deep rfl rfl rfl (sg_p rfl rfl)
theorem dX10_deep_19 : decode cX10_deep 19 = .ok (.iconst (-1), 1) := dqn_2 (k := 1) qh_cX10_deep rfl rfl
theorem dX10_deep_20 : decode cX10_deep 20 = .ok (.ireturn, 1) := dqn_172 (k := 0) qh_cX10_deep rfl rfl
theorem dX10_safe_0 : decode cX10_safe 0 = .ok (.aload_n 0, 1) := dqn_42 (k := 54) qh_cX10_safe rfl rfl
theorem dX10_safe_1 : decode cX10_safe 1 = .ok (.iload_n 1, 1) := dqn_27 (k := 53) qh_cX10_safe rfl rfl
theorem dX10_safe_2 : decode cX10_safe 2 = .ok (.iload_n 2, 1) := dqn_28 (k := 52) qh_cX10_safe rfl rfl
theorem dX10_safe_3 : decode cX10_safe 3 = .ok (.invokevirtual 114, 3) := dqn_182 (k := 49) qh_cX10_safe rfl rfl rfl
theorem dX10_safe_6 : decode cX10_safe 6 = .ok (.ifCond .ne 5, 3) := dqn_154 (k := 46) (u := 5) qh_cX10_safe rfl rfl rfl (sg_p rfl rfl)
theorem dX10_safe_9 : decode cX10_safe 9 = .ok (.iconst (-1), 1) := dqn_2 (k := 45) qh_cX10_safe rfl rfl
theorem dX10_safe_10 : decode cX10_safe 10 = .ok (.ireturn, 1) := dqn_172 (k := 44) qh_cX10_safe rfl rfl
theorem dX10_safe_11 : decode cX10_safe 11 = .ok (.bipush 9, 2) := dqn_16 (k := 42) (u := 9) qh_cX10_safe rfl rfl rfl (by decide)
theorem dX10_safe_13 : decode cX10_safe 13 = .ok (.istore_n 3, 1) := dqn_62 (k := 41) qh_cX10_safe rfl rfl
theorem dX10_safe_14 : decode cX10_safe 14 = .ok (.iload_n 3, 1) := dqn_29 (k := 40) qh_cX10_safe rfl rfl
theorem dX10_safe_15 : decode cX10_safe 15 = .ok (.ifCond .lt 38, 3) := dqn_155 (k := 37) (u := 38) qh_cX10_safe rfl rfl rfl (sg_p rfl rfl)
theorem dX10_safe_18 : decode cX10_safe 18 = .ok (.aload_n 0, 1) := dqn_42 (k := 36) qh_cX10_safe rfl rfl
theorem dX10_safe_19 : decode cX10_safe 19 = .ok (.getfield 48, 3) := dqn_180 (k := 33) qh_cX10_safe rfl rfl rfl
theorem dX10_safe_22 : decode cX10_safe 22 = .ok (.aload_n 0, 1) := dqn_42 (k := 32) qh_cX10_safe rfl rfl
theorem dX10_safe_23 : decode cX10_safe 23 = .ok (.getfield 34, 3) := dqn_180 (k := 29) qh_cX10_safe rfl rfl rfl
theorem dX10_safe_26 : decode cX10_safe 26 = .ok (.getfield 118, 3) := dqn_180 (k := 26) qh_cX10_safe rfl rfl rfl
theorem dX10_safe_29 : decode cX10_safe 29 = .ok (.iload_n 3, 1) := dqn_29 (k := 25) qh_cX10_safe rfl rfl
theorem dX10_safe_30 : decode cX10_safe 30 = .ok (.iconst 0, 1) := dqn_3 (k := 24) qh_cX10_safe rfl rfl
theorem dX10_safe_31 : decode cX10_safe 31 = .ok (.iconst (-1), 1) := dqn_2 (k := 23) qh_cX10_safe rfl rfl
theorem dX10_safe_32 : decode cX10_safe 32 = .ok (.invokevirtual 151, 3) := dqn_182 (k := 20) qh_cX10_safe rfl rfl rfl
theorem dX10_safe_35 : decode cX10_safe 35 = .ok (.aload_n 0, 1) := dqn_42 (k := 19) qh_cX10_safe rfl rfl
theorem dX10_safe_36 : decode cX10_safe 36 = .ok (.getfield 48, 3) := dqn_180 (k := 16) qh_cX10_safe rfl rfl rfl
theorem dX10_safe_39 : decode cX10_safe 39 = .ok (.getfield 193, 3) := dqn_180 (k := 13) qh_cX10_safe rfl rfl rfl
theorem dX10_safe_42 : decode cX10_safe 42 = .ok (.ifCond .ne 5, 3) := dqn_154 (k := 10) (u := 5) qh_cX10_safe rfl rfl rfl (sg_p rfl rfl)
theorem dX10_safe_45 : decode cX10_safe 45 = .ok (.iload_n 3, 1) := dqn_29 (k := 9) qh_cX10_safe rfl rfl
theorem dX10_safe_46 : decode cX10_safe 46 = .ok (.ireturn, 1) := dqn_172 (k := 8) qh_cX10_safe rfl rfl
theorem dX10_safe_47 : decode cX10_safe 47 = .ok (.iinc 3 (-1), 3) := dqn_132 (k := 5) (u := 255) qh_cX10_safe rfl rfl rfl rfl (by decide)
theorem dX10_safe_50 : decode cX10_safe 50 = .ok (.goto (-36), 3) := dqn_167 (k := 2) (u := 65500) qh_cX10_safe rfl rfl rfl (sg_n (k := 36) rfl rfl rfl)
theorem dX10_safe_53 : decode cX10_safe 53 = .ok (.iconst (-1), 1) := dqn_2 (k := 1) qh_cX10_safe rfl rfl
theorem dX10_safe_54 : decode cX10_safe 54 = .ok (.ireturn, 1) := dqn_172 (k := 0) qh_cX10_safe rfl rfl
theorem dX10_weighs_0 : decode cX10_weighs 0 = .ok (.aload_n 0, 1) := dqn_42 (k := 27) qh_cX10_weighs rfl rfl
theorem dX10_weighs_1 : decode cX10_weighs 1 = .ok (.iload_n 1, 1) := dqn_27 (k := 26) qh_cX10_weighs rfl rfl
theorem dX10_weighs_2 : decode cX10_weighs 2 = .ok (.iload_n 2, 1) := dqn_28 (k := 25) qh_cX10_weighs rfl rfl
theorem dX10_weighs_3 : decode cX10_weighs 3 = .ok (.invokevirtual 114, 3) := dqn_182 (k := 22) qh_cX10_weighs rfl rfl rfl
theorem dX10_weighs_6 : decode cX10_weighs 6 = .ok (.ifCond .eq 20, 3) := dqn_153 (k := 19) (u := 20) qh_cX10_weighs rfl rfl rfl (sg_p rfl rfl)
theorem dX10_weighs_9 : decode cX10_weighs 9 = .ok (.aload_n 0, 1) := dqn_42 (k := 18) qh_cX10_weighs rfl rfl
theorem dX10_weighs_10 : decode cX10_weighs 10 = .ok (.getfield 55, 3) := dqn_180 (k := 15) qh_cX10_weighs rfl rfl rfl
theorem dX10_weighs_13 : decode cX10_weighs 13 = .ok (.aload_n 0, 1) := dqn_42 (k := 14) qh_cX10_weighs rfl rfl
theorem dX10_weighs_14 : decode cX10_weighs 14 = .ok (.getfield 34, 3) := dqn_180 (k := 11) qh_cX10_weighs rfl rfl rfl
theorem dX10_weighs_17 : decode cX10_weighs 17 = .ok (.getfield 118, 3) := dqn_180 (k := 8) qh_cX10_weighs rfl rfl rfl
theorem dX10_weighs_20 : decode cX10_weighs 20 = .ok (.invokevirtual 301, 3) := dqn_182 (k := 5) qh_cX10_weighs rfl rfl rfl
theorem dX10_weighs_23 : decode cX10_weighs 23 = .ok (.goto 4, 3) := dqn_167 (k := 2) (u := 4) qh_cX10_weighs rfl rfl rfl (sg_p rfl rfl)
theorem dX10_weighs_26 : decode cX10_weighs 26 = .ok (.iconst (-1), 1) := dqn_2 (k := 1) qh_cX10_weighs rfl rfl
theorem dX10_weighs_27 : decode cX10_weighs 27 = .ok (.ireturn, 1) := dqn_172 (k := 0) qh_cX10_weighs rfl rfl
theorem dX10_upon_0 : decode cX10_upon 0 = .ok (.aload_n 0, 1) := dqn_42 (k := 42) qh_cX10_upon rfl rfl
theorem dX10_upon_1 : decode cX10_upon 1 = .ok (.iload_n 1, 1) := dqn_27 (k := 41) qh_cX10_upon rfl rfl
theorem dX10_upon_2 : decode cX10_upon 2 = .ok (.iload_n 2, 1) := dqn_28 (k := 40) qh_cX10_upon rfl rfl
theorem dX10_upon_3 : decode cX10_upon 3 = .ok (.iload_n 3, 1) := dqn_29 (k := 39) qh_cX10_upon rfl rfl
theorem dX10_upon_4 : decode cX10_upon 4 = .ok (.invokevirtual 236, 3) := dqn_182 (k := 36) qh_cX10_upon rfl rfl rfl
theorem dX10_upon_7 : decode cX10_upon 7 = .ok (.ifCond .ne 5, 3) := dqn_154 (k := 33) (u := 5) qh_cX10_upon rfl rfl rfl (sg_p rfl rfl)
theorem dX10_upon_10 : decode cX10_upon 10 = .ok (.iconst (-1), 1) := dqn_2 (k := 32) qh_cX10_upon rfl rfl
theorem dX10_upon_11 : decode cX10_upon 11 = .ok (.ireturn, 1) := dqn_172 (k := 31) qh_cX10_upon rfl rfl
theorem dX10_upon_12 : decode cX10_upon 12 = .ok (.iload 4, 2) := dqn_21 (k := 29) qh_cX10_upon rfl rfl rfl
theorem dX10_upon_14 : decode cX10_upon 14 = .ok (.ifCond .eq 17, 3) := dqn_153 (k := 26) (u := 17) qh_cX10_upon rfl rfl rfl (sg_p rfl rfl)
theorem dX10_upon_17 : decode cX10_upon 17 = .ok (.aload_n 0, 1) := dqn_42 (k := 25) qh_cX10_upon rfl rfl
theorem dX10_upon_18 : decode cX10_upon 18 = .ok (.getfield 34, 3) := dqn_180 (k := 22) qh_cX10_upon rfl rfl rfl
theorem dX10_upon_21 : decode cX10_upon 21 = .ok (.getfield 118, 3) := dqn_180 (k := 19) qh_cX10_upon rfl rfl rfl
theorem dX10_upon_24 : decode cX10_upon 24 = .ok (.iload_n 3, 1) := dqn_29 (k := 18) qh_cX10_upon rfl rfl
theorem dX10_upon_25 : decode cX10_upon 25 = .ok (.invokevirtual 304, 3) := dqn_182 (k := 15) qh_cX10_upon rfl rfl rfl
theorem dX10_upon_28 : decode cX10_upon 28 = .ok (.goto 14, 3) := dqn_167 (k := 12) (u := 14) qh_cX10_upon rfl rfl rfl (sg_p rfl rfl)
theorem dX10_upon_31 : decode cX10_upon 31 = .ok (.aload_n 0, 1) := dqn_42 (k := 11) qh_cX10_upon rfl rfl
theorem dX10_upon_32 : decode cX10_upon 32 = .ok (.getfield 34, 3) := dqn_180 (k := 8) qh_cX10_upon rfl rfl rfl
theorem dX10_upon_35 : decode cX10_upon 35 = .ok (.getfield 118, 3) := dqn_180 (k := 5) qh_cX10_upon rfl rfl rfl
theorem dX10_upon_38 : decode cX10_upon 38 = .ok (.iload_n 3, 1) := dqn_29 (k := 4) qh_cX10_upon rfl rfl
theorem dX10_upon_39 : decode cX10_upon 39 = .ok (.invokevirtual 307, 3) := dqn_182 (k := 1) qh_cX10_upon rfl rfl rfl
theorem dX10_upon_42 : decode cX10_upon 42 = .ok (.ireturn, 1) := dqn_172 (k := 0) qh_cX10_upon rfl rfl
theorem dX10_runs_0 : decode cX10_runs 0 = .ok (.aload_n 0, 1) := dqn_42 (k := 64) qh_cX10_runs rfl rfl
theorem dX10_runs_1 : decode cX10_runs 1 = .ok (.iload_n 1, 1) := dqn_27 (k := 63) qh_cX10_runs rfl rfl
theorem dX10_runs_2 : decode cX10_runs 2 = .ok (.iload_n 2, 1) := dqn_28 (k := 62) qh_cX10_runs rfl rfl
theorem dX10_runs_3 : decode cX10_runs 3 = .ok (.iload_n 3, 1) := dqn_29 (k := 61) qh_cX10_runs rfl rfl
theorem dX10_runs_4 : decode cX10_runs 4 = .ok (.invokevirtual 236, 3) := dqn_182 (k := 58) qh_cX10_runs rfl rfl rfl
theorem dX10_runs_7 : decode cX10_runs 7 = .ok (.ifCond .ne 5, 3) := dqn_154 (k := 55) (u := 5) qh_cX10_runs rfl rfl rfl (sg_p rfl rfl)
theorem dX10_runs_10 : decode cX10_runs 10 = .ok (.iconst (-1), 1) := dqn_2 (k := 54) qh_cX10_runs rfl rfl
theorem dX10_runs_11 : decode cX10_runs 11 = .ok (.ireturn, 1) := dqn_172 (k := 53) qh_cX10_runs rfl rfl
theorem dX10_runs_12 : decode cX10_runs 12 = .ok (.iconst 0, 1) := dqn_3 (k := 52) qh_cX10_runs rfl rfl
theorem dX10_runs_13 : decode cX10_runs 13 = .ok (.istore 4, 2) := dqn_54 (k := 50) qh_cX10_runs rfl rfl rfl
theorem dX10_runs_15 : decode cX10_runs 15 = .ok (.iload 4, 2) := dqn_21 (k := 48) qh_cX10_runs rfl rfl rfl
theorem dX10_runs_17 : decode cX10_runs 17 = .ok (.bipush 9, 2) := dqn_16 (k := 46) (u := 9) qh_cX10_runs rfl rfl rfl (by decide)
theorem dX10_runs_19 : decode cX10_runs 19 = .ok (.if_icmp .gt 44, 3) := dqn_163 (k := 43) (u := 44) qh_cX10_runs rfl rfl rfl (sg_p rfl rfl)
theorem dX10_runs_22 : decode cX10_runs 22 = .ok (.aload_n 0, 1) := dqn_42 (k := 42) qh_cX10_runs rfl rfl
theorem dX10_runs_23 : decode cX10_runs 23 = .ok (.getfield 48, 3) := dqn_180 (k := 39) qh_cX10_runs rfl rfl rfl
theorem dX10_runs_26 : decode cX10_runs 26 = .ok (.aload_n 0, 1) := dqn_42 (k := 38) qh_cX10_runs rfl rfl
theorem dX10_runs_27 : decode cX10_runs 27 = .ok (.getfield 34, 3) := dqn_180 (k := 35) qh_cX10_runs rfl rfl rfl
theorem dX10_runs_30 : decode cX10_runs 30 = .ok (.getfield 118, 3) := dqn_180 (k := 32) qh_cX10_runs rfl rfl rfl
theorem dX10_runs_33 : decode cX10_runs 33 = .ok (.iload 4, 2) := dqn_21 (k := 30) qh_cX10_runs rfl rfl rfl
theorem dX10_runs_35 : decode cX10_runs 35 = .ok (.iconst 0, 1) := dqn_3 (k := 29) qh_cX10_runs rfl rfl
theorem dX10_runs_36 : decode cX10_runs 36 = .ok (.iconst (-1), 1) := dqn_2 (k := 28) qh_cX10_runs rfl rfl
theorem dX10_runs_37 : decode cX10_runs 37 = .ok (.invokevirtual 151, 3) := dqn_182 (k := 25) qh_cX10_runs rfl rfl rfl
theorem dX10_runs_40 : decode cX10_runs 40 = .ok (.aload_n 0, 1) := dqn_42 (k := 24) qh_cX10_runs rfl rfl
theorem dX10_runs_41 : decode cX10_runs 41 = .ok (.getfield 48, 3) := dqn_180 (k := 21) qh_cX10_runs rfl rfl rfl
theorem dX10_runs_44 : decode cX10_runs 44 = .ok (.getfield 193, 3) := dqn_180 (k := 18) qh_cX10_runs rfl rfl rfl
theorem dX10_runs_47 : decode cX10_runs 47 = .ok (.iload_n 3, 1) := dqn_29 (k := 17) qh_cX10_runs rfl rfl
theorem dX10_runs_48 : decode cX10_runs 48 = .ok (.invokestatic 196, 3) := dqn_184 (k := 14) qh_cX10_runs rfl rfl rfl
theorem dX10_runs_51 : decode cX10_runs 51 = .ok (.ifCond .eq 6, 3) := dqn_153 (k := 11) (u := 6) qh_cX10_runs rfl rfl rfl (sg_p rfl rfl)
theorem dX10_runs_54 : decode cX10_runs 54 = .ok (.iload 4, 2) := dqn_21 (k := 9) qh_cX10_runs rfl rfl rfl
theorem dX10_runs_56 : decode cX10_runs 56 = .ok (.ireturn, 1) := dqn_172 (k := 8) qh_cX10_runs rfl rfl
theorem dX10_runs_57 : decode cX10_runs 57 = .ok (.iinc 4 1, 3) := dqn_132 (k := 5) (u := 1) qh_cX10_runs rfl rfl rfl rfl (by decide)
theorem dX10_runs_60 : decode cX10_runs 60 = .ok (.goto (-45), 3) := dqn_167 (k := 2) (u := 65491) qh_cX10_runs rfl rfl rfl (sg_n (k := 45) rfl rfl rfl)
theorem dX10_runs_63 : decode cX10_runs 63 = .ok (.iconst (-1), 1) := dqn_2 (k := 1) qh_cX10_runs rfl rfl
theorem dX10_runs_64 : decode cX10_runs 64 = .ok (.ireturn, 1) := dqn_172 (k := 0) qh_cX10_runs rfl rfl
theorem dX10_joint_0 : decode cX10_joint 0 = .ok (.aload_n 0, 1) := dqn_42 (k := 59) qh_cX10_joint rfl rfl
theorem dX10_joint_1 : decode cX10_joint 1 = .ok (.iload_n 1, 1) := dqn_27 (k := 58) qh_cX10_joint rfl rfl
theorem dX10_joint_2 : decode cX10_joint 2 = .ok (.iload_n 2, 1) := dqn_28 (k := 57) qh_cX10_joint rfl rfl
theorem dX10_joint_3 : decode cX10_joint 3 = .ok (.invokevirtual 156, 3) := dqn_182 (k := 54) qh_cX10_joint rfl rfl rfl
theorem dX10_joint_6 : decode cX10_joint 6 = .ok (.ifCond .eq 32, 3) := dqn_153 (k := 51) (u := 32) qh_cX10_joint rfl rfl rfl (sg_p rfl rfl)
theorem dX10_joint_9 : decode cX10_joint 9 = .ok (.aload_n 0, 1) := dqn_42 (k := 50) qh_cX10_joint rfl rfl
theorem dX10_joint_10 : decode cX10_joint 10 = .ok (.getfield 34, 3) := dqn_180 (k := 47) qh_cX10_joint rfl rfl rfl
theorem dX10_joint_13 : decode cX10_joint 13 = .ok (.getfield 118, 3) := dqn_180 (k := 44) qh_cX10_joint rfl rfl rfl
theorem dX10_joint_16 : decode cX10_joint 16 = .ok (.iload_n 3, 1) := dqn_29 (k := 43) qh_cX10_joint rfl rfl
theorem dX10_joint_17 : decode cX10_joint 17 = .ok (.invokevirtual 121, 3) := dqn_182 (k := 40) qh_cX10_joint rfl rfl rfl
theorem dX10_joint_20 : decode cX10_joint 20 = .ok (.ifCond .eq 18, 3) := dqn_153 (k := 37) (u := 18) qh_cX10_joint rfl rfl rfl (sg_p rfl rfl)
theorem dX10_joint_23 : decode cX10_joint 23 = .ok (.aload_n 0, 1) := dqn_42 (k := 36) qh_cX10_joint rfl rfl
theorem dX10_joint_24 : decode cX10_joint 24 = .ok (.getfield 34, 3) := dqn_180 (k := 33) qh_cX10_joint rfl rfl rfl
theorem dX10_joint_27 : decode cX10_joint 27 = .ok (.getfield 118, 3) := dqn_180 (k := 30) qh_cX10_joint rfl rfl rfl
theorem dX10_joint_30 : decode cX10_joint 30 = .ok (.iload 4, 2) := dqn_21 (k := 28) qh_cX10_joint rfl rfl rfl
theorem dX10_joint_32 : decode cX10_joint 32 = .ok (.invokevirtual 121, 3) := dqn_182 (k := 25) qh_cX10_joint rfl rfl rfl
theorem dX10_joint_35 : decode cX10_joint 35 = .ok (.ifCond .ne 7, 3) := dqn_154 (k := 22) (u := 7) qh_cX10_joint rfl rfl rfl (sg_p rfl rfl)
theorem dX10_joint_38 : decode cX10_joint 38 = .ok (.ldc2_w 159, 3) := dqn_20 (k := 19) qh_cX10_joint rfl rfl rfl
theorem dX10_joint_41 : decode cX10_joint 41 = .ok (.lreturn, 1) := dqn_173 (k := 18) qh_cX10_joint rfl rfl
theorem dX10_joint_42 : decode cX10_joint 42 = .ok (.aload_n 0, 1) := dqn_42 (k := 17) qh_cX10_joint rfl rfl
theorem dX10_joint_43 : decode cX10_joint 43 = .ok (.getfield 63, 3) := dqn_180 (k := 14) qh_cX10_joint rfl rfl rfl
theorem dX10_joint_46 : decode cX10_joint 46 = .ok (.iload_n 3, 1) := dqn_29 (k := 13) qh_cX10_joint rfl rfl
theorem dX10_joint_47 : decode cX10_joint 47 = .ok (.invokestatic 161, 3) := dqn_184 (k := 10) qh_cX10_joint rfl rfl rfl
theorem dX10_joint_50 : decode cX10_joint 50 = .ok (.iload 4, 2) := dqn_21 (k := 8) qh_cX10_joint rfl rfl rfl
theorem dX10_joint_52 : decode cX10_joint 52 = .ok (.invokestatic 161, 3) := dqn_184 (k := 5) qh_cX10_joint rfl rfl rfl
theorem dX10_joint_55 : decode cX10_joint 55 = .ok (.ior, 1) := dqn_128 (k := 4) qh_cX10_joint rfl rfl
theorem dX10_joint_56 : decode cX10_joint 56 = .ok (.invokevirtual 164, 3) := dqn_182 (k := 1) qh_cX10_joint rfl rfl rfl
theorem dX10_joint_59 : decode cX10_joint 59 = .ok (.lreturn, 1) := dqn_173 (k := 0) qh_cX10_joint rfl rfl
theorem dX10_given_0 : decode cX10_given 0 = .ok (.aload_n 0, 1) := dqn_42 (k := 90) qh_cX10_given rfl rfl
theorem dX10_given_1 : decode cX10_given 1 = .ok (.iload_n 1, 1) := dqn_27 (k := 89) qh_cX10_given rfl rfl
theorem dX10_given_2 : decode cX10_given 2 = .ok (.iload_n 2, 1) := dqn_28 (k := 88) qh_cX10_given rfl rfl
theorem dX10_given_3 : decode cX10_given 3 = .ok (.invokevirtual 156, 3) := dqn_182 (k := 85) qh_cX10_given rfl rfl rfl
theorem dX10_given_6 : decode cX10_given 6 = .ok (.ifCond .eq 32, 3) := dqn_153 (k := 82) (u := 32) qh_cX10_given rfl rfl rfl (sg_p rfl rfl)
theorem dX10_given_9 : decode cX10_given 9 = .ok (.aload_n 0, 1) := dqn_42 (k := 81) qh_cX10_given rfl rfl
theorem dX10_given_10 : decode cX10_given 10 = .ok (.getfield 34, 3) := dqn_180 (k := 78) qh_cX10_given rfl rfl rfl
theorem dX10_given_13 : decode cX10_given 13 = .ok (.getfield 118, 3) := dqn_180 (k := 75) qh_cX10_given rfl rfl rfl
theorem dX10_given_16 : decode cX10_given 16 = .ok (.iload_n 3, 1) := dqn_29 (k := 74) qh_cX10_given rfl rfl
theorem dX10_given_17 : decode cX10_given 17 = .ok (.invokevirtual 121, 3) := dqn_182 (k := 71) qh_cX10_given rfl rfl rfl
theorem dX10_given_20 : decode cX10_given 20 = .ok (.ifCond .eq 18, 3) := dqn_153 (k := 68) (u := 18) qh_cX10_given rfl rfl rfl (sg_p rfl rfl)
theorem dX10_given_23 : decode cX10_given 23 = .ok (.aload_n 0, 1) := dqn_42 (k := 67) qh_cX10_given rfl rfl
theorem dX10_given_24 : decode cX10_given 24 = .ok (.getfield 34, 3) := dqn_180 (k := 64) qh_cX10_given rfl rfl rfl
theorem dX10_given_27 : decode cX10_given 27 = .ok (.getfield 118, 3) := dqn_180 (k := 61) qh_cX10_given rfl rfl rfl
theorem dX10_given_30 : decode cX10_given 30 = .ok (.iload 4, 2) := dqn_21 (k := 59) qh_cX10_given rfl rfl rfl
theorem dX10_given_32 : decode cX10_given 32 = .ok (.invokevirtual 121, 3) := dqn_182 (k := 56) qh_cX10_given rfl rfl rfl
theorem dX10_given_35 : decode cX10_given 35 = .ok (.ifCond .ne 7, 3) := dqn_154 (k := 53) (u := 7) qh_cX10_given rfl rfl rfl (sg_p rfl rfl)
theorem dX10_given_38 : decode cX10_given 38 = .ok (.ldc2_w 159, 3) := dqn_20 (k := 50) qh_cX10_given rfl rfl rfl
theorem dX10_given_41 : decode cX10_given 41 = .ok (.lreturn, 1) := dqn_173 (k := 49) qh_cX10_given rfl rfl
theorem dX10_given_42 : decode cX10_given 42 = .ok (.aload_n 0, 1) := dqn_42 (k := 48) qh_cX10_given rfl rfl
theorem dX10_given_43 : decode cX10_given 43 = .ok (.getfield 63, 3) := dqn_180 (k := 45) qh_cX10_given rfl rfl rfl
theorem dX10_given_46 : decode cX10_given 46 = .ok (.iload_n 3, 1) := dqn_29 (k := 44) qh_cX10_given rfl rfl
theorem dX10_given_47 : decode cX10_given 47 = .ok (.invokestatic 161, 3) := dqn_184 (k := 41) qh_cX10_given rfl rfl rfl
theorem dX10_given_50 : decode cX10_given 50 = .ok (.invokevirtual 164, 3) := dqn_182 (k := 38) qh_cX10_given rfl rfl rfl
theorem dX10_given_53 : decode cX10_given 53 = .ok (.lstore 6, 2) := dqn_55 (k := 36) qh_cX10_given rfl rfl rfl
theorem dX10_given_55 : decode cX10_given 55 = .ok (.lload 6, 2) := dqn_22 (k := 34) qh_cX10_given rfl rfl rfl
theorem dX10_given_57 : decode cX10_given 57 = .ok (.lconst 0, 1) := dqn_9 (k := 33) qh_cX10_given rfl rfl
theorem dX10_given_58 : decode cX10_given 58 = .ok (.lcmp, 1) := dqn_148 (k := 32) qh_cX10_given rfl rfl
theorem dX10_given_59 : decode cX10_given 59 = .ok (.ifCond .ne 7, 3) := dqn_154 (k := 29) (u := 7) qh_cX10_given rfl rfl rfl (sg_p rfl rfl)
theorem dX10_given_62 : decode cX10_given 62 = .ok (.ldc2_w 159, 3) := dqn_20 (k := 26) qh_cX10_given rfl rfl rfl
theorem dX10_given_65 : decode cX10_given 65 = .ok (.lreturn, 1) := dqn_173 (k := 25) qh_cX10_given rfl rfl
theorem dX10_given_66 : decode cX10_given 66 = .ok (.aload_n 0, 1) := dqn_42 (k := 24) qh_cX10_given rfl rfl
theorem dX10_given_67 : decode cX10_given 67 = .ok (.getfield 63, 3) := dqn_180 (k := 21) qh_cX10_given rfl rfl rfl
theorem dX10_given_70 : decode cX10_given 70 = .ok (.iload_n 3, 1) := dqn_29 (k := 20) qh_cX10_given rfl rfl
theorem dX10_given_71 : decode cX10_given 71 = .ok (.invokestatic 161, 3) := dqn_184 (k := 17) qh_cX10_given rfl rfl rfl
theorem dX10_given_74 : decode cX10_given 74 = .ok (.iload 4, 2) := dqn_21 (k := 15) qh_cX10_given rfl rfl rfl
theorem dX10_given_76 : decode cX10_given 76 = .ok (.invokestatic 161, 3) := dqn_184 (k := 12) qh_cX10_given rfl rfl rfl
theorem dX10_given_79 : decode cX10_given 79 = .ok (.ior, 1) := dqn_128 (k := 11) qh_cX10_given rfl rfl
theorem dX10_given_80 : decode cX10_given 80 = .ok (.invokevirtual 164, 3) := dqn_182 (k := 8) qh_cX10_given rfl rfl rfl
theorem dX10_given_83 : decode cX10_given 83 = .ok (.lload 6, 2) := dqn_22 (k := 6) qh_cX10_given rfl rfl rfl
theorem dX10_given_85 : decode cX10_given 85 = .ok (.iload 5, 2) := dqn_21 (k := 4) qh_cX10_given rfl rfl rfl
theorem dX10_given_87 : decode cX10_given 87 = .ok (.invokestatic 282, 3) := dqn_184 (k := 1) qh_cX10_given rfl rfl rfl
theorem dX10_given_90 : decode cX10_given 90 = .ok (.lreturn, 1) := dqn_173 (k := 0) qh_cX10_given rfl rfl
theorem dX10_worst_0 : decode cX10_worst 0 = .ok (.aload_n 0, 1) := dqn_42 (k := 23) qh_cX10_worst rfl rfl
theorem dX10_worst_1 : decode cX10_worst 1 = .ok (.iload_n 1, 1) := dqn_27 (k := 22) qh_cX10_worst rfl rfl
theorem dX10_worst_2 : decode cX10_worst 2 = .ok (.iload_n 2, 1) := dqn_28 (k := 21) qh_cX10_worst rfl rfl
theorem dX10_worst_3 : decode cX10_worst 3 = .ok (.invokevirtual 156, 3) := dqn_182 (k := 18) qh_cX10_worst rfl rfl rfl
theorem dX10_worst_6 : decode cX10_worst 6 = .ok (.ifCond .eq 14, 3) := dqn_153 (k := 15) (u := 14) qh_cX10_worst rfl rfl rfl (sg_p rfl rfl)
theorem dX10_worst_9 : decode cX10_worst 9 = .ok (.aload_n 0, 1) := dqn_42 (k := 14) qh_cX10_worst rfl rfl
theorem dX10_worst_10 : decode cX10_worst 10 = .ok (.getfield 63, 3) := dqn_180 (k := 11) qh_cX10_worst rfl rfl rfl
theorem dX10_worst_13 : decode cX10_worst 13 = .ok (.iload_n 3, 1) := dqn_29 (k := 10) qh_cX10_worst rfl rfl
theorem dX10_worst_14 : decode cX10_worst 14 = .ok (.invokevirtual 310, 3) := dqn_182 (k := 7) qh_cX10_worst rfl rfl rfl
theorem dX10_worst_17 : decode cX10_worst 17 = .ok (.goto 6, 3) := dqn_167 (k := 4) (u := 6) qh_cX10_worst rfl rfl rfl (sg_p rfl rfl)
theorem dX10_worst_20 : decode cX10_worst 20 = .ok (.ldc2_w 159, 3) := dqn_20 (k := 1) qh_cX10_worst rfl rfl rfl
theorem dX10_worst_23 : decode cX10_worst 23 = .ok (.lreturn, 1) := dqn_173 (k := 0) qh_cX10_worst rfl rfl
theorem dX10_flood_0 : decode cX10_flood 0 = .ok (.aload_n 0, 1) := dqn_42 (k := 20) qh_cX10_flood rfl rfl
theorem dX10_flood_1 : decode cX10_flood 1 = .ok (.iload_n 1, 1) := dqn_27 (k := 19) qh_cX10_flood rfl rfl
theorem dX10_flood_2 : decode cX10_flood 2 = .ok (.iload_n 2, 1) := dqn_28 (k := 18) qh_cX10_flood rfl rfl
theorem dX10_flood_3 : decode cX10_flood 3 = .ok (.invokevirtual 156, 3) := dqn_182 (k := 15) qh_cX10_flood rfl rfl rfl
theorem dX10_flood_6 : decode cX10_flood 6 = .ok (.ifCond .eq 13, 3) := dqn_153 (k := 12) (u := 13) qh_cX10_flood rfl rfl rfl (sg_p rfl rfl)
theorem dX10_flood_9 : decode cX10_flood 9 = .ok (.aload_n 0, 1) := dqn_42 (k := 11) qh_cX10_flood rfl rfl
theorem dX10_flood_10 : decode cX10_flood 10 = .ok (.getfield 63, 3) := dqn_180 (k := 8) qh_cX10_flood rfl rfl rfl
theorem dX10_flood_13 : decode cX10_flood 13 = .ok (.invokevirtual 313, 3) := dqn_182 (k := 5) qh_cX10_flood rfl rfl rfl
theorem dX10_flood_16 : decode cX10_flood 16 = .ok (.goto 4, 3) := dqn_167 (k := 2) (u := 4) qh_cX10_flood rfl rfl rfl (sg_p rfl rfl)
theorem dX10_flood_19 : decode cX10_flood 19 = .ok (.iconst (-1), 1) := dqn_2 (k := 1) qh_cX10_flood rfl rfl
theorem dX10_flood_20 : decode cX10_flood 20 = .ok (.ireturn, 1) := dqn_172 (k := 0) qh_cX10_flood rfl rfl
theorem dX10_around_0 : decode cX10_around 0 = .ok (.aload_n 0, 1) := dqn_42 (k := 46) qh_cX10_around rfl rfl
theorem dX10_around_1 : decode cX10_around 1 = .ok (.iload_n 1, 1) := dqn_27 (k := 45) qh_cX10_around rfl rfl
theorem dX10_around_2 : decode cX10_around 2 = .ok (.iload_n 2, 1) := dqn_28 (k := 44) qh_cX10_around rfl rfl
theorem dX10_around_3 : decode cX10_around 3 = .ok (.invokevirtual 114, 3) := dqn_182 (k := 41) qh_cX10_around rfl rfl rfl
theorem dX10_around_6 : decode cX10_around 6 = .ok (.ifCond .ne 5, 3) := dqn_154 (k := 38) (u := 5) qh_cX10_around rfl rfl rfl (sg_p rfl rfl)
theorem dX10_around_9 : decode cX10_around 9 = .ok (.iconst (-1), 1) := dqn_2 (k := 37) qh_cX10_around rfl rfl
theorem dX10_around_10 : decode cX10_around 10 = .ok (.ireturn, 1) := dqn_172 (k := 36) qh_cX10_around rfl rfl
theorem dX10_around_11 : decode cX10_around 11 = .ok (.aload_n 0, 1) := dqn_42 (k := 35) qh_cX10_around rfl rfl
theorem dX10_around_12 : decode cX10_around 12 = .ok (.getfield 55, 3) := dqn_180 (k := 32) qh_cX10_around rfl rfl rfl
theorem dX10_around_15 : decode cX10_around 15 = .ok (.aload_n 0, 1) := dqn_42 (k := 31) qh_cX10_around rfl rfl
theorem dX10_around_16 : decode cX10_around 16 = .ok (.getfield 34, 3) := dqn_180 (k := 28) qh_cX10_around rfl rfl rfl
theorem dX10_around_19 : decode cX10_around 19 = .ok (.getfield 118, 3) := dqn_180 (k := 25) qh_cX10_around rfl rfl rfl
theorem dX10_around_22 : decode cX10_around 22 = .ok (.invokevirtual 316, 3) := dqn_182 (k := 22) qh_cX10_around rfl rfl rfl
theorem dX10_around_25 : decode cX10_around 25 = .ok (.iload_n 3, 1) := dqn_29 (k := 21) qh_cX10_around rfl rfl
theorem dX10_around_26 : decode cX10_around 26 = .ok (.ifCond .eq 13, 3) := dqn_153 (k := 18) (u := 13) qh_cX10_around rfl rfl rfl (sg_p rfl rfl)
theorem dX10_around_29 : decode cX10_around 29 = .ok (.aload_n 0, 1) := dqn_42 (k := 17) qh_cX10_around rfl rfl
theorem dX10_around_30 : decode cX10_around 30 = .ok (.getfield 55, 3) := dqn_180 (k := 14) qh_cX10_around rfl rfl rfl
theorem dX10_around_33 : decode cX10_around 33 = .ok (.getfield 319, 3) := dqn_180 (k := 11) qh_cX10_around rfl rfl rfl
theorem dX10_around_36 : decode cX10_around 36 = .ok (.goto 10, 3) := dqn_167 (k := 8) (u := 10) qh_cX10_around rfl rfl rfl (sg_p rfl rfl)
theorem dX10_around_39 : decode cX10_around 39 = .ok (.aload_n 0, 1) := dqn_42 (k := 7) qh_cX10_around rfl rfl
theorem dX10_around_40 : decode cX10_around 40 = .ok (.getfield 55, 3) := dqn_180 (k := 4) qh_cX10_around rfl rfl rfl
theorem dX10_around_43 : decode cX10_around 43 = .ok (.getfield 233, 3) := dqn_180 (k := 1) qh_cX10_around rfl rfl rfl
theorem dX10_around_46 : decode cX10_around 46 = .ok (.ireturn, 1) := dqn_172 (k := 0) qh_cX10_around rfl rfl
theorem dX10_twice_0 : decode cX10_twice 0 = .ok (.aload_n 0, 1) := dqn_42 (k := 129) qh_cX10_twice rfl rfl
theorem dX10_twice_1 : decode cX10_twice 1 = .ok (.iload_n 1, 1) := dqn_27 (k := 128) qh_cX10_twice rfl rfl
theorem dX10_twice_2 : decode cX10_twice 2 = .ok (.iload_n 2, 1) := dqn_28 (k := 127) qh_cX10_twice rfl rfl
theorem dX10_twice_3 : decode cX10_twice 3 = .ok (.invokevirtual 114, 3) := dqn_182 (k := 124) qh_cX10_twice rfl rfl rfl
theorem dX10_twice_6 : decode cX10_twice 6 = .ok (.ifCond .eq 36, 3) := dqn_153 (k := 121) (u := 36) qh_cX10_twice rfl rfl rfl (sg_p rfl rfl)
theorem dX10_twice_9 : decode cX10_twice 9 = .ok (.aload_n 0, 1) := dqn_42 (k := 120) qh_cX10_twice rfl rfl
theorem dX10_twice_10 : decode cX10_twice 10 = .ok (.getfield 34, 3) := dqn_180 (k := 117) qh_cX10_twice rfl rfl rfl
theorem dX10_twice_13 : decode cX10_twice 13 = .ok (.getfield 118, 3) := dqn_180 (k := 114) qh_cX10_twice rfl rfl rfl
theorem dX10_twice_16 : decode cX10_twice 16 = .ok (.iload_n 3, 1) := dqn_29 (k := 113) qh_cX10_twice rfl rfl
theorem dX10_twice_17 : decode cX10_twice 17 = .ok (.iload 4, 2) := dqn_21 (k := 111) qh_cX10_twice rfl rfl rfl
theorem dX10_twice_19 : decode cX10_twice 19 = .ok (.invokevirtual 145, 3) := dqn_182 (k := 108) qh_cX10_twice rfl rfl rfl
theorem dX10_twice_22 : decode cX10_twice 22 = .ok (.ifCond .eq 20, 3) := dqn_153 (k := 105) (u := 20) qh_cX10_twice rfl rfl rfl (sg_p rfl rfl)
theorem dX10_twice_25 : decode cX10_twice 25 = .ok (.aload_n 0, 1) := dqn_42 (k := 104) qh_cX10_twice rfl rfl
theorem dX10_twice_26 : decode cX10_twice 26 = .ok (.getfield 34, 3) := dqn_180 (k := 101) qh_cX10_twice rfl rfl rfl
theorem dX10_twice_29 : decode cX10_twice 29 = .ok (.getfield 118, 3) := dqn_180 (k := 98) qh_cX10_twice rfl rfl rfl
theorem dX10_twice_32 : decode cX10_twice 32 = .ok (.iload 5, 2) := dqn_21 (k := 96) qh_cX10_twice rfl rfl rfl
theorem dX10_twice_34 : decode cX10_twice 34 = .ok (.iload 6, 2) := dqn_21 (k := 94) qh_cX10_twice rfl rfl rfl
theorem dX10_twice_36 : decode cX10_twice 36 = .ok (.invokevirtual 145, 3) := dqn_182 (k := 91) qh_cX10_twice rfl rfl rfl
theorem dX10_twice_39 : decode cX10_twice 39 = .ok (.ifCond .ne 5, 3) := dqn_154 (k := 88) (u := 5) qh_cX10_twice rfl rfl rfl (sg_p rfl rfl)
theorem dX10_twice_42 : decode cX10_twice 42 = .ok (.iconst (-1), 1) := dqn_2 (k := 87) qh_cX10_twice rfl rfl
theorem dX10_twice_43 : decode cX10_twice 43 = .ok (.ireturn, 1) := dqn_172 (k := 86) qh_cX10_twice rfl rfl
theorem dX10_twice_44 : decode cX10_twice 44 = .ok (.aload_n 0, 1) := dqn_42 (k := 85) qh_cX10_twice rfl rfl
theorem dX10_twice_45 : decode cX10_twice 45 = .ok (.getfield 48, 3) := dqn_180 (k := 82) qh_cX10_twice rfl rfl rfl
theorem dX10_twice_48 : decode cX10_twice 48 = .ok (.aload_n 0, 1) := dqn_42 (k := 81) qh_cX10_twice rfl rfl
theorem dX10_twice_49 : decode cX10_twice 49 = .ok (.getfield 34, 3) := dqn_180 (k := 78) qh_cX10_twice rfl rfl rfl
theorem dX10_twice_52 : decode cX10_twice 52 = .ok (.getfield 118, 3) := dqn_180 (k := 75) qh_cX10_twice rfl rfl rfl
theorem dX10_twice_55 : decode cX10_twice 55 = .ok (.aload_n 0, 1) := dqn_42 (k := 74) qh_cX10_twice rfl rfl
theorem dX10_twice_56 : decode cX10_twice 56 = .ok (.getfield 34, 3) := dqn_180 (k := 71) qh_cX10_twice rfl rfl rfl
theorem dX10_twice_59 : decode cX10_twice 59 = .ok (.getfield 118, 3) := dqn_180 (k := 68) qh_cX10_twice rfl rfl rfl
theorem dX10_twice_62 : decode cX10_twice 62 = .ok (.iload_n 3, 1) := dqn_29 (k := 67) qh_cX10_twice rfl rfl
theorem dX10_twice_63 : decode cX10_twice 63 = .ok (.invokevirtual 148, 3) := dqn_182 (k := 64) qh_cX10_twice rfl rfl rfl
theorem dX10_twice_66 : decode cX10_twice 66 = .ok (.iload 4, 2) := dqn_21 (k := 62) qh_cX10_twice rfl rfl rfl
theorem dX10_twice_68 : decode cX10_twice 68 = .ok (.iconst (-1), 1) := dqn_2 (k := 61) qh_cX10_twice rfl rfl
theorem dX10_twice_69 : decode cX10_twice 69 = .ok (.invokevirtual 151, 3) := dqn_182 (k := 58) qh_cX10_twice rfl rfl rfl
theorem dX10_twice_72 : decode cX10_twice 72 = .ok (.aload_n 0, 1) := dqn_42 (k := 57) qh_cX10_twice rfl rfl
theorem dX10_twice_73 : decode cX10_twice 73 = .ok (.getfield 67, 3) := dqn_180 (k := 54) qh_cX10_twice rfl rfl rfl
theorem dX10_twice_76 : decode cX10_twice 76 = .ok (.aload_n 0, 1) := dqn_42 (k := 53) qh_cX10_twice rfl rfl
theorem dX10_twice_77 : decode cX10_twice 77 = .ok (.getfield 34, 3) := dqn_180 (k := 50) qh_cX10_twice rfl rfl rfl
theorem dX10_twice_80 : decode cX10_twice 80 = .ok (.getfield 118, 3) := dqn_180 (k := 47) qh_cX10_twice rfl rfl rfl
theorem dX10_twice_83 : decode cX10_twice 83 = .ok (.invokevirtual 252, 3) := dqn_182 (k := 44) qh_cX10_twice rfl rfl rfl
theorem dX10_twice_86 : decode cX10_twice 86 = .ok (.aload_n 0, 1) := dqn_42 (k := 43) qh_cX10_twice rfl rfl
theorem dX10_twice_87 : decode cX10_twice 87 = .ok (.getfield 48, 3) := dqn_180 (k := 40) qh_cX10_twice rfl rfl rfl
theorem dX10_twice_90 : decode cX10_twice 90 = .ok (.aload_n 0, 1) := dqn_42 (k := 39) qh_cX10_twice rfl rfl
theorem dX10_twice_91 : decode cX10_twice 91 = .ok (.getfield 67, 3) := dqn_180 (k := 36) qh_cX10_twice rfl rfl rfl
theorem dX10_twice_94 : decode cX10_twice 94 = .ok (.invokevirtual 322, 3) := dqn_182 (k := 33) qh_cX10_twice rfl rfl rfl
theorem dX10_twice_97 : decode cX10_twice 97 = .ok (.aload_n 0, 1) := dqn_42 (k := 32) qh_cX10_twice rfl rfl
theorem dX10_twice_98 : decode cX10_twice 98 = .ok (.getfield 48, 3) := dqn_180 (k := 29) qh_cX10_twice rfl rfl rfl
theorem dX10_twice_101 : decode cX10_twice 101 = .ok (.aload_n 0, 1) := dqn_42 (k := 28) qh_cX10_twice rfl rfl
theorem dX10_twice_102 : decode cX10_twice 102 = .ok (.getfield 67, 3) := dqn_180 (k := 25) qh_cX10_twice rfl rfl rfl
theorem dX10_twice_105 : decode cX10_twice 105 = .ok (.aload_n 0, 1) := dqn_42 (k := 24) qh_cX10_twice rfl rfl
theorem dX10_twice_106 : decode cX10_twice 106 = .ok (.getfield 67, 3) := dqn_180 (k := 21) qh_cX10_twice rfl rfl rfl
theorem dX10_twice_109 : decode cX10_twice 109 = .ok (.iload 5, 2) := dqn_21 (k := 19) qh_cX10_twice rfl rfl rfl
theorem dX10_twice_111 : decode cX10_twice 111 = .ok (.invokevirtual 148, 3) := dqn_182 (k := 16) qh_cX10_twice rfl rfl rfl
theorem dX10_twice_114 : decode cX10_twice 114 = .ok (.iload 6, 2) := dqn_21 (k := 14) qh_cX10_twice rfl rfl rfl
theorem dX10_twice_116 : decode cX10_twice 116 = .ok (.iconst (-1), 1) := dqn_2 (k := 13) qh_cX10_twice rfl rfl
theorem dX10_twice_117 : decode cX10_twice 117 = .ok (.invokevirtual 151, 3) := dqn_182 (k := 10) qh_cX10_twice rfl rfl rfl
theorem dX10_twice_120 : decode cX10_twice 120 = .ok (.aload_n 0, 1) := dqn_42 (k := 9) qh_cX10_twice rfl rfl
theorem dX10_twice_121 : decode cX10_twice 121 = .ok (.getfield 48, 3) := dqn_180 (k := 6) qh_cX10_twice rfl rfl rfl
theorem dX10_twice_124 : decode cX10_twice 124 = .ok (.iload 7, 2) := dqn_21 (k := 4) qh_cX10_twice rfl rfl rfl
theorem dX10_twice_126 : decode cX10_twice 126 = .ok (.invokevirtual 155, 3) := dqn_182 (k := 1) qh_cX10_twice rfl rfl rfl
theorem dX10_twice_129 : decode cX10_twice 129 = .ok (.ireturn, 1) := dqn_172 (k := 0) qh_cX10_twice rfl rfl
theorem dX10_better_0 : decode cX10_better 0 = .ok (.aload_n 0, 1) := dqn_42 (k := 79) qh_cX10_better rfl rfl
theorem dX10_better_1 : decode cX10_better 1 = .ok (.iload_n 1, 1) := dqn_27 (k := 78) qh_cX10_better rfl rfl
theorem dX10_better_2 : decode cX10_better 2 = .ok (.iload_n 2, 1) := dqn_28 (k := 77) qh_cX10_better rfl rfl
theorem dX10_better_3 : decode cX10_better 3 = .ok (.invokevirtual 114, 3) := dqn_182 (k := 74) qh_cX10_better rfl rfl rfl
theorem dX10_better_6 : decode cX10_better 6 = .ok (.ifCond .ne 5, 3) := dqn_154 (k := 71) (u := 5) qh_cX10_better rfl rfl rfl (sg_p rfl rfl)
theorem dX10_better_9 : decode cX10_better 9 = .ok (.iconst (-1), 1) := dqn_2 (k := 70) qh_cX10_better rfl rfl
theorem dX10_better_10 : decode cX10_better 10 = .ok (.ireturn, 1) := dqn_172 (k := 69) qh_cX10_better rfl rfl
theorem dX10_better_11 : decode cX10_better 11 = .ok (.aload_n 0, 1) := dqn_42 (k := 68) qh_cX10_better rfl rfl
theorem dX10_better_12 : decode cX10_better 12 = .ok (.getfield 63, 3) := dqn_180 (k := 65) qh_cX10_better rfl rfl rfl
theorem dX10_better_15 : decode cX10_better 15 = .ok (.aload_n 0, 1) := dqn_42 (k := 64) qh_cX10_better rfl rfl
theorem dX10_better_16 : decode cX10_better 16 = .ok (.getfield 34, 3) := dqn_180 (k := 61) qh_cX10_better rfl rfl rfl
theorem dX10_better_19 : decode cX10_better 19 = .ok (.getfield 118, 3) := dqn_180 (k := 58) qh_cX10_better rfl rfl rfl
theorem dX10_better_22 : decode cX10_better 22 = .ok (.iconst (-1), 1) := dqn_2 (k := 57) qh_cX10_better rfl rfl
theorem dX10_better_23 : decode cX10_better 23 = .ok (.invokevirtual 248, 3) := dqn_182 (k := 54) qh_cX10_better rfl rfl rfl
theorem dX10_better_26 : decode cX10_better 26 = .ok (.lstore 4, 2) := dqn_55 (k := 52) qh_cX10_better rfl rfl rfl
theorem dX10_better_28 : decode cX10_better 28 = .ok (.aload_n 0, 1) := dqn_42 (k := 51) qh_cX10_better rfl rfl
theorem dX10_better_29 : decode cX10_better 29 = .ok (.iload_n 1, 1) := dqn_27 (k := 50) qh_cX10_better rfl rfl
theorem dX10_better_30 : decode cX10_better 30 = .ok (.iload_n 3, 1) := dqn_29 (k := 49) qh_cX10_better rfl rfl
theorem dX10_better_31 : decode cX10_better 31 = .ok (.invokevirtual 114, 3) := dqn_182 (k := 46) qh_cX10_better rfl rfl rfl
theorem dX10_better_34 : decode cX10_better 34 = .ok (.ifCond .ne 5, 3) := dqn_154 (k := 43) (u := 5) qh_cX10_better rfl rfl rfl (sg_p rfl rfl)
theorem dX10_better_37 : decode cX10_better 37 = .ok (.iconst (-1), 1) := dqn_2 (k := 42) qh_cX10_better rfl rfl
theorem dX10_better_38 : decode cX10_better 38 = .ok (.ireturn, 1) := dqn_172 (k := 41) qh_cX10_better rfl rfl
theorem dX10_better_39 : decode cX10_better 39 = .ok (.aload_n 0, 1) := dqn_42 (k := 40) qh_cX10_better rfl rfl
theorem dX10_better_40 : decode cX10_better 40 = .ok (.getfield 63, 3) := dqn_180 (k := 37) qh_cX10_better rfl rfl rfl
theorem dX10_better_43 : decode cX10_better 43 = .ok (.aload_n 0, 1) := dqn_42 (k := 36) qh_cX10_better rfl rfl
theorem dX10_better_44 : decode cX10_better 44 = .ok (.getfield 34, 3) := dqn_180 (k := 33) qh_cX10_better rfl rfl rfl
theorem dX10_better_47 : decode cX10_better 47 = .ok (.getfield 118, 3) := dqn_180 (k := 30) qh_cX10_better rfl rfl rfl
theorem dX10_better_50 : decode cX10_better 50 = .ok (.iconst (-1), 1) := dqn_2 (k := 29) qh_cX10_better rfl rfl
theorem dX10_better_51 : decode cX10_better 51 = .ok (.invokevirtual 248, 3) := dqn_182 (k := 26) qh_cX10_better rfl rfl rfl
theorem dX10_better_54 : decode cX10_better 54 = .ok (.lstore 6, 2) := dqn_55 (k := 24) qh_cX10_better rfl rfl rfl
theorem dX10_better_56 : decode cX10_better 56 = .ok (.lload 4, 2) := dqn_22 (k := 22) qh_cX10_better rfl rfl rfl
theorem dX10_better_58 : decode cX10_better 58 = .ok (.lload 6, 2) := dqn_22 (k := 20) qh_cX10_better rfl rfl rfl
theorem dX10_better_60 : decode cX10_better 60 = .ok (.lcmp, 1) := dqn_148 (k := 19) qh_cX10_better rfl rfl
theorem dX10_better_61 : decode cX10_better 61 = .ok (.ifCond .ne 5, 3) := dqn_154 (k := 16) (u := 5) qh_cX10_better rfl rfl rfl (sg_p rfl rfl)
theorem dX10_better_64 : decode cX10_better 64 = .ok (.iconst 2, 1) := dqn_5 (k := 15) qh_cX10_better rfl rfl
theorem dX10_better_65 : decode cX10_better 65 = .ok (.ireturn, 1) := dqn_172 (k := 14) qh_cX10_better rfl rfl
theorem dX10_better_66 : decode cX10_better 66 = .ok (.lload 4, 2) := dqn_22 (k := 12) qh_cX10_better rfl rfl rfl
theorem dX10_better_68 : decode cX10_better 68 = .ok (.lload 6, 2) := dqn_22 (k := 10) qh_cX10_better rfl rfl rfl
theorem dX10_better_70 : decode cX10_better 70 = .ok (.lcmp, 1) := dqn_148 (k := 9) qh_cX10_better rfl rfl
theorem dX10_better_71 : decode cX10_better 71 = .ok (.ifCond .ge 7, 3) := dqn_156 (k := 6) (u := 7) qh_cX10_better rfl rfl rfl (sg_p rfl rfl)
theorem dX10_better_74 : decode cX10_better 74 = .ok (.iconst 0, 1) := dqn_3 (k := 5) qh_cX10_better rfl rfl
theorem dX10_better_75 : decode cX10_better 75 = .ok (.goto 4, 3) := dqn_167 (k := 2) (u := 4) qh_cX10_better rfl rfl rfl (sg_p rfl rfl)
theorem dX10_better_78 : decode cX10_better 78 = .ok (.iconst 1, 1) := dqn_4 (k := 1) qh_cX10_better rfl rfl
theorem dX10_better_79 : decode cX10_better 79 = .ok (.ireturn, 1) := dqn_172 (k := 0) qh_cX10_better rfl rfl
theorem dX10_count_0 : decode cX10_count 0 = .ok (.iload_n 1, 1) := dqn_27 (k := 46) qh_cX10_count rfl rfl
theorem dX10_count_1 : decode cX10_count 1 = .ok (.lookupswitch 43 #[(0, 27), (1, 35)], 27) := by decide +kernel
theorem dX10_count_28 : decode cX10_count 28 = .ok (.aload_n 0, 1) := dqn_42 (k := 18) qh_cX10_count rfl rfl
theorem dX10_count_29 : decode cX10_count 29 = .ok (.getfield 10, 3) := dqn_180 (k := 15) qh_cX10_count rfl rfl rfl
theorem dX10_count_32 : decode cX10_count 32 = .ok (.getfield 328, 3) := dqn_180 (k := 12) qh_cX10_count rfl rfl rfl
theorem dX10_count_35 : decode cX10_count 35 = .ok (.ireturn, 1) := dqn_172 (k := 11) qh_cX10_count rfl rfl
theorem dX10_count_36 : decode cX10_count 36 = .ok (.aload_n 0, 1) := dqn_42 (k := 10) qh_cX10_count rfl rfl
theorem dX10_count_37 : decode cX10_count 37 = .ok (.getfield 10, 3) := dqn_180 (k := 7) qh_cX10_count rfl rfl rfl
theorem dX10_count_40 : decode cX10_count 40 = .ok (.getfield 331, 3) := dqn_180 (k := 4) qh_cX10_count rfl rfl rfl
theorem dX10_count_43 : decode cX10_count 43 = .ok (.ireturn, 1) := dqn_172 (k := 3) qh_cX10_count rfl rfl
theorem dX10_count_44 : decode cX10_count 44 = .ok (.bipush (-2), 2) := dqn_16 (k := 1) (u := 254) qh_cX10_count rfl rfl rfl (by decide)
theorem dX10_count_46 : decode cX10_count 46 = .ok (.ireturn, 1) := dqn_172 (k := 0) qh_cX10_count rfl rfl
set_option maxHeartbeats 4000000 in
set_option maxRecDepth 100000 in
theorem c_P_commonDivisor {d : Nat} {u : Nat → Nat → Int32} {g : Nat → Nat → Int64} {ex : List MC} {a : Int64} {b : Int64} (hd : 1 ≤ d)  : CT con0 d 0 0 yX10_commonDivisor cX10_commonDivisor 11 (some .long) [.long a, .long b] (Wd u g ex) (fun r h2 => ∃ (z : Int64), r = some (.long z) ∧ h2 = Wd u g ex ∧ ¬ z = 0) := by
  refine CT_of (by decide) (Nat.le_of_ble_eq_true rfl) (fun x hq => ?_)
  show J x yX10_commonDivisor cX10_commonDivisor 11 (some .long) d 0 0 (Wd u g ex).length 0 [(0, .long a), (2, .long b)] [] (Wd u g ex) 0 0
  refine J_lload_n (i := 0) (j := 0) dX10_commonDivisor_0 rfl rfl ?_
  refine J_lstore (i := 4) (lw := [(4, .long a), (0, .long a), (2, .long b)]) dX10_commonDivisor_1 (by decide) rfl ?_
  refine J_lload_n (i := 2) (j := 2) dX10_commonDivisor_3 rfl rfl ?_
  refine J_lstore (i := 6) (lw := [(6, .long b), (4, .long a), (0, .long a), (2, .long b)]) dX10_commonDivisor_4 (by decide) rfl ?_
  refine J_iconst (v := 0) dX10_commonDivisor_6 (by decide) ?_
  refine J_istore (i := 8) (lw := [(8, .int 0), (6, .long b), (4, .long a), (0, .long a), (2, .long b)]) dX10_commonDivisor_7 (by decide) rfl ?_
  have lp55 : ∀ (n56 : Nat) (w43 : Int64) (w44 : Int64) (w45 : Int32), Bd 0 100 w45 → (100 - w45.toInt).toNat < n56 → J x yX10_commonDivisor cX10_commonDivisor 11 (some .long) d 0 0 (Wd u g ex).length 9 [(4, .long w43), (6, .long w44), (8, .int w45)] [] (Wd u g ex) 0 0 := by
    intro n56
    induction n56 with
    | zero => intro w43 w44 w45 bw45 hm58; exact absurd hm58 (Nat.not_lt_zero _)
    | succ n56 ih57 =>
      intro w43 w44 w45 bw45 hm58
      refine J_iload (i := 8) (j := 2) dX10_commonDivisor_9 rfl ?_
      refine J_bipush (v := 100) dX10_commonDivisor_11 (by decide) ?_
      have jn62 : ∀ (_ : Unit), J x yX10_commonDivisor cX10_commonDivisor 11 (some .long) d 0 0 (Wd u g ex).length 44 [(4, .long w43)] [] (Wd u g ex) 0 0 := by
        intro _
        refine J_lload (i := 4) (j := 0) dX10_commonDivisor_44 rfl ?_
        refine J_lconst (v := 1) dX10_commonDivisor_46 (by decide) ?_
        refine J_callS (As := [.long w43, .long 1]) (rest := []) dX10_commonDivisor_47 (c_maxJ1 (d := 0) (u := u) (g := g) (ex := ex) (a := w43)  (by decide) ) hq.n k1089 k979 k99 k980 np_J9_max_f86c9 (Nat.le_trans (by decide) hd) (by decide) (Nat.le_refl _) (Nat.le_refl _) wlen rfl (Nat.le_of_ble_eq_true rfl) (fun r_ h_ p63 => ?_)
        obtain ⟨l64, rfl, rfl, h65⟩ := p63
        exact J_lret hq dX10_commonDivisor_50 rfl wlen (Nat.le_refl _) (Nat.le_refl _) ⟨l64, rfl, rfl, h65⟩
      refine J_icmp_ge (tgt := 44) dX10_commonDivisor_13 (by decide) (fun c59 => ?_) (fun c59 => ?_)
      · refine J_lv [0] rfl ?_
        exact jn62 () 
      · refine J_lload (i := 6) (j := 1) dX10_commonDivisor_16 rfl ?_
        refine J_lconst (v := 0) dX10_commonDivisor_18 (by decide) ?_
        refine J_lcmp dX10_commonDivisor_19 ?_
        refine J_if_eq (tgt := 44) dX10_commonDivisor_20 (by decide) (fun c66 => ?_) (fun c66 => ?_)
        · refine J_lv [0] rfl ?_
          exact jn62 () 
        · refine J_lload (i := 4) (j := 0) dX10_commonDivisor_23 rfl ?_
          refine J_lload (i := 6) (j := 1) dX10_commonDivisor_25 rfl ?_
          refine J_lrem dX10_commonDivisor_27 (lcmp_ne c66) ?_
          refine J_topl (fun l67 _ => ?_)
          refine J_lstore (i := 9) (lw := [(9, .long l67), (4, .long w43), (6, .long w44), (8, .int w45)]) dX10_commonDivisor_28 (by decide) rfl ?_
          refine J_lload (i := 6) (j := 2) dX10_commonDivisor_30 rfl ?_
          refine J_lstore (i := 4) (lw := [(4, .long w44), (9, .long l67), (6, .long w44), (8, .int w45)]) dX10_commonDivisor_32 (by decide) rfl ?_
          refine J_lload (i := 9) (j := 1) dX10_commonDivisor_34 rfl ?_
          refine J_lstore (i := 6) (lw := [(6, .long l67), (4, .long w44), (9, .long l67), (8, .int w45)]) dX10_commonDivisor_36 (by decide) rfl ?_
          refine J_iinc (i := 8) (j := 3) (v := (w45 + 1)) (lw := [(8, .int (w45 + 1)), (6, .long l67), (4, .long w44), (9, .long l67)]) dX10_commonDivisor_38 rfl rfl (by decide) rfl ?_
          refine J_goto (tgt := 9) dX10_commonDivisor_41 (by decide) ?_
          refine J_lv [2, 1, 0] rfl ?_
          exact ih57 w44 l67 (w45 + 1) (bd_w (l := 0) (h := 100) (bd_add (l := 1) (h := 100) (bd_lt_hi bw45 (i_nle c59) (bd_c (v := 100) (lo := 100) (hi := 100) (by decide))) (bd_c (v := 1) (lo := 1) (hi := 1) (by decide)) (by decide)) (by decide)) (mu_up 1 bw45 rfl (by decide) (bd_w (l := 1) (h := 100) (bd_add (l := 1) (h := 100) (bd_lt_hi bw45 (i_nle c59) (bd_c (v := 100) (lo := 100) (hi := 100) (by decide))) (bd_c (v := 1) (lo := 1) (hi := 1) (by decide)) (by decide)) (by decide)) hm58)
  refine J_lv [2, 1, 0] rfl ?_
  exact lp55 _ a b (0 : Int32) (bd_w (l := 0) (h := 100) (bd_c (v := 0) (lo := 0) (hi := 0) (by decide)) (by decide)) (Nat.lt_succ_self _)
set_option maxHeartbeats 4000000 in
set_option maxRecDepth 100000 in
theorem c_P_inLeastTerms {d : Nat} {u : Nat → Nat → Int32} {g : Nat → Nat → Int64} {ex : List MC} {above : Int64} {below : Int64} {under : Int32} (hd : 2 ≤ d)  : CT con0 d 0 0 yX10_inLeastTerms cX10_inLeastTerms 7 (some .long) [.long above, .long below, .int under] (Wd u g ex) (fun r h2 => ∃ (z : Int64), r = some (.long z) ∧ h2 = Wd u g ex) := by
  refine CT_of (by decide) (Nat.le_of_ble_eq_true rfl) (fun x hq => ?_)
  show J x yX10_inLeastTerms cX10_inLeastTerms 7 (some .long) d 0 0 (Wd u g ex).length 0 [(0, .long above), (2, .long below), (4, .int under)] [] (Wd u g ex) 0 0
  refine J_lload_n (i := 2) (j := 1) dX10_inLeastTerms_0 rfl rfl ?_
  refine J_lconst (v := 0) dX10_inLeastTerms_1 (by decide) ?_
  refine J_lcmp dX10_inLeastTerms_2 ?_
  refine J_if_ne (tgt := 17) dX10_inLeastTerms_3 (by decide) (fun c1 => ?_) (fun c1 => ?_)
  · refine J_lload_n (i := 0) (j := 0) dX10_inLeastTerms_17 rfl rfl ?_
    refine J_lload_n (i := 2) (j := 1) dX10_inLeastTerms_18 rfl rfl ?_
    refine J_callS (As := [.long above, .long below]) (rest := []) dX10_inLeastTerms_19 (c_P_commonDivisor (d := 1) (u := u) (g := g) (ex := ex) (a := above) (b := below)  (by decide) ) hq.n k1086 k1087 k87 k1088 np_X10_commonDivisor (Nat.le_trans (by decide) hd) (by decide) (Nat.le_refl _) (Nat.le_refl _) wlen rfl (Nat.le_of_ble_eq_true rfl) (fun r_ h_ p2 => ?_)
    obtain ⟨l3, rfl, rfl, h4⟩ := p2
    refine J_lstore (i := 5) (lw := [(5, .long l3), (0, .long above), (2, .long below), (4, .int under)]) dX10_inLeastTerms_22 (by decide) rfl ?_
    refine J_iload (i := 4) (j := 3) dX10_inLeastTerms_24 rfl ?_
    have jn7 : ∀ (w6 : Int64), J x yX10_inLeastTerms cX10_inLeastTerms 7 (some .long) d 0 0 (Wd u g ex).length 34 [(5, .long l3)] [.long w6] (Wd u g ex) 0 0 := by
      intro w6
      refine J_lload (i := 5) (j := 0) dX10_inLeastTerms_34 rfl ?_
      refine J_ldiv dX10_inLeastTerms_36 h4 ?_
      refine J_topl (fun l8 _ => ?_)
      exact J_lret hq dX10_inLeastTerms_37 rfl wlen (Nat.le_refl _) (Nat.le_refl _) ⟨l8, rfl, rfl⟩
    refine J_if_eq (tgt := 33) dX10_inLeastTerms_26 (by decide) (fun c5 => ?_) (fun c5 => ?_)
    · refine J_lload_n (i := 0) (j := 1) dX10_inLeastTerms_33 rfl rfl ?_
      refine J_lv [0] rfl ?_
      exact jn7 above 
    · refine J_lload_n (i := 2) (j := 2) dX10_inLeastTerms_29 rfl rfl ?_
      refine J_goto (tgt := 34) dX10_inLeastTerms_30 (by decide) ?_
      refine J_lv [0] rfl ?_
      exact jn7 below 
  · refine J_iload (i := 4) (j := 2) dX10_inLeastTerms_6 rfl ?_
    refine J_if_eq (tgt := 15) dX10_inLeastTerms_8 (by decide) (fun c9 => ?_) (fun c9 => ?_)
    · refine J_lconst (v := 0) dX10_inLeastTerms_15 (by decide) ?_
      exact J_lret hq dX10_inLeastTerms_16 rfl wlen (Nat.le_refl _) (Nat.le_refl _) ⟨(0 : Int64), rfl, rfl⟩
    · refine J_lconst (v := 1) dX10_inLeastTerms_11 (by decide) ?_
      refine J_goto (tgt := 16) dX10_inLeastTerms_12 (by decide) ?_
      exact J_lret hq dX10_inLeastTerms_16 rfl wlen (Nat.le_refl _) (Nat.le_refl _) ⟨(1 : Int64), rfl, rfl⟩
set_option maxHeartbeats 4000000 in
set_option maxRecDepth 100000 in
theorem c_P_hasPond {d : Nat} {u : Nat → Nat → Int32} {g : Nat → Nat → Int64} {ex : List MC} {hill : Int32} {plan : Int32} {pond : Int32} (hd : 5 ≤ d) (hp0 : Bd 0 2 (u 1 5)) (hp1 : Bd 0 3 (u 1 7)) (hp2 : Bd 0 9 (u 44 0)) (hp3 : Bd 0 4 (u 44 2)) (hp4 : Bd 0 9 (u 5 0)) (hp5 : Bd 0 4 (u 5 2)) (hp6 : Bd 0 9 (u 10 0)) (hp7 : Bd 0 4 (u 10 2)) (hp8 : Bd 0 12 (u 15 0)) (hp9 : Bd 0 12 (u 19 0)) (hp10 : Bd 0 12 (u 23 0)) (hp11 : Bd 0 12 (u 49 0)) (hp12 : AB u 45 (-1) 999) (hp13 : AB u 6 (-1) 999) (hp14 : AB u 11 (-1) 999) (hp15 : (KM u 15)) (hp16 : (KM u 19)) (hp17 : (KM u 23)) (hp18 : (KM u 49)) : CT con0 d 0 0 yX10_hasPond cX10_hasPond 4 (some .boolean) [.ref 0, .int hill, .int plan, .int pond] (Wd u g ex) (fun r h2 => ∃ (z : Bool) (u2 : Nat → Nat → Int32), r = some (.int (bI z)) ∧ h2 = Wd u2 g ex ∧ (z = true → Bd 0 8 pond) ∧ Bd 0 9 (u2 44 0) ∧ Bd 0 4 (u2 44 2) ∧ AB u2 45 (-1) 999 ∧ (∀ c, nin c [(43, 48)] = true → u2 c = u c) ∧ (∀ j, j ≠ 1 → j ≠ 2 → j ≠ 3 → u2 43 j = u 43 j) ∧ (∀ j, j ≠ 0 → j ≠ 2 → u2 44 j = u 44 j)) := by
  refine CT_of (by decide) (Nat.le_of_ble_eq_true rfl) (fun x hq => ?_)
  show J x yX10_hasPond cX10_hasPond 4 (some .boolean) d 0 0 (Wd u g ex).length 0 [(0, .ref 0), (1, .int hill), (2, .int plan), (3, .int pond)] [] (Wd u g ex) 0 0
  refine J_aload_n (i := 0) (j := 0) dX10_hasPond_0 rfl rfl ?_
  refine J_iload_n (i := 1) (j := 1) dX10_hasPond_1 rfl rfl ?_
  refine J_iload_n (i := 2) (j := 2) dX10_hasPond_2 rfl rfl ?_
  refine J_callV (As := [.int hill, .int plan]) (rest := []) dX10_hasPond_3 (c_P_lays (d := 4) (u := u) (g := g) (ex := ex) (hill := hill) (plan := plan)  (by decide) hp0 hp1 hp2 hp3 hp4 hp5 hp6 hp7 hp8 hp9 hp10 hp11 hp12 hp13 hp14 hp15 hp16 hp17 hp18) hq.n k723 k725 k12 wc_0 rfl rfl k87 k726 np_X10_lays (Nat.le_trans (by decide) hd) (by decide) (Nat.le_refl _) (Nat.le_refl _) wlen rfl (Nat.le_of_ble_eq_true rfl) (fun r_ h_ p1 => ?_)
  obtain ⟨t2, u3, rfl, rfl, h4, h5, h6, fr7, fc8, fc9⟩ := p1
  refine J_ifB_eq (tgt := 27) dX10_hasPond_6 (by decide) (fun c10 => ?_) (fun c10 => ?_)
  · refine J_iconst (v := 0) dX10_hasPond_27 (by decide) ?_
    exact J_zret hq dX10_hasPond_28 rfl rfl wlen (Nat.le_refl _) (Nat.le_refl _) ⟨false, u3, rfl, rfl, (fun q => absurd q (by decide)), h4, h5, h6, (fun c k_ => (fr7 c (nin_sub (M := [(43, 48)]) k_ rfl))), (fun j k1_ k2_ k3_ => (fc8 j k1_ k2_ k3_)), (fun j k0_ k2_ => (fc9 j k0_ k2_))⟩
  · refine J_aload_n (i := 0) (j := 0) dX10_hasPond_9 rfl rfl ?_
    refine J_get (C := RX10) (T := TX10) (Z := 10) (ci := 10) (f := 4) dX10_hasPond_10 inG10 rfl (by decide) k427 wc_0 rfl ?_
    refine J_getN (C := RX4) (T := TX4) (Z := 4) (ci := 4) (f := 0) dX10_hasPond_13 inG4 rfl (by decide) k295 wc_43 rfl ?_
    refine J_iload_n (i := 3) (j := 3) dX10_hasPond_16 rfl rfl ?_
    refine J_callV (As := [.int pond]) (rest := []) dX10_hasPond_17 (c_H_has (d := 0) (u := u3) (g := g) (ex := ex) (pond := pond) (t := 44) (by decide) (by decide) h4 h5) hq.n k774 k741 k742 wc_44 rfl rfl k89 k743 np_X1_has (Nat.le_trans (by decide) hd) (by decide) (Nat.le_refl _) (Nat.le_refl _) wlen rfl (Nat.le_of_ble_eq_true rfl) (fun r_ h_ p11 => ?_)
    obtain ⟨t12, rfl, rfl, h13⟩ := p11
    refine J_ifB_eq (tgt := 27) dX10_hasPond_20 (by decide) (fun c14 => ?_) (fun c14 => ?_)
    · refine J_iconst (v := 0) dX10_hasPond_27 (by decide) ?_
      exact J_zret hq dX10_hasPond_28 rfl rfl wlen (Nat.le_refl _) (Nat.le_refl _) ⟨false, u3, rfl, rfl, (fun q => absurd q (by decide)), h4, h5, h6, (fun c k_ => (fr7 c (nin_sub (M := [(43, 48)]) k_ rfl))), (fun j k1_ k2_ k3_ => (fc8 j k1_ k2_ k3_)), (fun j k0_ k2_ => (fc9 j k0_ k2_))⟩
    · refine J_iconst (v := 1) dX10_hasPond_23 (by decide) ?_
      refine J_goto (tgt := 28) dX10_hasPond_24 (by decide) ?_
      exact J_zret hq dX10_hasPond_28 rfl rfl wlen (Nat.le_refl _) (Nat.le_refl _) ⟨true, u3, rfl, rfl, (fun qb => (h13 c14)), h4, h5, h6, (fun c k_ => (fr7 c (nin_sub (M := [(43, 48)]) k_ rfl))), (fun j k1_ k2_ k3_ => (fc8 j k1_ k2_ k3_)), (fun j k0_ k2_ => (fc9 j k0_ k2_))⟩
set_option maxHeartbeats 4000000 in
set_option maxRecDepth 100000 in
theorem c_P_canMend {d : Nat} {u : Nat → Nat → Int32} {g : Nat → Nat → Int64} {ex : List MC} {hill : Int32} {plan : Int32} {ponds : Int32} {limit : Int32} {most : Int32} (hd : 5 ≤ d) (hp0 : Bd 0 2 (u 1 5)) (hp1 : Bd 0 3 (u 1 7)) (hp2 : Bd 0 9 (u 44 0)) (hp3 : Bd 0 4 (u 44 2)) (hp4 : Bd 0 9 (u 5 0)) (hp5 : Bd 0 4 (u 5 2)) (hp6 : Bd 0 9 (u 10 0)) (hp7 : Bd 0 4 (u 10 2)) (hp8 : Bd 0 12 (u 15 0)) (hp9 : Bd 0 12 (u 19 0)) (hp10 : Bd 0 12 (u 23 0)) (hp11 : Bd 0 12 (u 49 0)) (hp12 : AB u 45 (-1) 999) (hp13 : AB u 6 (-1) 999) (hp14 : AB u 11 (-1) 999) (hp15 : (KM u 15)) (hp16 : (KM u 19)) (hp17 : (KM u 23)) (hp18 : (KM u 49)) : CT con0 d 0 0 yX10_canMend cX10_canMend 6 (some .boolean) [.ref 0, .int hill, .int plan, .int ponds, .int limit, .int most] (Wd u g ex) (fun r h2 => ∃ (z : Bool) (u2 : Nat → Nat → Int32), r = some (.int (bI z)) ∧ h2 = Wd u2 g ex ∧ (z = true → Bd 0 511 ponds) ∧ Bd 0 9 (u2 44 0) ∧ Bd 0 4 (u2 44 2) ∧ AB u2 45 (-1) 999 ∧ (∀ c, nin c [(43, 48)] = true → u2 c = u c) ∧ (∀ j, j ≠ 1 → j ≠ 2 → j ≠ 3 → u2 43 j = u 43 j) ∧ (∀ j, j ≠ 0 → j ≠ 2 → u2 44 j = u 44 j)) := by
  refine CT_of (by decide) (Nat.le_of_ble_eq_true rfl) (fun x hq => ?_)
  show J x yX10_canMend cX10_canMend 6 (some .boolean) d 0 0 (Wd u g ex).length 0 [(0, .ref 0), (1, .int hill), (2, .int plan), (3, .int ponds), (4, .int limit), (5, .int most)] [] (Wd u g ex) 0 0
  refine J_aload_n (i := 0) (j := 0) dX10_canMend_0 rfl rfl ?_
  refine J_iload_n (i := 1) (j := 1) dX10_canMend_1 rfl rfl ?_
  refine J_iload_n (i := 2) (j := 2) dX10_canMend_2 rfl rfl ?_
  refine J_callV (As := [.int hill, .int plan]) (rest := []) dX10_canMend_3 (c_P_lays (d := 4) (u := u) (g := g) (ex := ex) (hill := hill) (plan := plan)  (by decide) hp0 hp1 hp2 hp3 hp4 hp5 hp6 hp7 hp8 hp9 hp10 hp11 hp12 hp13 hp14 hp15 hp16 hp17 hp18) hq.n k723 k725 k12 wc_0 rfl rfl k87 k726 np_X10_lays (Nat.le_trans (by decide) hd) (by decide) (Nat.le_refl _) (Nat.le_refl _) wlen rfl (Nat.le_of_ble_eq_true rfl) (fun r_ h_ p1 => ?_)
  obtain ⟨t2, u3, rfl, rfl, h4, h5, h6, fr7, fc8, fc9⟩ := p1
  refine J_ifB_eq (tgt := 47) dX10_canMend_6 (by decide) (fun c10 => ?_) (fun c10 => ?_)
  · refine J_iconst (v := 0) dX10_canMend_47 (by decide) ?_
    exact J_zret hq dX10_canMend_48 rfl rfl wlen (Nat.le_refl _) (Nat.le_refl _) ⟨false, u3, rfl, rfl, (fun q => absurd q (by decide)), h4, h5, h6, (fun c k_ => (fr7 c (nin_sub (M := [(43, 48)]) k_ rfl))), (fun j k1_ k2_ k3_ => (fc8 j k1_ k2_ k3_)), (fun j k0_ k2_ => (fc9 j k0_ k2_))⟩
  · refine J_aload_n (i := 0) (j := 0) dX10_canMend_9 rfl rfl ?_
    refine J_get (C := RX10) (T := TX10) (Z := 10) (ci := 10) (f := 4) dX10_canMend_10 inG10 rfl (by decide) k427 wc_0 rfl ?_
    refine J_getN (C := RX4) (T := TX4) (Z := 4) (ci := 4) (f := 0) dX10_canMend_13 inG4 rfl (by decide) k295 wc_43 rfl ?_
    refine J_iload_n (i := 3) (j := 3) dX10_canMend_16 rfl rfl ?_
    refine J_callV (As := [.int ponds]) (rest := []) dX10_canMend_17 (c_H_hasSet (d := 1) (u := u3) (g := g) (ex := ex) (set := ponds) (t := 44) (by decide) (by decide) h4 h5) hq.n k942 k797 k798 wc_44 rfl rfl k89 k799 np_X1_hasSet (Nat.le_trans (by decide) hd) (by decide) (Nat.le_refl _) (Nat.le_refl _) wlen rfl (Nat.le_of_ble_eq_true rfl) (fun r_ h_ p11 => ?_)
    obtain ⟨t12, rfl, rfl, h13⟩ := p11
    refine J_ifB_eq (tgt := 47) dX10_canMend_20 (by decide) (fun c14 => ?_) (fun c14 => ?_)
    · refine J_iconst (v := 0) dX10_canMend_47 (by decide) ?_
      exact J_zret hq dX10_canMend_48 rfl rfl wlen (Nat.le_refl _) (Nat.le_refl _) ⟨false, u3, rfl, rfl, (fun q => absurd q (by decide)), h4, h5, h6, (fun c k_ => (fr7 c (nin_sub (M := [(43, 48)]) k_ rfl))), (fun j k1_ k2_ k3_ => (fc8 j k1_ k2_ k3_)), (fun j k0_ k2_ => (fc9 j k0_ k2_))⟩
    · refine J_iload_n (i := 3) (j := 3) dX10_canMend_23 rfl rfl ?_
      refine J_callS (As := [.int ponds]) (rest := []) dX10_canMend_24 (c_bitCount (d := 0) (u := u3) (g := g) (ex := ex) (i := ponds)  (by decide) ) hq.n k928 k929 k105 k930 np_J6_bitCount_0f7a4 (Nat.le_trans (by decide) hd) (by decide) (Nat.le_refl _) (Nat.le_refl _) wlen rfl (Nat.le_of_ble_eq_true rfl) (fun r_ h_ p15 => ?_)
      obtain ⟨v16, rfl, rfl, h17⟩ := p15
      refine J_iconst (v := 5) dX10_canMend_27 (by decide) ?_
      refine J_icmp_gt (tgt := 47) dX10_canMend_28 (by decide) (fun c18 => ?_) (fun c18 => ?_)
      · refine J_iconst (v := 0) dX10_canMend_47 (by decide) ?_
        exact J_zret hq dX10_canMend_48 rfl rfl wlen (Nat.le_refl _) (Nat.le_refl _) ⟨false, u3, rfl, rfl, (fun q => absurd q (by decide)), h4, h5, h6, (fun c k_ => (fr7 c (nin_sub (M := [(43, 48)]) k_ rfl))), (fun j k1_ k2_ k3_ => (fc8 j k1_ k2_ k3_)), (fun j k0_ k2_ => (fc9 j k0_ k2_))⟩
      · refine J_iload (i := 4) (j := 4) dX10_canMend_31 rfl ?_
        refine J_if_lt (tgt := 47) dX10_canMend_33 (by decide) (fun c19 => ?_) (fun c19 => ?_)
        · refine J_iconst (v := 0) dX10_canMend_47 (by decide) ?_
          exact J_zret hq dX10_canMend_48 rfl rfl wlen (Nat.le_refl _) (Nat.le_refl _) ⟨false, u3, rfl, rfl, (fun q => absurd q (by decide)), h4, h5, h6, (fun c k_ => (fr7 c (nin_sub (M := [(43, 48)]) k_ rfl))), (fun j k1_ k2_ k3_ => (fc8 j k1_ k2_ k3_)), (fun j k0_ k2_ => (fc9 j k0_ k2_))⟩
        · refine J_iload (i := 4) (j := 4) dX10_canMend_36 rfl ?_
          refine J_iload (i := 5) (j := 5) dX10_canMend_38 rfl ?_
          refine J_icmp_gt (tgt := 47) dX10_canMend_40 (by decide) (fun c20 => ?_) (fun c20 => ?_)
          · refine J_iconst (v := 0) dX10_canMend_47 (by decide) ?_
            exact J_zret hq dX10_canMend_48 rfl rfl wlen (Nat.le_refl _) (Nat.le_refl _) ⟨false, u3, rfl, rfl, (fun q => absurd q (by decide)), h4, h5, h6, (fun c k_ => (fr7 c (nin_sub (M := [(43, 48)]) k_ rfl))), (fun j k1_ k2_ k3_ => (fc8 j k1_ k2_ k3_)), (fun j k0_ k2_ => (fc9 j k0_ k2_))⟩
          · refine J_iconst (v := 1) dX10_canMend_43 (by decide) ?_
            refine J_goto (tgt := 48) dX10_canMend_44 (by decide) ?_
            exact J_zret hq dX10_canMend_48 rfl rfl wlen (Nat.le_refl _) (Nat.le_refl _) ⟨true, u3, rfl, rfl, (fun qb => (h13 c14)), h4, h5, h6, (fun c k_ => (fr7 c (nin_sub (M := [(43, 48)]) k_ rfl))), (fun j k1_ k2_ k3_ => (fc8 j k1_ k2_ k3_)), (fun j k0_ k2_ => (fc9 j k0_ k2_))⟩
set_option maxHeartbeats 4000000 in
set_option maxRecDepth 100000 in
theorem c_P_canFill {d : Nat} {u : Nat → Nat → Int32} {g : Nat → Nat → Int64} {ex : List MC} {hill : Int32} {plan : Int32} {ponds : Int32} (hd : 5 ≤ d) (hp0 : Bd 0 2 (u 1 5)) (hp1 : Bd 0 3 (u 1 7)) (hp2 : Bd 0 9 (u 44 0)) (hp3 : Bd 0 4 (u 44 2)) (hp4 : Bd 0 9 (u 5 0)) (hp5 : Bd 0 4 (u 5 2)) (hp6 : Bd 0 9 (u 10 0)) (hp7 : Bd 0 4 (u 10 2)) (hp8 : Bd 0 12 (u 15 0)) (hp9 : Bd 0 12 (u 19 0)) (hp10 : Bd 0 12 (u 23 0)) (hp11 : Bd 0 12 (u 49 0)) (hp12 : AB u 45 (-1) 999) (hp13 : AB u 6 (-1) 999) (hp14 : AB u 11 (-1) 999) (hp15 : (KM u 15)) (hp16 : (KM u 19)) (hp17 : (KM u 23)) (hp18 : (KM u 49)) : CT con0 d 0 0 yX10_canFill cX10_canFill 4 (some .boolean) [.ref 0, .int hill, .int plan, .int ponds] (Wd u g ex) (fun r h2 => ∃ (z : Bool) (u2 : Nat → Nat → Int32), r = some (.int (bI z)) ∧ h2 = Wd u2 g ex ∧ (z = true → Bd 0 511 ponds) ∧ Bd 0 9 (u2 44 0) ∧ Bd 0 4 (u2 44 2) ∧ AB u2 45 (-1) 999 ∧ (∀ c, nin c [(43, 48)] = true → u2 c = u c) ∧ (∀ j, j ≠ 1 → j ≠ 2 → j ≠ 3 → u2 43 j = u 43 j) ∧ (∀ j, j ≠ 0 → j ≠ 2 → u2 44 j = u 44 j)) := by
  refine CT_of (by decide) (Nat.le_of_ble_eq_true rfl) (fun x hq => ?_)
  show J x yX10_canFill cX10_canFill 4 (some .boolean) d 0 0 (Wd u g ex).length 0 [(0, .ref 0), (1, .int hill), (2, .int plan), (3, .int ponds)] [] (Wd u g ex) 0 0
  refine J_aload_n (i := 0) (j := 0) dX10_canFill_0 rfl rfl ?_
  refine J_iload_n (i := 1) (j := 1) dX10_canFill_1 rfl rfl ?_
  refine J_iload_n (i := 2) (j := 2) dX10_canFill_2 rfl rfl ?_
  refine J_callV (As := [.int hill, .int plan]) (rest := []) dX10_canFill_3 (c_P_lays (d := 4) (u := u) (g := g) (ex := ex) (hill := hill) (plan := plan)  (by decide) hp0 hp1 hp2 hp3 hp4 hp5 hp6 hp7 hp8 hp9 hp10 hp11 hp12 hp13 hp14 hp15 hp16 hp17 hp18) hq.n k723 k725 k12 wc_0 rfl rfl k87 k726 np_X10_lays (Nat.le_trans (by decide) hd) (by decide) (Nat.le_refl _) (Nat.le_refl _) wlen rfl (Nat.le_of_ble_eq_true rfl) (fun r_ h_ p1 => ?_)
  obtain ⟨t2, u3, rfl, rfl, h4, h5, h6, fr7, fc8, fc9⟩ := p1
  refine J_ifB_eq (tgt := 39) dX10_canFill_6 (by decide) (fun c10 => ?_) (fun c10 => ?_)
  · refine J_iconst (v := 0) dX10_canFill_39 (by decide) ?_
    exact J_zret hq dX10_canFill_40 rfl rfl wlen (Nat.le_refl _) (Nat.le_refl _) ⟨false, u3, rfl, rfl, (fun q => absurd q (by decide)), h4, h5, h6, (fun c k_ => (fr7 c (nin_sub (M := [(43, 48)]) k_ rfl))), (fun j k1_ k2_ k3_ => (fc8 j k1_ k2_ k3_)), (fun j k0_ k2_ => (fc9 j k0_ k2_))⟩
  · refine J_aload_n (i := 0) (j := 0) dX10_canFill_9 rfl rfl ?_
    refine J_get (C := RX10) (T := TX10) (Z := 10) (ci := 10) (f := 4) dX10_canFill_10 inG10 rfl (by decide) k427 wc_0 rfl ?_
    refine J_getN (C := RX4) (T := TX4) (Z := 4) (ci := 4) (f := 0) dX10_canFill_13 inG4 rfl (by decide) k295 wc_43 rfl ?_
    refine J_iload_n (i := 3) (j := 3) dX10_canFill_16 rfl rfl ?_
    refine J_callV (As := [.int ponds]) (rest := []) dX10_canFill_17 (c_H_hasSet (d := 1) (u := u3) (g := g) (ex := ex) (set := ponds) (t := 44) (by decide) (by decide) h4 h5) hq.n k942 k797 k798 wc_44 rfl rfl k89 k799 np_X1_hasSet (Nat.le_trans (by decide) hd) (by decide) (Nat.le_refl _) (Nat.le_refl _) wlen rfl (Nat.le_of_ble_eq_true rfl) (fun r_ h_ p11 => ?_)
    obtain ⟨t12, rfl, rfl, h13⟩ := p11
    refine J_ifB_eq (tgt := 39) dX10_canFill_20 (by decide) (fun c14 => ?_) (fun c14 => ?_)
    · refine J_iconst (v := 0) dX10_canFill_39 (by decide) ?_
      exact J_zret hq dX10_canFill_40 rfl rfl wlen (Nat.le_refl _) (Nat.le_refl _) ⟨false, u3, rfl, rfl, (fun q => absurd q (by decide)), h4, h5, h6, (fun c k_ => (fr7 c (nin_sub (M := [(43, 48)]) k_ rfl))), (fun j k1_ k2_ k3_ => (fc8 j k1_ k2_ k3_)), (fun j k0_ k2_ => (fc9 j k0_ k2_))⟩
    · refine J_iload_n (i := 3) (j := 3) dX10_canFill_23 rfl rfl ?_
      refine J_if_eq (tgt := 39) dX10_canFill_24 (by decide) (fun c15 => ?_) (fun c15 => ?_)
      · refine J_iconst (v := 0) dX10_canFill_39 (by decide) ?_
        exact J_zret hq dX10_canFill_40 rfl rfl wlen (Nat.le_refl _) (Nat.le_refl _) ⟨false, u3, rfl, rfl, (fun q => absurd q (by decide)), h4, h5, h6, (fun c k_ => (fr7 c (nin_sub (M := [(43, 48)]) k_ rfl))), (fun j k1_ k2_ k3_ => (fc8 j k1_ k2_ k3_)), (fun j k0_ k2_ => (fc9 j k0_ k2_))⟩
      · refine J_iload_n (i := 3) (j := 3) dX10_canFill_27 rfl rfl ?_
        refine J_callS (As := [.int ponds]) (rest := []) dX10_canFill_28 (c_bitCount (d := 0) (u := u3) (g := g) (ex := ex) (i := ponds)  (by decide) ) hq.n k928 k929 k105 k930 np_J6_bitCount_0f7a4 (Nat.le_trans (by decide) hd) (by decide) (Nat.le_refl _) (Nat.le_refl _) wlen rfl (Nat.le_of_ble_eq_true rfl) (fun r_ h_ p16 => ?_)
        obtain ⟨v17, rfl, rfl, h18⟩ := p16
        refine J_iconst (v := 4) dX10_canFill_31 (by decide) ?_
        refine J_icmp_gt (tgt := 39) dX10_canFill_32 (by decide) (fun c19 => ?_) (fun c19 => ?_)
        · refine J_iconst (v := 0) dX10_canFill_39 (by decide) ?_
          exact J_zret hq dX10_canFill_40 rfl rfl wlen (Nat.le_refl _) (Nat.le_refl _) ⟨false, u3, rfl, rfl, (fun q => absurd q (by decide)), h4, h5, h6, (fun c k_ => (fr7 c (nin_sub (M := [(43, 48)]) k_ rfl))), (fun j k1_ k2_ k3_ => (fc8 j k1_ k2_ k3_)), (fun j k0_ k2_ => (fc9 j k0_ k2_))⟩
        · refine J_iconst (v := 1) dX10_canFill_35 (by decide) ?_
          refine J_goto (tgt := 40) dX10_canFill_36 (by decide) ?_
          exact J_zret hq dX10_canFill_40 rfl rfl wlen (Nat.le_refl _) (Nat.le_refl _) ⟨true, u3, rfl, rfl, (fun qb => (bd_w (l := 0) (h := 511) (bd_ne_lo (h13 c14) c15 (by decide)) (by decide))), h4, h5, h6, (fun c k_ => (fr7 c (nin_sub (M := [(43, 48)]) k_ rfl))), (fun j k1_ k2_ k3_ => (fc8 j k1_ k2_ k3_)), (fun j k0_ k2_ => (fc9 j k0_ k2_))⟩
set_option maxHeartbeats 4000000 in
set_option maxRecDepth 100000 in
theorem c_P_fault {d : Nat} {u : Nat → Nat → Int32} {g : Nat → Nat → Int64} {ex : List MC} {what : Int32} (hd : 0 ≤ d)  : CT con0 d 0 0 yX10_fault cX10_fault 2 (some .int) [.ref 0, .int what] (Wd u g ex) (fun r h2 => ∃ (z : Int32), r = some (.int z) ∧ h2 = Wd u g ex) := by
  refine CT_of (by decide) (Nat.le_of_ble_eq_true rfl) (fun x hq => ?_)
  show J x yX10_fault cX10_fault 2 (some .int) d 0 0 (Wd u g ex).length 0 [(0, .ref 0), (1, .int what)] [] (Wd u g ex) 0 0
  refine J_iload_n (i := 1) (j := 1) dX10_fault_0 rfl rfl ?_
  by_cases c1 : what = 0
  · refine J_ci (v := 0) c1 ?_
    refine J_lookup (tgt := 28) dX10_fault_1 (by decide) (off := 27) (by decide) (by decide) ?_
    refine J_aload_n (i := 0) (j := 0) dX10_fault_28 rfl rfl ?_
    refine J_get (C := RX10) (T := TX10) (Z := 10) (ci := 10) (f := 0) dX10_fault_29 inG10 rfl (by decide) k423 wc_0 rfl ?_
    refine J_getN (C := RX7) (T := TX7) (Z := 8) (ci := 7) (f := 2) dX10_fault_32 inG7 rfl (by decide) k191 wc_1 rfl ?_
    exact J_iret hq dX10_fault_35 rfl wlen (Nat.le_refl _) (Nat.le_refl _) ⟨(u 1 2), rfl, rfl⟩
  by_cases c2 : what = 1
  · refine J_ci (v := 1) c2 ?_
    refine J_lookup (tgt := 36) dX10_fault_1 (by decide) (off := 35) (by decide) (by decide) ?_
    refine J_aload_n (i := 0) (j := 0) dX10_fault_36 rfl rfl ?_
    refine J_get (C := RX10) (T := TX10) (Z := 10) (ci := 10) (f := 0) dX10_fault_37 inG10 rfl (by decide) k423 wc_0 rfl ?_
    refine J_getN (C := RX7) (T := TX7) (Z := 8) (ci := 7) (f := 3) dX10_fault_40 inG7 rfl (by decide) k193 wc_1 rfl ?_
    exact J_iret hq dX10_fault_43 rfl wlen (Nat.le_refl _) (Nat.le_refl _) ⟨(u 1 3), rfl, rfl⟩
  · refine J_lookup (tgt := 44) dX10_fault_1 (by decide) (off := 43) ((lv_osw c1 (by decide)).trans ((lv_osw c2 (by decide)).trans rfl)) (by decide) ?_
    refine J_iconst (v := (-1)) dX10_fault_44 (by decide) ?_
    exact J_iret hq dX10_fault_45 rfl wlen (Nat.le_refl _) (Nat.le_refl _) ⟨((-1) : Int32), rfl, rfl⟩
set_option maxHeartbeats 4000000 in
set_option maxRecDepth 100000 in
theorem c_P_hill {d : Nat} {u : Nat → Nat → Int32} {g : Nat → Nat → Int64} {ex : List MC} {hill : Int32} {what : Int32} (hd : 2 ≤ d) (hp0 : Bd 0 2 (u 1 5)) (hp1 : Bd 0 9 (u 5 0)) (hp2 : Bd 0 4 (u 5 2)) (hp3 : Bd 0 9 (u 10 0)) (hp4 : Bd 0 4 (u 10 2)) : CT con0 d 0 0 yX10_hill cX10_hill 3 (some .int) [.ref 0, .int hill, .int what] (Wd u g ex) (fun r h2 => ∃ (z : Int32), r = some (.int z) ∧ h2 = Wd u g ex) := by
  refine CT_of (by decide) (Nat.le_of_ble_eq_true rfl) (fun x hq => ?_)
  show J x yX10_hill cX10_hill 3 (some .int) d 0 0 (Wd u g ex).length 0 [(0, .ref 0), (1, .int hill), (2, .int what)] [] (Wd u g ex) 0 0
  refine J_aload_n (i := 0) (j := 0) dX10_hill_0 rfl rfl ?_
  refine J_get (C := RX10) (T := TX10) (Z := 10) (ci := 10) (f := 0) dX10_hill_1 inG10 rfl (by decide) k423 wc_0 rfl ?_
  refine J_iload_n (i := 1) (j := 1) dX10_hill_4 rfl rfl ?_
  refine J_callV (As := [.int hill]) (rest := []) dX10_hill_5 (c_T_hasHill (d := 0) (u := u) (g := g) (ex := ex) (number := hill)  (by decide) hp0) hq.n k703 k704 k705 wc_1 rfl rfl k88 k706 np_X7_hasHill (Nat.le_trans (by decide) hd) (by decide) (Nat.le_refl _) (Nat.le_refl _) wlen rfl (Nat.le_of_ble_eq_true rfl) (fun r_ h_ p1 => ?_)
  obtain ⟨t2, rfl, rfl, h3⟩ := p1
  refine J_ifB_eq (tgt := 27) dX10_hill_8 (by decide) (fun c4 => ?_) (fun c4 => ?_)
  · refine J_iconst (v := (-1)) dX10_hill_27 (by decide) ?_
    exact J_iret hq dX10_hill_28 rfl wlen (Nat.le_refl _) (Nat.le_refl _) ⟨((-1) : Int32), rfl, rfl⟩
  · refine J_aload_n (i := 0) (j := 0) dX10_hill_11 rfl rfl ?_
    refine J_get (C := RX10) (T := TX10) (Z := 10) (ci := 10) (f := 0) dX10_hill_12 inG10 rfl (by decide) k423 wc_0 rfl ?_
    refine J_getN (C := RX7) (T := TX7) (Z := 8) (ci := 7) (f := 4) dX10_hill_15 inG7 rfl (by decide) k195 wc_1 rfl ?_
    refine J_iload_n (i := 1) (j := 1) dX10_hill_18 rfl rfl ?_
    have h5 := bd_cases2 (h3 c4)
    rcases h5 with h5_0 | h5_1
    · refine J_aald (q := 5) dX10_hill_19 wc_3 (fun _ => rfl) (vin (h3 c4) (by decide)) (by rw [h5_0]; rfl) ?_
      refine J_iload_n (i := 2) (j := 2) dX10_hill_20 rfl rfl ?_
      refine J_callV (As := [.int what]) (rest := []) dX10_hill_21 (c_H_told (d := 1) (u := u) (g := g) (ex := ex) (what := what) (t := 5) (by decide) (by decide) hp1 hp2) hq.n k707 k708 k709 wc_5 rfl rfl k89 k710 np_X1_told (Nat.le_trans (by decide) hd) (by decide) (Nat.le_refl _) (Nat.le_refl _) wlen rfl (Nat.le_of_ble_eq_true rfl) (fun r_ h_ p6 => ?_)
      obtain ⟨v7, rfl, rfl⟩ := p6
      refine J_goto (tgt := 28) dX10_hill_24 (by decide) ?_
      exact J_iret hq dX10_hill_28 rfl wlen (Nat.le_refl _) (Nat.le_refl _) ⟨v7, rfl, rfl⟩
    · refine J_aald (q := 10) dX10_hill_19 wc_3 (fun _ => rfl) (vin (h3 c4) (by decide)) (by rw [h5_1]; rfl) ?_
      refine J_iload_n (i := 2) (j := 2) dX10_hill_20 rfl rfl ?_
      refine J_callV (As := [.int what]) (rest := []) dX10_hill_21 (c_H_told (d := 1) (u := u) (g := g) (ex := ex) (what := what) (t := 10) (by decide) (by decide) hp3 hp4) hq.n k707 k708 k709 wc_10 rfl rfl k89 k710 np_X1_told (Nat.le_trans (by decide) hd) (by decide) (Nat.le_refl _) (Nat.le_refl _) wlen rfl (Nat.le_of_ble_eq_true rfl) (fun r_ h_ p8 => ?_)
      obtain ⟨v9, rfl, rfl⟩ := p8
      refine J_goto (tgt := 28) dX10_hill_24 (by decide) ?_
      exact J_iret hq dX10_hill_28 rfl wlen (Nat.le_refl _) (Nat.le_refl _) ⟨v9, rfl, rfl⟩
set_option maxHeartbeats 4000000 in
set_option maxRecDepth 100000 in
theorem c_P_pond {d : Nat} {u : Nat → Nat → Int32} {g : Nat → Nat → Int64} {ex : List MC} {hill : Int32} {plan : Int32} {pond : Int32} {what : Int32} (hd : 5 ≤ d) (hp0 : Bd 0 2 (u 1 5)) (hp1 : Bd 0 3 (u 1 7)) (hp2 : Bd 0 9 (u 44 0)) (hp3 : Bd 0 4 (u 44 2)) (hp4 : Bd 0 9 (u 5 0)) (hp5 : Bd 0 4 (u 5 2)) (hp6 : Bd 0 9 (u 10 0)) (hp7 : Bd 0 4 (u 10 2)) (hp8 : Bd 0 12 (u 15 0)) (hp9 : Bd 0 12 (u 19 0)) (hp10 : Bd 0 12 (u 23 0)) (hp11 : Bd 0 12 (u 49 0)) (hp12 : AB u 45 (-1) 999) (hp13 : AB u 6 (-1) 999) (hp14 : AB u 11 (-1) 999) (hp15 : (KM u 15)) (hp16 : (KM u 19)) (hp17 : (KM u 23)) (hp18 : (KM u 49)) : CT con0 d 0 0 yX10_pond cX10_pond 5 (some .int) [.ref 0, .int hill, .int plan, .int pond, .int what] (Wd u g ex) (fun r h2 => ∃ (z : Int32) (u2 : Nat → Nat → Int32), r = some (.int z) ∧ h2 = Wd u2 g ex ∧ Bd 0 9 (u2 44 0) ∧ Bd 0 4 (u2 44 2) ∧ AB u2 45 (-1) 999 ∧ (∀ c, nin c [(43, 48)] = true → u2 c = u c) ∧ (∀ j, j ≠ 1 → j ≠ 2 → j ≠ 3 → u2 43 j = u 43 j) ∧ (∀ j, j ≠ 0 → j ≠ 2 → u2 44 j = u 44 j)) := by
  refine CT_of (by decide) (Nat.le_of_ble_eq_true rfl) (fun x hq => ?_)
  show J x yX10_pond cX10_pond 5 (some .int) d 0 0 (Wd u g ex).length 0 [(0, .ref 0), (1, .int hill), (2, .int plan), (3, .int pond), (4, .int what)] [] (Wd u g ex) 0 0
  refine J_aload_n (i := 0) (j := 0) dX10_pond_0 rfl rfl ?_
  refine J_iload_n (i := 1) (j := 1) dX10_pond_1 rfl rfl ?_
  refine J_iload_n (i := 2) (j := 2) dX10_pond_2 rfl rfl ?_
  refine J_callV (As := [.int hill, .int plan]) (rest := []) dX10_pond_3 (c_P_lays (d := 4) (u := u) (g := g) (ex := ex) (hill := hill) (plan := plan)  (by decide) hp0 hp1 hp2 hp3 hp4 hp5 hp6 hp7 hp8 hp9 hp10 hp11 hp12 hp13 hp14 hp15 hp16 hp17 hp18) hq.n k723 k725 k12 wc_0 rfl rfl k87 k726 np_X10_lays (Nat.le_trans (by decide) hd) (by decide) (Nat.le_refl _) (Nat.le_refl _) wlen rfl (Nat.le_of_ble_eq_true rfl) (fun r_ h_ p1 => ?_)
  obtain ⟨t2, u3, rfl, rfl, h4, h5, h6, fr7, fc8, fc9⟩ := p1
  refine J_ifB_eq (tgt := 35) dX10_pond_6 (by decide) (fun c10 => ?_) (fun c10 => ?_)
  · refine J_bipush (v := (-2)) dX10_pond_35 (by decide) ?_
    exact J_iret hq dX10_pond_37 rfl wlen (Nat.le_refl _) (Nat.le_refl _) ⟨((-2) : Int32), u3, rfl, rfl, h4, h5, h6, (fun c k_ => (fr7 c (nin_sub (M := [(43, 48)]) k_ rfl))), (fun j k1_ k2_ k3_ => (fc8 j k1_ k2_ k3_)), (fun j k0_ k2_ => (fc9 j k0_ k2_))⟩
  · refine J_aload_n (i := 0) (j := 0) dX10_pond_9 rfl rfl ?_
    refine J_get (C := RX10) (T := TX10) (Z := 10) (ci := 10) (f := 4) dX10_pond_10 inG10 rfl (by decide) k427 wc_0 rfl ?_
    refine J_getN (C := RX4) (T := TX4) (Z := 4) (ci := 4) (f := 0) dX10_pond_13 inG4 rfl (by decide) k295 wc_43 rfl ?_
    refine J_iload_n (i := 3) (j := 3) dX10_pond_16 rfl rfl ?_
    refine J_callV (As := [.int pond]) (rest := []) dX10_pond_17 (c_H_has (d := 0) (u := u3) (g := g) (ex := ex) (pond := pond) (t := 44) (by decide) (by decide) h4 h5) hq.n k774 k741 k742 wc_44 rfl rfl k89 k743 np_X1_has (Nat.le_trans (by decide) hd) (by decide) (Nat.le_refl _) (Nat.le_refl _) wlen rfl (Nat.le_of_ble_eq_true rfl) (fun r_ h_ p11 => ?_)
    obtain ⟨t12, rfl, rfl, h13⟩ := p11
    refine J_ifB_eq (tgt := 35) dX10_pond_20 (by decide) (fun c14 => ?_) (fun c14 => ?_)
    · refine J_bipush (v := (-2)) dX10_pond_35 (by decide) ?_
      exact J_iret hq dX10_pond_37 rfl wlen (Nat.le_refl _) (Nat.le_refl _) ⟨((-2) : Int32), u3, rfl, rfl, h4, h5, h6, (fun c k_ => (fr7 c (nin_sub (M := [(43, 48)]) k_ rfl))), (fun j k1_ k2_ k3_ => (fc8 j k1_ k2_ k3_)), (fun j k0_ k2_ => (fc9 j k0_ k2_))⟩
    · refine J_iload (i := 4) (j := 4) dX10_pond_23 rfl ?_
      refine J_if_lt (tgt := 35) dX10_pond_25 (by decide) (fun c15 => ?_) (fun c15 => ?_)
      · refine J_bipush (v := (-2)) dX10_pond_35 (by decide) ?_
        exact J_iret hq dX10_pond_37 rfl wlen (Nat.le_refl _) (Nat.le_refl _) ⟨((-2) : Int32), u3, rfl, rfl, h4, h5, h6, (fun c k_ => (fr7 c (nin_sub (M := [(43, 48)]) k_ rfl))), (fun j k1_ k2_ k3_ => (fc8 j k1_ k2_ k3_)), (fun j k0_ k2_ => (fc9 j k0_ k2_))⟩
      · refine J_iload (i := 4) (j := 4) dX10_pond_28 rfl ?_
        refine J_bipush (v := 16) dX10_pond_30 (by decide) ?_
        refine J_icmp_lt (tgt := 38) dX10_pond_32 (by decide) (fun c16 => ?_) (fun c16 => ?_)
        · refine J_aload_n (i := 0) (j := 0) dX10_pond_38 rfl rfl ?_
          refine J_get (C := RX10) (T := TX10) (Z := 10) (ci := 10) (f := 4) dX10_pond_39 inG10 rfl (by decide) k427 wc_0 rfl ?_
          refine J_getN (C := RX4) (T := TX4) (Z := 4) (ci := 4) (f := 0) dX10_pond_42 inG4 rfl (by decide) k295 wc_43 rfl ?_
          refine J_iload_n (i := 3) (j := 3) dX10_pond_45 rfl rfl ?_
          refine J_iload (i := 4) (j := 4) dX10_pond_46 rfl ?_
          refine J_callV (As := [.int pond, .int what]) (rest := []) dX10_pond_48 (c_H_of (d := 0) (u := u3) (g := g) (ex := ex) (pond := pond) (column := what) (t := 44) (by decide) (by decide)) hq.n k775 k749 k750 wc_44 rfl rfl k89 k751 np_X1_of (Nat.le_trans (by decide) hd) (by decide) (Nat.le_refl _) (Nat.le_refl _) wlen rfl (Nat.le_of_ble_eq_true rfl) (fun r_ h_ p17 => ?_)
          obtain ⟨rfl, rfl⟩ := p17
          exact J_iret hq dX10_pond_51 rfl wlen (Nat.le_refl _) (Nat.le_refl _) ⟨(hof u3 44 pond what), u3, rfl, rfl, h4, h5, h6, (fun c k_ => (fr7 c (nin_sub (M := [(43, 48)]) k_ rfl))), (fun j k1_ k2_ k3_ => (fc8 j k1_ k2_ k3_)), (fun j k0_ k2_ => (fc9 j k0_ k2_))⟩
        · refine J_bipush (v := (-2)) dX10_pond_35 (by decide) ?_
          exact J_iret hq dX10_pond_37 rfl wlen (Nat.le_refl _) (Nat.le_refl _) ⟨((-2) : Int32), u3, rfl, rfl, h4, h5, h6, (fun c k_ => (fr7 c (nin_sub (M := [(43, 48)]) k_ rfl))), (fun j k1_ k2_ k3_ => (fc8 j k1_ k2_ k3_)), (fun j k0_ k2_ => (fc9 j k0_ k2_))⟩
set_option maxHeartbeats 4000000 in
set_option maxRecDepth 100000 in
theorem c_P_work {d : Nat} {u : Nat → Nat → Int32} {g : Nat → Nat → Int64} {ex : List MC} {plan : Int32} {work : Int32} {what : Int32} (hd : 1 ≤ d) (hp0 : Bd 0 3 (u 1 7)) (hp1 : Bd 0 12 (u 15 0)) (hp2 : Bd 0 12 (u 19 0)) (hp3 : Bd 0 12 (u 23 0)) : CT con0 d 0 0 yX10_work cX10_work 4 (some .int) [.ref 0, .int plan, .int work, .int what] (Wd u g ex) (fun r h2 => ∃ (z : Int32), r = some (.int z) ∧ h2 = Wd u g ex) := by
  refine CT_of (by decide) (Nat.le_of_ble_eq_true rfl) (fun x hq => ?_)
  show J x yX10_work cX10_work 4 (some .int) d 0 0 (Wd u g ex).length 0 [(0, .ref 0), (1, .int plan), (2, .int work), (3, .int what)] [] (Wd u g ex) 0 0
  refine J_aload_n (i := 0) (j := 0) dX10_work_0 rfl rfl ?_
  refine J_get (C := RX10) (T := TX10) (Z := 10) (ci := 10) (f := 0) dX10_work_1 inG10 rfl (by decide) k423 wc_0 rfl ?_
  refine J_iload_n (i := 1) (j := 1) dX10_work_4 rfl rfl ?_
  refine J_callV (As := [.int plan]) (rest := []) dX10_work_5 (c_T_hasPlan (d := 0) (u := u) (g := g) (ex := ex) (number := plan)  (by decide) hp0) hq.n k727 k728 k729 wc_1 rfl rfl k88 k730 np_X7_hasPlan (Nat.le_trans (by decide) hd) (by decide) (Nat.le_refl _) (Nat.le_refl _) wlen rfl (Nat.le_of_ble_eq_true rfl) (fun r_ h_ p1 => ?_)
  obtain ⟨t2, rfl, rfl, h3⟩ := p1
  refine J_ifB_eq (tgt := 28) dX10_work_8 (by decide) (fun c4 => ?_) (fun c4 => ?_)
  · refine J_bipush (v := (-2)) dX10_work_28 (by decide) ?_
    exact J_iret hq dX10_work_30 rfl wlen (Nat.le_refl _) (Nat.le_refl _) ⟨((-2) : Int32), rfl, rfl⟩
  · refine J_aload_n (i := 0) (j := 0) dX10_work_11 rfl rfl ?_
    refine J_get (C := RX10) (T := TX10) (Z := 10) (ci := 10) (f := 0) dX10_work_12 inG10 rfl (by decide) k423 wc_0 rfl ?_
    refine J_getN (C := RX7) (T := TX7) (Z := 8) (ci := 7) (f := 6) dX10_work_15 inG7 rfl (by decide) k199 wc_1 rfl ?_
    refine J_iload_n (i := 1) (j := 1) dX10_work_18 rfl rfl ?_
    have h5 := bd_cases3 (h3 c4)
    rcases h5 with h5_0 | h5_1 | h5_2
    · refine J_aald (q := 15) dX10_work_19 wc_4 (fun _ => rfl) (vin (h3 c4) (by decide)) (by rw [h5_0]; rfl) ?_
      refine J_iload_n (i := 2) (j := 2) dX10_work_20 rfl rfl ?_
      refine J_iload_n (i := 3) (j := 3) dX10_work_21 rfl rfl ?_
      refine J_callV (As := [.int work, .int what]) (rest := []) dX10_work_22 (c_W_told (d := 0) (u := u) (g := g) (ex := ex) (number := work) (what := what) (w := 15) (by decide) (by decide) hp1) hq.n k780 k781 k782 wc_15 rfl rfl k90 k783 np_X8_told (Nat.le_trans (by decide) hd) (by decide) (Nat.le_refl _) (Nat.le_refl _) wlen rfl (Nat.le_of_ble_eq_true rfl) (fun r_ h_ p6 => ?_)
      obtain ⟨v7, rfl, rfl⟩ := p6
      refine J_goto (tgt := 30) dX10_work_25 (by decide) ?_
      exact J_iret hq dX10_work_30 rfl wlen (Nat.le_refl _) (Nat.le_refl _) ⟨v7, rfl, rfl⟩
    · refine J_aald (q := 19) dX10_work_19 wc_4 (fun _ => rfl) (vin (h3 c4) (by decide)) (by rw [h5_1]; rfl) ?_
      refine J_iload_n (i := 2) (j := 2) dX10_work_20 rfl rfl ?_
      refine J_iload_n (i := 3) (j := 3) dX10_work_21 rfl rfl ?_
      refine J_callV (As := [.int work, .int what]) (rest := []) dX10_work_22 (c_W_told (d := 0) (u := u) (g := g) (ex := ex) (number := work) (what := what) (w := 19) (by decide) (by decide) hp2) hq.n k780 k781 k782 wc_19 rfl rfl k90 k783 np_X8_told (Nat.le_trans (by decide) hd) (by decide) (Nat.le_refl _) (Nat.le_refl _) wlen rfl (Nat.le_of_ble_eq_true rfl) (fun r_ h_ p8 => ?_)
      obtain ⟨v9, rfl, rfl⟩ := p8
      refine J_goto (tgt := 30) dX10_work_25 (by decide) ?_
      exact J_iret hq dX10_work_30 rfl wlen (Nat.le_refl _) (Nat.le_refl _) ⟨v9, rfl, rfl⟩
    · refine J_aald (q := 23) dX10_work_19 wc_4 (fun _ => rfl) (vin (h3 c4) (by decide)) (by rw [h5_2]; rfl) ?_
      refine J_iload_n (i := 2) (j := 2) dX10_work_20 rfl rfl ?_
      refine J_iload_n (i := 3) (j := 3) dX10_work_21 rfl rfl ?_
      refine J_callV (As := [.int work, .int what]) (rest := []) dX10_work_22 (c_W_told (d := 0) (u := u) (g := g) (ex := ex) (number := work) (what := what) (w := 23) (by decide) (by decide) hp3) hq.n k780 k781 k782 wc_23 rfl rfl k90 k783 np_X8_told (Nat.le_trans (by decide) hd) (by decide) (Nat.le_refl _) (Nat.le_refl _) wlen rfl (Nat.le_of_ble_eq_true rfl) (fun r_ h_ p10 => ?_)
      obtain ⟨v11, rfl, rfl⟩ := p10
      refine J_goto (tgt := 30) dX10_work_25 (by decide) ?_
      exact J_iret hq dX10_work_30 rfl wlen (Nat.le_refl _) (Nat.le_refl _) ⟨v11, rfl, rfl⟩
set_option maxHeartbeats 4000000 in
set_option maxRecDepth 100000 in
theorem c_P_plan {d : Nat} {u : Nat → Nat → Int32} {g : Nat → Nat → Int64} {ex : List MC} {hill : Int32} {plan : Int32} {what : Int32} (hd : 5 ≤ d) (hp0 : Bd 0 2 (u 1 5)) (hp1 : Bd 0 3 (u 1 7)) (hp2 : Bd 0 9 (u 44 0)) (hp3 : Bd 0 4 (u 44 2)) (hp4 : Bd 0 9 (u 5 0)) (hp5 : Bd 0 4 (u 5 2)) (hp6 : Bd 0 9 (u 10 0)) (hp7 : Bd 0 4 (u 10 2)) (hp8 : Bd 0 12 (u 15 0)) (hp9 : Bd 0 12 (u 19 0)) (hp10 : Bd 0 12 (u 23 0)) (hp11 : Bd 0 12 (u 49 0)) (hp12 : AB u 45 (-1) 999) (hp13 : AB u 6 (-1) 999) (hp14 : AB u 11 (-1) 999) (hp15 : (KM u 15)) (hp16 : (KM u 19)) (hp17 : (KM u 23)) (hp18 : (KM u 49)) : CT con0 d 0 0 yX10_plan cX10_plan 4 (some .int) [.ref 0, .int hill, .int plan, .int what] (Wd u g ex) (fun r h2 => ∃ (z : Int32) (u2 : Nat → Nat → Int32), r = some (.int z) ∧ h2 = Wd u2 g ex ∧ Bd 0 9 (u2 44 0) ∧ Bd 0 4 (u2 44 2) ∧ AB u2 45 (-1) 999 ∧ (∀ c, nin c [(43, 48)] = true → u2 c = u c) ∧ (∀ j, j ≠ 1 → j ≠ 2 → j ≠ 3 → u2 43 j = u 43 j) ∧ (∀ j, j ≠ 0 → j ≠ 2 → u2 44 j = u 44 j)) := by
  refine CT_of (by decide) (Nat.le_of_ble_eq_true rfl) (fun x hq => ?_)
  show J x yX10_plan cX10_plan 4 (some .int) d 0 0 (Wd u g ex).length 0 [(0, .ref 0), (1, .int hill), (2, .int plan), (3, .int what)] [] (Wd u g ex) 0 0
  refine J_aload_n (i := 0) (j := 0) dX10_plan_0 rfl rfl ?_
  refine J_iload_n (i := 1) (j := 1) dX10_plan_1 rfl rfl ?_
  refine J_iload_n (i := 2) (j := 2) dX10_plan_2 rfl rfl ?_
  refine J_callV (As := [.int hill, .int plan]) (rest := []) dX10_plan_3 (c_P_lays (d := 4) (u := u) (g := g) (ex := ex) (hill := hill) (plan := plan)  (by decide) hp0 hp1 hp2 hp3 hp4 hp5 hp6 hp7 hp8 hp9 hp10 hp11 hp12 hp13 hp14 hp15 hp16 hp17 hp18) hq.n k723 k725 k12 wc_0 rfl rfl k87 k726 np_X10_lays (Nat.le_trans (by decide) hd) (by decide) (Nat.le_refl _) (Nat.le_refl _) wlen rfl (Nat.le_of_ble_eq_true rfl) (fun r_ h_ p1 => ?_)
  obtain ⟨t2, u3, rfl, rfl, h4, h5, h6, fr7, fc8, fc9⟩ := p1
  refine J_ifB_ne (tgt := 11) dX10_plan_6 (by decide) (fun c10 => ?_) (fun c10 => ?_)
  · refine J_iload_n (i := 3) (j := 3) dX10_plan_11 rfl rfl ?_
    by_cases c11 : what = 0
    · refine J_ci (v := 0) c11 ?_
      refine J_tableIn (tgt := 40) (off := 28) dX10_plan_12 (by decide) (by decide) (by decide) (by decide) ?_
      refine J_aload_n (i := 0) (j := 0) dX10_plan_40 rfl rfl ?_
      refine J_get (C := RX10) (T := TX10) (Z := 10) (ci := 10) (f := 4) dX10_plan_41 inG10 rfl (by decide) k427 wc_0 rfl ?_
      refine J_getN (C := RX4) (T := TX4) (Z := 4) (ci := 4) (f := 1) dX10_plan_44 inG4 rfl (by decide) k297 wc_43 rfl ?_
      exact J_iret hq dX10_plan_47 rfl wlen (Nat.le_refl _) (Nat.le_refl _) ⟨(u3 43 1), u3, rfl, rfl, h4, h5, h6, (fun c k_ => (fr7 c (nin_sub (M := [(43, 48)]) k_ rfl))), (fun j k1_ k2_ k3_ => (fc8 j k1_ k2_ k3_)), (fun j k0_ k2_ => (fc9 j k0_ k2_))⟩
    by_cases c12 : what = 1
    · refine J_ci (v := 1) c12 ?_
      refine J_tableIn (tgt := 48) (off := 36) dX10_plan_12 (by decide) (by decide) (by decide) (by decide) ?_
      refine J_aload_n (i := 0) (j := 0) dX10_plan_48 rfl rfl ?_
      refine J_get (C := RX10) (T := TX10) (Z := 10) (ci := 10) (f := 4) dX10_plan_49 inG10 rfl (by decide) k427 wc_0 rfl ?_
      refine J_getN (C := RX4) (T := TX4) (Z := 4) (ci := 4) (f := 2) dX10_plan_52 inG4 rfl (by decide) k299 wc_43 rfl ?_
      exact J_iret hq dX10_plan_55 rfl wlen (Nat.le_refl _) (Nat.le_refl _) ⟨(u3 43 2), u3, rfl, rfl, h4, h5, h6, (fun c k_ => (fr7 c (nin_sub (M := [(43, 48)]) k_ rfl))), (fun j k1_ k2_ k3_ => (fc8 j k1_ k2_ k3_)), (fun j k0_ k2_ => (fc9 j k0_ k2_))⟩
    by_cases c13 : what = 2
    · refine J_ci (v := 2) c13 ?_
      refine J_tableIn (tgt := 56) (off := 44) dX10_plan_12 (by decide) (by decide) (by decide) (by decide) ?_
      refine J_aload_n (i := 0) (j := 0) dX10_plan_56 rfl rfl ?_
      refine J_get (C := RX10) (T := TX10) (Z := 10) (ci := 10) (f := 4) dX10_plan_57 inG10 rfl (by decide) k427 wc_0 rfl ?_
      refine J_getN (C := RX4) (T := TX4) (Z := 4) (ci := 4) (f := 3) dX10_plan_60 inG4 rfl (by decide) k301 wc_43 rfl ?_
      exact J_iret hq dX10_plan_63 rfl wlen (Nat.le_refl _) (Nat.le_refl _) ⟨(u3 43 3), u3, rfl, rfl, h4, h5, h6, (fun c k_ => (fr7 c (nin_sub (M := [(43, 48)]) k_ rfl))), (fun j k1_ k2_ k3_ => (fc8 j k1_ k2_ k3_)), (fun j k0_ k2_ => (fc9 j k0_ k2_))⟩
    · refine J_tableOut (tgt := 64) dX10_plan_12 (by have e0 := int_ne (k := 0) c11 (by decide); have e1 := int_ne (k := 1) c12 (by decide); have e2 := int_ne (k := 2) c13 (by decide); omega) (by decide) ?_
      refine J_iconst (v := (-1)) dX10_plan_64 (by decide) ?_
      exact J_iret hq dX10_plan_65 rfl wlen (Nat.le_refl _) (Nat.le_refl _) ⟨((-1) : Int32), u3, rfl, rfl, h4, h5, h6, (fun c k_ => (fr7 c (nin_sub (M := [(43, 48)]) k_ rfl))), (fun j k1_ k2_ k3_ => (fc8 j k1_ k2_ k3_)), (fun j k0_ k2_ => (fc9 j k0_ k2_))⟩
  · refine J_iconst (v := (-1)) dX10_plan_9 (by decide) ?_
    exact J_iret hq dX10_plan_10 rfl wlen (Nat.le_refl _) (Nat.le_refl _) ⟨((-1) : Int32), u3, rfl, rfl, h4, h5, h6, (fun c k_ => (fr7 c (nin_sub (M := [(43, 48)]) k_ rfl))), (fun j k1_ k2_ k3_ => (fc8 j k1_ k2_ k3_)), (fun j k0_ k2_ => (fc9 j k0_ k2_))⟩
set_option maxHeartbeats 4000000 in
set_option maxRecDepth 100000 in
theorem c_P_storm {d : Nat} {u : Nat → Nat → Int32} {g : Nat → Nat → Int64} {ex : List MC} {hill : Int32} {plan : Int32} {rain : Int32} {banks : Int32} {what : Int32} (hd : 5 ≤ d) (hp0 : Bd 0 2 (u 1 5)) (hp1 : Bd 0 3 (u 1 7)) (hp2 : Bd 0 9 (u 44 0)) (hp3 : Bd 0 4 (u 44 2)) (hp4 : Bd 0 9 (u 5 0)) (hp5 : Bd 0 4 (u 5 2)) (hp6 : Bd 0 9 (u 10 0)) (hp7 : Bd 0 4 (u 10 2)) (hp8 : Bd 0 12 (u 15 0)) (hp9 : Bd 0 12 (u 19 0)) (hp10 : Bd 0 12 (u 23 0)) (hp11 : Bd 0 12 (u 49 0)) (hp12 : AB u 45 (-1) 999) (hp13 : AB u 6 (-1) 999) (hp14 : AB u 11 (-1) 999) (hp15 : (KM u 15)) (hp16 : (KM u 19)) (hp17 : (KM u 23)) (hp18 : (KM u 49)) (hp19 : Bd 0 9 (u 53 0)) (hp20 : Bd 0 511 (u 53 1)) : CT con0 d 0 0 yX10_storm cX10_storm 6 (some .int) [.ref 0, .int hill, .int plan, .int rain, .int banks, .int what] (Wd u g ex) (fun r h2 => ∃ (z : Int32) (u2 : Nat → Nat → Int32), r = some (.int z) ∧ h2 = Wd u2 g ex ∧ Bd 0 9 (u2 44 0) ∧ Bd 0 4 (u2 44 2) ∧ AB u2 45 (-1) 999 ∧ Bd 0 9 (u2 53 0) ∧ Bd 0 511 (u2 53 1) ∧ (∀ c, nin c [(43, 48), (53, 55)] = true → u2 c = u c) ∧ (∀ j, j ≠ 1 → j ≠ 2 → j ≠ 3 → u2 43 j = u 43 j) ∧ (∀ j, j ≠ 0 → j ≠ 2 → u2 44 j = u 44 j) ∧ (∀ j, j ≠ 0 → j ≠ 1 → j ≠ 2 → j ≠ 3 → j ≠ 4 → u2 53 j = u 53 j)) := by
  refine CT_of (by decide) (Nat.le_of_ble_eq_true rfl) (fun x hq => ?_)
  show J x yX10_storm cX10_storm 6 (some .int) d 0 0 (Wd u g ex).length 0 [(0, .ref 0), (1, .int hill), (2, .int plan), (3, .int rain), (4, .int banks), (5, .int what)] [] (Wd u g ex) 0 0
  refine J_aload_n (i := 0) (j := 0) dX10_storm_0 rfl rfl ?_
  refine J_iload_n (i := 1) (j := 1) dX10_storm_1 rfl rfl ?_
  refine J_iload_n (i := 2) (j := 2) dX10_storm_2 rfl rfl ?_
  refine J_callV (As := [.int hill, .int plan]) (rest := []) dX10_storm_3 (c_P_lays (d := 4) (u := u) (g := g) (ex := ex) (hill := hill) (plan := plan)  (by decide) hp0 hp1 hp2 hp3 hp4 hp5 hp6 hp7 hp8 hp9 hp10 hp11 hp12 hp13 hp14 hp15 hp16 hp17 hp18) hq.n k723 k725 k12 wc_0 rfl rfl k87 k726 np_X10_lays (Nat.le_trans (by decide) hd) (by decide) (Nat.le_refl _) (Nat.le_refl _) wlen rfl (Nat.le_of_ble_eq_true rfl) (fun r_ h_ p1 => ?_)
  obtain ⟨t2, u3, rfl, rfl, h4, h5, h6, fr7, fc8, fc9⟩ := p1
  refine J_ifB_eq (tgt := 25) dX10_storm_6 (by decide) (fun c10 => ?_) (fun c10 => ?_)
  · refine J_iconst (v := (-1)) dX10_storm_25 (by decide) ?_
    exact J_iret hq dX10_storm_26 rfl wlen (Nat.le_refl _) (Nat.le_refl _) ⟨((-1) : Int32), u3, rfl, rfl, h4, h5, h6, (bd_r (congrFun (fr7 53 rfl) 0) hp19), (bd_r (congrFun (fr7 53 rfl) 1) hp20), (fun c k_ => (fr7 c (nin_sub (M := [(43, 48)]) k_ rfl))), (fun j k1_ k2_ k3_ => (fc8 j k1_ k2_ k3_)), (fun j k0_ k2_ => (fc9 j k0_ k2_)), (fun j k0_ k1_ k2_ k3_ k4_ => (congrFun (fr7 53 rfl) j))⟩
  · refine J_aload_n (i := 0) (j := 0) dX10_storm_9 rfl rfl ?_
    refine J_get (C := RX10) (T := TX10) (Z := 10) (ci := 10) (f := 4) dX10_storm_10 inG10 rfl (by decide) k427 wc_0 rfl ?_
    refine J_getN (C := RX4) (T := TX4) (Z := 4) (ci := 4) (f := 0) dX10_storm_13 inG4 rfl (by decide) k295 wc_43 rfl ?_
    refine J_iload_n (i := 3) (j := 3) dX10_storm_16 rfl rfl ?_
    refine J_iload (i := 4) (j := 4) dX10_storm_17 rfl ?_
    refine J_callV (As := [.int rain, .int banks]) (rest := []) dX10_storm_19 (c_H_hasStorm (d := 2) (u := u3) (g := g) (ex := ex) (rain := rain) (banks := banks) (t := 44) (by decide) (by decide) h4 h5) hq.n k792 k793 k794 wc_44 rfl rfl k89 k795 np_X1_hasStorm (Nat.le_trans (by decide) hd) (by decide) (Nat.le_refl _) (Nat.le_refl _) wlen rfl (Nat.le_of_ble_eq_true rfl) (fun r_ h_ p11 => ?_)
    obtain ⟨t12, rfl, rfl, h13, h14⟩ := p11
    refine J_ifB_ne (tgt := 27) dX10_storm_22 (by decide) (fun c15 => ?_) (fun c15 => ?_)
    · refine J_aload_n (i := 0) (j := 0) dX10_storm_27 rfl rfl ?_
      refine J_get (C := RX10) (T := TX10) (Z := 10) (ci := 10) (f := 6) dX10_storm_28 inG10 rfl (by decide) k429 wc_0 rfl ?_
      refine J_aload_n (i := 0) (j := 0) dX10_storm_31 rfl rfl ?_
      refine J_get (C := RX10) (T := TX10) (Z := 10) (ci := 10) (f := 4) dX10_storm_32 inG10 rfl (by decide) k427 wc_0 rfl ?_
      refine J_getN (C := RX4) (T := TX4) (Z := 4) (ci := 4) (f := 0) dX10_storm_35 inG4 rfl (by decide) k295 wc_43 rfl ?_
      refine J_aload_n (i := 0) (j := 0) dX10_storm_38 rfl rfl ?_
      refine J_get (C := RX10) (T := TX10) (Z := 10) (ci := 10) (f := 4) dX10_storm_39 inG10 rfl (by decide) k427 wc_0 rfl ?_
      refine J_getN (C := RX4) (T := TX4) (Z := 4) (ci := 4) (f := 0) dX10_storm_42 inG4 rfl (by decide) k295 wc_43 rfl ?_
      refine J_iload_n (i := 3) (j := 3) dX10_storm_45 rfl rfl ?_
      refine J_callV (As := [.int rain]) (rest := [.ref 44, .ref 53]) dX10_storm_46 (c_H_stepsOf (d := 0) (u := u3) (g := g) (ex := ex) (rain := rain) (t := 44) (by decide) (by decide) h4 h5) hq.n k804 k716 k717 wc_44 rfl rfl k89 k718 np_X1_stepsOf (Nat.le_trans (by decide) hd) (by decide) (Nat.le_refl _) (Nat.le_refl _) wlen rfl (Nat.le_of_ble_eq_true rfl) (fun r_ h_ p16 => ?_)
      obtain ⟨v17, rfl, rfl⟩ := p16
      refine J_iload (i := 4) (j := 4) dX10_storm_49 rfl ?_
      refine J_iconst (v := (-1)) dX10_storm_51 (by decide) ?_
      refine J_callV (As := [.ref 44, .int v17, .int banks, .int (-1)]) (rest := []) dX10_storm_52 (c_S53_run (d := 2) (u := u3) (g := g) (ex := ex) (steps := v17) (banks := banks) (keeper := (-1)) (t := 44) (by decide) (by decide) h4 h5) hq.n k805 k806 k807 wc_53 rfl rfl k94 k808 np_X5_run (Nat.le_trans (by decide) hd) (by decide) (Nat.le_refl _) (Nat.le_refl _) wlen rfl (Nat.le_of_ble_eq_true rfl) (fun r_ h_ p18 => ?_)
      obtain ⟨u19, rfl, rfl, h20, h21, fr22, fc23⟩ := p18
      refine J_aload_n (i := 0) (j := 0) dX10_storm_55 rfl rfl ?_
      refine J_get (C := RX10) (T := TX10) (Z := 10) (ci := 10) (f := 6) dX10_storm_56 inG10 rfl (by decide) k429 wc_0 rfl ?_
      refine J_iload (i := 5) (j := 5) dX10_storm_59 rfl ?_
      refine J_callV (As := [.int what]) (rest := []) dX10_storm_61 (c_S53_told (d := 1) (u := u19) (g := g) (ex := ex) (what := what)  (by decide) h20 h21) hq.n k840 k841 k842 wc_53 rfl rfl k94 k843 np_X5_told (Nat.le_trans (by decide) hd) (by decide) (Nat.le_refl _) (Nat.le_refl _) wlen rfl (Nat.le_of_ble_eq_true rfl) (fun r_ h_ p24 => ?_)
      obtain ⟨v25, rfl, rfl⟩ := p24
      exact J_iret hq dX10_storm_64 rfl wlen (Nat.le_refl _) (Nat.le_refl _) ⟨v25, u19, rfl, rfl, (bd_r (congrFun (fr22 44 rfl) 0) h4), (bd_r (congrFun (fr22 44 rfl) 2) h5), (ab_c (fr22 45 rfl) h6), h20, h21, (fun c k_ => ((fr22 c (nin_sub (M := [(53, 55)]) k_ rfl)).trans (fr7 c (nin_sub (M := [(43, 48)]) k_ rfl)))), (fun j k1_ k2_ k3_ => ((congrFun (fr22 43 rfl) j).trans (fc8 j k1_ k2_ k3_))), (fun j k0_ k2_ => ((congrFun (fr22 44 rfl) j).trans (fc9 j k0_ k2_))), (fun j k0_ k1_ k2_ k3_ k4_ => ((fc23 j k0_ k1_ k2_ k3_ k4_).trans (congrFun (fr7 53 rfl) j)))⟩
    · refine J_iconst (v := (-1)) dX10_storm_25 (by decide) ?_
      exact J_iret hq dX10_storm_26 rfl wlen (Nat.le_refl _) (Nat.le_refl _) ⟨((-1) : Int32), u3, rfl, rfl, h4, h5, h6, (bd_r (congrFun (fr7 53 rfl) 0) hp19), (bd_r (congrFun (fr7 53 rfl) 1) hp20), (fun c k_ => (fr7 c (nin_sub (M := [(43, 48)]) k_ rfl))), (fun j k1_ k2_ k3_ => (fc8 j k1_ k2_ k3_)), (fun j k0_ k2_ => (fc9 j k0_ k2_)), (fun j k0_ k1_ k2_ k3_ k4_ => (congrFun (fr7 53 rfl) j))⟩
set_option maxHeartbeats 4000000 in
set_option maxRecDepth 100000 in
theorem c_P_likely {d : Nat} {u : Nat → Nat → Int32} {g : Nat → Nat → Int64} {ex : List MC} {hill : Int32} {plan : Int32} {pond : Int32} (hd : 6 ≤ d) (hp0 : Bd 0 2 (u 1 5)) (hp1 : Bd 0 3 (u 1 7)) (hp2 : Bd 0 9 (u 44 0)) (hp3 : Bd 0 4 (u 44 2)) (hp4 : Bd 0 9 (u 5 0)) (hp5 : Bd 0 4 (u 5 2)) (hp6 : Bd 0 9 (u 10 0)) (hp7 : Bd 0 4 (u 10 2)) (hp8 : Bd 0 12 (u 15 0)) (hp9 : Bd 0 12 (u 19 0)) (hp10 : Bd 0 12 (u 23 0)) (hp11 : Bd 0 12 (u 49 0)) (hp12 : AB u 45 (-1) 999) (hp13 : AB u 6 (-1) 999) (hp14 : AB u 11 (-1) 999) (hp15 : (KM u 15)) (hp16 : (KM u 19)) (hp17 : (KM u 23)) (hp18 : (KM u 49)) (hp19 : Bd 0 9 (u 61 0)) (hp20 : Bd 0 4 (u 61 2)) (hp21 : AB u 66 0 511) : CT con0 d 0 0 yX10_likely cX10_likely 4 (some .long) [.ref 0, .int hill, .int plan, .int pond] (Wd u g ex) (fun r h2 => ∃ (z : Int64) (u2 : Nat → Nat → Int32) (g2 : Nat → Nat → Int64), r = some (.long z) ∧ h2 = Wd u2 g2 ex ∧ Bd 0 9 (u2 44 0) ∧ Bd 0 4 (u2 44 2) ∧ AB u2 45 (-1) 999 ∧ Bd 0 9 (u2 61 0) ∧ Bd 0 4 (u2 61 2) ∧ AB u2 66 0 511 ∧ (∀ c, nin c [(43, 48), (58, 67)] = true → u2 c = u c) ∧ (∀ j, j ≠ 1 → j ≠ 2 → j ≠ 3 → u2 43 j = u 43 j) ∧ (∀ j, j ≠ 0 → j ≠ 2 → u2 44 j = u 44 j) ∧ (∀ j, j ≠ 0 → j ≠ 1 → j ≠ 2 → j ≠ 3 → j ≠ 4 → u2 58 j = u 58 j) ∧ (∀ j, j ≠ 0 → j ≠ 2 → u2 61 j = u 61 j)) := by
  refine CT_of (by decide) (Nat.le_of_ble_eq_true rfl) (fun x hq => ?_)
  show J x yX10_likely cX10_likely 4 (some .long) d 0 0 (Wd u g ex).length 0 [(0, .ref 0), (1, .int hill), (2, .int plan), (3, .int pond)] [] (Wd u g ex) 0 0
  refine J_aload_n (i := 0) (j := 0) dX10_likely_0 rfl rfl ?_
  refine J_iload_n (i := 1) (j := 1) dX10_likely_1 rfl rfl ?_
  refine J_iload_n (i := 2) (j := 2) dX10_likely_2 rfl rfl ?_
  refine J_callV (As := [.int hill, .int plan]) (rest := []) dX10_likely_3 (c_P_looks (d := 5) (u := u) (g := g) (ex := ex) (hill := hill) (plan := plan)  (by decide) hp0 hp1 hp2 hp3 hp4 hp5 hp6 hp7 hp8 hp9 hp10 hp11 hp12 hp13 hp14 hp15 hp16 hp17 hp18 hp21 hp19 hp20) hq.n k852 k854 k23 wc_0 rfl rfl k87 k855 np_X10_looks (Nat.le_trans (by decide) hd) (by decide) (Nat.le_refl _) (Nat.le_refl _) wlen rfl (Nat.le_of_ble_eq_true rfl) (fun r_ h_ p1 => ?_)
  obtain ⟨t2, u3, g4, rfl, rfl, h5, h6, h7, h8, h9, h10, fr11, fc12, fc13, fc14, fc15⟩ := p1
  refine J_ifB_eq (tgt := 28) dX10_likely_6 (by decide) (fun c16 => ?_) (fun c16 => ?_)
  · refine J_ldc2 (v := (-1)) dX10_likely_28 k877 ?_
    exact J_lret hq dX10_likely_31 rfl wlen (Nat.le_refl _) (Nat.le_refl _) ⟨((-1) : Int64), u3, g4, rfl, rfl, h5, h6, h7, h8, h9, h10, (fun c k_ => (fr11 c (nin_sub (M := [(43, 48), (58, 67)]) k_ rfl))), (fun j k1_ k2_ k3_ => (fc12 j k1_ k2_ k3_)), (fun j k0_ k2_ => (fc13 j k0_ k2_)), (fun j k0_ k1_ k2_ k3_ k4_ => (fc14 j k0_ k1_ k2_ k3_ k4_)), (fun j k0_ k2_ => (fc15 j k0_ k2_))⟩
  · refine J_iload_n (i := 3) (j := 3) dX10_likely_9 rfl rfl ?_
    refine J_iconst (v := (-1)) dX10_likely_10 (by decide) ?_
    refine J_icmp_eq (tgt := 32) dX10_likely_11 (by decide) (fun c17 => ?_) (fun c17 => ?_)
    · refine J_aload_n (i := 0) (j := 0) dX10_likely_32 rfl rfl ?_
      refine J_get (C := RX10) (T := TX10) (Z := 10) (ci := 10) (f := 8) dX10_likely_33 inG10 rfl (by decide) k431 wc_0 rfl ?_
      refine J_iload_n (i := 3) (j := 3) dX10_likely_36 rfl rfl ?_
      refine J_callS (As := [.int pond]) (rest := [.ref 57]) dX10_likely_37 (c_bit3 (d := 0) (u := u3) (g := g4) (ex := ex) (pond := pond)  (by decide) (bd_w (l := (-1)) (h := 3) (bd_r c17 (bd_c (v := (-1)) (lo := (-1)) (hi := (-1)) (by decide))) (by decide))) hq.n k878 k819 k87 k820 np_X10_bit (Nat.le_trans (by decide) hd) (by decide) (Nat.le_refl _) (Nat.le_refl _) wlen rfl (Nat.le_of_ble_eq_true rfl) (fun r_ h_ p18 => ?_)
      obtain ⟨v19, rfl, rfl, h20⟩ := p18
      refine J_callV (As := [.int v19]) (rest := []) dX10_likely_40 (c_O_partsOf (d := 2) (u := u3) (g := g4) (ex := ex) (set := v19)  (by decide) h8 h9 h10) hq.n k879 k880 k881 wc_57 rfl rfl k96 k882 np_X2_partsOf (Nat.le_trans (by decide) hd) (by decide) (Nat.le_refl _) (Nat.le_refl _) wlen rfl (Nat.le_of_ble_eq_true rfl) (fun r_ h_ p21 => ?_)
      obtain ⟨l22, rfl, rfl⟩ := p21
      exact J_lret hq dX10_likely_43 rfl wlen (Nat.le_refl _) (Nat.le_refl _) ⟨l22, u3, g4, rfl, rfl, h5, h6, h7, h8, h9, h10, (fun c k_ => (fr11 c (nin_sub (M := [(43, 48), (58, 67)]) k_ rfl))), (fun j k1_ k2_ k3_ => (fc12 j k1_ k2_ k3_)), (fun j k0_ k2_ => (fc13 j k0_ k2_)), (fun j k0_ k1_ k2_ k3_ k4_ => (fc14 j k0_ k1_ k2_ k3_ k4_)), (fun j k0_ k2_ => (fc15 j k0_ k2_))⟩
    · refine J_aload_n (i := 0) (j := 0) dX10_likely_14 rfl rfl ?_
      refine J_get (C := RX10) (T := TX10) (Z := 10) (ci := 10) (f := 4) dX10_likely_15 inG10 rfl (by decide) k427 wc_0 rfl ?_
      refine J_getN (C := RX4) (T := TX4) (Z := 4) (ci := 4) (f := 0) dX10_likely_18 inG4 rfl (by decide) k295 wc_43 rfl ?_
      refine J_iload_n (i := 3) (j := 3) dX10_likely_21 rfl rfl ?_
      refine J_callV (As := [.int pond]) (rest := []) dX10_likely_22 (c_H_has (d := 0) (u := u3) (g := g4) (ex := ex) (pond := pond) (t := 44) (by decide) (by decide) h5 h6) hq.n k774 k741 k742 wc_44 rfl rfl k89 k743 np_X1_has (Nat.le_trans (by decide) hd) (by decide) (Nat.le_refl _) (Nat.le_refl _) wlen rfl (Nat.le_of_ble_eq_true rfl) (fun r_ h_ p23 => ?_)
      obtain ⟨t24, rfl, rfl, h25⟩ := p23
      refine J_ifB_ne (tgt := 32) dX10_likely_25 (by decide) (fun c26 => ?_) (fun c26 => ?_)
      · refine J_aload_n (i := 0) (j := 0) dX10_likely_32 rfl rfl ?_
        refine J_get (C := RX10) (T := TX10) (Z := 10) (ci := 10) (f := 8) dX10_likely_33 inG10 rfl (by decide) k431 wc_0 rfl ?_
        refine J_iload_n (i := 3) (j := 3) dX10_likely_36 rfl rfl ?_
        refine J_callS (As := [.int pond]) (rest := [.ref 57]) dX10_likely_37 (c_bit9 (d := 0) (u := u3) (g := g4) (ex := ex) (pond := pond)  (by decide) (bd_w (l := (-1)) (h := 8) (h25 c26) (by decide))) hq.n k878 k819 k87 k820 np_X10_bit (Nat.le_trans (by decide) hd) (by decide) (Nat.le_refl _) (Nat.le_refl _) wlen rfl (Nat.le_of_ble_eq_true rfl) (fun r_ h_ p27 => ?_)
        obtain ⟨v28, rfl, rfl, h29⟩ := p27
        refine J_callV (As := [.int v28]) (rest := []) dX10_likely_40 (c_O_partsOf (d := 2) (u := u3) (g := g4) (ex := ex) (set := v28)  (by decide) h8 h9 h10) hq.n k879 k880 k881 wc_57 rfl rfl k96 k882 np_X2_partsOf (Nat.le_trans (by decide) hd) (by decide) (Nat.le_refl _) (Nat.le_refl _) wlen rfl (Nat.le_of_ble_eq_true rfl) (fun r_ h_ p30 => ?_)
        obtain ⟨l31, rfl, rfl⟩ := p30
        exact J_lret hq dX10_likely_43 rfl wlen (Nat.le_refl _) (Nat.le_refl _) ⟨l31, u3, g4, rfl, rfl, h5, h6, h7, h8, h9, h10, (fun c k_ => (fr11 c (nin_sub (M := [(43, 48), (58, 67)]) k_ rfl))), (fun j k1_ k2_ k3_ => (fc12 j k1_ k2_ k3_)), (fun j k0_ k2_ => (fc13 j k0_ k2_)), (fun j k0_ k1_ k2_ k3_ k4_ => (fc14 j k0_ k1_ k2_ k3_ k4_)), (fun j k0_ k2_ => (fc15 j k0_ k2_))⟩
      · refine J_ldc2 (v := (-1)) dX10_likely_28 k877 ?_
        exact J_lret hq dX10_likely_31 rfl wlen (Nat.le_refl _) (Nat.le_refl _) ⟨((-1) : Int64), u3, g4, rfl, rfl, h5, h6, h7, h8, h9, h10, (fun c k_ => (fr11 c (nin_sub (M := [(43, 48), (58, 67)]) k_ rfl))), (fun j k1_ k2_ k3_ => (fc12 j k1_ k2_ k3_)), (fun j k0_ k2_ => (fc13 j k0_ k2_)), (fun j k0_ k1_ k2_ k3_ k4_ => (fc14 j k0_ k1_ k2_ k3_ k4_)), (fun j k0_ k2_ => (fc15 j k0_ k2_))⟩
set_option maxHeartbeats 4000000 in
set_option maxRecDepth 100000 in
theorem c_P_mean {d : Nat} {u : Nat → Nat → Int32} {g : Nat → Nat → Int64} {ex : List MC} {hill : Int32} {plan : Int32} {owner : Int32} (hd : 6 ≤ d) (hp0 : Bd 0 2 (u 1 5)) (hp1 : Bd 0 3 (u 1 7)) (hp2 : Bd 0 9 (u 44 0)) (hp3 : Bd 0 4 (u 44 2)) (hp4 : Bd 0 9 (u 5 0)) (hp5 : Bd 0 4 (u 5 2)) (hp6 : Bd 0 9 (u 10 0)) (hp7 : Bd 0 4 (u 10 2)) (hp8 : Bd 0 12 (u 15 0)) (hp9 : Bd 0 12 (u 19 0)) (hp10 : Bd 0 12 (u 23 0)) (hp11 : Bd 0 12 (u 49 0)) (hp12 : AB u 45 (-1) 999) (hp13 : AB u 6 (-1) 999) (hp14 : AB u 11 (-1) 999) (hp15 : (KM u 15)) (hp16 : (KM u 19)) (hp17 : (KM u 23)) (hp18 : (KM u 49)) (hp19 : Bd 0 9 (u 61 0)) (hp20 : Bd 0 4 (u 61 2)) (hp21 : AB u 66 0 511) : CT con0 d 0 0 yX10_mean cX10_mean 4 (some .long) [.ref 0, .int hill, .int plan, .int owner] (Wd u g ex) (fun r h2 => ∃ (z : Int64) (u2 : Nat → Nat → Int32) (g2 : Nat → Nat → Int64), r = some (.long z) ∧ h2 = Wd u2 g2 ex ∧ Bd 0 9 (u2 44 0) ∧ Bd 0 4 (u2 44 2) ∧ AB u2 45 (-1) 999 ∧ Bd 0 9 (u2 61 0) ∧ Bd 0 4 (u2 61 2) ∧ AB u2 66 0 511 ∧ (∀ c, nin c [(43, 48), (58, 67)] = true → u2 c = u c) ∧ (∀ j, j ≠ 1 → j ≠ 2 → j ≠ 3 → u2 43 j = u 43 j) ∧ (∀ j, j ≠ 0 → j ≠ 2 → u2 44 j = u 44 j) ∧ (∀ j, j ≠ 0 → j ≠ 1 → j ≠ 2 → j ≠ 3 → j ≠ 4 → u2 58 j = u 58 j) ∧ (∀ j, j ≠ 0 → j ≠ 2 → u2 61 j = u 61 j)) := by
  refine CT_of (by decide) (Nat.le_of_ble_eq_true rfl) (fun x hq => ?_)
  show J x yX10_mean cX10_mean 4 (some .long) d 0 0 (Wd u g ex).length 0 [(0, .ref 0), (1, .int hill), (2, .int plan), (3, .int owner)] [] (Wd u g ex) 0 0
  refine J_aload_n (i := 0) (j := 0) dX10_mean_0 rfl rfl ?_
  refine J_iload_n (i := 1) (j := 1) dX10_mean_1 rfl rfl ?_
  refine J_iload_n (i := 2) (j := 2) dX10_mean_2 rfl rfl ?_
  refine J_callV (As := [.int hill, .int plan]) (rest := []) dX10_mean_3 (c_P_looks (d := 5) (u := u) (g := g) (ex := ex) (hill := hill) (plan := plan)  (by decide) hp0 hp1 hp2 hp3 hp4 hp5 hp6 hp7 hp8 hp9 hp10 hp11 hp12 hp13 hp14 hp15 hp16 hp17 hp18 hp21 hp19 hp20) hq.n k852 k854 k23 wc_0 rfl rfl k87 k855 np_X10_looks (Nat.le_trans (by decide) hd) (by decide) (Nat.le_refl _) (Nat.le_refl _) wlen rfl (Nat.le_of_ble_eq_true rfl) (fun r_ h_ p1 => ?_)
  obtain ⟨t2, u3, g4, rfl, rfl, h5, h6, h7, h8, h9, h10, fr11, fc12, fc13, fc14, fc15⟩ := p1
  refine J_ifB_eq (tgt := 21) dX10_mean_6 (by decide) (fun c16 => ?_) (fun c16 => ?_)
  · refine J_ldc2 (v := (-1)) dX10_mean_21 k877 ?_
    exact J_lret hq dX10_mean_24 rfl wlen (Nat.le_refl _) (Nat.le_refl _) ⟨((-1) : Int64), u3, g4, rfl, rfl, h5, h6, h7, h8, h9, h10, (fun c k_ => (fr11 c (nin_sub (M := [(43, 48), (58, 67)]) k_ rfl))), (fun j k1_ k2_ k3_ => (fc12 j k1_ k2_ k3_)), (fun j k0_ k2_ => (fc13 j k0_ k2_)), (fun j k0_ k1_ k2_ k3_ k4_ => (fc14 j k0_ k1_ k2_ k3_ k4_)), (fun j k0_ k2_ => (fc15 j k0_ k2_))⟩
  · refine J_iload_n (i := 3) (j := 3) dX10_mean_9 rfl rfl ?_
    refine J_iconst (v := (-1)) dX10_mean_10 (by decide) ?_
    refine J_icmp_eq (tgt := 25) dX10_mean_11 (by decide) (fun c17 => ?_) (fun c17 => ?_)
    · refine J_aload_n (i := 0) (j := 0) dX10_mean_25 rfl rfl ?_
      refine J_get (C := RX10) (T := TX10) (Z := 10) (ci := 10) (f := 8) dX10_mean_26 inG10 rfl (by decide) k431 wc_0 rfl ?_
      refine J_iload_n (i := 3) (j := 3) dX10_mean_29 rfl rfl ?_
      refine J_iconst (v := (-1)) dX10_mean_30 (by decide) ?_
      refine J_icmp_ne (tgt := 47) dX10_mean_31 (by decide) (fun c18 => ?_) (fun c18 => ?_)
      · exact (bd_no (bd_ne_lo (bd_r c17 (bd_c (v := (-1)) (lo := (-1)) (hi := (-1)) (by decide))) c18 (by decide)) (by decide)).elim
      · refine J_aload_n (i := 0) (j := 0) dX10_mean_34 rfl rfl ?_
        refine J_get (C := RX10) (T := TX10) (Z := 10) (ci := 10) (f := 4) dX10_mean_35 inG10 rfl (by decide) k427 wc_0 rfl ?_
        refine J_getN (C := RX4) (T := TX4) (Z := 4) (ci := 4) (f := 0) dX10_mean_38 inG4 rfl (by decide) k295 wc_43 rfl ?_
        refine J_callV (As := []) (rest := [.ref 57]) dX10_mean_41 (c_H_all (d := 0) (u := u3) (g := g4) (ex := ex)  (t := 44) (by decide) (by decide) h5 h6) hq.n k902 k801 k802 wc_44 rfl rfl k89 k803 np_X1_all (Nat.le_trans (by decide) hd) (by decide) (Nat.le_refl _) (Nat.le_refl _) wlen rfl (Nat.le_of_ble_eq_true rfl) (fun r_ h_ p22 => ?_)
        obtain ⟨v23, rfl, rfl, h24⟩ := p22
        refine J_goto (tgt := 58) dX10_mean_44 (by decide) ?_
        refine J_callV (As := [.int v23]) (rest := []) dX10_mean_58 (c_O_meanOf (d := 2) (u := u3) (g := g4) (ex := ex) (counted := v23)  (by decide) h8 h9 h10) hq.n k907 k908 k909 wc_57 rfl rfl k96 k910 np_X2_meanOf (Nat.le_trans (by decide) hd) (by decide) (Nat.le_refl _) (Nat.le_refl _) wlen rfl (Nat.le_of_ble_eq_true rfl) (fun r_ h_ p25 => ?_)
        obtain ⟨l26, rfl, rfl⟩ := p25
        exact J_lret hq dX10_mean_61 rfl wlen (Nat.le_refl _) (Nat.le_refl _) ⟨l26, u3, g4, rfl, rfl, h5, h6, h7, h8, h9, h10, (fun c k_ => (fr11 c (nin_sub (M := [(43, 48), (58, 67)]) k_ rfl))), (fun j k1_ k2_ k3_ => (fc12 j k1_ k2_ k3_)), (fun j k0_ k2_ => (fc13 j k0_ k2_)), (fun j k0_ k1_ k2_ k3_ k4_ => (fc14 j k0_ k1_ k2_ k3_ k4_)), (fun j k0_ k2_ => (fc15 j k0_ k2_))⟩
    · refine J_iload_n (i := 3) (j := 3) dX10_mean_14 rfl rfl ?_
      refine J_callS (As := [.int owner]) (rest := []) dX10_mean_15 (c_isOwner (d := 0) (u := u3) (g := g4) (ex := ex) (owner := owner)  (by decide) ) hq.n k899 k900 k87 k901 np_X10_isOwner (Nat.le_trans (by decide) hd) (by decide) (Nat.le_refl _) (Nat.le_refl _) wlen rfl (Nat.le_of_ble_eq_true rfl) (fun r_ h_ p27 => ?_)
      obtain ⟨t28, rfl, rfl⟩ := p27
      refine J_ifB_ne (tgt := 25) dX10_mean_18 (by decide) (fun c29 => ?_) (fun c29 => ?_)
      · refine J_aload_n (i := 0) (j := 0) dX10_mean_25 rfl rfl ?_
        refine J_get (C := RX10) (T := TX10) (Z := 10) (ci := 10) (f := 8) dX10_mean_26 inG10 rfl (by decide) k431 wc_0 rfl ?_
        refine J_iload_n (i := 3) (j := 3) dX10_mean_29 rfl rfl ?_
        refine J_iconst (v := (-1)) dX10_mean_30 (by decide) ?_
        refine J_icmp_ne (tgt := 47) dX10_mean_31 (by decide) (fun c30 => ?_) (fun c30 => ?_)
        · refine J_aload_n (i := 0) (j := 0) dX10_mean_47 rfl rfl ?_
          refine J_get (C := RX10) (T := TX10) (Z := 10) (ci := 10) (f := 4) dX10_mean_48 inG10 rfl (by decide) k427 wc_0 rfl ?_
          refine J_getN (C := RX4) (T := TX4) (Z := 4) (ci := 4) (f := 0) dX10_mean_51 inG4 rfl (by decide) k295 wc_43 rfl ?_
          refine J_iload_n (i := 3) (j := 3) dX10_mean_54 rfl rfl ?_
          refine J_callV (As := [.int owner]) (rest := [.ref 57]) dX10_mean_55 (c_H_ownedBy (d := 1) (u := u3) (g := g4) (ex := ex) (owner := owner) (t := 44) (by decide) (by decide) h5 h6) hq.n k903 k904 k905 wc_44 rfl rfl k89 k906 np_X1_ownedBy (Nat.le_trans (by decide) hd) (by decide) (Nat.le_refl _) (Nat.le_refl _) wlen rfl (Nat.le_of_ble_eq_true rfl) (fun r_ h_ p34 => ?_)
          obtain ⟨v35, rfl, rfl, h36⟩ := p34
          refine J_callV (As := [.int v35]) (rest := []) dX10_mean_58 (c_O_meanOf (d := 2) (u := u3) (g := g4) (ex := ex) (counted := v35)  (by decide) h8 h9 h10) hq.n k907 k908 k909 wc_57 rfl rfl k96 k910 np_X2_meanOf (Nat.le_trans (by decide) hd) (by decide) (Nat.le_refl _) (Nat.le_refl _) wlen rfl (Nat.le_of_ble_eq_true rfl) (fun r_ h_ p37 => ?_)
          obtain ⟨l38, rfl, rfl⟩ := p37
          exact J_lret hq dX10_mean_61 rfl wlen (Nat.le_refl _) (Nat.le_refl _) ⟨l38, u3, g4, rfl, rfl, h5, h6, h7, h8, h9, h10, (fun c k_ => (fr11 c (nin_sub (M := [(43, 48), (58, 67)]) k_ rfl))), (fun j k1_ k2_ k3_ => (fc12 j k1_ k2_ k3_)), (fun j k0_ k2_ => (fc13 j k0_ k2_)), (fun j k0_ k1_ k2_ k3_ k4_ => (fc14 j k0_ k1_ k2_ k3_ k4_)), (fun j k0_ k2_ => (fc15 j k0_ k2_))⟩
        · exact absurd c30 c17
      · refine J_ldc2 (v := (-1)) dX10_mean_21 k877 ?_
        exact J_lret hq dX10_mean_24 rfl wlen (Nat.le_refl _) (Nat.le_refl _) ⟨((-1) : Int64), u3, g4, rfl, rfl, h5, h6, h7, h8, h9, h10, (fun c k_ => (fr11 c (nin_sub (M := [(43, 48), (58, 67)]) k_ rfl))), (fun j k1_ k2_ k3_ => (fc12 j k1_ k2_ k3_)), (fun j k0_ k2_ => (fc13 j k0_ k2_)), (fun j k0_ k1_ k2_ k3_ k4_ => (fc14 j k0_ k1_ k2_ k3_ k4_)), (fun j k0_ k2_ => (fc15 j k0_ k2_))⟩
set_option maxHeartbeats 4000000 in
set_option maxRecDepth 100000 in
theorem c_P_rows {d : Nat} {u : Nat → Nat → Int32} {g : Nat → Nat → Int64} {ex : List MC} {hill : Int32} {plan : Int32} {parts : Int32} (hd : 6 ≤ d) (hp0 : Bd 0 2 (u 1 5)) (hp1 : Bd 0 3 (u 1 7)) (hp2 : Bd 0 9 (u 44 0)) (hp3 : Bd 0 4 (u 44 2)) (hp4 : Bd 0 9 (u 5 0)) (hp5 : Bd 0 4 (u 5 2)) (hp6 : Bd 0 9 (u 10 0)) (hp7 : Bd 0 4 (u 10 2)) (hp8 : Bd 0 12 (u 15 0)) (hp9 : Bd 0 12 (u 19 0)) (hp10 : Bd 0 12 (u 23 0)) (hp11 : Bd 0 12 (u 49 0)) (hp12 : AB u 45 (-1) 999) (hp13 : AB u 6 (-1) 999) (hp14 : AB u 11 (-1) 999) (hp15 : (KM u 15)) (hp16 : (KM u 19)) (hp17 : (KM u 23)) (hp18 : (KM u 49)) (hp19 : Bd 0 9 (u 61 0)) (hp20 : Bd 0 4 (u 61 2)) (hp21 : AB u 66 0 511) : CT con0 d 0 0 yX10_rows cX10_rows 5 (some .long) [.ref 0, .int hill, .int plan, .int parts] (Wd u g ex) (fun r h2 => ∃ (z : Int64) (u2 : Nat → Nat → Int32) (g2 : Nat → Nat → Int64), r = some (.long z) ∧ h2 = Wd u2 g2 ex ∧ Bd 0 9 (u2 44 0) ∧ Bd 0 4 (u2 44 2) ∧ AB u2 45 (-1) 999 ∧ Bd 0 9 (u2 61 0) ∧ Bd 0 4 (u2 61 2) ∧ AB u2 66 0 511 ∧ (∀ c, nin c [(43, 48), (58, 67)] = true → u2 c = u c) ∧ (∀ j, j ≠ 1 → j ≠ 2 → j ≠ 3 → u2 43 j = u 43 j) ∧ (∀ j, j ≠ 0 → j ≠ 2 → u2 44 j = u 44 j) ∧ (∀ j, j ≠ 0 → j ≠ 1 → j ≠ 2 → j ≠ 3 → j ≠ 4 → u2 58 j = u 58 j) ∧ (∀ j, j ≠ 0 → j ≠ 2 → u2 61 j = u 61 j)) := by
  refine CT_of (by decide) (Nat.le_of_ble_eq_true rfl) (fun x hq => ?_)
  show J x yX10_rows cX10_rows 5 (some .long) d 0 0 (Wd u g ex).length 0 [(0, .ref 0), (1, .int hill), (2, .int plan), (3, .int parts)] [] (Wd u g ex) 0 0
  refine J_aload_n (i := 0) (j := 0) dX10_rows_0 rfl rfl ?_
  refine J_iload_n (i := 1) (j := 1) dX10_rows_1 rfl rfl ?_
  refine J_iload_n (i := 2) (j := 2) dX10_rows_2 rfl rfl ?_
  refine J_callV (As := [.int hill, .int plan]) (rest := []) dX10_rows_3 (c_P_looks (d := 5) (u := u) (g := g) (ex := ex) (hill := hill) (plan := plan)  (by decide) hp0 hp1 hp2 hp3 hp4 hp5 hp6 hp7 hp8 hp9 hp10 hp11 hp12 hp13 hp14 hp15 hp16 hp17 hp18 hp21 hp19 hp20) hq.n k852 k854 k23 wc_0 rfl rfl k87 k855 np_X10_looks (Nat.le_trans (by decide) hd) (by decide) (Nat.le_refl _) (Nat.le_refl _) wlen rfl (Nat.le_of_ble_eq_true rfl) (fun r_ h_ p1 => ?_)
  obtain ⟨t2, u3, g4, rfl, rfl, h5, h6, h7, h8, h9, h10, fr11, fc12, fc13, fc14, fc15⟩ := p1
  refine J_ifB_ne (tgt := 13) dX10_rows_6 (by decide) (fun c16 => ?_) (fun c16 => ?_)
  · refine J_aload_n (i := 0) (j := 0) dX10_rows_13 rfl rfl ?_
    refine J_get (C := RX10) (T := TX10) (Z := 10) (ci := 10) (f := 8) dX10_rows_14 inG10 rfl (by decide) k431 wc_0 rfl ?_
    refine J_callV (As := []) (rest := []) dX10_rows_17 (c_O_likeliest (d := 2) (u := u3) (g := g4) (ex := ex)   (by decide) h8 h9 h10) hq.n k915 k916 k917 wc_57 rfl rfl k96 k918 np_X2_likeliest (Nat.le_trans (by decide) hd) (by decide) (Nat.le_refl _) (Nat.le_refl _) wlen rfl (Nat.le_of_ble_eq_true rfl) (fun r_ h_ p17 => ?_)
    obtain ⟨v18, g19, rfl, rfl, h20⟩ := p17
    refine J_istore (i := 4) (lw := [(4, .int v18), (0, .ref 0), (1, .int hill), (2, .int plan), (3, .int parts)]) dX10_rows_20 (by decide) rfl ?_
    refine J_iload_n (i := 3) (j := 4) dX10_rows_22 rfl rfl ?_
    refine J_if_eq (tgt := 39) dX10_rows_23 (by decide) (fun c21 => ?_) (fun c21 => ?_)
    · refine J_iload (i := 4) (j := 0) dX10_rows_39 rfl ?_
      refine J_i2l dX10_rows_41 rfl ?_
      refine J_topl (fun l22 _ => ?_)
      exact J_lret hq dX10_rows_42 rfl wlen (Nat.le_refl _) (Nat.le_refl _) ⟨l22, u3, g19, rfl, rfl, h5, h6, h7, h8, h9, h10, (fun c k_ => (fr11 c (nin_sub (M := [(43, 48), (58, 67)]) k_ rfl))), (fun j k1_ k2_ k3_ => (fc12 j k1_ k2_ k3_)), (fun j k0_ k2_ => (fc13 j k0_ k2_)), (fun j k0_ k1_ k2_ k3_ k4_ => (fc14 j k0_ k1_ k2_ k3_ k4_)), (fun j k0_ k2_ => (fc15 j k0_ k2_))⟩
    · refine J_aload_n (i := 0) (j := 1) dX10_rows_26 rfl rfl ?_
      refine J_get (C := RX10) (T := TX10) (Z := 10) (ci := 10) (f := 8) dX10_rows_27 inG10 rfl (by decide) k431 wc_0 rfl ?_
      refine J_getN (C := RX2) (T := TX2) (Z := 6) (ci := 2) (f := 5) dX10_rows_30 inG2 rfl (by decide) k369 wc_57 rfl ?_
      refine J_iload (i := 4) (j := 0) dX10_rows_33 rfl ?_
      refine J_lald dX10_rows_35 wc_69 (vin h20 (by decide)) ?_
      refine J_topl (fun l23 _ => ?_)
      refine J_goto (tgt := 42) dX10_rows_36 (by decide) ?_
      exact J_lret hq dX10_rows_42 rfl wlen (Nat.le_refl _) (Nat.le_refl _) ⟨l23, u3, g19, rfl, rfl, h5, h6, h7, h8, h9, h10, (fun c k_ => (fr11 c (nin_sub (M := [(43, 48), (58, 67)]) k_ rfl))), (fun j k1_ k2_ k3_ => (fc12 j k1_ k2_ k3_)), (fun j k0_ k2_ => (fc13 j k0_ k2_)), (fun j k0_ k1_ k2_ k3_ k4_ => (fc14 j k0_ k1_ k2_ k3_ k4_)), (fun j k0_ k2_ => (fc15 j k0_ k2_))⟩
  · refine J_ldc2 (v := (-1)) dX10_rows_9 k877 ?_
    exact J_lret hq dX10_rows_12 rfl wlen (Nat.le_refl _) (Nat.le_refl _) ⟨((-1) : Int64), u3, g4, rfl, rfl, h5, h6, h7, h8, h9, h10, (fun c k_ => (fr11 c (nin_sub (M := [(43, 48), (58, 67)]) k_ rfl))), (fun j k1_ k2_ k3_ => (fc12 j k1_ k2_ k3_)), (fun j k0_ k2_ => (fc13 j k0_ k2_)), (fun j k0_ k1_ k2_ k3_ k4_ => (fc14 j k0_ k1_ k2_ k3_ k4_)), (fun j k0_ k2_ => (fc15 j k0_ k2_))⟩
set_option maxHeartbeats 4000000 in
set_option maxRecDepth 100000 in
theorem c_P_brings {d : Nat} {u : Nat → Nat → Int32} {g : Nat → Nat → Int64} {ex : List MC} {hill : Int32} {plan : Int32} {rain : Int32} {pond : Int32} (hd : 5 ≤ d) (hp0 : Bd 0 2 (u 1 5)) (hp1 : Bd 0 3 (u 1 7)) (hp2 : Bd 0 9 (u 44 0)) (hp3 : Bd 0 4 (u 44 2)) (hp4 : Bd 0 9 (u 5 0)) (hp5 : Bd 0 4 (u 5 2)) (hp6 : Bd 0 9 (u 10 0)) (hp7 : Bd 0 4 (u 10 2)) (hp8 : Bd 0 12 (u 15 0)) (hp9 : Bd 0 12 (u 19 0)) (hp10 : Bd 0 12 (u 23 0)) (hp11 : Bd 0 12 (u 49 0)) (hp12 : AB u 45 (-1) 999) (hp13 : AB u 6 (-1) 999) (hp14 : AB u 11 (-1) 999) (hp15 : (KM u 15)) (hp16 : (KM u 19)) (hp17 : (KM u 23)) (hp18 : (KM u 49)) (hp19 : Bd 0 9 (u 53 0)) (hp20 : Bd 0 511 (u 53 1)) : CT con0 d 0 0 yX10_brings cX10_brings 7 (some .int) [.ref 0, .int hill, .int plan, .int rain, .int pond] (Wd u g ex) (fun r h2 => ∃ (z : Int32) (u2 : Nat → Nat → Int32), r = some (.int z) ∧ h2 = Wd u2 g ex ∧ Bd 0 9 (u2 44 0) ∧ Bd 0 4 (u2 44 2) ∧ AB u2 45 (-1) 999 ∧ Bd 0 9 (u2 53 0) ∧ Bd 0 511 (u2 53 1) ∧ (∀ c, nin c [(43, 48), (53, 55)] = true → u2 c = u c) ∧ (∀ j, j ≠ 1 → j ≠ 2 → j ≠ 3 → u2 43 j = u 43 j) ∧ (∀ j, j ≠ 0 → j ≠ 2 → u2 44 j = u 44 j) ∧ (∀ j, j ≠ 0 → j ≠ 1 → j ≠ 2 → j ≠ 3 → j ≠ 4 → u2 53 j = u 53 j)) := by
  refine CT_of (by decide) (Nat.le_of_ble_eq_true rfl) (fun x hq => ?_)
  show J x yX10_brings cX10_brings 7 (some .int) d 0 0 (Wd u g ex).length 0 [(0, .ref 0), (1, .int hill), (2, .int plan), (3, .int rain), (4, .int pond)] [] (Wd u g ex) 0 0
  refine J_aload_n (i := 0) (j := 0) dX10_brings_0 rfl rfl ?_
  refine J_iload_n (i := 1) (j := 1) dX10_brings_1 rfl rfl ?_
  refine J_iload_n (i := 2) (j := 2) dX10_brings_2 rfl rfl ?_
  refine J_callV (As := [.int hill, .int plan]) (rest := []) dX10_brings_3 (c_P_lays (d := 4) (u := u) (g := g) (ex := ex) (hill := hill) (plan := plan)  (by decide) hp0 hp1 hp2 hp3 hp4 hp5 hp6 hp7 hp8 hp9 hp10 hp11 hp12 hp13 hp14 hp15 hp16 hp17 hp18) hq.n k723 k725 k12 wc_0 rfl rfl k87 k726 np_X10_lays (Nat.le_trans (by decide) hd) (by decide) (Nat.le_refl _) (Nat.le_refl _) wlen rfl (Nat.le_of_ble_eq_true rfl) (fun r_ h_ p1 => ?_)
  obtain ⟨t2, u3, rfl, rfl, h4, h5, h6, fr7, fc8, fc9⟩ := p1
  refine J_ifB_eq (tgt := 38) dX10_brings_6 (by decide) (fun c10 => ?_) (fun c10 => ?_)
  · refine J_iconst (v := (-1)) dX10_brings_38 (by decide) ?_
    exact J_iret hq dX10_brings_39 rfl wlen (Nat.le_refl _) (Nat.le_refl _) ⟨((-1) : Int32), u3, rfl, rfl, h4, h5, h6, (bd_r (congrFun (fr7 53 rfl) 0) hp19), (bd_r (congrFun (fr7 53 rfl) 1) hp20), (fun c k_ => (fr7 c (nin_sub (M := [(43, 48)]) k_ rfl))), (fun j k1_ k2_ k3_ => (fc8 j k1_ k2_ k3_)), (fun j k0_ k2_ => (fc9 j k0_ k2_)), (fun j k0_ k1_ k2_ k3_ k4_ => (congrFun (fr7 53 rfl) j))⟩
  · refine J_aload_n (i := 0) (j := 0) dX10_brings_9 rfl rfl ?_
    refine J_get (C := RX10) (T := TX10) (Z := 10) (ci := 10) (f := 4) dX10_brings_10 inG10 rfl (by decide) k427 wc_0 rfl ?_
    refine J_getN (C := RX4) (T := TX4) (Z := 4) (ci := 4) (f := 0) dX10_brings_13 inG4 rfl (by decide) k295 wc_43 rfl ?_
    refine J_iload_n (i := 3) (j := 3) dX10_brings_16 rfl rfl ?_
    refine J_callV (As := [.int rain]) (rest := []) dX10_brings_17 (c_H_hasRain (d := 0) (u := u3) (g := g) (ex := ex) (rain := rain) (t := 44) (by decide) (by decide) h4 h5) hq.n k926 k712 k713 wc_44 rfl rfl k89 k714 np_X1_hasRain (Nat.le_trans (by decide) hd) (by decide) (Nat.le_refl _) (Nat.le_refl _) wlen rfl (Nat.le_of_ble_eq_true rfl) (fun r_ h_ p11 => ?_)
    obtain ⟨t12, rfl, rfl, h13⟩ := p11
    refine J_ifB_eq (tgt := 38) dX10_brings_20 (by decide) (fun c14 => ?_) (fun c14 => ?_)
    · refine J_iconst (v := (-1)) dX10_brings_38 (by decide) ?_
      exact J_iret hq dX10_brings_39 rfl wlen (Nat.le_refl _) (Nat.le_refl _) ⟨((-1) : Int32), u3, rfl, rfl, h4, h5, h6, (bd_r (congrFun (fr7 53 rfl) 0) hp19), (bd_r (congrFun (fr7 53 rfl) 1) hp20), (fun c k_ => (fr7 c (nin_sub (M := [(43, 48)]) k_ rfl))), (fun j k1_ k2_ k3_ => (fc8 j k1_ k2_ k3_)), (fun j k0_ k2_ => (fc9 j k0_ k2_)), (fun j k0_ k1_ k2_ k3_ k4_ => (congrFun (fr7 53 rfl) j))⟩
    · refine J_aload_n (i := 0) (j := 0) dX10_brings_23 rfl rfl ?_
      refine J_get (C := RX10) (T := TX10) (Z := 10) (ci := 10) (f := 4) dX10_brings_24 inG10 rfl (by decide) k427 wc_0 rfl ?_
      refine J_getN (C := RX4) (T := TX4) (Z := 4) (ci := 4) (f := 0) dX10_brings_27 inG4 rfl (by decide) k295 wc_43 rfl ?_
      refine J_iload (i := 4) (j := 4) dX10_brings_30 rfl ?_
      refine J_callV (As := [.int pond]) (rest := []) dX10_brings_32 (c_H_has (d := 0) (u := u3) (g := g) (ex := ex) (pond := pond) (t := 44) (by decide) (by decide) h4 h5) hq.n k774 k741 k742 wc_44 rfl rfl k89 k743 np_X1_has (Nat.le_trans (by decide) hd) (by decide) (Nat.le_refl _) (Nat.le_refl _) wlen rfl (Nat.le_of_ble_eq_true rfl) (fun r_ h_ p15 => ?_)
      obtain ⟨t16, rfl, rfl, h17⟩ := p15
      refine J_ifB_ne (tgt := 40) dX10_brings_35 (by decide) (fun c18 => ?_) (fun c18 => ?_)
      · refine J_iconst (v := (-1)) dX10_brings_40 (by decide) ?_
        refine J_istore (i := 5) (lw := [(5, .int (-1)), (0, .ref 0), (1, .int hill), (2, .int plan), (3, .int rain), (4, .int pond)]) dX10_brings_41 (by decide) rfl ?_
        refine J_iconst (v := 0) dX10_brings_43 (by decide) ?_
        refine J_istore (i := 6) (lw := [(6, .int 0), (5, .int (-1)), (0, .ref 0), (1, .int hill), (2, .int plan), (3, .int rain), (4, .int pond)]) dX10_brings_44 (by decide) rfl ?_
        have lp463 : ∀ (n464 : Nat) (w394 : Int32) (w395 : Int32) (u396 : Nat → Nat → Int32), Bd (-1) 511 w394 → Bd 0 512 w395 → (∀ c, nin c [(53, 55)] = true → u396 c = u3 c) → (∀ j, j ≠ 0 → j ≠ 1 → j ≠ 2 → j ≠ 3 → j ≠ 4 → u396 53 j = u3 53 j) → Bd 0 9 (u396 53 0) → Bd 0 511 (u396 53 1) → (512 - w395.toInt).toNat < n464 → J x yX10_brings cX10_brings 7 (some .int) d 0 0 (Wd u g ex).length 46 [(0, .ref 0), (3, .int rain), (4, .int pond), (5, .int w394), (6, .int w395)] [] (Wd u396 g ex) 0 0 := by
          intro n464
          induction n464 with
          | zero => intro w394 w395 u396 bw394 bw395 fr397 fc398 bm399 bm400 hm466; exact absurd hm466 (Nat.not_lt_zero _)
          | succ n464 ih465 =>
            intro w394 w395 u396 bw394 bw395 fr397 fc398 bm399 bm400 hm466
            refine J_iload (i := 6) (j := 4) dX10_brings_46 rfl ?_
            refine J_aload_n (i := 0) (j := 0) dX10_brings_48 rfl rfl ?_
            refine J_get (C := RX10) (T := TX10) (Z := 10) (ci := 10) (f := 4) dX10_brings_49 inG10 rfl (by decide) k427 wc_0 rfl ?_
            refine J_getN (C := RX4) (T := TX4) (Z := 4) (ci := 4) (f := 0) dX10_brings_52 inG4 rfl (by decide) k295 wc_43 rfl ?_
            refine J_callV (As := []) (rest := [.int w395]) dX10_brings_55 (c_H_all (d := 0) (u := u396) (g := g) (ex := ex)  (t := 44) (by decide) (by decide) (bd_r (congrFun (fr397 44 rfl) 0) h4) (bd_r (congrFun (fr397 44 rfl) 2) h5)) hq.n k902 k801 k802 wc_44 rfl rfl k89 k803 np_X1_all (Nat.le_trans (by decide) hd) (by decide) (Nat.le_refl _) (Nat.le_refl _) wlen rfl (Nat.le_of_ble_eq_true rfl) (fun r_ h_ p467 => ?_)
            obtain ⟨v468, rfl, rfl, h469⟩ := p467
            refine J_icmp_gt (tgt := 133) dX10_brings_58 (by decide) (fun c470 => ?_) (fun c470 => ?_)
            · refine J_iload (i := 5) (j := 3) dX10_brings_133 rfl ?_
              exact J_iret hq dX10_brings_135 rfl wlen (Nat.le_refl _) (Nat.le_refl _) ⟨w394, u396, rfl, rfl, (bd_r (congrFun (fr397 44 rfl) 0) h4), (bd_r (congrFun (fr397 44 rfl) 2) h5), (ab_c (fr397 45 rfl) h6), bm399, bm400, (fun c k_ => ((fr397 c (nin_sub (M := [(53, 55)]) k_ rfl)).trans (fr7 c (nin_sub (M := [(43, 48)]) k_ rfl)))), (fun j k1_ k2_ k3_ => ((congrFun (fr397 43 rfl) j).trans (fc8 j k1_ k2_ k3_))), (fun j k0_ k2_ => ((congrFun (fr397 44 rfl) j).trans (fc9 j k0_ k2_))), (fun j k0_ k1_ k2_ k3_ k4_ => ((fc398 j k0_ k1_ k2_ k3_ k4_).trans (congrFun (fr7 53 rfl) j)))⟩
            · refine J_aload_n (i := 0) (j := 0) dX10_brings_61 rfl rfl ?_
              refine J_get (C := RX10) (T := TX10) (Z := 10) (ci := 10) (f := 6) dX10_brings_62 inG10 rfl (by decide) k429 wc_0 rfl ?_
              refine J_aload_n (i := 0) (j := 0) dX10_brings_65 rfl rfl ?_
              refine J_get (C := RX10) (T := TX10) (Z := 10) (ci := 10) (f := 4) dX10_brings_66 inG10 rfl (by decide) k427 wc_0 rfl ?_
              refine J_getN (C := RX4) (T := TX4) (Z := 4) (ci := 4) (f := 0) dX10_brings_69 inG4 rfl (by decide) k295 wc_43 rfl ?_
              refine J_aload_n (i := 0) (j := 0) dX10_brings_72 rfl rfl ?_
              refine J_get (C := RX10) (T := TX10) (Z := 10) (ci := 10) (f := 4) dX10_brings_73 inG10 rfl (by decide) k427 wc_0 rfl ?_
              refine J_getN (C := RX4) (T := TX4) (Z := 4) (ci := 4) (f := 0) dX10_brings_76 inG4 rfl (by decide) k295 wc_43 rfl ?_
              refine J_iload_n (i := 3) (j := 1) dX10_brings_79 rfl rfl ?_
              refine J_callV (As := [.int rain]) (rest := [.ref 44, .ref 53]) dX10_brings_80 (c_H_stepsOf (d := 0) (u := u396) (g := g) (ex := ex) (rain := rain) (t := 44) (by decide) (by decide) (bd_r (congrFun (fr397 44 rfl) 0) h4) (bd_r (congrFun (fr397 44 rfl) 2) h5)) hq.n k804 k716 k717 wc_44 rfl rfl k89 k718 np_X1_stepsOf (Nat.le_trans (by decide) hd) (by decide) (Nat.le_refl _) (Nat.le_refl _) wlen rfl (Nat.le_of_ble_eq_true rfl) (fun r_ h_ p500 => ?_)
              obtain ⟨v501, rfl, rfl⟩ := p500
              refine J_iload (i := 6) (j := 4) dX10_brings_83 rfl ?_
              refine J_iconst (v := (-1)) dX10_brings_85 (by decide) ?_
              refine J_callV (As := [.ref 44, .int v501, .int w395, .int (-1)]) (rest := []) dX10_brings_86 (c_S53_run (d := 2) (u := u396) (g := g) (ex := ex) (steps := v501) (banks := w395) (keeper := (-1)) (t := 44) (by decide) (by decide) (bd_r (congrFun (fr397 44 rfl) 0) h4) (bd_r (congrFun (fr397 44 rfl) 2) h5)) hq.n k805 k806 k807 wc_53 rfl rfl k94 k808 np_X5_run (Nat.le_trans (by decide) hd) (by decide) (Nat.le_refl _) (Nat.le_refl _) wlen rfl (Nat.le_of_ble_eq_true rfl) (fun r_ h_ p502 => ?_)
              obtain ⟨u503, rfl, rfl, h504, h505, fr506, fc507⟩ := p502
              refine J_aload_n (i := 0) (j := 0) dX10_brings_89 rfl rfl ?_
              refine J_get (C := RX10) (T := TX10) (Z := 10) (ci := 10) (f := 6) dX10_brings_90 inG10 rfl (by decide) k429 wc_0 rfl ?_
              refine J_getN (C := RX5) (T := TX5) (Z := 7) (ci := 5) (f := 1) dX10_brings_93 inG5 rfl (by decide) k323 wc_53 rfl ?_
              refine J_iload (i := 4) (j := 2) dX10_brings_96 rfl ?_
              refine J_callS (As := [.int (u503 53 1), .int pond]) (rest := []) dX10_brings_98 (c_isIn (d := 0) (u := u503) (g := g) (ex := ex) (set := u503 53 1) (pond := pond)  (by decide) ) hq.n k927 k816 k87 k817 np_X10_isIn (Nat.le_trans (by decide) hd) (by decide) (Nat.le_refl _) (Nat.le_refl _) wlen rfl (Nat.le_of_ble_eq_true rfl) (fun r_ h_ p508 => ?_)
              obtain ⟨t509, rfl, rfl⟩ := p508
              have jn520 : ∀ (w519 : Int32), Bd (-1) 511 w519 → J x yX10_brings cX10_brings 7 (some .int) d 0 0 (Wd u g ex).length 127 [(0, .ref 0), (3, .int rain), (4, .int pond), (5, .int w519), (6, .int w395)] [] (Wd u503 g ex) 0 0 := by
                intro w519 bw519
                refine J_iinc (i := 6) (j := 4) (v := (w395 + 1)) (lw := [(6, .int (w395 + 1)), (0, .ref 0), (3, .int rain), (4, .int pond), (5, .int w519)]) dX10_brings_127 rfl rfl (by decide) rfl ?_
                refine J_goto (tgt := 46) dX10_brings_130 (by decide) ?_
                refine J_lv [1, 2, 3, 4, 0] rfl ?_
                exact ih465 w519 (w395 + 1) u503 bw519 (bd_w (l := 0) (h := 512) (bd_add (l := 1) (h := 512) (bd_le_hi bw395 (i_nlt c470) h469) (bd_c (v := 1) (lo := 1) (hi := 1) (by decide)) (by decide)) (by decide)) (fun c k_ => ((fr506 c (nin_sub (M := [(53, 55)]) k_ rfl)).trans (fr397 c (nin_sub (M := [(53, 55)]) k_ rfl)))) (fun j k0_ k1_ k2_ k3_ k4_ => ((fc507 j k0_ k1_ k2_ k3_ k4_).trans (fc398 j k0_ k1_ k2_ k3_ k4_))) h504 h505 (mu_up 1 bw395 rfl (by decide) (bd_w (l := 1) (h := 512) (bd_add (l := 1) (h := 512) (bd_le_hi bw395 (i_nlt c470) h469) (bd_c (v := 1) (lo := 1) (hi := 1) (by decide)) (by decide)) (by decide)) hm466)
              refine J_ifB_eq (tgt := 127) dX10_brings_101 (by decide) (fun c510 => ?_) (fun c510 => ?_)
              · refine J_lv [0, 1, 2, 3, 4] rfl ?_
                exact jn520 w394 bw394
              · refine J_iload (i := 5) (j := 3) dX10_brings_104 rfl ?_
                refine J_iconst (v := (-1)) dX10_brings_106 (by decide) ?_
                refine J_icmp_eq (tgt := 123) dX10_brings_107 (by decide) (fun c521 => ?_) (fun c521 => ?_)
                · refine J_iload (i := 6) (j := 4) dX10_brings_123 rfl ?_
                  refine J_istore (i := 5) (lw := [(5, .int w395), (0, .ref 0), (3, .int rain), (4, .int pond), (6, .int w395)]) dX10_brings_125 (by decide) rfl ?_
                  refine J_lv [1, 2, 3, 0, 4] rfl ?_
                  exact jn520 w395 (bd_w (l := (-1)) (h := 511) (bd_le_hi bw395 (i_nlt c470) h469) (by decide))
                · refine J_iload (i := 6) (j := 4) dX10_brings_110 rfl ?_
                  refine J_callS (As := [.int w395]) (rest := []) dX10_brings_112 (c_bitCount (d := 0) (u := u503) (g := g) (ex := ex) (i := w395)  (by decide) ) hq.n k928 k929 k105 k930 np_J6_bitCount_0f7a4 (Nat.le_trans (by decide) hd) (by decide) (Nat.le_refl _) (Nat.le_refl _) wlen rfl (Nat.le_of_ble_eq_true rfl) (fun r_ h_ p522 => ?_)
                  obtain ⟨v523, rfl, rfl, h524⟩ := p522
                  refine J_iload (i := 5) (j := 3) dX10_brings_115 rfl ?_
                  refine J_callS (As := [.int w394]) (rest := [.int v523]) dX10_brings_117 (c_bitCount (d := 0) (u := u503) (g := g) (ex := ex) (i := w394)  (by decide) ) hq.n k928 k929 k105 k930 np_J6_bitCount_0f7a4 (Nat.le_trans (by decide) hd) (by decide) (Nat.le_refl _) (Nat.le_refl _) wlen rfl (Nat.le_of_ble_eq_true rfl) (fun r_ h_ p525 => ?_)
                  obtain ⟨v526, rfl, rfl, h527⟩ := p525
                  refine J_icmp_ge (tgt := 127) dX10_brings_120 (by decide) (fun c528 => ?_) (fun c528 => ?_)
                  · refine J_lv [0, 1, 2, 3, 4] rfl ?_
                    exact jn520 w394 (bd_w (l := (-1)) (h := 511) (bd_ne_lo bw394 c521 (by decide)) (by decide))
                  · refine J_iload (i := 6) (j := 4) dX10_brings_123 rfl ?_
                    refine J_istore (i := 5) (lw := [(5, .int w395), (0, .ref 0), (3, .int rain), (4, .int pond), (6, .int w395)]) dX10_brings_125 (by decide) rfl ?_
                    refine J_lv [1, 2, 3, 0, 4] rfl ?_
                    exact jn520 w395 (bd_w (l := (-1)) (h := 511) (bd_le_hi bw395 (i_nlt c470) h469) (by decide))
        refine J_lv [2, 5, 6, 1, 0] rfl ?_
        exact lp463 _ ((-1) : Int32) (0 : Int32) u3 (bd_w (l := (-1)) (h := 511) (bd_c (v := (-1)) (lo := (-1)) (hi := (-1)) (by decide)) (by decide)) (bd_w (l := 0) (h := 512) (bd_c (v := 0) (lo := 0) (hi := 0) (by decide)) (by decide)) (fun c k_ => rfl) (fun j k0_ k1_ k2_ k3_ k4_ => rfl) (bd_r (congrFun (fr7 53 rfl) 0) hp19) (bd_r (congrFun (fr7 53 rfl) 1) hp20) (Nat.lt_succ_self _)
      · refine J_iconst (v := (-1)) dX10_brings_38 (by decide) ?_
        exact J_iret hq dX10_brings_39 rfl wlen (Nat.le_refl _) (Nat.le_refl _) ⟨((-1) : Int32), u3, rfl, rfl, h4, h5, h6, (bd_r (congrFun (fr7 53 rfl) 0) hp19), (bd_r (congrFun (fr7 53 rfl) 1) hp20), (fun c k_ => (fr7 c (nin_sub (M := [(43, 48)]) k_ rfl))), (fun j k1_ k2_ k3_ => (fc8 j k1_ k2_ k3_)), (fun j k0_ k2_ => (fc9 j k0_ k2_)), (fun j k0_ k1_ k2_ k3_ k4_ => (congrFun (fr7 53 rfl) j))⟩
set_option maxHeartbeats 4000000 in
set_option maxRecDepth 100000 in
theorem c_P_best {d : Nat} {u : Nat → Nat → Int32} {g : Nat → Nat → Int64} {ex : List MC} {hill : Int32} {plan : Int32} {ponds : Int32} {days : Int32} (hd : 6 ≤ d) (hp0 : Bd 0 2 (u 1 5)) (hp1 : Bd 0 3 (u 1 7)) (hp2 : Bd 0 9 (u 44 0)) (hp3 : Bd 0 4 (u 44 2)) (hp4 : Bd 0 9 (u 5 0)) (hp5 : Bd 0 4 (u 5 2)) (hp6 : Bd 0 9 (u 10 0)) (hp7 : Bd 0 4 (u 10 2)) (hp8 : Bd 0 12 (u 15 0)) (hp9 : Bd 0 12 (u 19 0)) (hp10 : Bd 0 12 (u 23 0)) (hp11 : Bd 0 12 (u 49 0)) (hp12 : AB u 45 (-1) 999) (hp13 : AB u 6 (-1) 999) (hp14 : AB u 11 (-1) 999) (hp15 : (KM u 15)) (hp16 : (KM u 19)) (hp17 : (KM u 23)) (hp18 : (KM u 49)) (hp19 : Bd 0 9 (u 61 0)) (hp20 : Bd 0 4 (u 61 2)) (hp21 : AB u 66 0 511) : CT con0 d 0 0 yX10_best cX10_best 5 (some .int) [.ref 0, .int hill, .int plan, .int ponds, .int days] (Wd u g ex) (fun r h2 => ∃ (z : Int32) (u2 : Nat → Nat → Int32) (g2 : Nat → Nat → Int64), r = some (.int z) ∧ h2 = Wd u2 g2 ex ∧ Bd 0 9 (u2 44 0) ∧ Bd 0 4 (u2 44 2) ∧ AB u2 45 (-1) 999 ∧ Bd 0 9 (u2 61 0) ∧ Bd 0 4 (u2 61 2) ∧ AB u2 66 0 511 ∧ (∀ c, nin c [(43, 48), (58, 67)] = true → u2 c = u c) ∧ (∀ j, j ≠ 1 → j ≠ 2 → j ≠ 3 → u2 43 j = u 43 j) ∧ (∀ j, j ≠ 0 → j ≠ 2 → u2 44 j = u 44 j) ∧ (∀ j, j ≠ 0 → j ≠ 1 → j ≠ 2 → j ≠ 3 → j ≠ 4 → u2 58 j = u 58 j) ∧ (∀ j, j ≠ 0 → j ≠ 2 → u2 61 j = u 61 j)) := by
  refine CT_of (by decide) (Nat.le_of_ble_eq_true rfl) (fun x hq => ?_)
  show J x yX10_best cX10_best 5 (some .int) d 0 0 (Wd u g ex).length 0 [(0, .ref 0), (1, .int hill), (2, .int plan), (3, .int ponds), (4, .int days)] [] (Wd u g ex) 0 0
  refine J_aload_n (i := 0) (j := 0) dX10_best_0 rfl rfl ?_
  refine J_iload_n (i := 1) (j := 1) dX10_best_1 rfl rfl ?_
  refine J_iload_n (i := 2) (j := 2) dX10_best_2 rfl rfl ?_
  refine J_iload_n (i := 3) (j := 3) dX10_best_3 rfl rfl ?_
  refine J_iload (i := 4) (j := 4) dX10_best_4 rfl ?_
  refine J_sipush (v := 9999) dX10_best_6 (by decide) ?_
  refine J_callV (As := [.int hill, .int plan, .int ponds, .int days, .int 9999]) (rest := []) dX10_best_9 (c_P_canMend (d := 5) (u := u) (g := g) (ex := ex) (hill := hill) (plan := plan) (ponds := ponds) (limit := days) (most := 9999)  (by decide) hp0 hp1 hp2 hp3 hp4 hp5 hp6 hp7 hp8 hp9 hp10 hp11 hp12 hp13 hp14 hp15 hp16 hp17 hp18) hq.n k938 k940 k26 wc_0 rfl rfl k87 k941 np_X10_canMend (Nat.le_trans (by decide) hd) (by decide) (Nat.le_refl _) (Nat.le_refl _) wlen rfl (Nat.le_of_ble_eq_true rfl) (fun r_ h_ p1 => ?_)
  obtain ⟨t2, u3, rfl, rfl, h4, h5, h6, h7, fr8, fc9, fc10⟩ := p1
  refine J_ifB_eq (tgt := 35) dX10_best_12 (by decide) (fun c11 => ?_) (fun c11 => ?_)
  · refine J_iconst (v := (-1)) dX10_best_35 (by decide) ?_
    exact J_iret hq dX10_best_36 rfl wlen (Nat.le_refl _) (Nat.le_refl _) ⟨((-1) : Int32), u3, g, rfl, rfl, h5, h6, h7, (bd_r (congrFun (fr8 61 rfl) 0) hp19), (bd_r (congrFun (fr8 61 rfl) 2) hp20), (ab_c (fr8 66 rfl) hp21), (fun c k_ => (fr8 c (nin_sub (M := [(43, 48)]) k_ rfl))), (fun j k1_ k2_ k3_ => (fc9 j k1_ k2_ k3_)), (fun j k0_ k2_ => (fc10 j k0_ k2_)), (fun j k0_ k1_ k2_ k3_ k4_ => (congrFun (fr8 58 rfl) j)), (fun j k0_ k2_ => (congrFun (fr8 61 rfl) j))⟩
  · refine J_aload_n (i := 0) (j := 0) dX10_best_15 rfl rfl ?_
    refine J_get (C := RX10) (T := TX10) (Z := 10) (ci := 10) (f := 7) dX10_best_16 inG10 rfl (by decide) k430 wc_0 rfl ?_
    refine J_aload_n (i := 0) (j := 0) dX10_best_19 rfl rfl ?_
    refine J_get (C := RX10) (T := TX10) (Z := 10) (ci := 10) (f := 4) dX10_best_20 inG10 rfl (by decide) k427 wc_0 rfl ?_
    refine J_getN (C := RX4) (T := TX4) (Z := 4) (ci := 4) (f := 0) dX10_best_23 inG4 rfl (by decide) k295 wc_43 rfl ?_
    refine J_iload_n (i := 3) (j := 3) dX10_best_26 rfl rfl ?_
    refine J_iload (i := 4) (j := 4) dX10_best_27 rfl ?_
    refine J_callV (As := [.ref 44, .int ponds, .int days]) (rest := []) dX10_best_29 (c_C_bestSet (d := 4) (u := u3) (g := g) (ex := ex) (ponds := ponds) (days := days)  (by decide) h5 h6 (ab_c (fr8 66 rfl) hp21) (h4 c11)) hq.n k943 k944 k945 wc_56 rfl rfl k95 k946 np_X0_bestSet (Nat.le_trans (by decide) hd) (by decide) (Nat.le_refl _) (Nat.le_refl _) wlen rfl (Nat.le_of_ble_eq_true rfl) (fun r_ h_ p12 => ?_)
    obtain ⟨v13, u14, g15, rfl, rfl, h16, h17, h18, fr19, fc20, fc21⟩ := p12
    refine J_goto (tgt := 36) dX10_best_32 (by decide) ?_
    exact J_iret hq dX10_best_36 rfl wlen (Nat.le_refl _) (Nat.le_refl _) ⟨v13, u14, g15, rfl, rfl, (bd_r (congrFun (fr19 44 rfl) 0) h5), (bd_r (congrFun (fr19 44 rfl) 2) h6), (ab_c (fr19 45 rfl) h7), h16, h17, h18, (fun c k_ => ((fr19 c (nin_sub (M := [(58, 67)]) k_ rfl)).trans (fr8 c (nin_sub (M := [(43, 48)]) k_ rfl)))), (fun j k1_ k2_ k3_ => ((congrFun (fr19 43 rfl) j).trans (fc9 j k1_ k2_ k3_))), (fun j k0_ k2_ => ((congrFun (fr19 44 rfl) j).trans (fc10 j k0_ k2_))), (fun j k0_ k1_ k2_ k3_ k4_ => ((fc20 j k0_ k1_ k2_ k3_ k4_).trans (congrFun (fr8 58 rfl) j))), (fun j k0_ k2_ => ((fc21 j k0_ k2_).trans (congrFun (fr8 61 rfl) j)))⟩
set_option maxHeartbeats 4000000 in
set_option maxRecDepth 100000 in
theorem c_P_steps {d : Nat} {u : Nat → Nat → Int32} {g : Nat → Nat → Int64} {ex : List MC} {hill : Int32} {plan : Int32} {ponds : Int32} {days : Int32} (hd : 6 ≤ d) (hp0 : Bd 0 2 (u 1 5)) (hp1 : Bd 0 3 (u 1 7)) (hp2 : Bd 0 9 (u 44 0)) (hp3 : Bd 0 4 (u 44 2)) (hp4 : Bd 0 9 (u 5 0)) (hp5 : Bd 0 4 (u 5 2)) (hp6 : Bd 0 9 (u 10 0)) (hp7 : Bd 0 4 (u 10 2)) (hp8 : Bd 0 12 (u 15 0)) (hp9 : Bd 0 12 (u 19 0)) (hp10 : Bd 0 12 (u 23 0)) (hp11 : Bd 0 12 (u 49 0)) (hp12 : AB u 45 (-1) 999) (hp13 : AB u 6 (-1) 999) (hp14 : AB u 11 (-1) 999) (hp15 : (KM u 15)) (hp16 : (KM u 19)) (hp17 : (KM u 23)) (hp18 : (KM u 49)) (hp19 : Bd 0 9 (u 61 0)) (hp20 : Bd 0 4 (u 61 2)) (hp21 : AB u 66 0 511) : CT con0 d 0 0 yX10_steps cX10_steps 5 (some .int) [.ref 0, .int hill, .int plan, .int ponds, .int days] (Wd u g ex) (fun r h2 => ∃ (z : Int32) (u2 : Nat → Nat → Int32) (g2 : Nat → Nat → Int64), r = some (.int z) ∧ h2 = Wd u2 g2 ex ∧ Bd 0 9 (u2 44 0) ∧ Bd 0 4 (u2 44 2) ∧ AB u2 45 (-1) 999 ∧ Bd 0 9 (u2 61 0) ∧ Bd 0 4 (u2 61 2) ∧ AB u2 66 0 511 ∧ (∀ c, nin c [(43, 48), (58, 67)] = true → u2 c = u c) ∧ (∀ j, j ≠ 1 → j ≠ 2 → j ≠ 3 → u2 43 j = u 43 j) ∧ (∀ j, j ≠ 0 → j ≠ 2 → u2 44 j = u 44 j) ∧ (∀ j, j ≠ 0 → j ≠ 1 → j ≠ 2 → j ≠ 3 → j ≠ 4 → u2 58 j = u 58 j) ∧ (∀ j, j ≠ 0 → j ≠ 2 → u2 61 j = u 61 j)) := by
  refine CT_of (by decide) (Nat.le_of_ble_eq_true rfl) (fun x hq => ?_)
  show J x yX10_steps cX10_steps 5 (some .int) d 0 0 (Wd u g ex).length 0 [(0, .ref 0), (1, .int hill), (2, .int plan), (3, .int ponds), (4, .int days)] [] (Wd u g ex) 0 0
  refine J_aload_n (i := 0) (j := 0) dX10_steps_0 rfl rfl ?_
  refine J_iload_n (i := 1) (j := 1) dX10_steps_1 rfl rfl ?_
  refine J_iload_n (i := 2) (j := 2) dX10_steps_2 rfl rfl ?_
  refine J_iload_n (i := 3) (j := 3) dX10_steps_3 rfl rfl ?_
  refine J_iload (i := 4) (j := 4) dX10_steps_4 rfl ?_
  refine J_sipush (v := 9999) dX10_steps_6 (by decide) ?_
  refine J_callV (As := [.int hill, .int plan, .int ponds, .int days, .int 9999]) (rest := []) dX10_steps_9 (c_P_canMend (d := 5) (u := u) (g := g) (ex := ex) (hill := hill) (plan := plan) (ponds := ponds) (limit := days) (most := 9999)  (by decide) hp0 hp1 hp2 hp3 hp4 hp5 hp6 hp7 hp8 hp9 hp10 hp11 hp12 hp13 hp14 hp15 hp16 hp17 hp18) hq.n k938 k940 k26 wc_0 rfl rfl k87 k941 np_X10_canMend (Nat.le_trans (by decide) hd) (by decide) (Nat.le_refl _) (Nat.le_refl _) wlen rfl (Nat.le_of_ble_eq_true rfl) (fun r_ h_ p1 => ?_)
  obtain ⟨t2, u3, rfl, rfl, h4, h5, h6, h7, fr8, fc9, fc10⟩ := p1
  refine J_ifB_eq (tgt := 35) dX10_steps_12 (by decide) (fun c11 => ?_) (fun c11 => ?_)
  · refine J_iconst (v := (-1)) dX10_steps_35 (by decide) ?_
    exact J_iret hq dX10_steps_36 rfl wlen (Nat.le_refl _) (Nat.le_refl _) ⟨((-1) : Int32), u3, g, rfl, rfl, h5, h6, h7, (bd_r (congrFun (fr8 61 rfl) 0) hp19), (bd_r (congrFun (fr8 61 rfl) 2) hp20), (ab_c (fr8 66 rfl) hp21), (fun c k_ => (fr8 c (nin_sub (M := [(43, 48)]) k_ rfl))), (fun j k1_ k2_ k3_ => (fc9 j k1_ k2_ k3_)), (fun j k0_ k2_ => (fc10 j k0_ k2_)), (fun j k0_ k1_ k2_ k3_ k4_ => (congrFun (fr8 58 rfl) j)), (fun j k0_ k2_ => (congrFun (fr8 61 rfl) j))⟩
  · refine J_aload_n (i := 0) (j := 0) dX10_steps_15 rfl rfl ?_
    refine J_get (C := RX10) (T := TX10) (Z := 10) (ci := 10) (f := 7) dX10_steps_16 inG10 rfl (by decide) k430 wc_0 rfl ?_
    refine J_aload_n (i := 0) (j := 0) dX10_steps_19 rfl rfl ?_
    refine J_get (C := RX10) (T := TX10) (Z := 10) (ci := 10) (f := 4) dX10_steps_20 inG10 rfl (by decide) k427 wc_0 rfl ?_
    refine J_getN (C := RX4) (T := TX4) (Z := 4) (ci := 4) (f := 0) dX10_steps_23 inG4 rfl (by decide) k295 wc_43 rfl ?_
    refine J_iload_n (i := 3) (j := 3) dX10_steps_26 rfl rfl ?_
    refine J_iload (i := 4) (j := 4) dX10_steps_27 rfl ?_
    refine J_callV (As := [.ref 44, .int ponds, .int days]) (rest := []) dX10_steps_29 (c_C_stepByStep (d := 5) (u := u3) (g := g) (ex := ex) (ponds := ponds) (days := days)  (by decide) h5 h6 (ab_c (fr8 66 rfl) hp21)) hq.n k964 k965 k966 wc_56 rfl rfl k95 k967 np_X0_stepByStep (Nat.le_trans (by decide) hd) (by decide) (Nat.le_refl _) (Nat.le_refl _) wlen rfl (Nat.le_of_ble_eq_true rfl) (fun r_ h_ p12 => ?_)
    obtain ⟨v13, u14, g15, rfl, rfl, h16, h17, h18, fr19, fc20, fc21⟩ := p12
    refine J_goto (tgt := 36) dX10_steps_32 (by decide) ?_
    exact J_iret hq dX10_steps_36 rfl wlen (Nat.le_refl _) (Nat.le_refl _) ⟨v13, u14, g15, rfl, rfl, (bd_r (congrFun (fr19 44 rfl) 0) h5), (bd_r (congrFun (fr19 44 rfl) 2) h6), (ab_c (fr19 45 rfl) h7), h16, h17, h18, (fun c k_ => ((fr19 c (nin_sub (M := [(58, 67)]) k_ rfl)).trans (fr8 c (nin_sub (M := [(43, 48)]) k_ rfl)))), (fun j k1_ k2_ k3_ => ((congrFun (fr19 43 rfl) j).trans (fc9 j k1_ k2_ k3_))), (fun j k0_ k2_ => ((congrFun (fr19 44 rfl) j).trans (fc10 j k0_ k2_))), (fun j k0_ k1_ k2_ k3_ k4_ => ((fc20 j k0_ k1_ k2_ k3_ k4_).trans (congrFun (fr8 58 rfl) j))), (fun j k0_ k2_ => ((fc21 j k0_ k2_).trans (congrFun (fr8 61 rfl) j)))⟩
set_option maxHeartbeats 4000000 in
set_option maxRecDepth 100000 in
theorem c_P_mended {d : Nat} {u : Nat → Nat → Int32} {g : Nat → Nat → Int64} {ex : List MC} {hill : Int32} {plan : Int32} {ponds : Int32} (hd : 6 ≤ d) (hp0 : Bd 0 2 (u 1 5)) (hp1 : Bd 0 3 (u 1 7)) (hp2 : Bd 0 9 (u 44 0)) (hp3 : Bd 0 4 (u 44 2)) (hp4 : Bd 0 9 (u 5 0)) (hp5 : Bd 0 4 (u 5 2)) (hp6 : Bd 0 9 (u 10 0)) (hp7 : Bd 0 4 (u 10 2)) (hp8 : Bd 0 12 (u 15 0)) (hp9 : Bd 0 12 (u 19 0)) (hp10 : Bd 0 12 (u 23 0)) (hp11 : Bd 0 12 (u 49 0)) (hp12 : AB u 45 (-1) 999) (hp13 : AB u 6 (-1) 999) (hp14 : AB u 11 (-1) 999) (hp15 : (KM u 15)) (hp16 : (KM u 19)) (hp17 : (KM u 23)) (hp18 : (KM u 49)) (hp19 : Bd 0 9 (u 61 0)) (hp20 : Bd 0 4 (u 61 2)) (hp21 : AB u 66 0 511) : CT con0 d 0 0 yX10_mended cX10_mended 4 (some .long) [.ref 0, .int hill, .int plan, .int ponds] (Wd u g ex) (fun r h2 => ∃ (z : Int64) (u2 : Nat → Nat → Int32) (g2 : Nat → Nat → Int64), r = some (.long z) ∧ h2 = Wd u2 g2 ex ∧ Bd 0 9 (u2 44 0) ∧ Bd 0 4 (u2 44 2) ∧ AB u2 45 (-1) 999 ∧ Bd 0 9 (u2 61 0) ∧ Bd 0 4 (u2 61 2) ∧ AB u2 66 0 511 ∧ (∀ c, nin c [(43, 48), (58, 67)] = true → u2 c = u c) ∧ (∀ j, j ≠ 1 → j ≠ 2 → j ≠ 3 → u2 43 j = u 43 j) ∧ (∀ j, j ≠ 0 → j ≠ 2 → u2 44 j = u 44 j) ∧ (∀ j, j ≠ 0 → j ≠ 1 → j ≠ 2 → j ≠ 3 → j ≠ 4 → u2 58 j = u 58 j) ∧ (∀ j, j ≠ 0 → j ≠ 2 → u2 61 j = u 61 j)) := by
  refine CT_of (by decide) (Nat.le_of_ble_eq_true rfl) (fun x hq => ?_)
  show J x yX10_mended cX10_mended 4 (some .long) d 0 0 (Wd u g ex).length 0 [(0, .ref 0), (1, .int hill), (2, .int plan), (3, .int ponds)] [] (Wd u g ex) 0 0
  refine J_aload_n (i := 0) (j := 0) dX10_mended_0 rfl rfl ?_
  refine J_iload_n (i := 1) (j := 1) dX10_mended_1 rfl rfl ?_
  refine J_iload_n (i := 2) (j := 2) dX10_mended_2 rfl rfl ?_
  refine J_callV (As := [.int hill, .int plan]) (rest := []) dX10_mended_3 (c_P_looks (d := 5) (u := u) (g := g) (ex := ex) (hill := hill) (plan := plan)  (by decide) hp0 hp1 hp2 hp3 hp4 hp5 hp6 hp7 hp8 hp9 hp10 hp11 hp12 hp13 hp14 hp15 hp16 hp17 hp18 hp21 hp19 hp20) hq.n k852 k854 k23 wc_0 rfl rfl k87 k855 np_X10_looks (Nat.le_trans (by decide) hd) (by decide) (Nat.le_refl _) (Nat.le_refl _) wlen rfl (Nat.le_of_ble_eq_true rfl) (fun r_ h_ p1 => ?_)
  obtain ⟨t2, u3, g4, rfl, rfl, h5, h6, h7, h8, h9, h10, fr11, fc12, fc13, fc14, fc15⟩ := p1
  refine J_ifB_eq (tgt := 23) dX10_mended_6 (by decide) (fun c16 => ?_) (fun c16 => ?_)
  · refine J_ldc2 (v := (-1)) dX10_mended_23 k877 ?_
    exact J_lret hq dX10_mended_26 rfl wlen (Nat.le_refl _) (Nat.le_refl _) ⟨((-1) : Int64), u3, g4, rfl, rfl, h5, h6, h7, h8, h9, h10, (fun c k_ => (fr11 c (nin_sub (M := [(43, 48), (58, 67)]) k_ rfl))), (fun j k1_ k2_ k3_ => (fc12 j k1_ k2_ k3_)), (fun j k0_ k2_ => (fc13 j k0_ k2_)), (fun j k0_ k1_ k2_ k3_ k4_ => (fc14 j k0_ k1_ k2_ k3_ k4_)), (fun j k0_ k2_ => (fc15 j k0_ k2_))⟩
  · refine J_aload_n (i := 0) (j := 0) dX10_mended_9 rfl rfl ?_
    refine J_get (C := RX10) (T := TX10) (Z := 10) (ci := 10) (f := 4) dX10_mended_10 inG10 rfl (by decide) k427 wc_0 rfl ?_
    refine J_getN (C := RX4) (T := TX4) (Z := 4) (ci := 4) (f := 0) dX10_mended_13 inG4 rfl (by decide) k295 wc_43 rfl ?_
    refine J_iload_n (i := 3) (j := 3) dX10_mended_16 rfl rfl ?_
    refine J_callV (As := [.int ponds]) (rest := []) dX10_mended_17 (c_H_hasSet (d := 1) (u := u3) (g := g4) (ex := ex) (set := ponds) (t := 44) (by decide) (by decide) h5 h6) hq.n k942 k797 k798 wc_44 rfl rfl k89 k799 np_X1_hasSet (Nat.le_trans (by decide) hd) (by decide) (Nat.le_refl _) (Nat.le_refl _) wlen rfl (Nat.le_of_ble_eq_true rfl) (fun r_ h_ p17 => ?_)
    obtain ⟨t18, rfl, rfl, h19⟩ := p17
    refine J_ifB_ne (tgt := 27) dX10_mended_20 (by decide) (fun c20 => ?_) (fun c20 => ?_)
    · refine J_aload_n (i := 0) (j := 0) dX10_mended_27 rfl rfl ?_
      refine J_get (C := RX10) (T := TX10) (Z := 10) (ci := 10) (f := 8) dX10_mended_28 inG10 rfl (by decide) k431 wc_0 rfl ?_
      refine J_iload_n (i := 3) (j := 3) dX10_mended_31 rfl rfl ?_
      refine J_iconst (v := 0) dX10_mended_32 (by decide) ?_
      refine J_callV (As := [.int ponds, .int 0]) (rest := []) dX10_mended_33 (c_O_weigh (d := 1) (u := u3) (g := g4) (ex := ex) (mended := ponds) (weaker := 0)  (by decide) h8 h9) hq.n k985 k871 k872 wc_57 rfl rfl k96 k873 np_X2_weigh (Nat.le_trans (by decide) hd) (by decide) (Nat.le_refl _) (Nat.le_refl _) wlen rfl (Nat.le_of_ble_eq_true rfl) (fun r_ h_ p21 => ?_)
      obtain ⟨g22, rfl, rfl⟩ := p21
      refine J_aload_n (i := 0) (j := 0) dX10_mended_36 rfl rfl ?_
      refine J_get (C := RX10) (T := TX10) (Z := 10) (ci := 10) (f := 8) dX10_mended_37 inG10 rfl (by decide) k431 wc_0 rfl ?_
      refine J_aload_n (i := 0) (j := 0) dX10_mended_40 rfl rfl ?_
      refine J_get (C := RX10) (T := TX10) (Z := 10) (ci := 10) (f := 4) dX10_mended_41 inG10 rfl (by decide) k427 wc_0 rfl ?_
      refine J_getN (C := RX4) (T := TX4) (Z := 4) (ci := 4) (f := 0) dX10_mended_44 inG4 rfl (by decide) k295 wc_43 rfl ?_
      refine J_callV (As := []) (rest := [.ref 57]) dX10_mended_47 (c_H_all (d := 0) (u := u3) (g := g22) (ex := ex)  (t := 44) (by decide) (by decide) h5 h6) hq.n k902 k801 k802 wc_44 rfl rfl k89 k803 np_X1_all (Nat.le_trans (by decide) hd) (by decide) (Nat.le_refl _) (Nat.le_refl _) wlen rfl (Nat.le_of_ble_eq_true rfl) (fun r_ h_ p23 => ?_)
      obtain ⟨v24, rfl, rfl, h25⟩ := p23
      refine J_callV (As := [.int v24]) (rest := []) dX10_mended_50 (c_O_meanOf (d := 2) (u := u3) (g := g22) (ex := ex) (counted := v24)  (by decide) h8 h9 h10) hq.n k907 k908 k909 wc_57 rfl rfl k96 k910 np_X2_meanOf (Nat.le_trans (by decide) hd) (by decide) (Nat.le_refl _) (Nat.le_refl _) wlen rfl (Nat.le_of_ble_eq_true rfl) (fun r_ h_ p26 => ?_)
      obtain ⟨l27, rfl, rfl⟩ := p26
      exact J_lret hq dX10_mended_53 rfl wlen (Nat.le_refl _) (Nat.le_refl _) ⟨l27, u3, g22, rfl, rfl, h5, h6, h7, h8, h9, h10, (fun c k_ => (fr11 c (nin_sub (M := [(43, 48), (58, 67)]) k_ rfl))), (fun j k1_ k2_ k3_ => (fc12 j k1_ k2_ k3_)), (fun j k0_ k2_ => (fc13 j k0_ k2_)), (fun j k0_ k1_ k2_ k3_ k4_ => (fc14 j k0_ k1_ k2_ k3_ k4_)), (fun j k0_ k2_ => (fc15 j k0_ k2_))⟩
    · refine J_ldc2 (v := (-1)) dX10_mended_23 k877 ?_
      exact J_lret hq dX10_mended_26 rfl wlen (Nat.le_refl _) (Nat.le_refl _) ⟨((-1) : Int64), u3, g4, rfl, rfl, h5, h6, h7, h8, h9, h10, (fun c k_ => (fr11 c (nin_sub (M := [(43, 48), (58, 67)]) k_ rfl))), (fun j k1_ k2_ k3_ => (fc12 j k1_ k2_ k3_)), (fun j k0_ k2_ => (fc13 j k0_ k2_)), (fun j k0_ k1_ k2_ k3_ k4_ => (fc14 j k0_ k1_ k2_ k3_ k4_)), (fun j k0_ k2_ => (fc15 j k0_ k2_))⟩
set_option maxHeartbeats 4000000 in
set_option maxRecDepth 100000 in
theorem c_P_one {d : Nat} {u : Nat → Nat → Int32} {g : Nat → Nat → Int64} {ex : List MC} {hill : Int32} {plan : Int32} {much : Int32} (hd : 6 ≤ d) (hp0 : Bd 0 2 (u 1 5)) (hp1 : Bd 0 3 (u 1 7)) (hp2 : Bd 0 9 (u 44 0)) (hp3 : Bd 0 4 (u 44 2)) (hp4 : Bd 0 9 (u 5 0)) (hp5 : Bd 0 4 (u 5 2)) (hp6 : Bd 0 9 (u 10 0)) (hp7 : Bd 0 4 (u 10 2)) (hp8 : Bd 0 12 (u 15 0)) (hp9 : Bd 0 12 (u 19 0)) (hp10 : Bd 0 12 (u 23 0)) (hp11 : Bd 0 12 (u 49 0)) (hp12 : AB u 45 (-1) 999) (hp13 : AB u 6 (-1) 999) (hp14 : AB u 11 (-1) 999) (hp15 : (KM u 15)) (hp16 : (KM u 19)) (hp17 : (KM u 23)) (hp18 : (KM u 49)) (hp19 : Bd 0 9 (u 61 0)) (hp20 : Bd 0 4 (u 61 2)) (hp21 : AB u 66 0 511) : CT con0 d 0 0 yX10_one cX10_one 4 (some .long) [.ref 0, .int hill, .int plan, .int much] (Wd u g ex) (fun r h2 => ∃ (z : Int64) (u2 : Nat → Nat → Int32) (g2 : Nat → Nat → Int64), r = some (.long z) ∧ h2 = Wd u2 g2 ex ∧ Bd 0 9 (u2 44 0) ∧ Bd 0 4 (u2 44 2) ∧ AB u2 45 (-1) 999 ∧ Bd 0 9 (u2 61 0) ∧ Bd 0 4 (u2 61 2) ∧ AB u2 66 0 511 ∧ (∀ c, nin c [(43, 48), (56, 56), (58, 67)] = true → u2 c = u c) ∧ (∀ j, j ≠ 1 → j ≠ 2 → j ≠ 3 → u2 43 j = u 43 j) ∧ (∀ j, j ≠ 0 → j ≠ 2 → u2 44 j = u 44 j) ∧ (∀ j, j ≠ 2 → u2 56 j = u 56 j) ∧ (∀ j, j ≠ 0 → j ≠ 1 → j ≠ 2 → j ≠ 3 → j ≠ 4 → u2 58 j = u 58 j) ∧ (∀ j, j ≠ 0 → j ≠ 2 → u2 61 j = u 61 j)) := by
  refine CT_of (by decide) (Nat.le_of_ble_eq_true rfl) (fun x hq => ?_)
  show J x yX10_one cX10_one 4 (some .long) d 0 0 (Wd u g ex).length 0 [(0, .ref 0), (1, .int hill), (2, .int plan), (3, .int much)] [] (Wd u g ex) 0 0
  refine J_aload_n (i := 0) (j := 0) dX10_one_0 rfl rfl ?_
  refine J_iload_n (i := 1) (j := 1) dX10_one_1 rfl rfl ?_
  refine J_iload_n (i := 2) (j := 2) dX10_one_2 rfl rfl ?_
  refine J_callV (As := [.int hill, .int plan]) (rest := []) dX10_one_3 (c_P_lays (d := 4) (u := u) (g := g) (ex := ex) (hill := hill) (plan := plan)  (by decide) hp0 hp1 hp2 hp3 hp4 hp5 hp6 hp7 hp8 hp9 hp10 hp11 hp12 hp13 hp14 hp15 hp16 hp17 hp18) hq.n k723 k725 k12 wc_0 rfl rfl k87 k726 np_X10_lays (Nat.le_trans (by decide) hd) (by decide) (Nat.le_refl _) (Nat.le_refl _) wlen rfl (Nat.le_of_ble_eq_true rfl) (fun r_ h_ p1 => ?_)
  obtain ⟨t2, u3, rfl, rfl, h4, h5, h6, fr7, fc8, fc9⟩ := p1
  refine J_ifB_eq (tgt := 22) dX10_one_6 (by decide) (fun c10 => ?_) (fun c10 => ?_)
  · refine J_ldc2 (v := (-1)) dX10_one_22 k877 ?_
    exact J_lret hq dX10_one_25 rfl wlen (Nat.le_refl _) (Nat.le_refl _) ⟨((-1) : Int64), u3, g, rfl, rfl, h4, h5, h6, (bd_r (congrFun (fr7 61 rfl) 0) hp19), (bd_r (congrFun (fr7 61 rfl) 2) hp20), (ab_c (fr7 66 rfl) hp21), (fun c k_ => (fr7 c (nin_sub (M := [(43, 48)]) k_ rfl))), (fun j k1_ k2_ k3_ => (fc8 j k1_ k2_ k3_)), (fun j k0_ k2_ => (fc9 j k0_ k2_)), (fun j k2_ => (congrFun (fr7 56 rfl) j)), (fun j k0_ k1_ k2_ k3_ k4_ => (congrFun (fr7 58 rfl) j)), (fun j k0_ k2_ => (congrFun (fr7 61 rfl) j))⟩
  · refine J_aload_n (i := 0) (j := 0) dX10_one_9 rfl rfl ?_
    refine J_get (C := RX10) (T := TX10) (Z := 10) (ci := 10) (f := 4) dX10_one_10 inG10 rfl (by decide) k427 wc_0 rfl ?_
    refine J_getN (C := RX4) (T := TX4) (Z := 4) (ci := 4) (f := 0) dX10_one_13 inG4 rfl (by decide) k295 wc_43 rfl ?_
    refine J_getN (C := RX1) (T := TX1) (Z := 6) (ci := 1) (f := 0) dX10_one_16 inG1 rfl (by decide) k136 wc_44 rfl ?_
    refine J_if_ne (tgt := 26) dX10_one_19 (by decide) (fun c11 => ?_) (fun c11 => ?_)
    · refine J_aload_n (i := 0) (j := 0) dX10_one_26 rfl rfl ?_
      refine J_get (C := RX10) (T := TX10) (Z := 10) (ci := 10) (f := 7) dX10_one_27 inG10 rfl (by decide) k430 wc_0 rfl ?_
      refine J_aload_n (i := 0) (j := 0) dX10_one_30 rfl rfl ?_
      refine J_get (C := RX10) (T := TX10) (Z := 10) (ci := 10) (f := 4) dX10_one_31 inG10 rfl (by decide) k427 wc_0 rfl ?_
      refine J_getN (C := RX4) (T := TX4) (Z := 4) (ci := 4) (f := 0) dX10_one_34 inG4 rfl (by decide) k295 wc_43 rfl ?_
      refine J_callV (As := [.ref 44]) (rest := []) dX10_one_37 (c_C_holdAll (d := 5) (u := u3) (g := g) (ex := ex)   (by decide) (bd_w (l := 0) (h := 9) (bd_ne_lo h4 c11 (by decide)) (by decide)) h5 (bd_r (congrFun (fr7 61 rfl) 0) hp19) (bd_r (congrFun (fr7 61 rfl) 2) hp20) (ab_c (fr7 66 rfl) hp21)) hq.n k990 k991 k992 wc_56 rfl rfl k95 k993 np_X0_holdAll (Nat.le_trans (by decide) hd) (by decide) (Nat.le_refl _) (Nat.le_refl _) wlen rfl (Nat.le_of_ble_eq_true rfl) (fun r_ h_ p12 => ?_)
      obtain ⟨u13, g14, rfl, rfl, h15, h16, h17, fr18, fc19, fc20, fc21⟩ := p12
      refine J_iload_n (i := 3) (j := 3) dX10_one_40 rfl rfl ?_
      refine J_if_eq (tgt := 54) dX10_one_41 (by decide) (fun c22 => ?_) (fun c22 => ?_)
      · refine J_aload_n (i := 0) (j := 0) dX10_one_54 rfl rfl ?_
        refine J_get (C := RX10) (T := TX10) (Z := 10) (ci := 10) (f := 7) dX10_one_55 inG10 rfl (by decide) k430 wc_0 rfl ?_
        refine J_getN (C := RX0) (T := TX0) (Z := 10) (ci := 0) (f := 2) dX10_one_58 inG0 rfl (by decide) k390 wc_56 rfl ?_
        refine J_i2l dX10_one_61 rfl ?_
        refine J_topl (fun l23 _ => ?_)
        exact J_lret hq dX10_one_62 rfl wlen (Nat.le_refl _) (Nat.le_refl _) ⟨l23, u13, g14, rfl, rfl, (bd_r (congrFun (fr18 44 rfl) 0) (bd_w (l := 0) (h := 9) (bd_ne_lo h4 c11 (by decide)) (by decide))), (bd_r (congrFun (fr18 44 rfl) 2) h5), (ab_c (fr18 45 rfl) h6), h15, h16, h17, (fun c k_ => ((fr18 c (nin_sub (M := [(56, 56), (58, 67)]) k_ rfl)).trans (fr7 c (nin_sub (M := [(43, 48)]) k_ rfl)))), (fun j k1_ k2_ k3_ => ((congrFun (fr18 43 rfl) j).trans (fc8 j k1_ k2_ k3_))), (fun j k0_ k2_ => ((congrFun (fr18 44 rfl) j).trans (fc9 j k0_ k2_))), (fun j k2_ => ((fc19 j k2_).trans (congrFun (fr7 56 rfl) j))), (fun j k0_ k1_ k2_ k3_ k4_ => ((fc20 j k0_ k1_ k2_ k3_ k4_).trans (congrFun (fr7 58 rfl) j))), (fun j k0_ k2_ => ((fc21 j k0_ k2_).trans (congrFun (fr7 61 rfl) j)))⟩
      · refine J_aload_n (i := 0) (j := 0) dX10_one_44 rfl rfl ?_
        refine J_get (C := RX10) (T := TX10) (Z := 10) (ci := 10) (f := 7) dX10_one_45 inG10 rfl (by decide) k430 wc_0 rfl ?_
        refine J_getN (C := RX0) (T := TX0) (Z := 10) (ci := 0) (f := 4) dX10_one_48 inG0 rfl (by decide) k394 wc_56 rfl ?_
        refine J_topl (fun l24 _ => ?_)
        refine J_goto (tgt := 62) dX10_one_51 (by decide) ?_
        exact J_lret hq dX10_one_62 rfl wlen (Nat.le_refl _) (Nat.le_refl _) ⟨l24, u13, g14, rfl, rfl, (bd_r (congrFun (fr18 44 rfl) 0) (bd_w (l := 0) (h := 9) (bd_ne_lo h4 c11 (by decide)) (by decide))), (bd_r (congrFun (fr18 44 rfl) 2) h5), (ab_c (fr18 45 rfl) h6), h15, h16, h17, (fun c k_ => ((fr18 c (nin_sub (M := [(56, 56), (58, 67)]) k_ rfl)).trans (fr7 c (nin_sub (M := [(43, 48)]) k_ rfl)))), (fun j k1_ k2_ k3_ => ((congrFun (fr18 43 rfl) j).trans (fc8 j k1_ k2_ k3_))), (fun j k0_ k2_ => ((congrFun (fr18 44 rfl) j).trans (fc9 j k0_ k2_))), (fun j k2_ => ((fc19 j k2_).trans (congrFun (fr7 56 rfl) j))), (fun j k0_ k1_ k2_ k3_ k4_ => ((fc20 j k0_ k1_ k2_ k3_ k4_).trans (congrFun (fr7 58 rfl) j))), (fun j k0_ k2_ => ((fc21 j k0_ k2_).trans (congrFun (fr7 61 rfl) j)))⟩
    · refine J_ldc2 (v := (-1)) dX10_one_22 k877 ?_
      exact J_lret hq dX10_one_25 rfl wlen (Nat.le_refl _) (Nat.le_refl _) ⟨((-1) : Int64), u3, g, rfl, rfl, (bd_w (l := 0) (h := 9) (bd_r c11 (bd_c (v := 0) (lo := 0) (hi := 0) (by decide))) (by decide)), h5, h6, (bd_r (congrFun (fr7 61 rfl) 0) hp19), (bd_r (congrFun (fr7 61 rfl) 2) hp20), (ab_c (fr7 66 rfl) hp21), (fun c k_ => (fr7 c (nin_sub (M := [(43, 48)]) k_ rfl))), (fun j k1_ k2_ k3_ => (fc8 j k1_ k2_ k3_)), (fun j k0_ k2_ => (fc9 j k0_ k2_)), (fun j k2_ => (congrFun (fr7 56 rfl) j)), (fun j k0_ k1_ k2_ k3_ k4_ => (congrFun (fr7 58 rfl) j)), (fun j k0_ k2_ => (congrFun (fr7 61 rfl) j))⟩
set_option maxHeartbeats 4000000 in
set_option maxRecDepth 100000 in
theorem c_P_low {d : Nat} {u : Nat → Nat → Int32} {g : Nat → Nat → Int64} {ex : List MC} {hill : Int32} {plan : Int32} {pond : Int32} (hd : 6 ≤ d) (hp0 : Bd 0 2 (u 1 5)) (hp1 : Bd 0 3 (u 1 7)) (hp2 : Bd 0 9 (u 44 0)) (hp3 : Bd 0 4 (u 44 2)) (hp4 : Bd 0 9 (u 5 0)) (hp5 : Bd 0 4 (u 5 2)) (hp6 : Bd 0 9 (u 10 0)) (hp7 : Bd 0 4 (u 10 2)) (hp8 : Bd 0 12 (u 15 0)) (hp9 : Bd 0 12 (u 19 0)) (hp10 : Bd 0 12 (u 23 0)) (hp11 : Bd 0 12 (u 49 0)) (hp12 : AB u 45 (-1) 999) (hp13 : AB u 6 (-1) 999) (hp14 : AB u 11 (-1) 999) (hp15 : (KM u 15)) (hp16 : (KM u 19)) (hp17 : (KM u 23)) (hp18 : (KM u 49)) (hp19 : Bd 0 9 (u 61 0)) (hp20 : Bd 0 4 (u 61 2)) (hp21 : AB u 66 0 511) (hp22 : Bd 0 9 (u 70 0)) (hp23 : Bd 0 4 (u 70 2)) : CT con0 d 0 0 yX10_low cX10_low 4 (some .int) [.ref 0, .int hill, .int plan, .int pond] (Wd u g ex) (fun r h2 => ∃ (z : Int32) (u2 : Nat → Nat → Int32) (g2 : Nat → Nat → Int64), r = some (.int z) ∧ h2 = Wd u2 g2 ex ∧ Bd 0 9 (u2 44 0) ∧ Bd 0 4 (u2 44 2) ∧ AB u2 45 (-1) 999 ∧ Bd 0 9 (u2 61 0) ∧ Bd 0 4 (u2 61 2) ∧ AB u2 66 0 511 ∧ Bd 0 9 (u2 70 0) ∧ Bd 0 4 (u2 70 2) ∧ (∀ c, nin c [(43, 48), (58, 67), (70, 74)] = true → u2 c = u c) ∧ (∀ j, j ≠ 1 → j ≠ 2 → j ≠ 3 → u2 43 j = u 43 j) ∧ (∀ j, j ≠ 0 → j ≠ 2 → u2 44 j = u 44 j) ∧ (∀ j, j ≠ 0 → j ≠ 1 → j ≠ 2 → j ≠ 3 → j ≠ 4 → u2 58 j = u 58 j) ∧ (∀ j, j ≠ 0 → j ≠ 2 → u2 61 j = u 61 j) ∧ (∀ j, j ≠ 0 → j ≠ 2 → u2 70 j = u 70 j)) := by
  refine CT_of (by decide) (Nat.le_of_ble_eq_true rfl) (fun x hq => ?_)
  show J x yX10_low cX10_low 4 (some .int) d 0 0 (Wd u g ex).length 0 [(0, .ref 0), (1, .int hill), (2, .int plan), (3, .int pond)] [] (Wd u g ex) 0 0
  refine J_aload_n (i := 0) (j := 0) dX10_low_0 rfl rfl ?_
  refine J_iload_n (i := 1) (j := 1) dX10_low_1 rfl rfl ?_
  refine J_iload_n (i := 2) (j := 2) dX10_low_2 rfl rfl ?_
  refine J_iload_n (i := 3) (j := 3) dX10_low_3 rfl rfl ?_
  refine J_callV (As := [.int hill, .int plan, .int pond]) (rest := []) dX10_low_4 (c_P_hasPond (d := 5) (u := u) (g := g) (ex := ex) (hill := hill) (plan := plan) (pond := pond)  (by decide) hp0 hp1 hp2 hp3 hp4 hp5 hp6 hp7 hp8 hp9 hp10 hp11 hp12 hp13 hp14 hp15 hp16 hp17 hp18) hq.n k1005 k1007 k29 wc_0 rfl rfl k87 k1008 np_X10_hasPond (Nat.le_trans (by decide) hd) (by decide) (Nat.le_refl _) (Nat.le_refl _) wlen rfl (Nat.le_of_ble_eq_true rfl) (fun r_ h_ p1 => ?_)
  obtain ⟨t2, u3, rfl, rfl, h4, h5, h6, h7, fr8, fc9, fc10⟩ := p1
  refine J_ifB_eq (tgt := 28) dX10_low_7 (by decide) (fun c11 => ?_) (fun c11 => ?_)
  · refine J_iconst (v := (-1)) dX10_low_28 (by decide) ?_
    exact J_iret hq dX10_low_29 rfl wlen (Nat.le_refl _) (Nat.le_refl _) ⟨((-1) : Int32), u3, g, rfl, rfl, h5, h6, h7, (bd_r (congrFun (fr8 61 rfl) 0) hp19), (bd_r (congrFun (fr8 61 rfl) 2) hp20), (ab_c (fr8 66 rfl) hp21), (bd_r (congrFun (fr8 70 rfl) 0) hp22), (bd_r (congrFun (fr8 70 rfl) 2) hp23), (fun c k_ => (fr8 c (nin_sub (M := [(43, 48)]) k_ rfl))), (fun j k1_ k2_ k3_ => (fc9 j k1_ k2_ k3_)), (fun j k0_ k2_ => (fc10 j k0_ k2_)), (fun j k0_ k1_ k2_ k3_ k4_ => (congrFun (fr8 58 rfl) j)), (fun j k0_ k2_ => (congrFun (fr8 61 rfl) j)), (fun j k0_ k2_ => (congrFun (fr8 70 rfl) j))⟩
  · refine J_aload_n (i := 0) (j := 0) dX10_low_10 rfl rfl ?_
    refine J_get (C := RX10) (T := TX10) (Z := 10) (ci := 10) (f := 7) dX10_low_11 inG10 rfl (by decide) k430 wc_0 rfl ?_
    refine J_aload_n (i := 0) (j := 0) dX10_low_14 rfl rfl ?_
    refine J_get (C := RX10) (T := TX10) (Z := 10) (ci := 10) (f := 4) dX10_low_15 inG10 rfl (by decide) k427 wc_0 rfl ?_
    refine J_getN (C := RX4) (T := TX4) (Z := 4) (ci := 4) (f := 0) dX10_low_18 inG4 rfl (by decide) k295 wc_43 rfl ?_
    refine J_iload_n (i := 3) (j := 3) dX10_low_21 rfl rfl ?_
    refine J_callV (As := [.ref 44, .int pond]) (rest := []) dX10_low_22 (c_C_lowerBy (d := 4) (u := u3) (g := g) (ex := ex) (pond := pond)  (by decide) h5 h6 h7 (bd_r (congrFun (fr8 61 rfl) 0) hp19) (bd_r (congrFun (fr8 61 rfl) 2) hp20) (ab_c (fr8 66 rfl) hp21) (bd_r (congrFun (fr8 70 rfl) 0) hp22) (bd_r (congrFun (fr8 70 rfl) 2) hp23)) hq.n k1009 k1010 k1011 wc_56 rfl rfl k95 k1012 np_X0_lowerBy (Nat.le_trans (by decide) hd) (by decide) (Nat.le_refl _) (Nat.le_refl _) wlen rfl (Nat.le_of_ble_eq_true rfl) (fun r_ h_ p12 => ?_)
    obtain ⟨v13, u14, g15, rfl, rfl, h16, h17, h18, h19, h20, fr21, fc22, fc23, fc24⟩ := p12
    refine J_goto (tgt := 29) dX10_low_25 (by decide) ?_
    exact J_iret hq dX10_low_29 rfl wlen (Nat.le_refl _) (Nat.le_refl _) ⟨v13, u14, g15, rfl, rfl, (bd_r (congrFun (fr21 44 rfl) 0) h5), (bd_r (congrFun (fr21 44 rfl) 2) h6), (ab_c (fr21 45 rfl) h7), h16, h17, h18, h19, h20, (fun c k_ => ((fr21 c (nin_sub (M := [(58, 67), (70, 74)]) k_ rfl)).trans (fr8 c (nin_sub (M := [(43, 48)]) k_ rfl)))), (fun j k1_ k2_ k3_ => ((congrFun (fr21 43 rfl) j).trans (fc9 j k1_ k2_ k3_))), (fun j k0_ k2_ => ((congrFun (fr21 44 rfl) j).trans (fc10 j k0_ k2_))), (fun j k0_ k1_ k2_ k3_ k4_ => ((fc22 j k0_ k1_ k2_ k3_ k4_).trans (congrFun (fr8 58 rfl) j))), (fun j k0_ k2_ => ((fc23 j k0_ k2_).trans (congrFun (fr8 61 rfl) j))), (fun j k0_ k2_ => ((fc24 j k0_ k2_).trans (congrFun (fr8 70 rfl) j)))⟩
set_option maxHeartbeats 4000000 in
set_option maxRecDepth 100000 in
theorem c_P_helps {d : Nat} {u : Nat → Nat → Int32} {g : Nat → Nat → Int64} {ex : List MC} {hill : Int32} {plan : Int32} {owner : Int32} {other : Int32} (hd : 6 ≤ d) (hp0 : Bd 0 2 (u 1 5)) (hp1 : Bd 0 3 (u 1 7)) (hp2 : Bd 0 9 (u 44 0)) (hp3 : Bd 0 4 (u 44 2)) (hp4 : Bd 0 9 (u 5 0)) (hp5 : Bd 0 4 (u 5 2)) (hp6 : Bd 0 9 (u 10 0)) (hp7 : Bd 0 4 (u 10 2)) (hp8 : Bd 0 12 (u 15 0)) (hp9 : Bd 0 12 (u 19 0)) (hp10 : Bd 0 12 (u 23 0)) (hp11 : Bd 0 12 (u 49 0)) (hp12 : AB u 45 (-1) 999) (hp13 : AB u 6 (-1) 999) (hp14 : AB u 11 (-1) 999) (hp15 : (KM u 15)) (hp16 : (KM u 19)) (hp17 : (KM u 23)) (hp18 : (KM u 49)) (hp19 : Bd 0 9 (u 61 0)) (hp20 : Bd 0 4 (u 61 2)) (hp21 : AB u 66 0 511) : CT con0 d 0 0 yX10_helps cX10_helps 8 (some .long) [.ref 0, .int hill, .int plan, .int owner, .int other] (Wd u g ex) (fun r h2 => ∃ (z : Int64) (u2 : Nat → Nat → Int32) (g2 : Nat → Nat → Int64), r = some (.long z) ∧ h2 = Wd u2 g2 ex ∧ Bd 0 9 (u2 44 0) ∧ Bd 0 4 (u2 44 2) ∧ AB u2 45 (-1) 999 ∧ Bd 0 9 (u2 61 0) ∧ Bd 0 4 (u2 61 2) ∧ AB u2 66 0 511 ∧ (∀ c, nin c [(43, 48), (58, 67)] = true → u2 c = u c) ∧ (∀ j, j ≠ 1 → j ≠ 2 → j ≠ 3 → u2 43 j = u 43 j) ∧ (∀ j, j ≠ 0 → j ≠ 2 → u2 44 j = u 44 j) ∧ (∀ j, j ≠ 0 → j ≠ 1 → j ≠ 2 → j ≠ 3 → j ≠ 4 → u2 58 j = u 58 j) ∧ (∀ j, j ≠ 0 → j ≠ 2 → u2 61 j = u 61 j)) := by
  refine CT_of (by decide) (Nat.le_of_ble_eq_true rfl) (fun x hq => ?_)
  show J x yX10_helps cX10_helps 8 (some .long) d 0 0 (Wd u g ex).length 0 [(0, .ref 0), (1, .int hill), (2, .int plan), (3, .int owner), (4, .int other)] [] (Wd u g ex) 0 0
  refine J_aload_n (i := 0) (j := 0) dX10_helps_0 rfl rfl ?_
  refine J_iload_n (i := 1) (j := 1) dX10_helps_1 rfl rfl ?_
  refine J_iload_n (i := 2) (j := 2) dX10_helps_2 rfl rfl ?_
  refine J_callV (As := [.int hill, .int plan]) (rest := []) dX10_helps_3 (c_P_looks (d := 5) (u := u) (g := g) (ex := ex) (hill := hill) (plan := plan)  (by decide) hp0 hp1 hp2 hp3 hp4 hp5 hp6 hp7 hp8 hp9 hp10 hp11 hp12 hp13 hp14 hp15 hp16 hp17 hp18 hp21 hp19 hp20) hq.n k852 k854 k23 wc_0 rfl rfl k87 k855 np_X10_looks (Nat.le_trans (by decide) hd) (by decide) (Nat.le_refl _) (Nat.le_refl _) wlen rfl (Nat.le_of_ble_eq_true rfl) (fun r_ h_ p1 => ?_)
  obtain ⟨t2, u3, g4, rfl, rfl, h5, h6, h7, h8, h9, h10, fr11, fc12, fc13, fc14, fc15⟩ := p1
  refine J_ifB_eq (tgt := 24) dX10_helps_6 (by decide) (fun c16 => ?_) (fun c16 => ?_)
  · refine J_ldc2 (v := (-1)) dX10_helps_24 k877 ?_
    exact J_lret hq dX10_helps_27 rfl wlen (Nat.le_refl _) (Nat.le_refl _) ⟨((-1) : Int64), u3, g4, rfl, rfl, h5, h6, h7, h8, h9, h10, (fun c k_ => (fr11 c (nin_sub (M := [(43, 48), (58, 67)]) k_ rfl))), (fun j k1_ k2_ k3_ => (fc12 j k1_ k2_ k3_)), (fun j k0_ k2_ => (fc13 j k0_ k2_)), (fun j k0_ k1_ k2_ k3_ k4_ => (fc14 j k0_ k1_ k2_ k3_ k4_)), (fun j k0_ k2_ => (fc15 j k0_ k2_))⟩
  · refine J_iload_n (i := 3) (j := 3) dX10_helps_9 rfl rfl ?_
    refine J_callS (As := [.int owner]) (rest := []) dX10_helps_10 (c_isOwner (d := 0) (u := u3) (g := g4) (ex := ex) (owner := owner)  (by decide) ) hq.n k899 k900 k87 k901 np_X10_isOwner (Nat.le_trans (by decide) hd) (by decide) (Nat.le_refl _) (Nat.le_refl _) wlen rfl (Nat.le_of_ble_eq_true rfl) (fun r_ h_ p17 => ?_)
    obtain ⟨t18, rfl, rfl⟩ := p17
    refine J_ifB_eq (tgt := 24) dX10_helps_13 (by decide) (fun c19 => ?_) (fun c19 => ?_)
    · refine J_ldc2 (v := (-1)) dX10_helps_24 k877 ?_
      exact J_lret hq dX10_helps_27 rfl wlen (Nat.le_refl _) (Nat.le_refl _) ⟨((-1) : Int64), u3, g4, rfl, rfl, h5, h6, h7, h8, h9, h10, (fun c k_ => (fr11 c (nin_sub (M := [(43, 48), (58, 67)]) k_ rfl))), (fun j k1_ k2_ k3_ => (fc12 j k1_ k2_ k3_)), (fun j k0_ k2_ => (fc13 j k0_ k2_)), (fun j k0_ k1_ k2_ k3_ k4_ => (fc14 j k0_ k1_ k2_ k3_ k4_)), (fun j k0_ k2_ => (fc15 j k0_ k2_))⟩
    · refine J_iload (i := 4) (j := 4) dX10_helps_16 rfl ?_
      refine J_callS (As := [.int other]) (rest := []) dX10_helps_18 (c_isOwner (d := 0) (u := u3) (g := g4) (ex := ex) (owner := other)  (by decide) ) hq.n k899 k900 k87 k901 np_X10_isOwner (Nat.le_trans (by decide) hd) (by decide) (Nat.le_refl _) (Nat.le_refl _) wlen rfl (Nat.le_of_ble_eq_true rfl) (fun r_ h_ p20 => ?_)
      obtain ⟨t21, rfl, rfl⟩ := p20
      refine J_ifB_ne (tgt := 28) dX10_helps_21 (by decide) (fun c22 => ?_) (fun c22 => ?_)
      · refine J_aload_n (i := 0) (j := 0) dX10_helps_28 rfl rfl ?_
        refine J_get (C := RX10) (T := TX10) (Z := 10) (ci := 10) (f := 4) dX10_helps_29 inG10 rfl (by decide) k427 wc_0 rfl ?_
        refine J_getN (C := RX4) (T := TX4) (Z := 4) (ci := 4) (f := 0) dX10_helps_32 inG4 rfl (by decide) k295 wc_43 rfl ?_
        refine J_iload (i := 4) (j := 4) dX10_helps_35 rfl ?_
        refine J_callV (As := [.int other]) (rest := []) dX10_helps_37 (c_H_ownedBy (d := 1) (u := u3) (g := g4) (ex := ex) (owner := other) (t := 44) (by decide) (by decide) h5 h6) hq.n k903 k904 k905 wc_44 rfl rfl k89 k906 np_X1_ownedBy (Nat.le_trans (by decide) hd) (by decide) (Nat.le_refl _) (Nat.le_refl _) wlen rfl (Nat.le_of_ble_eq_true rfl) (fun r_ h_ p23 => ?_)
        obtain ⟨v24, rfl, rfl, h25⟩ := p23
        refine J_istore (i := 5) (lw := [(5, .int v24), (0, .ref 0), (1, .int hill), (2, .int plan), (3, .int owner), (4, .int other)]) dX10_helps_40 (by decide) rfl ?_
        refine J_aload_n (i := 0) (j := 1) dX10_helps_42 rfl rfl ?_
        refine J_get (C := RX10) (T := TX10) (Z := 10) (ci := 10) (f := 8) dX10_helps_43 inG10 rfl (by decide) k431 wc_0 rfl ?_
        refine J_iload (i := 5) (j := 0) dX10_helps_46 rfl ?_
        refine J_callV (As := [.int v24]) (rest := []) dX10_helps_48 (c_O_meanOf (d := 2) (u := u3) (g := g4) (ex := ex) (counted := v24)  (by decide) h8 h9 h10) hq.n k907 k908 k909 wc_57 rfl rfl k96 k910 np_X2_meanOf (Nat.le_trans (by decide) hd) (by decide) (Nat.le_refl _) (Nat.le_refl _) wlen rfl (Nat.le_of_ble_eq_true rfl) (fun r_ h_ p26 => ?_)
        obtain ⟨l27, rfl, rfl⟩ := p26
        refine J_lstore (i := 6) (lw := [(6, .long l27), (5, .int v24), (0, .ref 0), (1, .int hill), (2, .int plan), (3, .int owner), (4, .int other)]) dX10_helps_51 (by decide) rfl ?_
        refine J_aload_n (i := 0) (j := 2) dX10_helps_53 rfl rfl ?_
        refine J_get (C := RX10) (T := TX10) (Z := 10) (ci := 10) (f := 8) dX10_helps_54 inG10 rfl (by decide) k431 wc_0 rfl ?_
        refine J_aload_n (i := 0) (j := 2) dX10_helps_57 rfl rfl ?_
        refine J_get (C := RX10) (T := TX10) (Z := 10) (ci := 10) (f := 4) dX10_helps_58 inG10 rfl (by decide) k427 wc_0 rfl ?_
        refine J_getN (C := RX4) (T := TX4) (Z := 4) (ci := 4) (f := 0) dX10_helps_61 inG4 rfl (by decide) k295 wc_43 rfl ?_
        refine J_iload_n (i := 3) (j := 5) dX10_helps_64 rfl rfl ?_
        refine J_callV (As := [.int owner]) (rest := [.ref 57]) dX10_helps_65 (c_H_ownedBy (d := 1) (u := u3) (g := g4) (ex := ex) (owner := owner) (t := 44) (by decide) (by decide) h5 h6) hq.n k903 k904 k905 wc_44 rfl rfl k89 k906 np_X1_ownedBy (Nat.le_trans (by decide) hd) (by decide) (Nat.le_refl _) (Nat.le_refl _) wlen rfl (Nat.le_of_ble_eq_true rfl) (fun r_ h_ p28 => ?_)
        obtain ⟨v29, rfl, rfl, h30⟩ := p28
        refine J_iconst (v := 0) dX10_helps_68 (by decide) ?_
        refine J_callV (As := [.int v29, .int 0]) (rest := []) dX10_helps_69 (c_O_weigh (d := 1) (u := u3) (g := g4) (ex := ex) (mended := v29) (weaker := 0)  (by decide) h8 h9) hq.n k985 k871 k872 wc_57 rfl rfl k96 k873 np_X2_weigh (Nat.le_trans (by decide) hd) (by decide) (Nat.le_refl _) (Nat.le_refl _) wlen rfl (Nat.le_of_ble_eq_true rfl) (fun r_ h_ p31 => ?_)
        obtain ⟨g32, rfl, rfl⟩ := p31
        refine J_lload (i := 6) (j := 0) dX10_helps_72 rfl ?_
        refine J_aload_n (i := 0) (j := 2) dX10_helps_74 rfl rfl ?_
        refine J_get (C := RX10) (T := TX10) (Z := 10) (ci := 10) (f := 8) dX10_helps_75 inG10 rfl (by decide) k431 wc_0 rfl ?_
        refine J_iload (i := 5) (j := 1) dX10_helps_78 rfl ?_
        refine J_callV (As := [.int v24]) (rest := [.long l27]) dX10_helps_80 (c_O_meanOf (d := 2) (u := u3) (g := g32) (ex := ex) (counted := v24)  (by decide) h8 h9 h10) hq.n k907 k908 k909 wc_57 rfl rfl k96 k910 np_X2_meanOf (Nat.le_trans (by decide) hd) (by decide) (Nat.le_refl _) (Nat.le_refl _) wlen rfl (Nat.le_of_ble_eq_true rfl) (fun r_ h_ p33 => ?_)
        obtain ⟨l34, rfl, rfl⟩ := p33
        refine J_lsub dX10_helps_83 ?_
        refine J_topl (fun l35 _ => ?_)
        exact J_lret hq dX10_helps_84 rfl wlen (Nat.le_refl _) (Nat.le_refl _) ⟨l35, u3, g32, rfl, rfl, h5, h6, h7, h8, h9, h10, (fun c k_ => (fr11 c (nin_sub (M := [(43, 48), (58, 67)]) k_ rfl))), (fun j k1_ k2_ k3_ => (fc12 j k1_ k2_ k3_)), (fun j k0_ k2_ => (fc13 j k0_ k2_)), (fun j k0_ k1_ k2_ k3_ k4_ => (fc14 j k0_ k1_ k2_ k3_ k4_)), (fun j k0_ k2_ => (fc15 j k0_ k2_))⟩
      · refine J_ldc2 (v := (-1)) dX10_helps_24 k877 ?_
        exact J_lret hq dX10_helps_27 rfl wlen (Nat.le_refl _) (Nat.le_refl _) ⟨((-1) : Int64), u3, g4, rfl, rfl, h5, h6, h7, h8, h9, h10, (fun c k_ => (fr11 c (nin_sub (M := [(43, 48), (58, 67)]) k_ rfl))), (fun j k1_ k2_ k3_ => (fc12 j k1_ k2_ k3_)), (fun j k0_ k2_ => (fc13 j k0_ k2_)), (fun j k0_ k1_ k2_ k3_ k4_ => (fc14 j k0_ k1_ k2_ k3_ k4_)), (fun j k0_ k2_ => (fc15 j k0_ k2_))⟩
set_option maxHeartbeats 4000000 in
set_option maxRecDepth 100000 in
theorem c_P_alone {d : Nat} {u : Nat → Nat → Int32} {g : Nat → Nat → Int64} {ex : List MC} {hill : Int32} {plan : Int32} {owner : Int32} (hd : 6 ≤ d) (hp0 : Bd 0 2 (u 1 5)) (hp1 : Bd 0 3 (u 1 7)) (hp2 : Bd 0 9 (u 44 0)) (hp3 : Bd 0 4 (u 44 2)) (hp4 : Bd 0 9 (u 5 0)) (hp5 : Bd 0 4 (u 5 2)) (hp6 : Bd 0 9 (u 10 0)) (hp7 : Bd 0 4 (u 10 2)) (hp8 : Bd 0 12 (u 15 0)) (hp9 : Bd 0 12 (u 19 0)) (hp10 : Bd 0 12 (u 23 0)) (hp11 : Bd 0 12 (u 49 0)) (hp12 : AB u 45 (-1) 999) (hp13 : AB u 6 (-1) 999) (hp14 : AB u 11 (-1) 999) (hp15 : (KM u 15)) (hp16 : (KM u 19)) (hp17 : (KM u 23)) (hp18 : (KM u 49)) (hp19 : Bd 0 9 (u 61 0)) (hp20 : Bd 0 4 (u 61 2)) (hp21 : AB u 66 0 511) : CT con0 d 0 0 yX10_alone cX10_alone 5 (some .long) [.ref 0, .int hill, .int plan, .int owner] (Wd u g ex) (fun r h2 => ∃ (z : Int64) (u2 : Nat → Nat → Int32) (g2 : Nat → Nat → Int64), r = some (.long z) ∧ h2 = Wd u2 g2 ex ∧ Bd 0 9 (u2 44 0) ∧ Bd 0 4 (u2 44 2) ∧ AB u2 45 (-1) 999 ∧ Bd 0 9 (u2 61 0) ∧ Bd 0 4 (u2 61 2) ∧ AB u2 66 0 511 ∧ (∀ c, nin c [(43, 48), (58, 67)] = true → u2 c = u c) ∧ (∀ j, j ≠ 1 → j ≠ 2 → j ≠ 3 → u2 43 j = u 43 j) ∧ (∀ j, j ≠ 0 → j ≠ 2 → u2 44 j = u 44 j) ∧ (∀ j, j ≠ 0 → j ≠ 1 → j ≠ 2 → j ≠ 3 → j ≠ 4 → u2 58 j = u 58 j) ∧ (∀ j, j ≠ 0 → j ≠ 2 → u2 61 j = u 61 j)) := by
  refine CT_of (by decide) (Nat.le_of_ble_eq_true rfl) (fun x hq => ?_)
  show J x yX10_alone cX10_alone 5 (some .long) d 0 0 (Wd u g ex).length 0 [(0, .ref 0), (1, .int hill), (2, .int plan), (3, .int owner)] [] (Wd u g ex) 0 0
  refine J_aload_n (i := 0) (j := 0) dX10_alone_0 rfl rfl ?_
  refine J_iload_n (i := 1) (j := 1) dX10_alone_1 rfl rfl ?_
  refine J_iload_n (i := 2) (j := 2) dX10_alone_2 rfl rfl ?_
  refine J_callV (As := [.int hill, .int plan]) (rest := []) dX10_alone_3 (c_P_looks (d := 5) (u := u) (g := g) (ex := ex) (hill := hill) (plan := plan)  (by decide) hp0 hp1 hp2 hp3 hp4 hp5 hp6 hp7 hp8 hp9 hp10 hp11 hp12 hp13 hp14 hp15 hp16 hp17 hp18 hp21 hp19 hp20) hq.n k852 k854 k23 wc_0 rfl rfl k87 k855 np_X10_looks (Nat.le_trans (by decide) hd) (by decide) (Nat.le_refl _) (Nat.le_refl _) wlen rfl (Nat.le_of_ble_eq_true rfl) (fun r_ h_ p1 => ?_)
  obtain ⟨t2, u3, g4, rfl, rfl, h5, h6, h7, h8, h9, h10, fr11, fc12, fc13, fc14, fc15⟩ := p1
  refine J_ifB_eq (tgt := 16) dX10_alone_6 (by decide) (fun c16 => ?_) (fun c16 => ?_)
  · refine J_ldc2 (v := (-1)) dX10_alone_16 k877 ?_
    exact J_lret hq dX10_alone_19 rfl wlen (Nat.le_refl _) (Nat.le_refl _) ⟨((-1) : Int64), u3, g4, rfl, rfl, h5, h6, h7, h8, h9, h10, (fun c k_ => (fr11 c (nin_sub (M := [(43, 48), (58, 67)]) k_ rfl))), (fun j k1_ k2_ k3_ => (fc12 j k1_ k2_ k3_)), (fun j k0_ k2_ => (fc13 j k0_ k2_)), (fun j k0_ k1_ k2_ k3_ k4_ => (fc14 j k0_ k1_ k2_ k3_ k4_)), (fun j k0_ k2_ => (fc15 j k0_ k2_))⟩
  · refine J_iload_n (i := 3) (j := 3) dX10_alone_9 rfl rfl ?_
    refine J_callS (As := [.int owner]) (rest := []) dX10_alone_10 (c_isOwner (d := 0) (u := u3) (g := g4) (ex := ex) (owner := owner)  (by decide) ) hq.n k899 k900 k87 k901 np_X10_isOwner (Nat.le_trans (by decide) hd) (by decide) (Nat.le_refl _) (Nat.le_refl _) wlen rfl (Nat.le_of_ble_eq_true rfl) (fun r_ h_ p17 => ?_)
    obtain ⟨t18, rfl, rfl⟩ := p17
    refine J_ifB_ne (tgt := 20) dX10_alone_13 (by decide) (fun c19 => ?_) (fun c19 => ?_)
    · refine J_aload_n (i := 0) (j := 0) dX10_alone_20 rfl rfl ?_
      refine J_get (C := RX10) (T := TX10) (Z := 10) (ci := 10) (f := 4) dX10_alone_21 inG10 rfl (by decide) k427 wc_0 rfl ?_
      refine J_getN (C := RX4) (T := TX4) (Z := 4) (ci := 4) (f := 0) dX10_alone_24 inG4 rfl (by decide) k295 wc_43 rfl ?_
      refine J_iload_n (i := 3) (j := 3) dX10_alone_27 rfl rfl ?_
      refine J_callV (As := [.int owner]) (rest := []) dX10_alone_28 (c_H_ownedBy (d := 1) (u := u3) (g := g4) (ex := ex) (owner := owner) (t := 44) (by decide) (by decide) h5 h6) hq.n k903 k904 k905 wc_44 rfl rfl k89 k906 np_X1_ownedBy (Nat.le_trans (by decide) hd) (by decide) (Nat.le_refl _) (Nat.le_refl _) wlen rfl (Nat.le_of_ble_eq_true rfl) (fun r_ h_ p20 => ?_)
      obtain ⟨v21, rfl, rfl, h22⟩ := p20
      refine J_istore (i := 4) (lw := [(4, .int v21), (0, .ref 0), (1, .int hill), (2, .int plan), (3, .int owner)]) dX10_alone_31 (by decide) rfl ?_
      refine J_aload_n (i := 0) (j := 1) dX10_alone_33 rfl rfl ?_
      refine J_get (C := RX10) (T := TX10) (Z := 10) (ci := 10) (f := 8) dX10_alone_34 inG10 rfl (by decide) k431 wc_0 rfl ?_
      refine J_aload_n (i := 0) (j := 1) dX10_alone_37 rfl rfl ?_
      refine J_get (C := RX10) (T := TX10) (Z := 10) (ci := 10) (f := 4) dX10_alone_38 inG10 rfl (by decide) k427 wc_0 rfl ?_
      refine J_getN (C := RX4) (T := TX4) (Z := 4) (ci := 4) (f := 0) dX10_alone_41 inG4 rfl (by decide) k295 wc_43 rfl ?_
      refine J_callV (As := []) (rest := [.ref 57]) dX10_alone_44 (c_H_all (d := 0) (u := u3) (g := g4) (ex := ex)  (t := 44) (by decide) (by decide) h5 h6) hq.n k902 k801 k802 wc_44 rfl rfl k89 k803 np_X1_all (Nat.le_trans (by decide) hd) (by decide) (Nat.le_refl _) (Nat.le_refl _) wlen rfl (Nat.le_of_ble_eq_true rfl) (fun r_ h_ p23 => ?_)
      obtain ⟨v24, rfl, rfl, h25⟩ := p23
      refine J_iload (i := 4) (j := 0) dX10_alone_47 rfl ?_
      refine J_iconst (v := (-1)) dX10_alone_49 (by decide) ?_
      refine J_ixor dX10_alone_50 ?_
      refine J_iand dX10_alone_51 ?_
      refine J_iconst (v := 0) dX10_alone_52 (by decide) ?_
      refine J_callV (As := [.int (v24 &&& (v21 ^^^ (-1))), .int 0]) (rest := []) dX10_alone_53 (c_O_weigh (d := 1) (u := u3) (g := g4) (ex := ex) (mended := (v24 &&& (v21 ^^^ (-1)))) (weaker := 0)  (by decide) h8 h9) hq.n k985 k871 k872 wc_57 rfl rfl k96 k873 np_X2_weigh (Nat.le_trans (by decide) hd) (by decide) (Nat.le_refl _) (Nat.le_refl _) wlen rfl (Nat.le_of_ble_eq_true rfl) (fun r_ h_ p26 => ?_)
      obtain ⟨g27, rfl, rfl⟩ := p26
      refine J_aload_n (i := 0) (j := 1) dX10_alone_56 rfl rfl ?_
      refine J_get (C := RX10) (T := TX10) (Z := 10) (ci := 10) (f := 8) dX10_alone_57 inG10 rfl (by decide) k431 wc_0 rfl ?_
      refine J_iload (i := 4) (j := 0) dX10_alone_60 rfl ?_
      refine J_callV (As := [.int v21]) (rest := []) dX10_alone_62 (c_O_meanOf (d := 2) (u := u3) (g := g27) (ex := ex) (counted := v21)  (by decide) h8 h9 h10) hq.n k907 k908 k909 wc_57 rfl rfl k96 k910 np_X2_meanOf (Nat.le_trans (by decide) hd) (by decide) (Nat.le_refl _) (Nat.le_refl _) wlen rfl (Nat.le_of_ble_eq_true rfl) (fun r_ h_ p28 => ?_)
      obtain ⟨l29, rfl, rfl⟩ := p28
      exact J_lret hq dX10_alone_65 rfl wlen (Nat.le_refl _) (Nat.le_refl _) ⟨l29, u3, g27, rfl, rfl, h5, h6, h7, h8, h9, h10, (fun c k_ => (fr11 c (nin_sub (M := [(43, 48), (58, 67)]) k_ rfl))), (fun j k1_ k2_ k3_ => (fc12 j k1_ k2_ k3_)), (fun j k0_ k2_ => (fc13 j k0_ k2_)), (fun j k0_ k1_ k2_ k3_ k4_ => (fc14 j k0_ k1_ k2_ k3_ k4_)), (fun j k0_ k2_ => (fc15 j k0_ k2_))⟩
    · refine J_ldc2 (v := (-1)) dX10_alone_16 k877 ?_
      exact J_lret hq dX10_alone_19 rfl wlen (Nat.le_refl _) (Nat.le_refl _) ⟨((-1) : Int64), u3, g4, rfl, rfl, h5, h6, h7, h8, h9, h10, (fun c k_ => (fr11 c (nin_sub (M := [(43, 48), (58, 67)]) k_ rfl))), (fun j k1_ k2_ k3_ => (fc12 j k1_ k2_ k3_)), (fun j k0_ k2_ => (fc13 j k0_ k2_)), (fun j k0_ k1_ k2_ k3_ k4_ => (fc14 j k0_ k1_ k2_ k3_ k4_)), (fun j k0_ k2_ => (fc15 j k0_ k2_))⟩
set_option maxHeartbeats 4000000 in
set_option maxRecDepth 100000 in
theorem c_P_hear {d : Nat} {u : Nat → Nat → Int32} {g : Nat → Nat → Int64} {ex : List MC} {hill : Int32} {plan : Int32} {pond : Int32} {mm : Int32} (hd : 6 ≤ d) (hp0 : Bd 0 2 (u 1 5)) (hp1 : Bd 0 3 (u 1 7)) (hp2 : Bd 0 9 (u 44 0)) (hp3 : Bd 0 4 (u 44 2)) (hp4 : Bd 0 9 (u 5 0)) (hp5 : Bd 0 4 (u 5 2)) (hp6 : Bd 0 9 (u 10 0)) (hp7 : Bd 0 4 (u 10 2)) (hp8 : Bd 0 12 (u 15 0)) (hp9 : Bd 0 12 (u 19 0)) (hp10 : Bd 0 12 (u 23 0)) (hp11 : Bd 0 12 (u 49 0)) (hp12 : AB u 45 (-1) 999) (hp13 : AB u 6 (-1) 999) (hp14 : AB u 11 (-1) 999) (hp15 : (KM u 15)) (hp16 : (KM u 19)) (hp17 : (KM u 23)) (hp18 : (KM u 49)) (hp19 : Bd 0 9 (u 61 0)) (hp20 : Bd 0 4 (u 61 2)) (hp21 : AB u 66 0 511) (hp22 : Bd 0 9 (u 79 0)) (hp23 : Bd 0 4 (u 79 2)) : CT con0 d 0 0 yX10_hear cX10_hear 7 (some .long) [.ref 0, .int hill, .int plan, .int pond, .int mm] (Wd u g ex) (fun r h2 => ∃ (z : Int64) (u2 : Nat → Nat → Int32) (g2 : Nat → Nat → Int64), r = some (.long z) ∧ h2 = Wd u2 g2 ex ∧ Bd 0 9 (u2 44 0) ∧ Bd 0 4 (u2 44 2) ∧ AB u2 45 (-1) 999 ∧ Bd 0 9 (u2 61 0) ∧ Bd 0 4 (u2 61 2) ∧ AB u2 66 0 511 ∧ Bd 0 9 (u2 79 0) ∧ Bd 0 4 (u2 79 2) ∧ (∀ c, nin c [(43, 48), (58, 67), (79, 83)] = true → u2 c = u c) ∧ (∀ j, j ≠ 1 → j ≠ 2 → j ≠ 3 → u2 43 j = u 43 j) ∧ (∀ j, j ≠ 0 → j ≠ 2 → u2 44 j = u 44 j) ∧ (∀ j, j ≠ 0 → j ≠ 1 → j ≠ 2 → j ≠ 3 → j ≠ 4 → u2 58 j = u 58 j) ∧ (∀ j, j ≠ 0 → j ≠ 2 → u2 61 j = u 61 j) ∧ (∀ j, j ≠ 0 → j ≠ 2 → u2 79 j = u 79 j)) := by
  refine CT_of (by decide) (Nat.le_of_ble_eq_true rfl) (fun x hq => ?_)
  show J x yX10_hear cX10_hear 7 (some .long) d 0 0 (Wd u g ex).length 0 [(0, .ref 0), (1, .int hill), (2, .int plan), (3, .int pond), (4, .int mm)] [] (Wd u g ex) 0 0
  refine J_aload_n (i := 0) (j := 0) dX10_hear_0 rfl rfl ?_
  refine J_iload_n (i := 1) (j := 1) dX10_hear_1 rfl rfl ?_
  refine J_iload_n (i := 2) (j := 2) dX10_hear_2 rfl rfl ?_
  refine J_iload_n (i := 3) (j := 3) dX10_hear_3 rfl rfl ?_
  refine J_callV (As := [.int hill, .int plan, .int pond]) (rest := []) dX10_hear_4 (c_P_hasPond (d := 5) (u := u) (g := g) (ex := ex) (hill := hill) (plan := plan) (pond := pond)  (by decide) hp0 hp1 hp2 hp3 hp4 hp5 hp6 hp7 hp8 hp9 hp10 hp11 hp12 hp13 hp14 hp15 hp16 hp17 hp18) hq.n k1005 k1007 k29 wc_0 rfl rfl k87 k1008 np_X10_hasPond (Nat.le_trans (by decide) hd) (by decide) (Nat.le_refl _) (Nat.le_refl _) wlen rfl (Nat.le_of_ble_eq_true rfl) (fun r_ h_ p1 => ?_)
  obtain ⟨t2, u3, rfl, rfl, h4, h5, h6, h7, fr8, fc9, fc10⟩ := p1
  refine J_ifB_eq (tgt := 22) dX10_hear_7 (by decide) (fun c11 => ?_) (fun c11 => ?_)
  · refine J_ldc2 (v := (-9223372036854775808)) dX10_hear_22 k1028 ?_
    exact J_lret hq dX10_hear_25 rfl wlen (Nat.le_refl _) (Nat.le_refl _) ⟨((-9223372036854775808) : Int64), u3, g, rfl, rfl, h5, h6, h7, (bd_r (congrFun (fr8 61 rfl) 0) hp19), (bd_r (congrFun (fr8 61 rfl) 2) hp20), (ab_c (fr8 66 rfl) hp21), (bd_r (congrFun (fr8 79 rfl) 0) hp22), (bd_r (congrFun (fr8 79 rfl) 2) hp23), (fun c k_ => (fr8 c (nin_sub (M := [(43, 48)]) k_ rfl))), (fun j k1_ k2_ k3_ => (fc9 j k1_ k2_ k3_)), (fun j k0_ k2_ => (fc10 j k0_ k2_)), (fun j k0_ k1_ k2_ k3_ k4_ => (congrFun (fr8 58 rfl) j)), (fun j k0_ k2_ => (congrFun (fr8 61 rfl) j)), (fun j k0_ k2_ => (congrFun (fr8 79 rfl) j))⟩
  · refine J_iload (i := 4) (j := 4) dX10_hear_10 rfl ?_
    refine J_if_lt (tgt := 22) dX10_hear_12 (by decide) (fun c12 => ?_) (fun c12 => ?_)
    · refine J_ldc2 (v := (-9223372036854775808)) dX10_hear_22 k1028 ?_
      exact J_lret hq dX10_hear_25 rfl wlen (Nat.le_refl _) (Nat.le_refl _) ⟨((-9223372036854775808) : Int64), u3, g, rfl, rfl, h5, h6, h7, (bd_r (congrFun (fr8 61 rfl) 0) hp19), (bd_r (congrFun (fr8 61 rfl) 2) hp20), (ab_c (fr8 66 rfl) hp21), (bd_r (congrFun (fr8 79 rfl) 0) hp22), (bd_r (congrFun (fr8 79 rfl) 2) hp23), (fun c k_ => (fr8 c (nin_sub (M := [(43, 48)]) k_ rfl))), (fun j k1_ k2_ k3_ => (fc9 j k1_ k2_ k3_)), (fun j k0_ k2_ => (fc10 j k0_ k2_)), (fun j k0_ k1_ k2_ k3_ k4_ => (congrFun (fr8 58 rfl) j)), (fun j k0_ k2_ => (congrFun (fr8 61 rfl) j)), (fun j k0_ k2_ => (congrFun (fr8 79 rfl) j))⟩
    · refine J_iload (i := 4) (j := 4) dX10_hear_15 rfl ?_
      refine J_bipush (v := 99) dX10_hear_17 (by decide) ?_
      refine J_icmp_le (tgt := 26) dX10_hear_19 (by decide) (fun c13 => ?_) (fun c13 => ?_)
      · refine J_aload_n (i := 0) (j := 0) dX10_hear_26 rfl rfl ?_
        refine J_get (C := RX10) (T := TX10) (Z := 10) (ci := 10) (f := 8) dX10_hear_27 inG10 rfl (by decide) k431 wc_0 rfl ?_
        refine J_aload_n (i := 0) (j := 0) dX10_hear_30 rfl rfl ?_
        refine J_get (C := RX10) (T := TX10) (Z := 10) (ci := 10) (f := 4) dX10_hear_31 inG10 rfl (by decide) k427 wc_0 rfl ?_
        refine J_getN (C := RX4) (T := TX4) (Z := 4) (ci := 4) (f := 0) dX10_hear_34 inG4 rfl (by decide) k295 wc_43 rfl ?_
        refine J_iconst (v := (-1)) dX10_hear_37 (by decide) ?_
        refine J_callV (As := [.ref 44, .int (-1)]) (rest := []) dX10_hear_38 (c_O_wholeMean_44 (d := 4) (u := u3) (g := g) (ex := ex) (keeper := (-1))  (by decide) h5 h6 (ab_c (fr8 66 rfl) hp21)) hq.n k1029 k995 k996 wc_57 rfl rfl k96 k997 np_X2_wholeMean (Nat.le_trans (by decide) hd) (by decide) (Nat.le_refl _) (Nat.le_refl _) wlen rfl (Nat.le_of_ble_eq_true rfl) (fun r_ h_ p14 => ?_)
        obtain ⟨l15, u16, g17, rfl, rfl, h18, h19, h20, fr21, fc22, fc23⟩ := p14
        refine J_lstore (i := 5) (lw := [(5, .long l15), (0, .ref 0), (1, .int hill), (2, .int plan), (3, .int pond), (4, .int mm)]) dX10_hear_41 (by decide) rfl ?_
        refine J_aload_n (i := 0) (j := 1) dX10_hear_43 rfl rfl ?_
        refine J_get (C := RX10) (T := TX10) (Z := 10) (ci := 10) (f := 9) dX10_hear_44 inG10 rfl (by decide) k432 wc_0 rfl ?_
        refine J_aload_n (i := 0) (j := 1) dX10_hear_47 rfl rfl ?_
        refine J_get (C := RX10) (T := TX10) (Z := 10) (ci := 10) (f := 4) dX10_hear_48 inG10 rfl (by decide) k427 wc_0 rfl ?_
        refine J_getN (C := RX4) (T := TX4) (Z := 4) (ci := 4) (f := 0) dX10_hear_51 inG4 rfl (by decide) k295 wc_43 rfl ?_
        refine J_callV (As := [.ref 44]) (rest := []) dX10_hear_54 (c_H_copy (d := 1) (u := u16) (g := g17) (ex := ex)  (t := 79) (f := 44) (by decide) (by decide) (by decide) (Nat.ne_of_beq_eq_false rfl) (bd_r (congrFun (fr21 44 rfl) 0) h5) (bd_r (congrFun (fr21 44 rfl) 2) h6)) hq.n k1030 k681 k682 wc_79 rfl rfl k89 k683 np_X1_copy (Nat.le_trans (by decide) hd) (by decide) (Nat.le_refl _) (Nat.le_refl _) wlen rfl (Nat.le_of_ble_eq_true rfl) (fun r_ h_ p24 => ?_)
        obtain ⟨u25, rfl, rfl, h26, h27, fr28, fc29⟩ := p24
        refine J_aload_n (i := 0) (j := 1) dX10_hear_57 rfl rfl ?_
        refine J_get (C := RX10) (T := TX10) (Z := 10) (ci := 10) (f := 9) dX10_hear_58 inG10 rfl (by decide) k432 wc_0 rfl ?_
        refine J_iload_n (i := 3) (j := 4) dX10_hear_61 rfl rfl ?_
        refine J_bipush (v := 12) dX10_hear_62 (by decide) ?_
        refine J_iload (i := 4) (j := 5) dX10_hear_64 rfl ?_
        refine J_callV (As := [.int pond, .int 12, .int mm]) (rest := []) dX10_hear_66 (c_H_put (d := 0) (u := u25) (g := g17) (ex := ex) (pond := pond) (column := 12) (value := mm) (t := 79) (by decide) (by decide)) hq.n k1031 k650 k651 wc_79 rfl rfl k89 k652 np_X1_put (Nat.le_trans (by decide) hd) (by decide) (Nat.le_refl _) (Nat.le_refl _) wlen rfl (Nat.le_of_ble_eq_true rfl) (fun r_ h_ p30 => ?_)
        obtain ⟨u31, rfl, rfl, fr32⟩ := p30
        refine J_lload (i := 5) (j := 0) dX10_hear_69 rfl ?_
        refine J_aload_n (i := 0) (j := 1) dX10_hear_71 rfl rfl ?_
        refine J_get (C := RX10) (T := TX10) (Z := 10) (ci := 10) (f := 8) dX10_hear_72 inG10 rfl (by decide) k431 wc_0 rfl ?_
        refine J_aload_n (i := 0) (j := 1) dX10_hear_75 rfl rfl ?_
        refine J_get (C := RX10) (T := TX10) (Z := 10) (ci := 10) (f := 9) dX10_hear_76 inG10 rfl (by decide) k432 wc_0 rfl ?_
        refine J_iconst (v := (-1)) dX10_hear_79 (by decide) ?_
        refine J_callV (As := [.ref 79, .int (-1)]) (rest := [.long l15]) dX10_hear_80 (c_O_wholeMean_79 (d := 4) (u := u31) (g := g17) (ex := ex) (keeper := (-1))  (by decide) (bd_r (congrFun (fr32 79 (Nat.ne_of_beq_eq_false rfl)) 0) h26) (bd_r (congrFun (fr32 79 (Nat.ne_of_beq_eq_false rfl)) 2) h27) (ab_c ((fr32 66 (Nat.ne_of_beq_eq_false rfl)).trans (fr28 66 (Nat.ne_of_beq_eq_false rfl) (Nat.ne_of_beq_eq_false rfl) (Nat.ne_of_beq_eq_false rfl) (Nat.ne_of_beq_eq_false rfl) (Nat.ne_of_beq_eq_false rfl))) h20)) hq.n k1029 k995 k996 wc_57 rfl rfl k96 k997 np_X2_wholeMean (Nat.le_trans (by decide) hd) (by decide) (Nat.le_refl _) (Nat.le_refl _) wlen rfl (Nat.le_of_ble_eq_true rfl) (fun r_ h_ p33 => ?_)
        obtain ⟨l34, u35, g36, rfl, rfl, h37, h38, h39, fr40, fc41, fc42⟩ := p33
        refine J_lsub dX10_hear_83 ?_
        refine J_topl (fun l43 _ => ?_)
        exact J_lret hq dX10_hear_84 rfl wlen (Nat.le_refl _) (Nat.le_refl _) ⟨l43, u35, g36, rfl, rfl, (bd_r ((congrFun (fr40 44 rfl) 0).trans ((congrFun (fr32 44 (Nat.ne_of_beq_eq_false rfl)) 0).trans ((congrFun (fr28 44 (Nat.ne_of_beq_eq_false rfl) (Nat.ne_of_beq_eq_false rfl) (Nat.ne_of_beq_eq_false rfl) (Nat.ne_of_beq_eq_false rfl) (Nat.ne_of_beq_eq_false rfl)) 0).trans (congrFun (fr21 44 rfl) 0)))) h5), (bd_r ((congrFun (fr40 44 rfl) 2).trans ((congrFun (fr32 44 (Nat.ne_of_beq_eq_false rfl)) 2).trans ((congrFun (fr28 44 (Nat.ne_of_beq_eq_false rfl) (Nat.ne_of_beq_eq_false rfl) (Nat.ne_of_beq_eq_false rfl) (Nat.ne_of_beq_eq_false rfl) (Nat.ne_of_beq_eq_false rfl)) 2).trans (congrFun (fr21 44 rfl) 2)))) h6), (ab_c ((fr40 45 rfl).trans ((fr32 45 (Nat.ne_of_beq_eq_false rfl)).trans ((fr28 45 (Nat.ne_of_beq_eq_false rfl) (Nat.ne_of_beq_eq_false rfl) (Nat.ne_of_beq_eq_false rfl) (Nat.ne_of_beq_eq_false rfl) (Nat.ne_of_beq_eq_false rfl)).trans (fr21 45 rfl)))) h7), h37, h38, h39, (bd_r ((congrFun (fr40 79 rfl) 0).trans (congrFun (fr32 79 (Nat.ne_of_beq_eq_false rfl)) 0)) h26), (bd_r ((congrFun (fr40 79 rfl) 2).trans (congrFun (fr32 79 (Nat.ne_of_beq_eq_false rfl)) 2)) h27), (fun c k_ => ((fr40 c (nin_sub (M := [(58, 67)]) k_ rfl)).trans ((fr32 c (nin_ne (a := 80) k_ rfl)).trans ((fr28 c (nin_ne (a := 79) k_ rfl) (nin_ne (a := 80) k_ rfl) (nin_ne (a := 81) k_ rfl) (nin_ne (a := 82) k_ rfl) (nin_ne (a := 83) k_ rfl)).trans ((fr21 c (nin_sub (M := [(58, 67)]) k_ rfl)).trans (fr8 c (nin_sub (M := [(43, 48)]) k_ rfl))))))), (fun j k1_ k2_ k3_ => ((congrFun (fr40 43 rfl) j).trans ((congrFun (fr32 43 (Nat.ne_of_beq_eq_false rfl)) j).trans ((congrFun (fr28 43 (Nat.ne_of_beq_eq_false rfl) (Nat.ne_of_beq_eq_false rfl) (Nat.ne_of_beq_eq_false rfl) (Nat.ne_of_beq_eq_false rfl) (Nat.ne_of_beq_eq_false rfl)) j).trans ((congrFun (fr21 43 rfl) j).trans (fc9 j k1_ k2_ k3_)))))), (fun j k0_ k2_ => ((congrFun (fr40 44 rfl) j).trans ((congrFun (fr32 44 (Nat.ne_of_beq_eq_false rfl)) j).trans ((congrFun (fr28 44 (Nat.ne_of_beq_eq_false rfl) (Nat.ne_of_beq_eq_false rfl) (Nat.ne_of_beq_eq_false rfl) (Nat.ne_of_beq_eq_false rfl) (Nat.ne_of_beq_eq_false rfl)) j).trans ((congrFun (fr21 44 rfl) j).trans (fc10 j k0_ k2_)))))), (fun j k0_ k1_ k2_ k3_ k4_ => ((fc41 j k0_ k1_ k2_ k3_ k4_).trans ((congrFun (fr32 58 (Nat.ne_of_beq_eq_false rfl)) j).trans ((congrFun (fr28 58 (Nat.ne_of_beq_eq_false rfl) (Nat.ne_of_beq_eq_false rfl) (Nat.ne_of_beq_eq_false rfl) (Nat.ne_of_beq_eq_false rfl) (Nat.ne_of_beq_eq_false rfl)) j).trans ((fc22 j k0_ k1_ k2_ k3_ k4_).trans (congrFun (fr8 58 rfl) j)))))), (fun j k0_ k2_ => ((fc42 j k0_ k2_).trans ((congrFun (fr32 61 (Nat.ne_of_beq_eq_false rfl)) j).trans ((congrFun (fr28 61 (Nat.ne_of_beq_eq_false rfl) (Nat.ne_of_beq_eq_false rfl) (Nat.ne_of_beq_eq_false rfl) (Nat.ne_of_beq_eq_false rfl) (Nat.ne_of_beq_eq_false rfl)) j).trans ((fc23 j k0_ k2_).trans (congrFun (fr8 61 rfl) j)))))), (fun j k0_ k2_ => ((congrFun (fr40 79 rfl) j).trans ((congrFun (fr32 79 (Nat.ne_of_beq_eq_false rfl)) j).trans ((fc29 j k0_ k2_).trans ((congrFun (fr21 79 rfl) j).trans (congrFun (fr8 79 rfl) j))))))⟩
      · refine J_ldc2 (v := (-9223372036854775808)) dX10_hear_22 k1028 ?_
        exact J_lret hq dX10_hear_25 rfl wlen (Nat.le_refl _) (Nat.le_refl _) ⟨((-9223372036854775808) : Int64), u3, g, rfl, rfl, h5, h6, h7, (bd_r (congrFun (fr8 61 rfl) 0) hp19), (bd_r (congrFun (fr8 61 rfl) 2) hp20), (ab_c (fr8 66 rfl) hp21), (bd_r (congrFun (fr8 79 rfl) 0) hp22), (bd_r (congrFun (fr8 79 rfl) 2) hp23), (fun c k_ => (fr8 c (nin_sub (M := [(43, 48)]) k_ rfl))), (fun j k1_ k2_ k3_ => (fc9 j k1_ k2_ k3_)), (fun j k0_ k2_ => (fc10 j k0_ k2_)), (fun j k0_ k1_ k2_ k3_ k4_ => (congrFun (fr8 58 rfl) j)), (fun j k0_ k2_ => (congrFun (fr8 61 rfl) j)), (fun j k0_ k2_ => (congrFun (fr8 79 rfl) j))⟩
set_option maxHeartbeats 4000000 in
set_option maxRecDepth 100000 in
theorem c_P_may {d : Nat} {u : Nat → Nat → Int32} {g : Nat → Nat → Int64} {ex : List MC} {hill : Int32} {plan : Int32} {ponds : Int32} {first : Int32} (hd : 6 ≤ d) (hp0 : Bd 0 2 (u 1 5)) (hp1 : Bd 0 3 (u 1 7)) (hp2 : Bd 0 9 (u 44 0)) (hp3 : Bd 0 4 (u 44 2)) (hp4 : Bd 0 9 (u 5 0)) (hp5 : Bd 0 4 (u 5 2)) (hp6 : Bd 0 9 (u 10 0)) (hp7 : Bd 0 4 (u 10 2)) (hp8 : Bd 0 12 (u 15 0)) (hp9 : Bd 0 12 (u 19 0)) (hp10 : Bd 0 12 (u 23 0)) (hp11 : Bd 0 12 (u 49 0)) (hp12 : AB u 45 (-1) 999) (hp13 : AB u 6 (-1) 999) (hp14 : AB u 11 (-1) 999) (hp15 : (KM u 15)) (hp16 : (KM u 19)) (hp17 : (KM u 23)) (hp18 : (KM u 49)) (hp19 : Bd 0 9 (u 61 0)) (hp20 : Bd 0 4 (u 61 2)) (hp21 : AB u 66 0 511) (hp22 : Bd 0 9 (u 70 0)) (hp23 : Bd 0 4 (u 70 2)) (hp24 : Bd 0 4 (u 56 5)) (hp25 : AB u 77 0 3) (hp26 : AB u 76 0 3) : CT con0 d 0 0 yX10_may cX10_may 5 (some .long) [.ref 0, .int hill, .int plan, .int ponds, .int first] (Wd u g ex) (fun r h2 => ∃ (z : Int64) (u2 : Nat → Nat → Int32) (g2 : Nat → Nat → Int64), r = some (.long z) ∧ h2 = Wd u2 g2 ex ∧ Bd 0 9 (u2 44 0) ∧ Bd 0 4 (u2 44 2) ∧ AB u2 45 (-1) 999 ∧ Bd 0 9 (u2 61 0) ∧ Bd 0 4 (u2 61 2) ∧ AB u2 66 0 511 ∧ Bd 0 9 (u2 70 0) ∧ Bd 0 4 (u2 70 2) ∧ Bd 0 4 (u2 56 5) ∧ AB u2 77 0 3 ∧ AB u2 76 0 3 ∧ (∀ c, nin c [(43, 48), (56, 56), (58, 67), (70, 77)] = true → u2 c = u c) ∧ (∀ j, j ≠ 1 → j ≠ 2 → j ≠ 3 → u2 43 j = u 43 j) ∧ (∀ j, j ≠ 0 → j ≠ 2 → u2 44 j = u 44 j) ∧ (∀ j, j ≠ 5 → u2 56 j = u 56 j) ∧ (∀ j, j ≠ 0 → j ≠ 1 → j ≠ 2 → j ≠ 3 → j ≠ 4 → u2 58 j = u 58 j) ∧ (∀ j, j ≠ 0 → j ≠ 2 → u2 61 j = u 61 j) ∧ (∀ j, j ≠ 0 → j ≠ 2 → u2 70 j = u 70 j)) := by
  refine CT_of (by decide) (Nat.le_of_ble_eq_true rfl) (fun x hq => ?_)
  show J x yX10_may cX10_may 5 (some .long) d 0 0 (Wd u g ex).length 0 [(0, .ref 0), (1, .int hill), (2, .int plan), (3, .int ponds), (4, .int first)] [] (Wd u g ex) 0 0
  refine J_aload_n (i := 0) (j := 0) dX10_may_0 rfl rfl ?_
  refine J_iload_n (i := 1) (j := 1) dX10_may_1 rfl rfl ?_
  refine J_iload_n (i := 2) (j := 2) dX10_may_2 rfl rfl ?_
  refine J_iload_n (i := 3) (j := 3) dX10_may_3 rfl rfl ?_
  refine J_callV (As := [.int hill, .int plan, .int ponds]) (rest := []) dX10_may_4 (c_P_canFill (d := 5) (u := u) (g := g) (ex := ex) (hill := hill) (plan := plan) (ponds := ponds)  (by decide) hp0 hp1 hp2 hp3 hp4 hp5 hp6 hp7 hp8 hp9 hp10 hp11 hp12 hp13 hp14 hp15 hp16 hp17 hp18) hq.n k1036 k1038 k30 wc_0 rfl rfl k87 k1039 np_X10_canFill (Nat.le_trans (by decide) hd) (by decide) (Nat.le_refl _) (Nat.le_refl _) wlen rfl (Nat.le_of_ble_eq_true rfl) (fun r_ h_ p1 => ?_)
  obtain ⟨t2, u3, rfl, rfl, h4, h5, h6, h7, fr8, fc9, fc10⟩ := p1
  refine J_ifB_ne (tgt := 14) dX10_may_7 (by decide) (fun c11 => ?_) (fun c11 => ?_)
  · refine J_aload_n (i := 0) (j := 0) dX10_may_14 rfl rfl ?_
    refine J_get (C := RX10) (T := TX10) (Z := 10) (ci := 10) (f := 7) dX10_may_15 inG10 rfl (by decide) k430 wc_0 rfl ?_
    refine J_aload_n (i := 0) (j := 0) dX10_may_18 rfl rfl ?_
    refine J_get (C := RX10) (T := TX10) (Z := 10) (ci := 10) (f := 4) dX10_may_19 inG10 rfl (by decide) k427 wc_0 rfl ?_
    refine J_getN (C := RX4) (T := TX4) (Z := 4) (ci := 4) (f := 0) dX10_may_22 inG4 rfl (by decide) k295 wc_43 rfl ?_
    refine J_iload_n (i := 3) (j := 3) dX10_may_25 rfl rfl ?_
    refine J_callV (As := [.ref 44, .int ponds]) (rest := []) dX10_may_26 (c_C_lookAtFilled (d := 5) (u := u3) (g := g) (ex := ex) (ponds := ponds)  (by decide) h5 h6 (bd_r (congrFun (fr8 61 rfl) 0) hp19) (bd_r (congrFun (fr8 61 rfl) 2) hp20) (ab_c (fr8 66 rfl) hp21) (bd_r (congrFun (fr8 70 rfl) 0) hp22) (bd_r (congrFun (fr8 70 rfl) 2) hp23)) hq.n k1040 k1041 k1042 wc_56 rfl rfl k95 k1043 np_X0_lookAtFilled (Nat.le_trans (by decide) hd) (by decide) (Nat.le_refl _) (Nat.le_refl _) wlen rfl (Nat.le_of_ble_eq_true rfl) (fun r_ h_ p12 => ?_)
    obtain ⟨u13, g14, rfl, rfl, h15, h16, h17, h18, h19, h20, fr21, fc22, fc23, fc24, fc25⟩ := p12
    refine J_iload (i := 4) (j := 4) dX10_may_29 rfl ?_
    refine J_if_eq (tgt := 42) dX10_may_31 (by decide) (fun c26 => ?_) (fun c26 => ?_)
    · refine J_aload_n (i := 0) (j := 0) dX10_may_42 rfl rfl ?_
      refine J_get (C := RX10) (T := TX10) (Z := 10) (ci := 10) (f := 7) dX10_may_43 inG10 rfl (by decide) k430 wc_0 rfl ?_
      refine J_callV (As := []) (rest := []) dX10_may_46 (c_C_findOrder (d := 2) (u := u13) (g := g14) (ex := ex)   (by decide) h20 (ab_c ((fr21 77 rfl).trans (fr8 77 rfl)) hp25) (ab_c ((fr21 76 rfl).trans (fr8 76 rfl)) hp26)) hq.n k1053 k1054 k1055 wc_56 rfl rfl k95 k1056 np_X0_findOrder (Nat.le_trans (by decide) hd) (by decide) (Nat.le_refl _) (Nat.le_refl _) wlen rfl (Nat.le_of_ble_eq_true rfl) (fun r_ h_ p27 => ?_)
      obtain ⟨u28, g29, rfl, rfl, h30, h31, fr32⟩ := p27
      refine J_aload_n (i := 0) (j := 0) dX10_may_49 rfl rfl ?_
      refine J_get (C := RX10) (T := TX10) (Z := 10) (ci := 10) (f := 7) dX10_may_50 inG10 rfl (by decide) k430 wc_0 rfl ?_
      refine J_getN (C := RX0) (T := TX0) (Z := 10) (ci := 0) (f := 4) dX10_may_53 inG0 rfl (by decide) k394 wc_56 rfl ?_
      refine J_topl (fun l33 _ => ?_)
      exact J_lret hq dX10_may_56 rfl wlen (Nat.le_refl _) (Nat.le_refl _) ⟨l33, u28, g29, rfl, rfl, (bd_r ((congrFun (fr32 44 (Nat.ne_of_beq_eq_false rfl) (Nat.ne_of_beq_eq_false rfl)) 0).trans (congrFun (fr21 44 rfl) 0)) h5), (bd_r ((congrFun (fr32 44 (Nat.ne_of_beq_eq_false rfl) (Nat.ne_of_beq_eq_false rfl)) 2).trans (congrFun (fr21 44 rfl) 2)) h6), (ab_c ((fr32 45 (Nat.ne_of_beq_eq_false rfl) (Nat.ne_of_beq_eq_false rfl)).trans (fr21 45 rfl)) h7), (bd_r (congrFun (fr32 61 (Nat.ne_of_beq_eq_false rfl) (Nat.ne_of_beq_eq_false rfl)) 0) h15), (bd_r (congrFun (fr32 61 (Nat.ne_of_beq_eq_false rfl) (Nat.ne_of_beq_eq_false rfl)) 2) h16), (ab_c (fr32 66 (Nat.ne_of_beq_eq_false rfl) (Nat.ne_of_beq_eq_false rfl)) h17), (bd_r (congrFun (fr32 70 (Nat.ne_of_beq_eq_false rfl) (Nat.ne_of_beq_eq_false rfl)) 0) h18), (bd_r (congrFun (fr32 70 (Nat.ne_of_beq_eq_false rfl) (Nat.ne_of_beq_eq_false rfl)) 2) h19), (bd_r (congrFun (fr32 56 (Nat.ne_of_beq_eq_false rfl) (Nat.ne_of_beq_eq_false rfl)) 5) h20), h30, h31, (fun c k_ => ((fr32 c (nin_ne (a := 76) k_ rfl) (nin_ne (a := 77) k_ rfl)).trans ((fr21 c (nin_sub (M := [(56, 56), (58, 67), (70, 75)]) k_ rfl)).trans (fr8 c (nin_sub (M := [(43, 48)]) k_ rfl))))), (fun j k1_ k2_ k3_ => ((congrFun (fr32 43 (Nat.ne_of_beq_eq_false rfl) (Nat.ne_of_beq_eq_false rfl)) j).trans ((congrFun (fr21 43 rfl) j).trans (fc9 j k1_ k2_ k3_)))), (fun j k0_ k2_ => ((congrFun (fr32 44 (Nat.ne_of_beq_eq_false rfl) (Nat.ne_of_beq_eq_false rfl)) j).trans ((congrFun (fr21 44 rfl) j).trans (fc10 j k0_ k2_)))), (fun j k5_ => ((congrFun (fr32 56 (Nat.ne_of_beq_eq_false rfl) (Nat.ne_of_beq_eq_false rfl)) j).trans ((fc22 j k5_).trans (congrFun (fr8 56 rfl) j)))), (fun j k0_ k1_ k2_ k3_ k4_ => ((congrFun (fr32 58 (Nat.ne_of_beq_eq_false rfl) (Nat.ne_of_beq_eq_false rfl)) j).trans ((fc23 j k0_ k1_ k2_ k3_ k4_).trans (congrFun (fr8 58 rfl) j)))), (fun j k0_ k2_ => ((congrFun (fr32 61 (Nat.ne_of_beq_eq_false rfl) (Nat.ne_of_beq_eq_false rfl)) j).trans ((fc24 j k0_ k2_).trans (congrFun (fr8 61 rfl) j)))), (fun j k0_ k2_ => ((congrFun (fr32 70 (Nat.ne_of_beq_eq_false rfl) (Nat.ne_of_beq_eq_false rfl)) j).trans ((fc25 j k0_ k2_).trans (congrFun (fr8 70 rfl) j))))⟩
    · refine J_aload_n (i := 0) (j := 0) dX10_may_34 rfl rfl ?_
      refine J_get (C := RX10) (T := TX10) (Z := 10) (ci := 10) (f := 7) dX10_may_35 inG10 rfl (by decide) k430 wc_0 rfl ?_
      refine J_callV (As := []) (rest := []) dX10_may_38 (c_C_downwards (d := 2) (u := u13) (g := g14) (ex := ex)   (by decide) h20 (ab_c ((fr21 77 rfl).trans (fr8 77 rfl)) hp25)) hq.n k1045 k1046 k1047 wc_56 rfl rfl k95 k1048 np_X0_downwards (Nat.le_trans (by decide) hd) (by decide) (Nat.le_refl _) (Nat.le_refl _) wlen rfl (Nat.le_of_ble_eq_true rfl) (fun r_ h_ p34 => ?_)
      obtain ⟨l35, u36, rfl, rfl, h37, fr38⟩ := p34
      exact J_lret hq dX10_may_41 rfl wlen (Nat.le_refl _) (Nat.le_refl _) ⟨l35, u36, g14, rfl, rfl, (bd_r ((congrFun (fr38 44 (Nat.ne_of_beq_eq_false rfl)) 0).trans (congrFun (fr21 44 rfl) 0)) h5), (bd_r ((congrFun (fr38 44 (Nat.ne_of_beq_eq_false rfl)) 2).trans (congrFun (fr21 44 rfl) 2)) h6), (ab_c ((fr38 45 (Nat.ne_of_beq_eq_false rfl)).trans (fr21 45 rfl)) h7), (bd_r (congrFun (fr38 61 (Nat.ne_of_beq_eq_false rfl)) 0) h15), (bd_r (congrFun (fr38 61 (Nat.ne_of_beq_eq_false rfl)) 2) h16), (ab_c (fr38 66 (Nat.ne_of_beq_eq_false rfl)) h17), (bd_r (congrFun (fr38 70 (Nat.ne_of_beq_eq_false rfl)) 0) h18), (bd_r (congrFun (fr38 70 (Nat.ne_of_beq_eq_false rfl)) 2) h19), (bd_r (congrFun (fr38 56 (Nat.ne_of_beq_eq_false rfl)) 5) h20), h37, (ab_c ((fr38 76 (Nat.ne_of_beq_eq_false rfl)).trans ((fr21 76 rfl).trans (fr8 76 rfl))) hp26), (fun c k_ => ((fr38 c (nin_ne (a := 77) k_ rfl)).trans ((fr21 c (nin_sub (M := [(56, 56), (58, 67), (70, 75)]) k_ rfl)).trans (fr8 c (nin_sub (M := [(43, 48)]) k_ rfl))))), (fun j k1_ k2_ k3_ => ((congrFun (fr38 43 (Nat.ne_of_beq_eq_false rfl)) j).trans ((congrFun (fr21 43 rfl) j).trans (fc9 j k1_ k2_ k3_)))), (fun j k0_ k2_ => ((congrFun (fr38 44 (Nat.ne_of_beq_eq_false rfl)) j).trans ((congrFun (fr21 44 rfl) j).trans (fc10 j k0_ k2_)))), (fun j k5_ => ((congrFun (fr38 56 (Nat.ne_of_beq_eq_false rfl)) j).trans ((fc22 j k5_).trans (congrFun (fr8 56 rfl) j)))), (fun j k0_ k1_ k2_ k3_ k4_ => ((congrFun (fr38 58 (Nat.ne_of_beq_eq_false rfl)) j).trans ((fc23 j k0_ k1_ k2_ k3_ k4_).trans (congrFun (fr8 58 rfl) j)))), (fun j k0_ k2_ => ((congrFun (fr38 61 (Nat.ne_of_beq_eq_false rfl)) j).trans ((fc24 j k0_ k2_).trans (congrFun (fr8 61 rfl) j)))), (fun j k0_ k2_ => ((congrFun (fr38 70 (Nat.ne_of_beq_eq_false rfl)) j).trans ((fc25 j k0_ k2_).trans (congrFun (fr8 70 rfl) j))))⟩
  · refine J_ldc2 (v := (-1)) dX10_may_10 k877 ?_
    exact J_lret hq dX10_may_13 rfl wlen (Nat.le_refl _) (Nat.le_refl _) ⟨((-1) : Int64), u3, g, rfl, rfl, h5, h6, h7, (bd_r (congrFun (fr8 61 rfl) 0) hp19), (bd_r (congrFun (fr8 61 rfl) 2) hp20), (ab_c (fr8 66 rfl) hp21), (bd_r (congrFun (fr8 70 rfl) 0) hp22), (bd_r (congrFun (fr8 70 rfl) 2) hp23), (bd_r (congrFun (fr8 56 rfl) 5) hp24), (ab_c (fr8 77 rfl) hp25), (ab_c (fr8 76 rfl) hp26), (fun c k_ => (fr8 c (nin_sub (M := [(43, 48)]) k_ rfl))), (fun j k1_ k2_ k3_ => (fc9 j k1_ k2_ k3_)), (fun j k0_ k2_ => (fc10 j k0_ k2_)), (fun j k5_ => (congrFun (fr8 56 rfl) j)), (fun j k0_ k1_ k2_ k3_ k4_ => (congrFun (fr8 58 rfl) j)), (fun j k0_ k2_ => (congrFun (fr8 61 rfl) j)), (fun j k0_ k2_ => (congrFun (fr8 70 rfl) j))⟩
set_option maxHeartbeats 4000000 in
set_option maxRecDepth 100000 in
theorem c_P_order {d : Nat} {u : Nat → Nat → Int32} {g : Nat → Nat → Int64} {ex : List MC} {hill : Int32} {plan : Int32} {ponds : Int32} {k : Int32} (hd : 6 ≤ d) (hp0 : Bd 0 2 (u 1 5)) (hp1 : Bd 0 3 (u 1 7)) (hp2 : Bd 0 9 (u 44 0)) (hp3 : Bd 0 4 (u 44 2)) (hp4 : Bd 0 9 (u 5 0)) (hp5 : Bd 0 4 (u 5 2)) (hp6 : Bd 0 9 (u 10 0)) (hp7 : Bd 0 4 (u 10 2)) (hp8 : Bd 0 12 (u 15 0)) (hp9 : Bd 0 12 (u 19 0)) (hp10 : Bd 0 12 (u 23 0)) (hp11 : Bd 0 12 (u 49 0)) (hp12 : AB u 45 (-1) 999) (hp13 : AB u 6 (-1) 999) (hp14 : AB u 11 (-1) 999) (hp15 : (KM u 15)) (hp16 : (KM u 19)) (hp17 : (KM u 23)) (hp18 : (KM u 49)) (hp19 : Bd 0 9 (u 61 0)) (hp20 : Bd 0 4 (u 61 2)) (hp21 : AB u 66 0 511) (hp22 : Bd 0 9 (u 70 0)) (hp23 : Bd 0 4 (u 70 2)) (hp24 : Bd 0 4 (u 56 5)) (hp25 : AB u 77 0 3) (hp26 : AB u 76 0 3) : CT con0 d 0 0 yX10_order cX10_order 5 (some .int) [.ref 0, .int hill, .int plan, .int ponds, .int k] (Wd u g ex) (fun r h2 => ∃ (z : Int32) (u2 : Nat → Nat → Int32) (g2 : Nat → Nat → Int64), r = some (.int z) ∧ h2 = Wd u2 g2 ex ∧ Bd 0 9 (u2 44 0) ∧ Bd 0 4 (u2 44 2) ∧ AB u2 45 (-1) 999 ∧ Bd 0 9 (u2 61 0) ∧ Bd 0 4 (u2 61 2) ∧ AB u2 66 0 511 ∧ Bd 0 9 (u2 70 0) ∧ Bd 0 4 (u2 70 2) ∧ Bd 0 4 (u2 56 5) ∧ AB u2 77 0 3 ∧ AB u2 76 0 3 ∧ (∀ c, nin c [(43, 48), (56, 56), (58, 67), (70, 77)] = true → u2 c = u c) ∧ (∀ j, j ≠ 1 → j ≠ 2 → j ≠ 3 → u2 43 j = u 43 j) ∧ (∀ j, j ≠ 0 → j ≠ 2 → u2 44 j = u 44 j) ∧ (∀ j, j ≠ 5 → u2 56 j = u 56 j) ∧ (∀ j, j ≠ 0 → j ≠ 1 → j ≠ 2 → j ≠ 3 → j ≠ 4 → u2 58 j = u 58 j) ∧ (∀ j, j ≠ 0 → j ≠ 2 → u2 61 j = u 61 j) ∧ (∀ j, j ≠ 0 → j ≠ 2 → u2 70 j = u 70 j)) := by
  refine CT_of (by decide) (Nat.le_of_ble_eq_true rfl) (fun x hq => ?_)
  show J x yX10_order cX10_order 5 (some .int) d 0 0 (Wd u g ex).length 0 [(0, .ref 0), (1, .int hill), (2, .int plan), (3, .int ponds), (4, .int k)] [] (Wd u g ex) 0 0
  refine J_aload_n (i := 0) (j := 0) dX10_order_0 rfl rfl ?_
  refine J_iload_n (i := 1) (j := 1) dX10_order_1 rfl rfl ?_
  refine J_iload_n (i := 2) (j := 2) dX10_order_2 rfl rfl ?_
  refine J_iload_n (i := 3) (j := 3) dX10_order_3 rfl rfl ?_
  refine J_callV (As := [.int hill, .int plan, .int ponds]) (rest := []) dX10_order_4 (c_P_canFill (d := 5) (u := u) (g := g) (ex := ex) (hill := hill) (plan := plan) (ponds := ponds)  (by decide) hp0 hp1 hp2 hp3 hp4 hp5 hp6 hp7 hp8 hp9 hp10 hp11 hp12 hp13 hp14 hp15 hp16 hp17 hp18) hq.n k1036 k1038 k30 wc_0 rfl rfl k87 k1039 np_X10_canFill (Nat.le_trans (by decide) hd) (by decide) (Nat.le_refl _) (Nat.le_refl _) wlen rfl (Nat.le_of_ble_eq_true rfl) (fun r_ h_ p1 => ?_)
  obtain ⟨t2, u3, rfl, rfl, h4, h5, h6, h7, fr8, fc9, fc10⟩ := p1
  refine J_ifB_eq (tgt := 24) dX10_order_7 (by decide) (fun c11 => ?_) (fun c11 => ?_)
  · refine J_iconst (v := (-1)) dX10_order_24 (by decide) ?_
    exact J_iret hq dX10_order_25 rfl wlen (Nat.le_refl _) (Nat.le_refl _) ⟨((-1) : Int32), u3, g, rfl, rfl, h5, h6, h7, (bd_r (congrFun (fr8 61 rfl) 0) hp19), (bd_r (congrFun (fr8 61 rfl) 2) hp20), (ab_c (fr8 66 rfl) hp21), (bd_r (congrFun (fr8 70 rfl) 0) hp22), (bd_r (congrFun (fr8 70 rfl) 2) hp23), (bd_r (congrFun (fr8 56 rfl) 5) hp24), (ab_c (fr8 77 rfl) hp25), (ab_c (fr8 76 rfl) hp26), (fun c k_ => (fr8 c (nin_sub (M := [(43, 48)]) k_ rfl))), (fun j k1_ k2_ k3_ => (fc9 j k1_ k2_ k3_)), (fun j k0_ k2_ => (fc10 j k0_ k2_)), (fun j k5_ => (congrFun (fr8 56 rfl) j)), (fun j k0_ k1_ k2_ k3_ k4_ => (congrFun (fr8 58 rfl) j)), (fun j k0_ k2_ => (congrFun (fr8 61 rfl) j)), (fun j k0_ k2_ => (congrFun (fr8 70 rfl) j))⟩
  · refine J_iload (i := 4) (j := 4) dX10_order_10 rfl ?_
    refine J_if_lt (tgt := 24) dX10_order_12 (by decide) (fun c12 => ?_) (fun c12 => ?_)
    · refine J_iconst (v := (-1)) dX10_order_24 (by decide) ?_
      exact J_iret hq dX10_order_25 rfl wlen (Nat.le_refl _) (Nat.le_refl _) ⟨((-1) : Int32), u3, g, rfl, rfl, h5, h6, h7, (bd_r (congrFun (fr8 61 rfl) 0) hp19), (bd_r (congrFun (fr8 61 rfl) 2) hp20), (ab_c (fr8 66 rfl) hp21), (bd_r (congrFun (fr8 70 rfl) 0) hp22), (bd_r (congrFun (fr8 70 rfl) 2) hp23), (bd_r (congrFun (fr8 56 rfl) 5) hp24), (ab_c (fr8 77 rfl) hp25), (ab_c (fr8 76 rfl) hp26), (fun c k_ => (fr8 c (nin_sub (M := [(43, 48)]) k_ rfl))), (fun j k1_ k2_ k3_ => (fc9 j k1_ k2_ k3_)), (fun j k0_ k2_ => (fc10 j k0_ k2_)), (fun j k5_ => (congrFun (fr8 56 rfl) j)), (fun j k0_ k1_ k2_ k3_ k4_ => (congrFun (fr8 58 rfl) j)), (fun j k0_ k2_ => (congrFun (fr8 61 rfl) j)), (fun j k0_ k2_ => (congrFun (fr8 70 rfl) j))⟩
    · refine J_iload (i := 4) (j := 4) dX10_order_15 rfl ?_
      refine J_iload_n (i := 3) (j := 3) dX10_order_17 rfl rfl ?_
      refine J_callS (As := [.int ponds]) (rest := [.int k]) dX10_order_18 (c_bitCount (d := 0) (u := u3) (g := g) (ex := ex) (i := ponds)  (by decide) ) hq.n k928 k929 k105 k930 np_J6_bitCount_0f7a4 (Nat.le_trans (by decide) hd) (by decide) (Nat.le_refl _) (Nat.le_refl _) wlen rfl (Nat.le_of_ble_eq_true rfl) (fun r_ h_ p13 => ?_)
      obtain ⟨v14, rfl, rfl, h15⟩ := p13
      refine J_icmp_lt (tgt := 26) dX10_order_21 (by decide) (fun c16 => ?_) (fun c16 => ?_)
      · refine J_aload_n (i := 0) (j := 0) dX10_order_26 rfl rfl ?_
        refine J_get (C := RX10) (T := TX10) (Z := 10) (ci := 10) (f := 7) dX10_order_27 inG10 rfl (by decide) k430 wc_0 rfl ?_
        refine J_aload_n (i := 0) (j := 0) dX10_order_30 rfl rfl ?_
        refine J_get (C := RX10) (T := TX10) (Z := 10) (ci := 10) (f := 4) dX10_order_31 inG10 rfl (by decide) k427 wc_0 rfl ?_
        refine J_getN (C := RX4) (T := TX4) (Z := 4) (ci := 4) (f := 0) dX10_order_34 inG4 rfl (by decide) k295 wc_43 rfl ?_
        refine J_iload_n (i := 3) (j := 3) dX10_order_37 rfl rfl ?_
        refine J_callV (As := [.ref 44, .int ponds]) (rest := []) dX10_order_38 (c_C_lookAtFilled (d := 5) (u := u3) (g := g) (ex := ex) (ponds := ponds)  (by decide) h5 h6 (bd_r (congrFun (fr8 61 rfl) 0) hp19) (bd_r (congrFun (fr8 61 rfl) 2) hp20) (ab_c (fr8 66 rfl) hp21) (bd_r (congrFun (fr8 70 rfl) 0) hp22) (bd_r (congrFun (fr8 70 rfl) 2) hp23)) hq.n k1040 k1041 k1042 wc_56 rfl rfl k95 k1043 np_X0_lookAtFilled (Nat.le_trans (by decide) hd) (by decide) (Nat.le_refl _) (Nat.le_refl _) wlen rfl (Nat.le_of_ble_eq_true rfl) (fun r_ h_ p17 => ?_)
        obtain ⟨u18, g19, rfl, rfl, h20, h21, h22, h23, h24, h25, fr26, fc27, fc28, fc29, fc30⟩ := p17
        refine J_aload_n (i := 0) (j := 0) dX10_order_41 rfl rfl ?_
        refine J_get (C := RX10) (T := TX10) (Z := 10) (ci := 10) (f := 7) dX10_order_42 inG10 rfl (by decide) k430 wc_0 rfl ?_
        refine J_callV (As := []) (rest := []) dX10_order_45 (c_C_findOrder (d := 2) (u := u18) (g := g19) (ex := ex)   (by decide) h25 (ab_c ((fr26 77 rfl).trans (fr8 77 rfl)) hp25) (ab_c ((fr26 76 rfl).trans (fr8 76 rfl)) hp26)) hq.n k1053 k1054 k1055 wc_56 rfl rfl k95 k1056 np_X0_findOrder (Nat.le_trans (by decide) hd) (by decide) (Nat.le_refl _) (Nat.le_refl _) wlen rfl (Nat.le_of_ble_eq_true rfl) (fun r_ h_ p31 => ?_)
        obtain ⟨u32, g33, rfl, rfl, h34, h35, fr36⟩ := p31
        refine J_aload_n (i := 0) (j := 0) dX10_order_48 rfl rfl ?_
        refine J_get (C := RX10) (T := TX10) (Z := 10) (ci := 10) (f := 7) dX10_order_49 inG10 rfl (by decide) k430 wc_0 rfl ?_
        refine J_iload (i := 4) (j := 4) dX10_order_52 rfl ?_
        refine J_callV (As := [.int k]) (rest := []) dX10_order_54 (c_C_filledAt (d := 0) (u := u32) (g := g33) (ex := ex) (k := k)  (by decide) (bd_r (congrFun (fr36 56 (Nat.ne_of_beq_eq_false rfl) (Nat.ne_of_beq_eq_false rfl)) 5) h25) h35) hq.n k1066 k1067 k1068 wc_56 rfl rfl k95 k1069 np_X0_filledAt (Nat.le_trans (by decide) hd) (by decide) (Nat.le_refl _) (Nat.le_refl _) wlen rfl (Nat.le_of_ble_eq_true rfl) (fun r_ h_ p37 => ?_)
        obtain ⟨v38, rfl, rfl⟩ := p37
        exact J_iret hq dX10_order_57 rfl wlen (Nat.le_refl _) (Nat.le_refl _) ⟨v38, u32, g33, rfl, rfl, (bd_r ((congrFun (fr36 44 (Nat.ne_of_beq_eq_false rfl) (Nat.ne_of_beq_eq_false rfl)) 0).trans (congrFun (fr26 44 rfl) 0)) h5), (bd_r ((congrFun (fr36 44 (Nat.ne_of_beq_eq_false rfl) (Nat.ne_of_beq_eq_false rfl)) 2).trans (congrFun (fr26 44 rfl) 2)) h6), (ab_c ((fr36 45 (Nat.ne_of_beq_eq_false rfl) (Nat.ne_of_beq_eq_false rfl)).trans (fr26 45 rfl)) h7), (bd_r (congrFun (fr36 61 (Nat.ne_of_beq_eq_false rfl) (Nat.ne_of_beq_eq_false rfl)) 0) h20), (bd_r (congrFun (fr36 61 (Nat.ne_of_beq_eq_false rfl) (Nat.ne_of_beq_eq_false rfl)) 2) h21), (ab_c (fr36 66 (Nat.ne_of_beq_eq_false rfl) (Nat.ne_of_beq_eq_false rfl)) h22), (bd_r (congrFun (fr36 70 (Nat.ne_of_beq_eq_false rfl) (Nat.ne_of_beq_eq_false rfl)) 0) h23), (bd_r (congrFun (fr36 70 (Nat.ne_of_beq_eq_false rfl) (Nat.ne_of_beq_eq_false rfl)) 2) h24), (bd_r (congrFun (fr36 56 (Nat.ne_of_beq_eq_false rfl) (Nat.ne_of_beq_eq_false rfl)) 5) h25), h34, h35, (fun c k_ => ((fr36 c (nin_ne (a := 76) k_ rfl) (nin_ne (a := 77) k_ rfl)).trans ((fr26 c (nin_sub (M := [(56, 56), (58, 67), (70, 75)]) k_ rfl)).trans (fr8 c (nin_sub (M := [(43, 48)]) k_ rfl))))), (fun j k1_ k2_ k3_ => ((congrFun (fr36 43 (Nat.ne_of_beq_eq_false rfl) (Nat.ne_of_beq_eq_false rfl)) j).trans ((congrFun (fr26 43 rfl) j).trans (fc9 j k1_ k2_ k3_)))), (fun j k0_ k2_ => ((congrFun (fr36 44 (Nat.ne_of_beq_eq_false rfl) (Nat.ne_of_beq_eq_false rfl)) j).trans ((congrFun (fr26 44 rfl) j).trans (fc10 j k0_ k2_)))), (fun j k5_ => ((congrFun (fr36 56 (Nat.ne_of_beq_eq_false rfl) (Nat.ne_of_beq_eq_false rfl)) j).trans ((fc27 j k5_).trans (congrFun (fr8 56 rfl) j)))), (fun j k0_ k1_ k2_ k3_ k4_ => ((congrFun (fr36 58 (Nat.ne_of_beq_eq_false rfl) (Nat.ne_of_beq_eq_false rfl)) j).trans ((fc28 j k0_ k1_ k2_ k3_ k4_).trans (congrFun (fr8 58 rfl) j)))), (fun j k0_ k2_ => ((congrFun (fr36 61 (Nat.ne_of_beq_eq_false rfl) (Nat.ne_of_beq_eq_false rfl)) j).trans ((fc29 j k0_ k2_).trans (congrFun (fr8 61 rfl) j)))), (fun j k0_ k2_ => ((congrFun (fr36 70 (Nat.ne_of_beq_eq_false rfl) (Nat.ne_of_beq_eq_false rfl)) j).trans ((fc30 j k0_ k2_).trans (congrFun (fr8 70 rfl) j))))⟩
      · refine J_iconst (v := (-1)) dX10_order_24 (by decide) ?_
        exact J_iret hq dX10_order_25 rfl wlen (Nat.le_refl _) (Nat.le_refl _) ⟨((-1) : Int32), u3, g, rfl, rfl, h5, h6, h7, (bd_r (congrFun (fr8 61 rfl) 0) hp19), (bd_r (congrFun (fr8 61 rfl) 2) hp20), (ab_c (fr8 66 rfl) hp21), (bd_r (congrFun (fr8 70 rfl) 0) hp22), (bd_r (congrFun (fr8 70 rfl) 2) hp23), (bd_r (congrFun (fr8 56 rfl) 5) hp24), (ab_c (fr8 77 rfl) hp25), (ab_c (fr8 76 rfl) hp26), (fun c k_ => (fr8 c (nin_sub (M := [(43, 48)]) k_ rfl))), (fun j k1_ k2_ k3_ => (fc9 j k1_ k2_ k3_)), (fun j k0_ k2_ => (fc10 j k0_ k2_)), (fun j k5_ => (congrFun (fr8 56 rfl) j)), (fun j k0_ k1_ k2_ k3_ k4_ => (congrFun (fr8 58 rfl) j)), (fun j k0_ k2_ => (congrFun (fr8 61 rfl) j)), (fun j k0_ k2_ => (congrFun (fr8 70 rfl) j))⟩
set_option maxHeartbeats 4000000 in
set_option maxRecDepth 100000 in
theorem c_P_think {d : Nat} {u : Nat → Nat → Int32} {g : Nat → Nat → Int64} {ex : List MC} {hill : Int32} {plan : Int32} {pond : Int32} {under : Int32} (hd : 6 ≤ d) (hp0 : Bd 0 2 (u 1 5)) (hp1 : Bd 0 3 (u 1 7)) (hp2 : Bd 0 9 (u 44 0)) (hp3 : Bd 0 4 (u 44 2)) (hp4 : Bd 0 9 (u 5 0)) (hp5 : Bd 0 4 (u 5 2)) (hp6 : Bd 0 9 (u 10 0)) (hp7 : Bd 0 4 (u 10 2)) (hp8 : Bd 0 12 (u 15 0)) (hp9 : Bd 0 12 (u 19 0)) (hp10 : Bd 0 12 (u 23 0)) (hp11 : Bd 0 12 (u 49 0)) (hp12 : AB u 45 (-1) 999) (hp13 : AB u 6 (-1) 999) (hp14 : AB u 11 (-1) 999) (hp15 : (KM u 15)) (hp16 : (KM u 19)) (hp17 : (KM u 23)) (hp18 : (KM u 49)) : CT con0 d 0 0 yX10_think cX10_think 7 (some .int) [.ref 0, .int hill, .int plan, .int pond, .int under] (Wd u g ex) (fun r h2 => ∃ (z : Int32) (u2 : Nat → Nat → Int32), r = some (.int z) ∧ h2 = Wd u2 g ex ∧ Bd 0 9 (u2 44 0) ∧ Bd 0 4 (u2 44 2) ∧ AB u2 45 (-1) 999 ∧ (∀ c, nin c [(43, 48)] = true → u2 c = u c) ∧ (∀ j, j ≠ 1 → j ≠ 2 → j ≠ 3 → u2 43 j = u 43 j) ∧ (∀ j, j ≠ 0 → j ≠ 2 → u2 44 j = u 44 j)) := by
  refine CT_of (by decide) (Nat.le_of_ble_eq_true rfl) (fun x hq => ?_)
  show J x yX10_think cX10_think 7 (some .int) d 0 0 (Wd u g ex).length 0 [(0, .ref 0), (1, .int hill), (2, .int plan), (3, .int pond), (4, .int under)] [] (Wd u g ex) 0 0
  refine J_aload_n (i := 0) (j := 0) dX10_think_0 rfl rfl ?_
  refine J_iload_n (i := 1) (j := 1) dX10_think_1 rfl rfl ?_
  refine J_iload_n (i := 2) (j := 2) dX10_think_2 rfl rfl ?_
  refine J_iload_n (i := 3) (j := 3) dX10_think_3 rfl rfl ?_
  refine J_callV (As := [.int hill, .int plan, .int pond]) (rest := []) dX10_think_4 (c_P_hasPond (d := 5) (u := u) (g := g) (ex := ex) (hill := hill) (plan := plan) (pond := pond)  (by decide) hp0 hp1 hp2 hp3 hp4 hp5 hp6 hp7 hp8 hp9 hp10 hp11 hp12 hp13 hp14 hp15 hp16 hp17 hp18) hq.n k1005 k1007 k29 wc_0 rfl rfl k87 k1008 np_X10_hasPond (Nat.le_trans (by decide) hd) (by decide) (Nat.le_refl _) (Nat.le_refl _) wlen rfl (Nat.le_of_ble_eq_true rfl) (fun r_ h_ p1 => ?_)
  obtain ⟨t2, u3, rfl, rfl, h4, h5, h6, h7, fr8, fc9, fc10⟩ := p1
  refine J_ifB_ne (tgt := 12) dX10_think_7 (by decide) (fun c11 => ?_) (fun c11 => ?_)
  · refine J_aload_n (i := 0) (j := 0) dX10_think_12 rfl rfl ?_
    refine J_get (C := RX10) (T := TX10) (Z := 10) (ci := 10) (f := 4) dX10_think_13 inG10 rfl (by decide) k427 wc_0 rfl ?_
    refine J_getN (C := RX4) (T := TX4) (Z := 4) (ci := 4) (f := 0) dX10_think_16 inG4 rfl (by decide) k295 wc_43 rfl ?_
    refine J_iload_n (i := 3) (j := 3) dX10_think_19 rfl rfl ?_
    refine J_callV (As := [.int pond]) (rest := []) dX10_think_20 (c_H_seenAndGoes (d := 1) (u := u3) (g := g) (ex := ex) (pond := pond) (t := 44) (by decide) (by decide)) hq.n k1074 k1075 k1076 wc_44 rfl rfl k89 k1077 np_X1_seenAndGoes (Nat.le_trans (by decide) hd) (by decide) (Nat.le_refl _) (Nat.le_refl _) wlen rfl (Nat.le_of_ble_eq_true rfl) (fun r_ h_ p12 => ?_)
    obtain ⟨v13, rfl, rfl⟩ := p12
    refine J_istore (i := 5) (lw := [(5, .int v13), (0, .ref 0), (1, .int hill), (2, .int plan), (3, .int pond), (4, .int under)]) dX10_think_23 (by decide) rfl ?_
    refine J_aload_n (i := 0) (j := 1) dX10_think_25 rfl rfl ?_
    refine J_get (C := RX10) (T := TX10) (Z := 10) (ci := 10) (f := 4) dX10_think_26 inG10 rfl (by decide) k427 wc_0 rfl ?_
    refine J_getN (C := RX4) (T := TX4) (Z := 4) (ci := 4) (f := 0) dX10_think_29 inG4 rfl (by decide) k295 wc_43 rfl ?_
    refine J_iload_n (i := 3) (j := 4) dX10_think_32 rfl rfl ?_
    refine J_callV (As := [.int pond]) (rest := []) dX10_think_33 (c_H_seen (d := 2) (u := u3) (g := g) (ex := ex) (pond := pond) (t := 44) (by decide) (by decide)) hq.n k1078 k1079 k1080 wc_44 rfl rfl k89 k1081 np_X1_seen (Nat.le_trans (by decide) hd) (by decide) (Nat.le_refl _) (Nat.le_refl _) wlen rfl (Nat.le_of_ble_eq_true rfl) (fun r_ h_ p14 => ?_)
    obtain ⟨v15, rfl, rfl⟩ := p14
    refine J_istore (i := 6) (lw := [(6, .int v15), (5, .int v13), (0, .ref 0), (1, .int hill), (2, .int plan), (3, .int pond), (4, .int under)]) dX10_think_36 (by decide) rfl ?_
    refine J_iload (i := 5) (j := 1) dX10_think_38 rfl ?_
    refine J_i2l dX10_think_40 rfl ?_
    refine J_topl (fun l16 _ => ?_)
    refine J_iload (i := 6) (j := 0) dX10_think_41 rfl ?_
    refine J_i2l dX10_think_43 rfl ?_
    refine J_topl (fun l17 _ => ?_)
    refine J_iload (i := 4) (j := 6) dX10_think_44 rfl ?_
    refine J_callS (As := [.long l16, .long l17, .int under]) (rest := []) dX10_think_46 (c_P_inLeastTerms (d := 2) (u := u3) (g := g) (ex := ex) (above := l16) (below := l17) (under := under)  (by decide) ) hq.n k1083 k1084 k87 k1085 np_X10_inLeastTerms (Nat.le_trans (by decide) hd) (by decide) (Nat.le_refl _) (Nat.le_refl _) wlen rfl (Nat.le_of_ble_eq_true rfl) (fun r_ h_ p18 => ?_)
    obtain ⟨l19, rfl, rfl⟩ := p18
    refine J_l2i dX10_think_49 rfl ?_
    refine J_topi (fun v20 _ => ?_)
    exact J_iret hq dX10_think_50 rfl wlen (Nat.le_refl _) (Nat.le_refl _) ⟨v20, u3, rfl, rfl, h5, h6, h7, (fun c k_ => (fr8 c (nin_sub (M := [(43, 48)]) k_ rfl))), (fun j k1_ k2_ k3_ => (fc9 j k1_ k2_ k3_)), (fun j k0_ k2_ => (fc10 j k0_ k2_))⟩
  · refine J_iconst (v := (-1)) dX10_think_10 (by decide) ?_
    exact J_iret hq dX10_think_11 rfl wlen (Nat.le_refl _) (Nat.le_refl _) ⟨((-1) : Int32), u3, rfl, rfl, h5, h6, h7, (fun c k_ => (fr8 c (nin_sub (M := [(43, 48)]) k_ rfl))), (fun j k1_ k2_ k3_ => (fc9 j k1_ k2_ k3_)), (fun j k0_ k2_ => (fc10 j k0_ k2_))⟩
set_option maxHeartbeats 4000000 in
set_option maxRecDepth 100000 in
theorem c_P_now {d : Nat} {u : Nat → Nat → Int32} {g : Nat → Nat → Int64} {ex : List MC} {hill : Int32} {plan : Int32} (hd : 5 ≤ d) (hp0 : Bd 0 2 (u 1 5)) (hp1 : Bd 0 3 (u 1 7)) (hp2 : Bd 0 9 (u 44 0)) (hp3 : Bd 0 4 (u 44 2)) (hp4 : Bd 0 9 (u 5 0)) (hp5 : Bd 0 4 (u 5 2)) (hp6 : Bd 0 9 (u 10 0)) (hp7 : Bd 0 4 (u 10 2)) (hp8 : Bd 0 12 (u 15 0)) (hp9 : Bd 0 12 (u 19 0)) (hp10 : Bd 0 12 (u 23 0)) (hp11 : Bd 0 12 (u 49 0)) (hp12 : AB u 45 (-1) 999) (hp13 : AB u 6 (-1) 999) (hp14 : AB u 11 (-1) 999) (hp15 : (KM u 15)) (hp16 : (KM u 19)) (hp17 : (KM u 23)) (hp18 : (KM u 49)) : CT con0 d 0 0 yX10_now cX10_now 3 (some .int) [.ref 0, .int hill, .int plan] (Wd u g ex) (fun r h2 => ∃ (z : Int32) (u2 : Nat → Nat → Int32), r = some (.int z) ∧ h2 = Wd u2 g ex ∧ Bd 0 9 (u2 44 0) ∧ Bd 0 4 (u2 44 2) ∧ AB u2 45 (-1) 999 ∧ (∀ c, nin c [(43, 48)] = true → u2 c = u c) ∧ (∀ j, j ≠ 1 → j ≠ 2 → j ≠ 3 → u2 43 j = u 43 j) ∧ (∀ j, j ≠ 0 → j ≠ 2 → u2 44 j = u 44 j)) := by
  refine CT_of (by decide) (Nat.le_of_ble_eq_true rfl) (fun x hq => ?_)
  show J x yX10_now cX10_now 3 (some .int) d 0 0 (Wd u g ex).length 0 [(0, .ref 0), (1, .int hill), (2, .int plan)] [] (Wd u g ex) 0 0
  refine J_aload_n (i := 0) (j := 0) dX10_now_0 rfl rfl ?_
  refine J_iload_n (i := 1) (j := 1) dX10_now_1 rfl rfl ?_
  refine J_iload_n (i := 2) (j := 2) dX10_now_2 rfl rfl ?_
  refine J_callV (As := [.int hill, .int plan]) (rest := []) dX10_now_3 (c_P_lays (d := 4) (u := u) (g := g) (ex := ex) (hill := hill) (plan := plan)  (by decide) hp0 hp1 hp2 hp3 hp4 hp5 hp6 hp7 hp8 hp9 hp10 hp11 hp12 hp13 hp14 hp15 hp16 hp17 hp18) hq.n k723 k725 k12 wc_0 rfl rfl k87 k726 np_X10_lays (Nat.le_trans (by decide) hd) (by decide) (Nat.le_refl _) (Nat.le_refl _) wlen rfl (Nat.le_of_ble_eq_true rfl) (fun r_ h_ p1 => ?_)
  obtain ⟨t2, u3, rfl, rfl, h4, h5, h6, fr7, fc8, fc9⟩ := p1
  refine J_ifB_eq (tgt := 26) dX10_now_6 (by decide) (fun c10 => ?_) (fun c10 => ?_)
  · refine J_iconst (v := (-1)) dX10_now_26 (by decide) ?_
    exact J_iret hq dX10_now_27 rfl wlen (Nat.le_refl _) (Nat.le_refl _) ⟨((-1) : Int32), u3, rfl, rfl, h4, h5, h6, (fun c k_ => (fr7 c (nin_sub (M := [(43, 48)]) k_ rfl))), (fun j k1_ k2_ k3_ => (fc8 j k1_ k2_ k3_)), (fun j k0_ k2_ => (fc9 j k0_ k2_))⟩
  · refine J_aload_n (i := 0) (j := 0) dX10_now_9 rfl rfl ?_
    refine J_get (C := RX10) (T := TX10) (Z := 10) (ci := 10) (f := 7) dX10_now_10 inG10 rfl (by decide) k430 wc_0 rfl ?_
    refine J_aload_n (i := 0) (j := 0) dX10_now_13 rfl rfl ?_
    refine J_get (C := RX10) (T := TX10) (Z := 10) (ci := 10) (f := 4) dX10_now_14 inG10 rfl (by decide) k427 wc_0 rfl ?_
    refine J_getN (C := RX4) (T := TX4) (Z := 4) (ci := 4) (f := 0) dX10_now_17 inG4 rfl (by decide) k295 wc_43 rfl ?_
    refine J_callV (As := [.ref 44]) (rest := []) dX10_now_20 (c_C_mostUrgent (d := 3) (u := u3) (g := g) (ex := ex)   (by decide) h4 h5) hq.n k1094 k1095 k1096 wc_56 rfl rfl k95 k1097 np_X0_mostUrgent (Nat.le_trans (by decide) hd) (by decide) (Nat.le_refl _) (Nat.le_refl _) wlen rfl (Nat.le_of_ble_eq_true rfl) (fun r_ h_ p11 => ?_)
    obtain ⟨v12, rfl, rfl⟩ := p11
    refine J_goto (tgt := 27) dX10_now_23 (by decide) ?_
    exact J_iret hq dX10_now_27 rfl wlen (Nat.le_refl _) (Nat.le_refl _) ⟨v12, u3, rfl, rfl, h4, h5, h6, (fun c k_ => (fr7 c (nin_sub (M := [(43, 48)]) k_ rfl))), (fun j k1_ k2_ k3_ => (fc8 j k1_ k2_ k3_)), (fun j k0_ k2_ => (fc9 j k0_ k2_))⟩
set_option maxHeartbeats 4000000 in
set_option maxRecDepth 100000 in
theorem c_P_spared {d : Nat} {u : Nat → Nat → Int32} {g : Nat → Nat → Int64} {ex : List MC} {hill : Int32} {plan : Int32} {rain : Int32} (hd : 5 ≤ d) (hp0 : Bd 0 2 (u 1 5)) (hp1 : Bd 0 3 (u 1 7)) (hp2 : Bd 0 9 (u 44 0)) (hp3 : Bd 0 4 (u 44 2)) (hp4 : Bd 0 9 (u 5 0)) (hp5 : Bd 0 4 (u 5 2)) (hp6 : Bd 0 9 (u 10 0)) (hp7 : Bd 0 4 (u 10 2)) (hp8 : Bd 0 12 (u 15 0)) (hp9 : Bd 0 12 (u 19 0)) (hp10 : Bd 0 12 (u 23 0)) (hp11 : Bd 0 12 (u 49 0)) (hp12 : AB u 45 (-1) 999) (hp13 : AB u 6 (-1) 999) (hp14 : AB u 11 (-1) 999) (hp15 : (KM u 15)) (hp16 : (KM u 19)) (hp17 : (KM u 23)) (hp18 : (KM u 49)) (hp19 : Bd 0 9 (u 53 0)) (hp20 : Bd 0 511 (u 53 1)) : CT con0 d 0 0 yX10_spared cX10_spared 6 (some .int) [.ref 0, .int hill, .int plan, .int rain] (Wd u g ex) (fun r h2 => ∃ (z : Int32) (u2 : Nat → Nat → Int32), r = some (.int z) ∧ h2 = Wd u2 g ex ∧ Bd 0 9 (u2 44 0) ∧ Bd 0 4 (u2 44 2) ∧ AB u2 45 (-1) 999 ∧ Bd 0 9 (u2 53 0) ∧ Bd 0 511 (u2 53 1) ∧ (∀ c, nin c [(43, 48), (53, 55)] = true → u2 c = u c) ∧ (∀ j, j ≠ 1 → j ≠ 2 → j ≠ 3 → u2 43 j = u 43 j) ∧ (∀ j, j ≠ 0 → j ≠ 2 → u2 44 j = u 44 j) ∧ (∀ j, j ≠ 0 → j ≠ 1 → j ≠ 2 → j ≠ 3 → j ≠ 4 → u2 53 j = u 53 j)) := by
  refine CT_of (by decide) (Nat.le_of_ble_eq_true rfl) (fun x hq => ?_)
  show J x yX10_spared cX10_spared 6 (some .int) d 0 0 (Wd u g ex).length 0 [(0, .ref 0), (1, .int hill), (2, .int plan), (3, .int rain)] [] (Wd u g ex) 0 0
  refine J_aload_n (i := 0) (j := 0) dX10_spared_0 rfl rfl ?_
  refine J_iload_n (i := 1) (j := 1) dX10_spared_1 rfl rfl ?_
  refine J_iload_n (i := 2) (j := 2) dX10_spared_2 rfl rfl ?_
  refine J_callV (As := [.int hill, .int plan]) (rest := []) dX10_spared_3 (c_P_lays (d := 4) (u := u) (g := g) (ex := ex) (hill := hill) (plan := plan)  (by decide) hp0 hp1 hp2 hp3 hp4 hp5 hp6 hp7 hp8 hp9 hp10 hp11 hp12 hp13 hp14 hp15 hp16 hp17 hp18) hq.n k723 k725 k12 wc_0 rfl rfl k87 k726 np_X10_lays (Nat.le_trans (by decide) hd) (by decide) (Nat.le_refl _) (Nat.le_refl _) wlen rfl (Nat.le_of_ble_eq_true rfl) (fun r_ h_ p1 => ?_)
  obtain ⟨t2, u3, rfl, rfl, h4, h5, h6, fr7, fc8, fc9⟩ := p1
  refine J_ifB_eq (tgt := 23) dX10_spared_6 (by decide) (fun c10 => ?_) (fun c10 => ?_)
  · refine J_iconst (v := (-1)) dX10_spared_23 (by decide) ?_
    exact J_iret hq dX10_spared_24 rfl wlen (Nat.le_refl _) (Nat.le_refl _) ⟨((-1) : Int32), u3, rfl, rfl, h4, h5, h6, (bd_r (congrFun (fr7 53 rfl) 0) hp19), (bd_r (congrFun (fr7 53 rfl) 1) hp20), (fun c k_ => (fr7 c (nin_sub (M := [(43, 48)]) k_ rfl))), (fun j k1_ k2_ k3_ => (fc8 j k1_ k2_ k3_)), (fun j k0_ k2_ => (fc9 j k0_ k2_)), (fun j k0_ k1_ k2_ k3_ k4_ => (congrFun (fr7 53 rfl) j))⟩
  · refine J_aload_n (i := 0) (j := 0) dX10_spared_9 rfl rfl ?_
    refine J_get (C := RX10) (T := TX10) (Z := 10) (ci := 10) (f := 4) dX10_spared_10 inG10 rfl (by decide) k427 wc_0 rfl ?_
    refine J_getN (C := RX4) (T := TX4) (Z := 4) (ci := 4) (f := 0) dX10_spared_13 inG4 rfl (by decide) k295 wc_43 rfl ?_
    refine J_iload_n (i := 3) (j := 3) dX10_spared_16 rfl rfl ?_
    refine J_callV (As := [.int rain]) (rest := []) dX10_spared_17 (c_H_hasRain (d := 0) (u := u3) (g := g) (ex := ex) (rain := rain) (t := 44) (by decide) (by decide) h4 h5) hq.n k926 k712 k713 wc_44 rfl rfl k89 k714 np_X1_hasRain (Nat.le_trans (by decide) hd) (by decide) (Nat.le_refl _) (Nat.le_refl _) wlen rfl (Nat.le_of_ble_eq_true rfl) (fun r_ h_ p11 => ?_)
    obtain ⟨t12, rfl, rfl, h13⟩ := p11
    refine J_ifB_ne (tgt := 25) dX10_spared_20 (by decide) (fun c14 => ?_) (fun c14 => ?_)
    · refine J_iconst (v := 0) dX10_spared_25 (by decide) ?_
      refine J_istore (i := 4) (lw := [(4, .int 0), (0, .ref 0), (1, .int hill), (2, .int plan), (3, .int rain)]) dX10_spared_26 (by decide) rfl ?_
      refine J_iconst (v := 0) dX10_spared_28 (by decide) ?_
      refine J_istore (i := 5) (lw := [(5, .int 0), (4, .int 0), (0, .ref 0), (1, .int hill), (2, .int plan), (3, .int rain)]) dX10_spared_29 (by decide) rfl ?_
      have lp371 : ∀ (n372 : Nat) (w338 : Int32) (w339 : Int32) (u340 : Nat → Nat → Int32), Bd 0 512 w339 → (∀ c, nin c [(53, 55)] = true → u340 c = u3 c) → (∀ j, j ≠ 0 → j ≠ 1 → j ≠ 2 → j ≠ 3 → j ≠ 4 → u340 53 j = u3 53 j) → Bd 0 9 (u340 53 0) → Bd 0 511 (u340 53 1) → (512 - w339.toInt).toNat < n372 → J x yX10_spared cX10_spared 6 (some .int) d 0 0 (Wd u g ex).length 31 [(0, .ref 0), (3, .int rain), (4, .int w338), (5, .int w339)] [] (Wd u340 g ex) 0 0 := by
        intro n372
        induction n372 with
        | zero => intro w338 w339 u340 bw339 fr341 fc342 bm343 bm344 hm374; exact absurd hm374 (Nat.not_lt_zero _)
        | succ n372 ih373 =>
          intro w338 w339 u340 bw339 fr341 fc342 bm343 bm344 hm374
          refine J_iload (i := 5) (j := 3) dX10_spared_31 rfl ?_
          refine J_aload_n (i := 0) (j := 0) dX10_spared_33 rfl rfl ?_
          refine J_get (C := RX10) (T := TX10) (Z := 10) (ci := 10) (f := 4) dX10_spared_34 inG10 rfl (by decide) k427 wc_0 rfl ?_
          refine J_getN (C := RX4) (T := TX4) (Z := 4) (ci := 4) (f := 0) dX10_spared_37 inG4 rfl (by decide) k295 wc_43 rfl ?_
          refine J_callV (As := []) (rest := [.int w339]) dX10_spared_40 (c_H_all (d := 0) (u := u340) (g := g) (ex := ex)  (t := 44) (by decide) (by decide) (bd_r (congrFun (fr341 44 rfl) 0) h4) (bd_r (congrFun (fr341 44 rfl) 2) h5)) hq.n k902 k801 k802 wc_44 rfl rfl k89 k803 np_X1_all (Nat.le_trans (by decide) hd) (by decide) (Nat.le_refl _) (Nat.le_refl _) wlen rfl (Nat.le_of_ble_eq_true rfl) (fun r_ h_ p375 => ?_)
          obtain ⟨v376, rfl, rfl, h377⟩ := p375
          refine J_icmp_gt (tgt := 98) dX10_spared_43 (by decide) (fun c378 => ?_) (fun c378 => ?_)
          · refine J_iload (i := 4) (j := 2) dX10_spared_98 rfl ?_
            exact J_iret hq dX10_spared_100 rfl wlen (Nat.le_refl _) (Nat.le_refl _) ⟨w338, u340, rfl, rfl, (bd_r (congrFun (fr341 44 rfl) 0) h4), (bd_r (congrFun (fr341 44 rfl) 2) h5), (ab_c (fr341 45 rfl) h6), bm343, bm344, (fun c k_ => ((fr341 c (nin_sub (M := [(53, 55)]) k_ rfl)).trans (fr7 c (nin_sub (M := [(43, 48)]) k_ rfl)))), (fun j k1_ k2_ k3_ => ((congrFun (fr341 43 rfl) j).trans (fc8 j k1_ k2_ k3_))), (fun j k0_ k2_ => ((congrFun (fr341 44 rfl) j).trans (fc9 j k0_ k2_))), (fun j k0_ k1_ k2_ k3_ k4_ => ((fc342 j k0_ k1_ k2_ k3_ k4_).trans (congrFun (fr7 53 rfl) j)))⟩
          · refine J_aload_n (i := 0) (j := 0) dX10_spared_46 rfl rfl ?_
            refine J_get (C := RX10) (T := TX10) (Z := 10) (ci := 10) (f := 6) dX10_spared_47 inG10 rfl (by decide) k429 wc_0 rfl ?_
            refine J_aload_n (i := 0) (j := 0) dX10_spared_50 rfl rfl ?_
            refine J_get (C := RX10) (T := TX10) (Z := 10) (ci := 10) (f := 4) dX10_spared_51 inG10 rfl (by decide) k427 wc_0 rfl ?_
            refine J_getN (C := RX4) (T := TX4) (Z := 4) (ci := 4) (f := 0) dX10_spared_54 inG4 rfl (by decide) k295 wc_43 rfl ?_
            refine J_aload_n (i := 0) (j := 0) dX10_spared_57 rfl rfl ?_
            refine J_get (C := RX10) (T := TX10) (Z := 10) (ci := 10) (f := 4) dX10_spared_58 inG10 rfl (by decide) k427 wc_0 rfl ?_
            refine J_getN (C := RX4) (T := TX4) (Z := 4) (ci := 4) (f := 0) dX10_spared_61 inG4 rfl (by decide) k295 wc_43 rfl ?_
            refine J_iload_n (i := 3) (j := 1) dX10_spared_64 rfl rfl ?_
            refine J_callV (As := [.int rain]) (rest := [.ref 44, .ref 53]) dX10_spared_65 (c_H_stepsOf (d := 0) (u := u340) (g := g) (ex := ex) (rain := rain) (t := 44) (by decide) (by decide) (bd_r (congrFun (fr341 44 rfl) 0) h4) (bd_r (congrFun (fr341 44 rfl) 2) h5)) hq.n k804 k716 k717 wc_44 rfl rfl k89 k718 np_X1_stepsOf (Nat.le_trans (by decide) hd) (by decide) (Nat.le_refl _) (Nat.le_refl _) wlen rfl (Nat.le_of_ble_eq_true rfl) (fun r_ h_ p390 => ?_)
            obtain ⟨v391, rfl, rfl⟩ := p390
            refine J_iload (i := 5) (j := 3) dX10_spared_68 rfl ?_
            refine J_iconst (v := (-1)) dX10_spared_70 (by decide) ?_
            refine J_callV (As := [.ref 44, .int v391, .int w339, .int (-1)]) (rest := []) dX10_spared_71 (c_S53_run (d := 2) (u := u340) (g := g) (ex := ex) (steps := v391) (banks := w339) (keeper := (-1)) (t := 44) (by decide) (by decide) (bd_r (congrFun (fr341 44 rfl) 0) h4) (bd_r (congrFun (fr341 44 rfl) 2) h5)) hq.n k805 k806 k807 wc_53 rfl rfl k94 k808 np_X5_run (Nat.le_trans (by decide) hd) (by decide) (Nat.le_refl _) (Nat.le_refl _) wlen rfl (Nat.le_of_ble_eq_true rfl) (fun r_ h_ p392 => ?_)
            obtain ⟨u393, rfl, rfl, h394, h395, fr396, fc397⟩ := p392
            refine J_aload_n (i := 0) (j := 0) dX10_spared_74 rfl rfl ?_
            refine J_get (C := RX10) (T := TX10) (Z := 10) (ci := 10) (f := 6) dX10_spared_75 inG10 rfl (by decide) k429 wc_0 rfl ?_
            refine J_getN (C := RX5) (T := TX5) (Z := 7) (ci := 5) (f := 1) dX10_spared_78 inG5 rfl (by decide) k323 wc_53 rfl ?_
            refine J_iload (i := 5) (j := 3) dX10_spared_81 rfl ?_
            refine J_iconst (v := (-1)) dX10_spared_83 (by decide) ?_
            refine J_ixor dX10_spared_84 ?_
            refine J_iand dX10_spared_85 ?_
            have jn400 : ∀ (w399 : Int32), J x yX10_spared cX10_spared 6 (some .int) d 0 0 (Wd u g ex).length 92 [(0, .ref 0), (3, .int rain), (4, .int w399), (5, .int w339)] [] (Wd u393 g ex) 0 0 := by
              intro w399
              refine J_iinc (i := 5) (j := 3) (v := (w339 + 1)) (lw := [(5, .int (w339 + 1)), (0, .ref 0), (3, .int rain), (4, .int w399)]) dX10_spared_92 rfl rfl (by decide) rfl ?_
              refine J_goto (tgt := 31) dX10_spared_95 (by decide) ?_
              refine J_lv [1, 2, 3, 0] rfl ?_
              exact ih373 w399 (w339 + 1) u393 (bd_w (l := 0) (h := 512) (bd_add (l := 1) (h := 512) (bd_le_hi bw339 (i_nlt c378) h377) (bd_c (v := 1) (lo := 1) (hi := 1) (by decide)) (by decide)) (by decide)) (fun c k_ => ((fr396 c (nin_sub (M := [(53, 55)]) k_ rfl)).trans (fr341 c (nin_sub (M := [(53, 55)]) k_ rfl)))) (fun j k0_ k1_ k2_ k3_ k4_ => ((fc397 j k0_ k1_ k2_ k3_ k4_).trans (fc342 j k0_ k1_ k2_ k3_ k4_))) h394 h395 (mu_up 1 bw339 rfl (by decide) (bd_w (l := 1) (h := 512) (bd_add (l := 1) (h := 512) (bd_le_hi bw339 (i_nlt c378) h377) (bd_c (v := 1) (lo := 1) (hi := 1) (by decide)) (by decide)) (by decide)) hm374)
            refine J_if_ne (tgt := 92) dX10_spared_86 (by decide) (fun c398 => ?_) (fun c398 => ?_)
            · refine J_lv [0, 1, 2, 3] rfl ?_
              exact jn400 w338 
            · refine J_iinc (i := 4) (j := 2) (v := (w338 + 1)) (lw := [(4, .int (w338 + 1)), (0, .ref 0), (3, .int rain), (5, .int w339)]) dX10_spared_89 rfl rfl (by decide) rfl ?_
              refine J_lv [1, 2, 0, 3] rfl ?_
              exact jn400 (w338 + 1) 
      refine J_lv [2, 5, 1, 0] rfl ?_
      exact lp371 _ (0 : Int32) (0 : Int32) u3 (bd_w (l := 0) (h := 512) (bd_c (v := 0) (lo := 0) (hi := 0) (by decide)) (by decide)) (fun c k_ => rfl) (fun j k0_ k1_ k2_ k3_ k4_ => rfl) (bd_r (congrFun (fr7 53 rfl) 0) hp19) (bd_r (congrFun (fr7 53 rfl) 1) hp20) (Nat.lt_succ_self _)
    · refine J_iconst (v := (-1)) dX10_spared_23 (by decide) ?_
      exact J_iret hq dX10_spared_24 rfl wlen (Nat.le_refl _) (Nat.le_refl _) ⟨((-1) : Int32), u3, rfl, rfl, h4, h5, h6, (bd_r (congrFun (fr7 53 rfl) 0) hp19), (bd_r (congrFun (fr7 53 rfl) 1) hp20), (fun c k_ => (fr7 c (nin_sub (M := [(43, 48)]) k_ rfl))), (fun j k1_ k2_ k3_ => (fc8 j k1_ k2_ k3_)), (fun j k0_ k2_ => (fc9 j k0_ k2_)), (fun j k0_ k1_ k2_ k3_ k4_ => (congrFun (fr7 53 rfl) j))⟩
set_option maxHeartbeats 4000000 in
set_option maxRecDepth 100000 in
theorem c_P_deep {d : Nat} {u : Nat → Nat → Int32} {g : Nat → Nat → Int64} {ex : List MC} {hill : Int32} {plan : Int32} (hd : 6 ≤ d) (hp0 : Bd 0 2 (u 1 5)) (hp1 : Bd 0 3 (u 1 7)) (hp2 : Bd 0 9 (u 44 0)) (hp3 : Bd 0 4 (u 44 2)) (hp4 : Bd 0 9 (u 5 0)) (hp5 : Bd 0 4 (u 5 2)) (hp6 : Bd 0 9 (u 10 0)) (hp7 : Bd 0 4 (u 10 2)) (hp8 : Bd 0 12 (u 15 0)) (hp9 : Bd 0 12 (u 19 0)) (hp10 : Bd 0 12 (u 23 0)) (hp11 : Bd 0 12 (u 49 0)) (hp12 : AB u 45 (-1) 999) (hp13 : AB u 6 (-1) 999) (hp14 : AB u 11 (-1) 999) (hp15 : (KM u 15)) (hp16 : (KM u 19)) (hp17 : (KM u 23)) (hp18 : (KM u 49)) (hp19 : Bd 0 9 (u 61 0)) (hp20 : Bd 0 4 (u 61 2)) (hp21 : AB u 66 0 511) : CT con0 d 0 0 yX10_deep cX10_deep 3 (some .int) [.ref 0, .int hill, .int plan] (Wd u g ex) (fun r h2 => ∃ (z : Int32) (u2 : Nat → Nat → Int32) (g2 : Nat → Nat → Int64), r = some (.int z) ∧ h2 = Wd u2 g2 ex ∧ Bd 0 9 (u2 44 0) ∧ Bd 0 4 (u2 44 2) ∧ AB u2 45 (-1) 999 ∧ Bd 0 9 (u2 61 0) ∧ Bd 0 4 (u2 61 2) ∧ AB u2 66 0 511 ∧ (∀ c, nin c [(43, 48), (58, 67)] = true → u2 c = u c) ∧ (∀ j, j ≠ 1 → j ≠ 2 → j ≠ 3 → u2 43 j = u 43 j) ∧ (∀ j, j ≠ 0 → j ≠ 2 → u2 44 j = u 44 j) ∧ (∀ j, j ≠ 0 → j ≠ 1 → j ≠ 2 → j ≠ 3 → j ≠ 4 → u2 58 j = u 58 j) ∧ (∀ j, j ≠ 0 → j ≠ 2 → u2 61 j = u 61 j)) := by
  refine CT_of (by decide) (Nat.le_of_ble_eq_true rfl) (fun x hq => ?_)
  show J x yX10_deep cX10_deep 3 (some .int) d 0 0 (Wd u g ex).length 0 [(0, .ref 0), (1, .int hill), (2, .int plan)] [] (Wd u g ex) 0 0
  refine J_aload_n (i := 0) (j := 0) dX10_deep_0 rfl rfl ?_
  refine J_iload_n (i := 1) (j := 1) dX10_deep_1 rfl rfl ?_
  refine J_iload_n (i := 2) (j := 2) dX10_deep_2 rfl rfl ?_
  refine J_callV (As := [.int hill, .int plan]) (rest := []) dX10_deep_3 (c_P_looks (d := 5) (u := u) (g := g) (ex := ex) (hill := hill) (plan := plan)  (by decide) hp0 hp1 hp2 hp3 hp4 hp5 hp6 hp7 hp8 hp9 hp10 hp11 hp12 hp13 hp14 hp15 hp16 hp17 hp18 hp21 hp19 hp20) hq.n k852 k854 k23 wc_0 rfl rfl k87 k855 np_X10_looks (Nat.le_trans (by decide) hd) (by decide) (Nat.le_refl _) (Nat.le_refl _) wlen rfl (Nat.le_of_ble_eq_true rfl) (fun r_ h_ p1 => ?_)
  obtain ⟨t2, u3, g4, rfl, rfl, h5, h6, h7, h8, h9, h10, fr11, fc12, fc13, fc14, fc15⟩ := p1
  refine J_ifB_eq (tgt := 19) dX10_deep_6 (by decide) (fun c16 => ?_) (fun c16 => ?_)
  · refine J_iconst (v := (-1)) dX10_deep_19 (by decide) ?_
    exact J_iret hq dX10_deep_20 rfl wlen (Nat.le_refl _) (Nat.le_refl _) ⟨((-1) : Int32), u3, g4, rfl, rfl, h5, h6, h7, h8, h9, h10, (fun c k_ => (fr11 c (nin_sub (M := [(43, 48), (58, 67)]) k_ rfl))), (fun j k1_ k2_ k3_ => (fc12 j k1_ k2_ k3_)), (fun j k0_ k2_ => (fc13 j k0_ k2_)), (fun j k0_ k1_ k2_ k3_ k4_ => (fc14 j k0_ k1_ k2_ k3_ k4_)), (fun j k0_ k2_ => (fc15 j k0_ k2_))⟩
  · refine J_aload_n (i := 0) (j := 0) dX10_deep_9 rfl rfl ?_
    refine J_get (C := RX10) (T := TX10) (Z := 10) (ci := 10) (f := 8) dX10_deep_10 inG10 rfl (by decide) k431 wc_0 rfl ?_
    refine J_callV (As := []) (rest := []) dX10_deep_13 (c_O_mostThatWent (d := 2) (u := u3) (g := g4) (ex := ex)   (by decide) h8 h9 h10) hq.n k1144 k1145 k1146 wc_57 rfl rfl k96 k1147 np_X2_mostThatWent (Nat.le_trans (by decide) hd) (by decide) (Nat.le_refl _) (Nat.le_refl _) wlen rfl (Nat.le_of_ble_eq_true rfl) (fun r_ h_ p17 => ?_)
    obtain ⟨v18, rfl, rfl⟩ := p17
    refine J_goto (tgt := 20) dX10_deep_16 (by decide) ?_
    exact J_iret hq dX10_deep_20 rfl wlen (Nat.le_refl _) (Nat.le_refl _) ⟨v18, u3, g4, rfl, rfl, h5, h6, h7, h8, h9, h10, (fun c k_ => (fr11 c (nin_sub (M := [(43, 48), (58, 67)]) k_ rfl))), (fun j k1_ k2_ k3_ => (fc12 j k1_ k2_ k3_)), (fun j k0_ k2_ => (fc13 j k0_ k2_)), (fun j k0_ k1_ k2_ k3_ k4_ => (fc14 j k0_ k1_ k2_ k3_ k4_)), (fun j k0_ k2_ => (fc15 j k0_ k2_))⟩
set_option maxHeartbeats 4000000 in
set_option maxRecDepth 100000 in
theorem c_P_safe {d : Nat} {u : Nat → Nat → Int32} {g : Nat → Nat → Int64} {ex : List MC} {hill : Int32} {plan : Int32} (hd : 5 ≤ d) (hp0 : Bd 0 2 (u 1 5)) (hp1 : Bd 0 3 (u 1 7)) (hp2 : Bd 0 9 (u 44 0)) (hp3 : Bd 0 4 (u 44 2)) (hp4 : Bd 0 9 (u 5 0)) (hp5 : Bd 0 4 (u 5 2)) (hp6 : Bd 0 9 (u 10 0)) (hp7 : Bd 0 4 (u 10 2)) (hp8 : Bd 0 12 (u 15 0)) (hp9 : Bd 0 12 (u 19 0)) (hp10 : Bd 0 12 (u 23 0)) (hp11 : Bd 0 12 (u 49 0)) (hp12 : AB u 45 (-1) 999) (hp13 : AB u 6 (-1) 999) (hp14 : AB u 11 (-1) 999) (hp15 : (KM u 15)) (hp16 : (KM u 19)) (hp17 : (KM u 23)) (hp18 : (KM u 49)) (hp19 : Bd 0 9 (u 53 0)) (hp20 : Bd 0 511 (u 53 1)) : CT con0 d 0 0 yX10_safe cX10_safe 4 (some .int) [.ref 0, .int hill, .int plan] (Wd u g ex) (fun r h2 => ∃ (z : Int32) (u2 : Nat → Nat → Int32), r = some (.int z) ∧ h2 = Wd u2 g ex ∧ Bd 0 9 (u2 44 0) ∧ Bd 0 4 (u2 44 2) ∧ AB u2 45 (-1) 999 ∧ Bd 0 9 (u2 53 0) ∧ Bd 0 511 (u2 53 1) ∧ (∀ c, nin c [(43, 48), (53, 55)] = true → u2 c = u c) ∧ (∀ j, j ≠ 1 → j ≠ 2 → j ≠ 3 → u2 43 j = u 43 j) ∧ (∀ j, j ≠ 0 → j ≠ 2 → u2 44 j = u 44 j) ∧ (∀ j, j ≠ 0 → j ≠ 1 → j ≠ 2 → j ≠ 3 → j ≠ 4 → u2 53 j = u 53 j)) := by
  refine CT_of (by decide) (Nat.le_of_ble_eq_true rfl) (fun x hq => ?_)
  show J x yX10_safe cX10_safe 4 (some .int) d 0 0 (Wd u g ex).length 0 [(0, .ref 0), (1, .int hill), (2, .int plan)] [] (Wd u g ex) 0 0
  refine J_aload_n (i := 0) (j := 0) dX10_safe_0 rfl rfl ?_
  refine J_iload_n (i := 1) (j := 1) dX10_safe_1 rfl rfl ?_
  refine J_iload_n (i := 2) (j := 2) dX10_safe_2 rfl rfl ?_
  refine J_callV (As := [.int hill, .int plan]) (rest := []) dX10_safe_3 (c_P_lays (d := 4) (u := u) (g := g) (ex := ex) (hill := hill) (plan := plan)  (by decide) hp0 hp1 hp2 hp3 hp4 hp5 hp6 hp7 hp8 hp9 hp10 hp11 hp12 hp13 hp14 hp15 hp16 hp17 hp18) hq.n k723 k725 k12 wc_0 rfl rfl k87 k726 np_X10_lays (Nat.le_trans (by decide) hd) (by decide) (Nat.le_refl _) (Nat.le_refl _) wlen rfl (Nat.le_of_ble_eq_true rfl) (fun r_ h_ p1 => ?_)
  obtain ⟨t2, u3, rfl, rfl, h4, h5, h6, fr7, fc8, fc9⟩ := p1
  refine J_ifB_ne (tgt := 11) dX10_safe_6 (by decide) (fun c10 => ?_) (fun c10 => ?_)
  · refine J_bipush (v := 9) dX10_safe_11 (by decide) ?_
    refine J_istore_n (i := 3) (lw := [(3, .int 9), (0, .ref 0), (1, .int hill), (2, .int plan)]) dX10_safe_13 rfl (by decide) rfl ?_
    have lp60 : ∀ (n61 : Nat) (w46 : Int32) (u47 : Nat → Nat → Int32), Bd (-1) 9 w46 → (∀ c, nin c [(53, 55)] = true → u47 c = u3 c) → (∀ j, j ≠ 0 → j ≠ 1 → j ≠ 2 → j ≠ 3 → j ≠ 4 → u47 53 j = u3 53 j) → Bd 0 9 (u47 53 0) → Bd 0 511 (u47 53 1) → (w46.toInt - (-1)).toNat < n61 → J x yX10_safe cX10_safe 4 (some .int) d 0 0 (Wd u g ex).length 14 [(0, .ref 0), (3, .int w46)] [] (Wd u47 g ex) 0 0 := by
      intro n61
      induction n61 with
      | zero => intro w46 u47 bw46 fr48 fc49 bm50 bm51 hm63; exact absurd hm63 (Nat.not_lt_zero _)
      | succ n61 ih62 =>
        intro w46 u47 bw46 fr48 fc49 bm50 bm51 hm63
        refine J_iload_n (i := 3) (j := 1) dX10_safe_14 rfl rfl ?_
        refine J_if_lt (tgt := 53) dX10_safe_15 (by decide) (fun c64 => ?_) (fun c64 => ?_)
        · refine J_iconst (v := (-1)) dX10_safe_53 (by decide) ?_
          exact J_iret hq dX10_safe_54 rfl wlen (Nat.le_refl _) (Nat.le_refl _) ⟨((-1) : Int32), u47, rfl, rfl, (bd_r (congrFun (fr48 44 rfl) 0) h4), (bd_r (congrFun (fr48 44 rfl) 2) h5), (ab_c (fr48 45 rfl) h6), bm50, bm51, (fun c k_ => ((fr48 c (nin_sub (M := [(53, 55)]) k_ rfl)).trans (fr7 c (nin_sub (M := [(43, 48)]) k_ rfl)))), (fun j k1_ k2_ k3_ => ((congrFun (fr48 43 rfl) j).trans (fc8 j k1_ k2_ k3_))), (fun j k0_ k2_ => ((congrFun (fr48 44 rfl) j).trans (fc9 j k0_ k2_))), (fun j k0_ k1_ k2_ k3_ k4_ => ((fc49 j k0_ k1_ k2_ k3_ k4_).trans (congrFun (fr7 53 rfl) j)))⟩
        · refine J_aload_n (i := 0) (j := 0) dX10_safe_18 rfl rfl ?_
          refine J_get (C := RX10) (T := TX10) (Z := 10) (ci := 10) (f := 6) dX10_safe_19 inG10 rfl (by decide) k429 wc_0 rfl ?_
          refine J_aload_n (i := 0) (j := 0) dX10_safe_22 rfl rfl ?_
          refine J_get (C := RX10) (T := TX10) (Z := 10) (ci := 10) (f := 4) dX10_safe_23 inG10 rfl (by decide) k427 wc_0 rfl ?_
          refine J_getN (C := RX4) (T := TX4) (Z := 4) (ci := 4) (f := 0) dX10_safe_26 inG4 rfl (by decide) k295 wc_43 rfl ?_
          refine J_iload_n (i := 3) (j := 1) dX10_safe_29 rfl rfl ?_
          refine J_iconst (v := 0) dX10_safe_30 (by decide) ?_
          refine J_iconst (v := (-1)) dX10_safe_31 (by decide) ?_
          refine J_callV (As := [.ref 44, .int w46, .int 0, .int (-1)]) (rest := []) dX10_safe_32 (c_S53_run (d := 2) (u := u47) (g := g) (ex := ex) (steps := w46) (banks := 0) (keeper := (-1)) (t := 44) (by decide) (by decide) (bd_r (congrFun (fr48 44 rfl) 0) h4) (bd_r (congrFun (fr48 44 rfl) 2) h5)) hq.n k805 k806 k807 wc_53 rfl rfl k94 k808 np_X5_run (Nat.le_trans (by decide) hd) (by decide) (Nat.le_refl _) (Nat.le_refl _) wlen rfl (Nat.le_of_ble_eq_true rfl) (fun r_ h_ p65 => ?_)
          obtain ⟨u66, rfl, rfl, h67, h68, fr69, fc70⟩ := p65
          refine J_aload_n (i := 0) (j := 0) dX10_safe_35 rfl rfl ?_
          refine J_get (C := RX10) (T := TX10) (Z := 10) (ci := 10) (f := 6) dX10_safe_36 inG10 rfl (by decide) k429 wc_0 rfl ?_
          refine J_getN (C := RX5) (T := TX5) (Z := 7) (ci := 5) (f := 1) dX10_safe_39 inG5 rfl (by decide) k323 wc_53 rfl ?_
          refine J_if_ne (tgt := 47) dX10_safe_42 (by decide) (fun c71 => ?_) (fun c71 => ?_)
          · refine J_iinc (i := 3) (j := 1) (v := (w46 + (-1))) (lw := [(3, .int (w46 + (-1))), (0, .ref 0)]) dX10_safe_47 rfl rfl (by decide) rfl ?_
            refine J_goto (tgt := 14) dX10_safe_50 (by decide) ?_
            refine J_lv [1, 0] rfl ?_
            exact ih62 (w46 + (-1)) u66 (bd_w (l := (-1)) (h := 9) (bd_add (l := (-1)) (h := 8) (bd_le_lo bw46 (i_nlt c64) (bd_c (v := 0) (lo := 0) (hi := 0) (by decide))) (bd_c (v := (-1)) (lo := (-1)) (hi := (-1)) (by decide)) (by decide)) (by decide)) (fun c k_ => ((fr69 c (nin_sub (M := [(53, 55)]) k_ rfl)).trans (fr48 c (nin_sub (M := [(53, 55)]) k_ rfl)))) (fun j k0_ k1_ k2_ k3_ k4_ => ((fc70 j k0_ k1_ k2_ k3_ k4_).trans (fc49 j k0_ k1_ k2_ k3_ k4_))) h67 (bd_w (l := 0) (h := 511) (bd_ne_lo h68 c71 (by decide)) (by decide)) (mu_dn (-1) bw46 rfl (by decide) (bd_w (l := (-1)) (h := 8) (bd_add (l := (-1)) (h := 8) (bd_le_lo bw46 (i_nlt c64) (bd_c (v := 0) (lo := 0) (hi := 0) (by decide))) (bd_c (v := (-1)) (lo := (-1)) (hi := (-1)) (by decide)) (by decide)) (by decide)) hm63)
          · refine J_iload_n (i := 3) (j := 1) dX10_safe_45 rfl rfl ?_
            exact J_iret hq dX10_safe_46 rfl wlen (Nat.le_refl _) (Nat.le_refl _) ⟨w46, u66, rfl, rfl, (bd_r ((congrFun (fr69 44 rfl) 0).trans (congrFun (fr48 44 rfl) 0)) h4), (bd_r ((congrFun (fr69 44 rfl) 2).trans (congrFun (fr48 44 rfl) 2)) h5), (ab_c ((fr69 45 rfl).trans (fr48 45 rfl)) h6), h67, (bd_w (l := 0) (h := 511) (bd_r c71 (bd_c (v := 0) (lo := 0) (hi := 0) (by decide))) (by decide)), (fun c k_ => ((fr69 c (nin_sub (M := [(53, 55)]) k_ rfl)).trans ((fr48 c (nin_sub (M := [(53, 55)]) k_ rfl)).trans (fr7 c (nin_sub (M := [(43, 48)]) k_ rfl))))), (fun j k1_ k2_ k3_ => ((congrFun (fr69 43 rfl) j).trans ((congrFun (fr48 43 rfl) j).trans (fc8 j k1_ k2_ k3_)))), (fun j k0_ k2_ => ((congrFun (fr69 44 rfl) j).trans ((congrFun (fr48 44 rfl) j).trans (fc9 j k0_ k2_)))), (fun j k0_ k1_ k2_ k3_ k4_ => ((fc70 j k0_ k1_ k2_ k3_ k4_).trans ((fc49 j k0_ k1_ k2_ k3_ k4_).trans (congrFun (fr7 53 rfl) j))))⟩
    refine J_lv [1, 0] rfl ?_
    exact lp60 _ (9 : Int32) u3 (bd_w (l := (-1)) (h := 9) (bd_c (v := 9) (lo := 9) (hi := 9) (by decide)) (by decide)) (fun c k_ => rfl) (fun j k0_ k1_ k2_ k3_ k4_ => rfl) (bd_r (congrFun (fr7 53 rfl) 0) hp19) (bd_r (congrFun (fr7 53 rfl) 1) hp20) (Nat.lt_succ_self _)
  · refine J_iconst (v := (-1)) dX10_safe_9 (by decide) ?_
    exact J_iret hq dX10_safe_10 rfl wlen (Nat.le_refl _) (Nat.le_refl _) ⟨((-1) : Int32), u3, rfl, rfl, h4, h5, h6, (bd_r (congrFun (fr7 53 rfl) 0) hp19), (bd_r (congrFun (fr7 53 rfl) 1) hp20), (fun c k_ => (fr7 c (nin_sub (M := [(43, 48)]) k_ rfl))), (fun j k1_ k2_ k3_ => (fc8 j k1_ k2_ k3_)), (fun j k0_ k2_ => (fc9 j k0_ k2_)), (fun j k0_ k1_ k2_ k3_ k4_ => (congrFun (fr7 53 rfl) j))⟩
set_option maxHeartbeats 4000000 in
set_option maxRecDepth 100000 in
theorem c_P_weighs {d : Nat} {u : Nat → Nat → Int32} {g : Nat → Nat → Int64} {ex : List MC} {hill : Int32} {plan : Int32} (hd : 5 ≤ d) (hp0 : Bd 0 2 (u 1 5)) (hp1 : Bd 0 3 (u 1 7)) (hp2 : Bd 0 9 (u 44 0)) (hp3 : Bd 0 4 (u 44 2)) (hp4 : Bd 0 9 (u 5 0)) (hp5 : Bd 0 4 (u 5 2)) (hp6 : Bd 0 9 (u 10 0)) (hp7 : Bd 0 4 (u 10 2)) (hp8 : Bd 0 12 (u 15 0)) (hp9 : Bd 0 12 (u 19 0)) (hp10 : Bd 0 12 (u 23 0)) (hp11 : Bd 0 12 (u 49 0)) (hp12 : AB u 45 (-1) 999) (hp13 : AB u 6 (-1) 999) (hp14 : AB u 11 (-1) 999) (hp15 : (KM u 15)) (hp16 : (KM u 19)) (hp17 : (KM u 23)) (hp18 : (KM u 49)) (hp19 : Bd 0 9 (u 61 0)) (hp20 : Bd 0 4 (u 61 2)) (hp21 : AB u 66 0 511) : CT con0 d 0 0 yX10_weighs cX10_weighs 3 (some .int) [.ref 0, .int hill, .int plan] (Wd u g ex) (fun r h2 => ∃ (z : Int32) (u2 : Nat → Nat → Int32) (g2 : Nat → Nat → Int64), r = some (.int z) ∧ h2 = Wd u2 g2 ex ∧ Bd 0 9 (u2 44 0) ∧ Bd 0 4 (u2 44 2) ∧ AB u2 45 (-1) 999 ∧ Bd 0 9 (u2 61 0) ∧ Bd 0 4 (u2 61 2) ∧ AB u2 66 0 511 ∧ (∀ c, nin c [(43, 48), (58, 67)] = true → u2 c = u c) ∧ (∀ j, j ≠ 1 → j ≠ 2 → j ≠ 3 → u2 43 j = u 43 j) ∧ (∀ j, j ≠ 0 → j ≠ 2 → u2 44 j = u 44 j) ∧ (∀ j, j ≠ 0 → j ≠ 1 → j ≠ 2 → j ≠ 3 → j ≠ 4 → u2 58 j = u 58 j) ∧ (∀ j, j ≠ 0 → j ≠ 2 → u2 61 j = u 61 j)) := by
  refine CT_of (by decide) (Nat.le_of_ble_eq_true rfl) (fun x hq => ?_)
  show J x yX10_weighs cX10_weighs 3 (some .int) d 0 0 (Wd u g ex).length 0 [(0, .ref 0), (1, .int hill), (2, .int plan)] [] (Wd u g ex) 0 0
  refine J_aload_n (i := 0) (j := 0) dX10_weighs_0 rfl rfl ?_
  refine J_iload_n (i := 1) (j := 1) dX10_weighs_1 rfl rfl ?_
  refine J_iload_n (i := 2) (j := 2) dX10_weighs_2 rfl rfl ?_
  refine J_callV (As := [.int hill, .int plan]) (rest := []) dX10_weighs_3 (c_P_lays (d := 4) (u := u) (g := g) (ex := ex) (hill := hill) (plan := plan)  (by decide) hp0 hp1 hp2 hp3 hp4 hp5 hp6 hp7 hp8 hp9 hp10 hp11 hp12 hp13 hp14 hp15 hp16 hp17 hp18) hq.n k723 k725 k12 wc_0 rfl rfl k87 k726 np_X10_lays (Nat.le_trans (by decide) hd) (by decide) (Nat.le_refl _) (Nat.le_refl _) wlen rfl (Nat.le_of_ble_eq_true rfl) (fun r_ h_ p1 => ?_)
  obtain ⟨t2, u3, rfl, rfl, h4, h5, h6, fr7, fc8, fc9⟩ := p1
  refine J_ifB_eq (tgt := 26) dX10_weighs_6 (by decide) (fun c10 => ?_) (fun c10 => ?_)
  · refine J_iconst (v := (-1)) dX10_weighs_26 (by decide) ?_
    exact J_iret hq dX10_weighs_27 rfl wlen (Nat.le_refl _) (Nat.le_refl _) ⟨((-1) : Int32), u3, g, rfl, rfl, h4, h5, h6, (bd_r (congrFun (fr7 61 rfl) 0) hp19), (bd_r (congrFun (fr7 61 rfl) 2) hp20), (ab_c (fr7 66 rfl) hp21), (fun c k_ => (fr7 c (nin_sub (M := [(43, 48)]) k_ rfl))), (fun j k1_ k2_ k3_ => (fc8 j k1_ k2_ k3_)), (fun j k0_ k2_ => (fc9 j k0_ k2_)), (fun j k0_ k1_ k2_ k3_ k4_ => (congrFun (fr7 58 rfl) j)), (fun j k0_ k2_ => (congrFun (fr7 61 rfl) j))⟩
  · refine J_aload_n (i := 0) (j := 0) dX10_weighs_9 rfl rfl ?_
    refine J_get (C := RX10) (T := TX10) (Z := 10) (ci := 10) (f := 7) dX10_weighs_10 inG10 rfl (by decide) k430 wc_0 rfl ?_
    refine J_aload_n (i := 0) (j := 0) dX10_weighs_13 rfl rfl ?_
    refine J_get (C := RX10) (T := TX10) (Z := 10) (ci := 10) (f := 4) dX10_weighs_14 inG10 rfl (by decide) k427 wc_0 rfl ?_
    refine J_getN (C := RX4) (T := TX4) (Z := 4) (ci := 4) (f := 0) dX10_weighs_17 inG4 rfl (by decide) k295 wc_43 rfl ?_
    refine J_callV (As := [.ref 44]) (rest := []) dX10_weighs_20 (c_C_heaviest (d := 4) (u := u3) (g := g) (ex := ex)   (by decide) h4 h5 (ab_c (fr7 66 rfl) hp21)) hq.n k1158 k1159 k1160 wc_56 rfl rfl k95 k1161 np_X0_heaviest (Nat.le_trans (by decide) hd) (by decide) (Nat.le_refl _) (Nat.le_refl _) wlen rfl (Nat.le_of_ble_eq_true rfl) (fun r_ h_ p11 => ?_)
    obtain ⟨v12, u13, g14, rfl, rfl, h15, h16, h17, fr18, fc19, fc20⟩ := p11
    refine J_goto (tgt := 27) dX10_weighs_23 (by decide) ?_
    exact J_iret hq dX10_weighs_27 rfl wlen (Nat.le_refl _) (Nat.le_refl _) ⟨v12, u13, g14, rfl, rfl, (bd_r (congrFun (fr18 44 rfl) 0) h4), (bd_r (congrFun (fr18 44 rfl) 2) h5), (ab_c (fr18 45 rfl) h6), h15, h16, h17, (fun c k_ => ((fr18 c (nin_sub (M := [(58, 67)]) k_ rfl)).trans (fr7 c (nin_sub (M := [(43, 48)]) k_ rfl)))), (fun j k1_ k2_ k3_ => ((congrFun (fr18 43 rfl) j).trans (fc8 j k1_ k2_ k3_))), (fun j k0_ k2_ => ((congrFun (fr18 44 rfl) j).trans (fc9 j k0_ k2_))), (fun j k0_ k1_ k2_ k3_ k4_ => ((fc19 j k0_ k1_ k2_ k3_ k4_).trans (congrFun (fr7 58 rfl) j))), (fun j k0_ k2_ => ((fc20 j k0_ k2_).trans (congrFun (fr7 61 rfl) j)))⟩
set_option maxHeartbeats 4000000 in
set_option maxRecDepth 100000 in
theorem c_P_upon {d : Nat} {u : Nat → Nat → Int32} {g : Nat → Nat → Int64} {ex : List MC} {hill : Int32} {plan : Int32} {pond : Int32} {below : Int32} (hd : 6 ≤ d) (hp0 : Bd 0 2 (u 1 5)) (hp1 : Bd 0 3 (u 1 7)) (hp2 : Bd 0 9 (u 44 0)) (hp3 : Bd 0 4 (u 44 2)) (hp4 : Bd 0 9 (u 5 0)) (hp5 : Bd 0 4 (u 5 2)) (hp6 : Bd 0 9 (u 10 0)) (hp7 : Bd 0 4 (u 10 2)) (hp8 : Bd 0 12 (u 15 0)) (hp9 : Bd 0 12 (u 19 0)) (hp10 : Bd 0 12 (u 23 0)) (hp11 : Bd 0 12 (u 49 0)) (hp12 : AB u 45 (-1) 999) (hp13 : AB u 6 (-1) 999) (hp14 : AB u 11 (-1) 999) (hp15 : (KM u 15)) (hp16 : (KM u 19)) (hp17 : (KM u 23)) (hp18 : (KM u 49)) : CT con0 d 0 0 yX10_upon cX10_upon 5 (some .int) [.ref 0, .int hill, .int plan, .int pond, .int below] (Wd u g ex) (fun r h2 => ∃ (z : Int32) (u2 : Nat → Nat → Int32), r = some (.int z) ∧ h2 = Wd u2 g ex ∧ Bd 0 9 (u2 44 0) ∧ Bd 0 4 (u2 44 2) ∧ AB u2 45 (-1) 999 ∧ (∀ c, nin c [(43, 48)] = true → u2 c = u c) ∧ (∀ j, j ≠ 1 → j ≠ 2 → j ≠ 3 → u2 43 j = u 43 j) ∧ (∀ j, j ≠ 0 → j ≠ 2 → u2 44 j = u 44 j)) := by
  refine CT_of (by decide) (Nat.le_of_ble_eq_true rfl) (fun x hq => ?_)
  show J x yX10_upon cX10_upon 5 (some .int) d 0 0 (Wd u g ex).length 0 [(0, .ref 0), (1, .int hill), (2, .int plan), (3, .int pond), (4, .int below)] [] (Wd u g ex) 0 0
  refine J_aload_n (i := 0) (j := 0) dX10_upon_0 rfl rfl ?_
  refine J_iload_n (i := 1) (j := 1) dX10_upon_1 rfl rfl ?_
  refine J_iload_n (i := 2) (j := 2) dX10_upon_2 rfl rfl ?_
  refine J_iload_n (i := 3) (j := 3) dX10_upon_3 rfl rfl ?_
  refine J_callV (As := [.int hill, .int plan, .int pond]) (rest := []) dX10_upon_4 (c_P_hasPond (d := 5) (u := u) (g := g) (ex := ex) (hill := hill) (plan := plan) (pond := pond)  (by decide) hp0 hp1 hp2 hp3 hp4 hp5 hp6 hp7 hp8 hp9 hp10 hp11 hp12 hp13 hp14 hp15 hp16 hp17 hp18) hq.n k1005 k1007 k29 wc_0 rfl rfl k87 k1008 np_X10_hasPond (Nat.le_trans (by decide) hd) (by decide) (Nat.le_refl _) (Nat.le_refl _) wlen rfl (Nat.le_of_ble_eq_true rfl) (fun r_ h_ p1 => ?_)
  obtain ⟨t2, u3, rfl, rfl, h4, h5, h6, h7, fr8, fc9, fc10⟩ := p1
  refine J_ifB_ne (tgt := 12) dX10_upon_7 (by decide) (fun c11 => ?_) (fun c11 => ?_)
  · refine J_iload (i := 4) (j := 4) dX10_upon_12 rfl ?_
    refine J_if_eq (tgt := 31) dX10_upon_14 (by decide) (fun c12 => ?_) (fun c12 => ?_)
    · refine J_aload_n (i := 0) (j := 0) dX10_upon_31 rfl rfl ?_
      refine J_get (C := RX10) (T := TX10) (Z := 10) (ci := 10) (f := 4) dX10_upon_32 inG10 rfl (by decide) k427 wc_0 rfl ?_
      refine J_getN (C := RX4) (T := TX4) (Z := 4) (ci := 4) (f := 0) dX10_upon_35 inG4 rfl (by decide) k295 wc_43 rfl ?_
      refine J_iload_n (i := 3) (j := 3) dX10_upon_38 rfl rfl ?_
      refine J_callV (As := [.int pond]) (rest := []) dX10_upon_39 (c_H_reaching (d := 2) (u := u3) (g := g) (ex := ex) (pond := pond) (t := 44) (by decide) (by decide) h5 h6 (h4 c11)) hq.n k1174 k1175 k1176 wc_44 rfl rfl k89 k1177 np_X1_reaching (Nat.le_trans (by decide) hd) (by decide) (Nat.le_refl _) (Nat.le_refl _) wlen rfl (Nat.le_of_ble_eq_true rfl) (fun r_ h_ p13 => ?_)
      obtain ⟨v14, rfl, rfl⟩ := p13
      exact J_iret hq dX10_upon_42 rfl wlen (Nat.le_refl _) (Nat.le_refl _) ⟨v14, u3, rfl, rfl, h5, h6, h7, (fun c k_ => (fr8 c (nin_sub (M := [(43, 48)]) k_ rfl))), (fun j k1_ k2_ k3_ => (fc9 j k1_ k2_ k3_)), (fun j k0_ k2_ => (fc10 j k0_ k2_))⟩
    · refine J_aload_n (i := 0) (j := 0) dX10_upon_17 rfl rfl ?_
      refine J_get (C := RX10) (T := TX10) (Z := 10) (ci := 10) (f := 4) dX10_upon_18 inG10 rfl (by decide) k427 wc_0 rfl ?_
      refine J_getN (C := RX4) (T := TX4) (Z := 4) (ci := 4) (f := 0) dX10_upon_21 inG4 rfl (by decide) k295 wc_43 rfl ?_
      refine J_iload_n (i := 3) (j := 3) dX10_upon_24 rfl rfl ?_
      refine J_callV (As := [.int pond]) (rest := []) dX10_upon_25 (c_H_reachedFrom (d := 2) (u := u3) (g := g) (ex := ex) (pond := pond) (t := 44) (by decide) (by decide) h5 h6 (h4 c11)) hq.n k1166 k1167 k1168 wc_44 rfl rfl k89 k1169 np_X1_reachedFrom (Nat.le_trans (by decide) hd) (by decide) (Nat.le_refl _) (Nat.le_refl _) wlen rfl (Nat.le_of_ble_eq_true rfl) (fun r_ h_ p15 => ?_)
      obtain ⟨v16, rfl, rfl⟩ := p15
      refine J_goto (tgt := 42) dX10_upon_28 (by decide) ?_
      exact J_iret hq dX10_upon_42 rfl wlen (Nat.le_refl _) (Nat.le_refl _) ⟨v16, u3, rfl, rfl, h5, h6, h7, (fun c k_ => (fr8 c (nin_sub (M := [(43, 48)]) k_ rfl))), (fun j k1_ k2_ k3_ => (fc9 j k1_ k2_ k3_)), (fun j k0_ k2_ => (fc10 j k0_ k2_))⟩
  · refine J_iconst (v := (-1)) dX10_upon_10 (by decide) ?_
    exact J_iret hq dX10_upon_11 rfl wlen (Nat.le_refl _) (Nat.le_refl _) ⟨((-1) : Int32), u3, rfl, rfl, h5, h6, h7, (fun c k_ => (fr8 c (nin_sub (M := [(43, 48)]) k_ rfl))), (fun j k1_ k2_ k3_ => (fc9 j k1_ k2_ k3_)), (fun j k0_ k2_ => (fc10 j k0_ k2_))⟩
set_option maxHeartbeats 4000000 in
set_option maxRecDepth 100000 in
theorem c_P_runs {d : Nat} {u : Nat → Nat → Int32} {g : Nat → Nat → Int64} {ex : List MC} {hill : Int32} {plan : Int32} {pond : Int32} (hd : 6 ≤ d) (hp0 : Bd 0 2 (u 1 5)) (hp1 : Bd 0 3 (u 1 7)) (hp2 : Bd 0 9 (u 44 0)) (hp3 : Bd 0 4 (u 44 2)) (hp4 : Bd 0 9 (u 5 0)) (hp5 : Bd 0 4 (u 5 2)) (hp6 : Bd 0 9 (u 10 0)) (hp7 : Bd 0 4 (u 10 2)) (hp8 : Bd 0 12 (u 15 0)) (hp9 : Bd 0 12 (u 19 0)) (hp10 : Bd 0 12 (u 23 0)) (hp11 : Bd 0 12 (u 49 0)) (hp12 : AB u 45 (-1) 999) (hp13 : AB u 6 (-1) 999) (hp14 : AB u 11 (-1) 999) (hp15 : (KM u 15)) (hp16 : (KM u 19)) (hp17 : (KM u 23)) (hp18 : (KM u 49)) (hp19 : Bd 0 9 (u 53 0)) (hp20 : Bd 0 511 (u 53 1)) : CT con0 d 0 0 yX10_runs cX10_runs 5 (some .int) [.ref 0, .int hill, .int plan, .int pond] (Wd u g ex) (fun r h2 => ∃ (z : Int32) (u2 : Nat → Nat → Int32), r = some (.int z) ∧ h2 = Wd u2 g ex ∧ Bd 0 9 (u2 44 0) ∧ Bd 0 4 (u2 44 2) ∧ AB u2 45 (-1) 999 ∧ Bd 0 9 (u2 53 0) ∧ Bd 0 511 (u2 53 1) ∧ (∀ c, nin c [(43, 48), (53, 55)] = true → u2 c = u c) ∧ (∀ j, j ≠ 1 → j ≠ 2 → j ≠ 3 → u2 43 j = u 43 j) ∧ (∀ j, j ≠ 0 → j ≠ 2 → u2 44 j = u 44 j) ∧ (∀ j, j ≠ 0 → j ≠ 1 → j ≠ 2 → j ≠ 3 → j ≠ 4 → u2 53 j = u 53 j)) := by
  refine CT_of (by decide) (Nat.le_of_ble_eq_true rfl) (fun x hq => ?_)
  show J x yX10_runs cX10_runs 5 (some .int) d 0 0 (Wd u g ex).length 0 [(0, .ref 0), (1, .int hill), (2, .int plan), (3, .int pond)] [] (Wd u g ex) 0 0
  refine J_aload_n (i := 0) (j := 0) dX10_runs_0 rfl rfl ?_
  refine J_iload_n (i := 1) (j := 1) dX10_runs_1 rfl rfl ?_
  refine J_iload_n (i := 2) (j := 2) dX10_runs_2 rfl rfl ?_
  refine J_iload_n (i := 3) (j := 3) dX10_runs_3 rfl rfl ?_
  refine J_callV (As := [.int hill, .int plan, .int pond]) (rest := []) dX10_runs_4 (c_P_hasPond (d := 5) (u := u) (g := g) (ex := ex) (hill := hill) (plan := plan) (pond := pond)  (by decide) hp0 hp1 hp2 hp3 hp4 hp5 hp6 hp7 hp8 hp9 hp10 hp11 hp12 hp13 hp14 hp15 hp16 hp17 hp18) hq.n k1005 k1007 k29 wc_0 rfl rfl k87 k1008 np_X10_hasPond (Nat.le_trans (by decide) hd) (by decide) (Nat.le_refl _) (Nat.le_refl _) wlen rfl (Nat.le_of_ble_eq_true rfl) (fun r_ h_ p1 => ?_)
  obtain ⟨t2, u3, rfl, rfl, h4, h5, h6, h7, fr8, fc9, fc10⟩ := p1
  refine J_ifB_ne (tgt := 12) dX10_runs_7 (by decide) (fun c11 => ?_) (fun c11 => ?_)
  · refine J_iconst (v := 0) dX10_runs_12 (by decide) ?_
    refine J_istore (i := 4) (lw := [(4, .int 0), (0, .ref 0), (1, .int hill), (2, .int plan), (3, .int pond)]) dX10_runs_13 (by decide) rfl ?_
    have lp85 : ∀ (n86 : Nat) (w69 : Int32) (u70 : Nat → Nat → Int32), Bd 0 10 w69 → (∀ c, nin c [(53, 55)] = true → u70 c = u3 c) → (∀ j, j ≠ 0 → j ≠ 1 → j ≠ 2 → j ≠ 3 → j ≠ 4 → u70 53 j = u3 53 j) → Bd 0 9 (u70 53 0) → Bd 0 511 (u70 53 1) → (10 - w69.toInt).toNat < n86 → J x yX10_runs cX10_runs 5 (some .int) d 0 0 (Wd u g ex).length 15 [(0, .ref 0), (3, .int pond), (4, .int w69)] [] (Wd u70 g ex) 0 0 := by
      intro n86
      induction n86 with
      | zero => intro w69 u70 bw69 fr71 fc72 bm73 bm74 hm88; exact absurd hm88 (Nat.not_lt_zero _)
      | succ n86 ih87 =>
        intro w69 u70 bw69 fr71 fc72 bm73 bm74 hm88
        refine J_iload (i := 4) (j := 2) dX10_runs_15 rfl ?_
        refine J_bipush (v := 9) dX10_runs_17 (by decide) ?_
        refine J_icmp_gt (tgt := 63) dX10_runs_19 (by decide) (fun c89 => ?_) (fun c89 => ?_)
        · refine J_iconst (v := (-1)) dX10_runs_63 (by decide) ?_
          exact J_iret hq dX10_runs_64 rfl wlen (Nat.le_refl _) (Nat.le_refl _) ⟨((-1) : Int32), u70, rfl, rfl, (bd_r (congrFun (fr71 44 rfl) 0) h5), (bd_r (congrFun (fr71 44 rfl) 2) h6), (ab_c (fr71 45 rfl) h7), bm73, bm74, (fun c k_ => ((fr71 c (nin_sub (M := [(53, 55)]) k_ rfl)).trans (fr8 c (nin_sub (M := [(43, 48)]) k_ rfl)))), (fun j k1_ k2_ k3_ => ((congrFun (fr71 43 rfl) j).trans (fc9 j k1_ k2_ k3_))), (fun j k0_ k2_ => ((congrFun (fr71 44 rfl) j).trans (fc10 j k0_ k2_))), (fun j k0_ k1_ k2_ k3_ k4_ => ((fc72 j k0_ k1_ k2_ k3_ k4_).trans (congrFun (fr8 53 rfl) j)))⟩
        · refine J_aload_n (i := 0) (j := 0) dX10_runs_22 rfl rfl ?_
          refine J_get (C := RX10) (T := TX10) (Z := 10) (ci := 10) (f := 6) dX10_runs_23 inG10 rfl (by decide) k429 wc_0 rfl ?_
          refine J_aload_n (i := 0) (j := 0) dX10_runs_26 rfl rfl ?_
          refine J_get (C := RX10) (T := TX10) (Z := 10) (ci := 10) (f := 4) dX10_runs_27 inG10 rfl (by decide) k427 wc_0 rfl ?_
          refine J_getN (C := RX4) (T := TX4) (Z := 4) (ci := 4) (f := 0) dX10_runs_30 inG4 rfl (by decide) k295 wc_43 rfl ?_
          refine J_iload (i := 4) (j := 2) dX10_runs_33 rfl ?_
          refine J_iconst (v := 0) dX10_runs_35 (by decide) ?_
          refine J_iconst (v := (-1)) dX10_runs_36 (by decide) ?_
          refine J_callV (As := [.ref 44, .int w69, .int 0, .int (-1)]) (rest := []) dX10_runs_37 (c_S53_run (d := 2) (u := u70) (g := g) (ex := ex) (steps := w69) (banks := 0) (keeper := (-1)) (t := 44) (by decide) (by decide) (bd_r (congrFun (fr71 44 rfl) 0) h5) (bd_r (congrFun (fr71 44 rfl) 2) h6)) hq.n k805 k806 k807 wc_53 rfl rfl k94 k808 np_X5_run (Nat.le_trans (by decide) hd) (by decide) (Nat.le_refl _) (Nat.le_refl _) wlen rfl (Nat.le_of_ble_eq_true rfl) (fun r_ h_ p90 => ?_)
          obtain ⟨u91, rfl, rfl, h92, h93, fr94, fc95⟩ := p90
          refine J_aload_n (i := 0) (j := 0) dX10_runs_40 rfl rfl ?_
          refine J_get (C := RX10) (T := TX10) (Z := 10) (ci := 10) (f := 6) dX10_runs_41 inG10 rfl (by decide) k429 wc_0 rfl ?_
          refine J_getN (C := RX5) (T := TX5) (Z := 7) (ci := 5) (f := 1) dX10_runs_44 inG5 rfl (by decide) k323 wc_53 rfl ?_
          refine J_iload_n (i := 3) (j := 1) dX10_runs_47 rfl rfl ?_
          refine J_callS (As := [.int (u91 53 1), .int pond]) (rest := []) dX10_runs_48 (c_isIn (d := 0) (u := u91) (g := g) (ex := ex) (set := u91 53 1) (pond := pond)  (by decide) ) hq.n k927 k816 k87 k817 np_X10_isIn (Nat.le_trans (by decide) hd) (by decide) (Nat.le_refl _) (Nat.le_refl _) wlen rfl (Nat.le_of_ble_eq_true rfl) (fun r_ h_ p96 => ?_)
          obtain ⟨t97, rfl, rfl⟩ := p96
          refine J_ifB_eq (tgt := 57) dX10_runs_51 (by decide) (fun c98 => ?_) (fun c98 => ?_)
          · refine J_iinc (i := 4) (j := 2) (v := (w69 + 1)) (lw := [(4, .int (w69 + 1)), (0, .ref 0), (3, .int pond)]) dX10_runs_57 rfl rfl (by decide) rfl ?_
            refine J_goto (tgt := 15) dX10_runs_60 (by decide) ?_
            refine J_lv [1, 2, 0] rfl ?_
            exact ih87 (w69 + 1) u91 (bd_w (l := 0) (h := 10) (bd_add (l := 1) (h := 10) (bd_le_hi bw69 (i_nlt c89) (bd_c (v := 9) (lo := 9) (hi := 9) (by decide))) (bd_c (v := 1) (lo := 1) (hi := 1) (by decide)) (by decide)) (by decide)) (fun c k_ => ((fr94 c (nin_sub (M := [(53, 55)]) k_ rfl)).trans (fr71 c (nin_sub (M := [(53, 55)]) k_ rfl)))) (fun j k0_ k1_ k2_ k3_ k4_ => ((fc95 j k0_ k1_ k2_ k3_ k4_).trans (fc72 j k0_ k1_ k2_ k3_ k4_))) h92 h93 (mu_up 1 bw69 rfl (by decide) (bd_w (l := 1) (h := 10) (bd_add (l := 1) (h := 10) (bd_le_hi bw69 (i_nlt c89) (bd_c (v := 9) (lo := 9) (hi := 9) (by decide))) (bd_c (v := 1) (lo := 1) (hi := 1) (by decide)) (by decide)) (by decide)) hm88)
          · refine J_iload (i := 4) (j := 2) dX10_runs_54 rfl ?_
            exact J_iret hq dX10_runs_56 rfl wlen (Nat.le_refl _) (Nat.le_refl _) ⟨w69, u91, rfl, rfl, (bd_r ((congrFun (fr94 44 rfl) 0).trans (congrFun (fr71 44 rfl) 0)) h5), (bd_r ((congrFun (fr94 44 rfl) 2).trans (congrFun (fr71 44 rfl) 2)) h6), (ab_c ((fr94 45 rfl).trans (fr71 45 rfl)) h7), h92, h93, (fun c k_ => ((fr94 c (nin_sub (M := [(53, 55)]) k_ rfl)).trans ((fr71 c (nin_sub (M := [(53, 55)]) k_ rfl)).trans (fr8 c (nin_sub (M := [(43, 48)]) k_ rfl))))), (fun j k1_ k2_ k3_ => ((congrFun (fr94 43 rfl) j).trans ((congrFun (fr71 43 rfl) j).trans (fc9 j k1_ k2_ k3_)))), (fun j k0_ k2_ => ((congrFun (fr94 44 rfl) j).trans ((congrFun (fr71 44 rfl) j).trans (fc10 j k0_ k2_)))), (fun j k0_ k1_ k2_ k3_ k4_ => ((fc95 j k0_ k1_ k2_ k3_ k4_).trans ((fc72 j k0_ k1_ k2_ k3_ k4_).trans (congrFun (fr8 53 rfl) j))))⟩
    refine J_lv [1, 4, 0] rfl ?_
    exact lp85 _ (0 : Int32) u3 (bd_w (l := 0) (h := 10) (bd_c (v := 0) (lo := 0) (hi := 0) (by decide)) (by decide)) (fun c k_ => rfl) (fun j k0_ k1_ k2_ k3_ k4_ => rfl) (bd_r (congrFun (fr8 53 rfl) 0) hp19) (bd_r (congrFun (fr8 53 rfl) 1) hp20) (Nat.lt_succ_self _)
  · refine J_iconst (v := (-1)) dX10_runs_10 (by decide) ?_
    exact J_iret hq dX10_runs_11 rfl wlen (Nat.le_refl _) (Nat.le_refl _) ⟨((-1) : Int32), u3, rfl, rfl, h5, h6, h7, (bd_r (congrFun (fr8 53 rfl) 0) hp19), (bd_r (congrFun (fr8 53 rfl) 1) hp20), (fun c k_ => (fr8 c (nin_sub (M := [(43, 48)]) k_ rfl))), (fun j k1_ k2_ k3_ => (fc9 j k1_ k2_ k3_)), (fun j k0_ k2_ => (fc10 j k0_ k2_)), (fun j k0_ k1_ k2_ k3_ k4_ => (congrFun (fr8 53 rfl) j))⟩
set_option maxHeartbeats 4000000 in
set_option maxRecDepth 100000 in
theorem c_P_joint {d : Nat} {u : Nat → Nat → Int32} {g : Nat → Nat → Int64} {ex : List MC} {hill : Int32} {plan : Int32} {one : Int32} {other : Int32} (hd : 6 ≤ d) (hp0 : Bd 0 2 (u 1 5)) (hp1 : Bd 0 3 (u 1 7)) (hp2 : Bd 0 9 (u 44 0)) (hp3 : Bd 0 4 (u 44 2)) (hp4 : Bd 0 9 (u 5 0)) (hp5 : Bd 0 4 (u 5 2)) (hp6 : Bd 0 9 (u 10 0)) (hp7 : Bd 0 4 (u 10 2)) (hp8 : Bd 0 12 (u 15 0)) (hp9 : Bd 0 12 (u 19 0)) (hp10 : Bd 0 12 (u 23 0)) (hp11 : Bd 0 12 (u 49 0)) (hp12 : AB u 45 (-1) 999) (hp13 : AB u 6 (-1) 999) (hp14 : AB u 11 (-1) 999) (hp15 : (KM u 15)) (hp16 : (KM u 19)) (hp17 : (KM u 23)) (hp18 : (KM u 49)) (hp19 : Bd 0 9 (u 61 0)) (hp20 : Bd 0 4 (u 61 2)) (hp21 : AB u 66 0 511) : CT con0 d 0 0 yX10_joint cX10_joint 5 (some .long) [.ref 0, .int hill, .int plan, .int one, .int other] (Wd u g ex) (fun r h2 => ∃ (z : Int64) (u2 : Nat → Nat → Int32) (g2 : Nat → Nat → Int64), r = some (.long z) ∧ h2 = Wd u2 g2 ex ∧ Bd 0 9 (u2 44 0) ∧ Bd 0 4 (u2 44 2) ∧ AB u2 45 (-1) 999 ∧ Bd 0 9 (u2 61 0) ∧ Bd 0 4 (u2 61 2) ∧ AB u2 66 0 511 ∧ (∀ c, nin c [(43, 48), (58, 67)] = true → u2 c = u c) ∧ (∀ j, j ≠ 1 → j ≠ 2 → j ≠ 3 → u2 43 j = u 43 j) ∧ (∀ j, j ≠ 0 → j ≠ 2 → u2 44 j = u 44 j) ∧ (∀ j, j ≠ 0 → j ≠ 1 → j ≠ 2 → j ≠ 3 → j ≠ 4 → u2 58 j = u 58 j) ∧ (∀ j, j ≠ 0 → j ≠ 2 → u2 61 j = u 61 j)) := by
  refine CT_of (by decide) (Nat.le_of_ble_eq_true rfl) (fun x hq => ?_)
  show J x yX10_joint cX10_joint 5 (some .long) d 0 0 (Wd u g ex).length 0 [(0, .ref 0), (1, .int hill), (2, .int plan), (3, .int one), (4, .int other)] [] (Wd u g ex) 0 0
  refine J_aload_n (i := 0) (j := 0) dX10_joint_0 rfl rfl ?_
  refine J_iload_n (i := 1) (j := 1) dX10_joint_1 rfl rfl ?_
  refine J_iload_n (i := 2) (j := 2) dX10_joint_2 rfl rfl ?_
  refine J_callV (As := [.int hill, .int plan]) (rest := []) dX10_joint_3 (c_P_looks (d := 5) (u := u) (g := g) (ex := ex) (hill := hill) (plan := plan)  (by decide) hp0 hp1 hp2 hp3 hp4 hp5 hp6 hp7 hp8 hp9 hp10 hp11 hp12 hp13 hp14 hp15 hp16 hp17 hp18 hp21 hp19 hp20) hq.n k852 k854 k23 wc_0 rfl rfl k87 k855 np_X10_looks (Nat.le_trans (by decide) hd) (by decide) (Nat.le_refl _) (Nat.le_refl _) wlen rfl (Nat.le_of_ble_eq_true rfl) (fun r_ h_ p1 => ?_)
  obtain ⟨t2, u3, g4, rfl, rfl, h5, h6, h7, h8, h9, h10, fr11, fc12, fc13, fc14, fc15⟩ := p1
  refine J_ifB_eq (tgt := 38) dX10_joint_6 (by decide) (fun c16 => ?_) (fun c16 => ?_)
  · refine J_ldc2 (v := (-1)) dX10_joint_38 k877 ?_
    exact J_lret hq dX10_joint_41 rfl wlen (Nat.le_refl _) (Nat.le_refl _) ⟨((-1) : Int64), u3, g4, rfl, rfl, h5, h6, h7, h8, h9, h10, (fun c k_ => (fr11 c (nin_sub (M := [(43, 48), (58, 67)]) k_ rfl))), (fun j k1_ k2_ k3_ => (fc12 j k1_ k2_ k3_)), (fun j k0_ k2_ => (fc13 j k0_ k2_)), (fun j k0_ k1_ k2_ k3_ k4_ => (fc14 j k0_ k1_ k2_ k3_ k4_)), (fun j k0_ k2_ => (fc15 j k0_ k2_))⟩
  · refine J_aload_n (i := 0) (j := 0) dX10_joint_9 rfl rfl ?_
    refine J_get (C := RX10) (T := TX10) (Z := 10) (ci := 10) (f := 4) dX10_joint_10 inG10 rfl (by decide) k427 wc_0 rfl ?_
    refine J_getN (C := RX4) (T := TX4) (Z := 4) (ci := 4) (f := 0) dX10_joint_13 inG4 rfl (by decide) k295 wc_43 rfl ?_
    refine J_iload_n (i := 3) (j := 3) dX10_joint_16 rfl rfl ?_
    refine J_callV (As := [.int one]) (rest := []) dX10_joint_17 (c_H_has (d := 0) (u := u3) (g := g4) (ex := ex) (pond := one) (t := 44) (by decide) (by decide) h5 h6) hq.n k774 k741 k742 wc_44 rfl rfl k89 k743 np_X1_has (Nat.le_trans (by decide) hd) (by decide) (Nat.le_refl _) (Nat.le_refl _) wlen rfl (Nat.le_of_ble_eq_true rfl) (fun r_ h_ p17 => ?_)
    obtain ⟨t18, rfl, rfl, h19⟩ := p17
    refine J_ifB_eq (tgt := 38) dX10_joint_20 (by decide) (fun c20 => ?_) (fun c20 => ?_)
    · refine J_ldc2 (v := (-1)) dX10_joint_38 k877 ?_
      exact J_lret hq dX10_joint_41 rfl wlen (Nat.le_refl _) (Nat.le_refl _) ⟨((-1) : Int64), u3, g4, rfl, rfl, h5, h6, h7, h8, h9, h10, (fun c k_ => (fr11 c (nin_sub (M := [(43, 48), (58, 67)]) k_ rfl))), (fun j k1_ k2_ k3_ => (fc12 j k1_ k2_ k3_)), (fun j k0_ k2_ => (fc13 j k0_ k2_)), (fun j k0_ k1_ k2_ k3_ k4_ => (fc14 j k0_ k1_ k2_ k3_ k4_)), (fun j k0_ k2_ => (fc15 j k0_ k2_))⟩
    · refine J_aload_n (i := 0) (j := 0) dX10_joint_23 rfl rfl ?_
      refine J_get (C := RX10) (T := TX10) (Z := 10) (ci := 10) (f := 4) dX10_joint_24 inG10 rfl (by decide) k427 wc_0 rfl ?_
      refine J_getN (C := RX4) (T := TX4) (Z := 4) (ci := 4) (f := 0) dX10_joint_27 inG4 rfl (by decide) k295 wc_43 rfl ?_
      refine J_iload (i := 4) (j := 4) dX10_joint_30 rfl ?_
      refine J_callV (As := [.int other]) (rest := []) dX10_joint_32 (c_H_has (d := 0) (u := u3) (g := g4) (ex := ex) (pond := other) (t := 44) (by decide) (by decide) h5 h6) hq.n k774 k741 k742 wc_44 rfl rfl k89 k743 np_X1_has (Nat.le_trans (by decide) hd) (by decide) (Nat.le_refl _) (Nat.le_refl _) wlen rfl (Nat.le_of_ble_eq_true rfl) (fun r_ h_ p21 => ?_)
      obtain ⟨t22, rfl, rfl, h23⟩ := p21
      refine J_ifB_ne (tgt := 42) dX10_joint_35 (by decide) (fun c24 => ?_) (fun c24 => ?_)
      · refine J_aload_n (i := 0) (j := 0) dX10_joint_42 rfl rfl ?_
        refine J_get (C := RX10) (T := TX10) (Z := 10) (ci := 10) (f := 8) dX10_joint_43 inG10 rfl (by decide) k431 wc_0 rfl ?_
        refine J_iload_n (i := 3) (j := 3) dX10_joint_46 rfl rfl ?_
        refine J_callS (As := [.int one]) (rest := [.ref 57]) dX10_joint_47 (c_bit9 (d := 0) (u := u3) (g := g4) (ex := ex) (pond := one)  (by decide) (bd_w (l := (-1)) (h := 8) (h19 c20) (by decide))) hq.n k878 k819 k87 k820 np_X10_bit (Nat.le_trans (by decide) hd) (by decide) (Nat.le_refl _) (Nat.le_refl _) wlen rfl (Nat.le_of_ble_eq_true rfl) (fun r_ h_ p25 => ?_)
        obtain ⟨v26, rfl, rfl, h27⟩ := p25
        refine J_iload (i := 4) (j := 4) dX10_joint_50 rfl ?_
        refine J_callS (As := [.int other]) (rest := [.int v26, .ref 57]) dX10_joint_52 (c_bit9 (d := 0) (u := u3) (g := g4) (ex := ex) (pond := other)  (by decide) (bd_w (l := (-1)) (h := 8) (h23 c24) (by decide))) hq.n k878 k819 k87 k820 np_X10_bit (Nat.le_trans (by decide) hd) (by decide) (Nat.le_refl _) (Nat.le_refl _) wlen rfl (Nat.le_of_ble_eq_true rfl) (fun r_ h_ p28 => ?_)
        obtain ⟨v29, rfl, rfl, h30⟩ := p28
        refine J_ior dX10_joint_55 ?_
        refine J_callV (As := [.int (v26 ||| v29)]) (rest := []) dX10_joint_56 (c_O_partsOf (d := 2) (u := u3) (g := g4) (ex := ex) (set := (v26 ||| v29))  (by decide) h8 h9 h10) hq.n k879 k880 k881 wc_57 rfl rfl k96 k882 np_X2_partsOf (Nat.le_trans (by decide) hd) (by decide) (Nat.le_refl _) (Nat.le_refl _) wlen rfl (Nat.le_of_ble_eq_true rfl) (fun r_ h_ p31 => ?_)
        obtain ⟨l32, rfl, rfl⟩ := p31
        exact J_lret hq dX10_joint_59 rfl wlen (Nat.le_refl _) (Nat.le_refl _) ⟨l32, u3, g4, rfl, rfl, h5, h6, h7, h8, h9, h10, (fun c k_ => (fr11 c (nin_sub (M := [(43, 48), (58, 67)]) k_ rfl))), (fun j k1_ k2_ k3_ => (fc12 j k1_ k2_ k3_)), (fun j k0_ k2_ => (fc13 j k0_ k2_)), (fun j k0_ k1_ k2_ k3_ k4_ => (fc14 j k0_ k1_ k2_ k3_ k4_)), (fun j k0_ k2_ => (fc15 j k0_ k2_))⟩
      · refine J_ldc2 (v := (-1)) dX10_joint_38 k877 ?_
        exact J_lret hq dX10_joint_41 rfl wlen (Nat.le_refl _) (Nat.le_refl _) ⟨((-1) : Int64), u3, g4, rfl, rfl, h5, h6, h7, h8, h9, h10, (fun c k_ => (fr11 c (nin_sub (M := [(43, 48), (58, 67)]) k_ rfl))), (fun j k1_ k2_ k3_ => (fc12 j k1_ k2_ k3_)), (fun j k0_ k2_ => (fc13 j k0_ k2_)), (fun j k0_ k1_ k2_ k3_ k4_ => (fc14 j k0_ k1_ k2_ k3_ k4_)), (fun j k0_ k2_ => (fc15 j k0_ k2_))⟩
set_option maxHeartbeats 4000000 in
set_option maxRecDepth 100000 in
theorem c_P_given {d : Nat} {u : Nat → Nat → Int32} {g : Nat → Nat → Int64} {ex : List MC} {hill : Int32} {plan : Int32} {one : Int32} {other : Int32} {under : Int32} (hd : 6 ≤ d) (hp0 : Bd 0 2 (u 1 5)) (hp1 : Bd 0 3 (u 1 7)) (hp2 : Bd 0 9 (u 44 0)) (hp3 : Bd 0 4 (u 44 2)) (hp4 : Bd 0 9 (u 5 0)) (hp5 : Bd 0 4 (u 5 2)) (hp6 : Bd 0 9 (u 10 0)) (hp7 : Bd 0 4 (u 10 2)) (hp8 : Bd 0 12 (u 15 0)) (hp9 : Bd 0 12 (u 19 0)) (hp10 : Bd 0 12 (u 23 0)) (hp11 : Bd 0 12 (u 49 0)) (hp12 : AB u 45 (-1) 999) (hp13 : AB u 6 (-1) 999) (hp14 : AB u 11 (-1) 999) (hp15 : (KM u 15)) (hp16 : (KM u 19)) (hp17 : (KM u 23)) (hp18 : (KM u 49)) (hp19 : Bd 0 9 (u 61 0)) (hp20 : Bd 0 4 (u 61 2)) (hp21 : AB u 66 0 511) : CT con0 d 0 0 yX10_given cX10_given 8 (some .long) [.ref 0, .int hill, .int plan, .int one, .int other, .int under] (Wd u g ex) (fun r h2 => ∃ (z : Int64) (u2 : Nat → Nat → Int32) (g2 : Nat → Nat → Int64), r = some (.long z) ∧ h2 = Wd u2 g2 ex ∧ Bd 0 9 (u2 44 0) ∧ Bd 0 4 (u2 44 2) ∧ AB u2 45 (-1) 999 ∧ Bd 0 9 (u2 61 0) ∧ Bd 0 4 (u2 61 2) ∧ AB u2 66 0 511 ∧ (∀ c, nin c [(43, 48), (58, 67)] = true → u2 c = u c) ∧ (∀ j, j ≠ 1 → j ≠ 2 → j ≠ 3 → u2 43 j = u 43 j) ∧ (∀ j, j ≠ 0 → j ≠ 2 → u2 44 j = u 44 j) ∧ (∀ j, j ≠ 0 → j ≠ 1 → j ≠ 2 → j ≠ 3 → j ≠ 4 → u2 58 j = u 58 j) ∧ (∀ j, j ≠ 0 → j ≠ 2 → u2 61 j = u 61 j)) := by
  refine CT_of (by decide) (Nat.le_of_ble_eq_true rfl) (fun x hq => ?_)
  show J x yX10_given cX10_given 8 (some .long) d 0 0 (Wd u g ex).length 0 [(0, .ref 0), (1, .int hill), (2, .int plan), (3, .int one), (4, .int other), (5, .int under)] [] (Wd u g ex) 0 0
  refine J_aload_n (i := 0) (j := 0) dX10_given_0 rfl rfl ?_
  refine J_iload_n (i := 1) (j := 1) dX10_given_1 rfl rfl ?_
  refine J_iload_n (i := 2) (j := 2) dX10_given_2 rfl rfl ?_
  refine J_callV (As := [.int hill, .int plan]) (rest := []) dX10_given_3 (c_P_looks (d := 5) (u := u) (g := g) (ex := ex) (hill := hill) (plan := plan)  (by decide) hp0 hp1 hp2 hp3 hp4 hp5 hp6 hp7 hp8 hp9 hp10 hp11 hp12 hp13 hp14 hp15 hp16 hp17 hp18 hp21 hp19 hp20) hq.n k852 k854 k23 wc_0 rfl rfl k87 k855 np_X10_looks (Nat.le_trans (by decide) hd) (by decide) (Nat.le_refl _) (Nat.le_refl _) wlen rfl (Nat.le_of_ble_eq_true rfl) (fun r_ h_ p1 => ?_)
  obtain ⟨t2, u3, g4, rfl, rfl, h5, h6, h7, h8, h9, h10, fr11, fc12, fc13, fc14, fc15⟩ := p1
  refine J_ifB_eq (tgt := 38) dX10_given_6 (by decide) (fun c16 => ?_) (fun c16 => ?_)
  · refine J_ldc2 (v := (-1)) dX10_given_38 k877 ?_
    exact J_lret hq dX10_given_41 rfl wlen (Nat.le_refl _) (Nat.le_refl _) ⟨((-1) : Int64), u3, g4, rfl, rfl, h5, h6, h7, h8, h9, h10, (fun c k_ => (fr11 c (nin_sub (M := [(43, 48), (58, 67)]) k_ rfl))), (fun j k1_ k2_ k3_ => (fc12 j k1_ k2_ k3_)), (fun j k0_ k2_ => (fc13 j k0_ k2_)), (fun j k0_ k1_ k2_ k3_ k4_ => (fc14 j k0_ k1_ k2_ k3_ k4_)), (fun j k0_ k2_ => (fc15 j k0_ k2_))⟩
  · refine J_aload_n (i := 0) (j := 0) dX10_given_9 rfl rfl ?_
    refine J_get (C := RX10) (T := TX10) (Z := 10) (ci := 10) (f := 4) dX10_given_10 inG10 rfl (by decide) k427 wc_0 rfl ?_
    refine J_getN (C := RX4) (T := TX4) (Z := 4) (ci := 4) (f := 0) dX10_given_13 inG4 rfl (by decide) k295 wc_43 rfl ?_
    refine J_iload_n (i := 3) (j := 3) dX10_given_16 rfl rfl ?_
    refine J_callV (As := [.int one]) (rest := []) dX10_given_17 (c_H_has (d := 0) (u := u3) (g := g4) (ex := ex) (pond := one) (t := 44) (by decide) (by decide) h5 h6) hq.n k774 k741 k742 wc_44 rfl rfl k89 k743 np_X1_has (Nat.le_trans (by decide) hd) (by decide) (Nat.le_refl _) (Nat.le_refl _) wlen rfl (Nat.le_of_ble_eq_true rfl) (fun r_ h_ p17 => ?_)
    obtain ⟨t18, rfl, rfl, h19⟩ := p17
    refine J_ifB_eq (tgt := 38) dX10_given_20 (by decide) (fun c20 => ?_) (fun c20 => ?_)
    · refine J_ldc2 (v := (-1)) dX10_given_38 k877 ?_
      exact J_lret hq dX10_given_41 rfl wlen (Nat.le_refl _) (Nat.le_refl _) ⟨((-1) : Int64), u3, g4, rfl, rfl, h5, h6, h7, h8, h9, h10, (fun c k_ => (fr11 c (nin_sub (M := [(43, 48), (58, 67)]) k_ rfl))), (fun j k1_ k2_ k3_ => (fc12 j k1_ k2_ k3_)), (fun j k0_ k2_ => (fc13 j k0_ k2_)), (fun j k0_ k1_ k2_ k3_ k4_ => (fc14 j k0_ k1_ k2_ k3_ k4_)), (fun j k0_ k2_ => (fc15 j k0_ k2_))⟩
    · refine J_aload_n (i := 0) (j := 0) dX10_given_23 rfl rfl ?_
      refine J_get (C := RX10) (T := TX10) (Z := 10) (ci := 10) (f := 4) dX10_given_24 inG10 rfl (by decide) k427 wc_0 rfl ?_
      refine J_getN (C := RX4) (T := TX4) (Z := 4) (ci := 4) (f := 0) dX10_given_27 inG4 rfl (by decide) k295 wc_43 rfl ?_
      refine J_iload (i := 4) (j := 4) dX10_given_30 rfl ?_
      refine J_callV (As := [.int other]) (rest := []) dX10_given_32 (c_H_has (d := 0) (u := u3) (g := g4) (ex := ex) (pond := other) (t := 44) (by decide) (by decide) h5 h6) hq.n k774 k741 k742 wc_44 rfl rfl k89 k743 np_X1_has (Nat.le_trans (by decide) hd) (by decide) (Nat.le_refl _) (Nat.le_refl _) wlen rfl (Nat.le_of_ble_eq_true rfl) (fun r_ h_ p21 => ?_)
      obtain ⟨t22, rfl, rfl, h23⟩ := p21
      refine J_ifB_ne (tgt := 42) dX10_given_35 (by decide) (fun c24 => ?_) (fun c24 => ?_)
      · refine J_aload_n (i := 0) (j := 0) dX10_given_42 rfl rfl ?_
        refine J_get (C := RX10) (T := TX10) (Z := 10) (ci := 10) (f := 8) dX10_given_43 inG10 rfl (by decide) k431 wc_0 rfl ?_
        refine J_iload_n (i := 3) (j := 3) dX10_given_46 rfl rfl ?_
        refine J_callS (As := [.int one]) (rest := [.ref 57]) dX10_given_47 (c_bit9 (d := 0) (u := u3) (g := g4) (ex := ex) (pond := one)  (by decide) (bd_w (l := (-1)) (h := 8) (h19 c20) (by decide))) hq.n k878 k819 k87 k820 np_X10_bit (Nat.le_trans (by decide) hd) (by decide) (Nat.le_refl _) (Nat.le_refl _) wlen rfl (Nat.le_of_ble_eq_true rfl) (fun r_ h_ p25 => ?_)
        obtain ⟨v26, rfl, rfl, h27⟩ := p25
        refine J_callV (As := [.int v26]) (rest := []) dX10_given_50 (c_O_partsOf (d := 2) (u := u3) (g := g4) (ex := ex) (set := v26)  (by decide) h8 h9 h10) hq.n k879 k880 k881 wc_57 rfl rfl k96 k882 np_X2_partsOf (Nat.le_trans (by decide) hd) (by decide) (Nat.le_refl _) (Nat.le_refl _) wlen rfl (Nat.le_of_ble_eq_true rfl) (fun r_ h_ p28 => ?_)
        obtain ⟨l29, rfl, rfl⟩ := p28
        refine J_lstore (i := 6) (lw := [(6, .long l29), (0, .ref 0), (1, .int hill), (2, .int plan), (3, .int one), (4, .int other), (5, .int under)]) dX10_given_53 (by decide) rfl ?_
        refine J_lload (i := 6) (j := 0) dX10_given_55 rfl ?_
        refine J_lconst (v := 0) dX10_given_57 (by decide) ?_
        refine J_lcmp dX10_given_58 ?_
        refine J_if_ne (tgt := 66) dX10_given_59 (by decide) (fun c30 => ?_) (fun c30 => ?_)
        · refine J_aload_n (i := 0) (j := 1) dX10_given_66 rfl rfl ?_
          refine J_get (C := RX10) (T := TX10) (Z := 10) (ci := 10) (f := 8) dX10_given_67 inG10 rfl (by decide) k431 wc_0 rfl ?_
          refine J_iload_n (i := 3) (j := 4) dX10_given_70 rfl rfl ?_
          refine J_callS (As := [.int one]) (rest := [.ref 57]) dX10_given_71 (c_bit9 (d := 0) (u := u3) (g := g4) (ex := ex) (pond := one)  (by decide) (bd_w (l := (-1)) (h := 8) (h19 c20) (by decide))) hq.n k878 k819 k87 k820 np_X10_bit (Nat.le_trans (by decide) hd) (by decide) (Nat.le_refl _) (Nat.le_refl _) wlen rfl (Nat.le_of_ble_eq_true rfl) (fun r_ h_ p31 => ?_)
          obtain ⟨v32, rfl, rfl, h33⟩ := p31
          refine J_iload (i := 4) (j := 5) dX10_given_74 rfl ?_
          refine J_callS (As := [.int other]) (rest := [.int v32, .ref 57]) dX10_given_76 (c_bit9 (d := 0) (u := u3) (g := g4) (ex := ex) (pond := other)  (by decide) (bd_w (l := (-1)) (h := 8) (h23 c24) (by decide))) hq.n k878 k819 k87 k820 np_X10_bit (Nat.le_trans (by decide) hd) (by decide) (Nat.le_refl _) (Nat.le_refl _) wlen rfl (Nat.le_of_ble_eq_true rfl) (fun r_ h_ p34 => ?_)
          obtain ⟨v35, rfl, rfl, h36⟩ := p34
          refine J_ior dX10_given_79 ?_
          refine J_callV (As := [.int (v32 ||| v35)]) (rest := []) dX10_given_80 (c_O_partsOf (d := 2) (u := u3) (g := g4) (ex := ex) (set := (v32 ||| v35))  (by decide) h8 h9 h10) hq.n k879 k880 k881 wc_57 rfl rfl k96 k882 np_X2_partsOf (Nat.le_trans (by decide) hd) (by decide) (Nat.le_refl _) (Nat.le_refl _) wlen rfl (Nat.le_of_ble_eq_true rfl) (fun r_ h_ p37 => ?_)
          obtain ⟨l38, rfl, rfl⟩ := p37
          refine J_lload (i := 6) (j := 0) dX10_given_83 rfl ?_
          refine J_iload (i := 5) (j := 6) dX10_given_85 rfl ?_
          refine J_callS (As := [.long l38, .long l29, .int under]) (rest := []) dX10_given_87 (c_P_inLeastTerms (d := 2) (u := u3) (g := g4) (ex := ex) (above := l38) (below := l29) (under := under)  (by decide) ) hq.n k1083 k1084 k87 k1085 np_X10_inLeastTerms (Nat.le_trans (by decide) hd) (by decide) (Nat.le_refl _) (Nat.le_refl _) wlen rfl (Nat.le_of_ble_eq_true rfl) (fun r_ h_ p39 => ?_)
          obtain ⟨l40, rfl, rfl⟩ := p39
          exact J_lret hq dX10_given_90 rfl wlen (Nat.le_refl _) (Nat.le_refl _) ⟨l40, u3, g4, rfl, rfl, h5, h6, h7, h8, h9, h10, (fun c k_ => (fr11 c (nin_sub (M := [(43, 48), (58, 67)]) k_ rfl))), (fun j k1_ k2_ k3_ => (fc12 j k1_ k2_ k3_)), (fun j k0_ k2_ => (fc13 j k0_ k2_)), (fun j k0_ k1_ k2_ k3_ k4_ => (fc14 j k0_ k1_ k2_ k3_ k4_)), (fun j k0_ k2_ => (fc15 j k0_ k2_))⟩
        · refine J_ldc2 (v := (-1)) dX10_given_62 k877 ?_
          exact J_lret hq dX10_given_65 rfl wlen (Nat.le_refl _) (Nat.le_refl _) ⟨((-1) : Int64), u3, g4, rfl, rfl, h5, h6, h7, h8, h9, h10, (fun c k_ => (fr11 c (nin_sub (M := [(43, 48), (58, 67)]) k_ rfl))), (fun j k1_ k2_ k3_ => (fc12 j k1_ k2_ k3_)), (fun j k0_ k2_ => (fc13 j k0_ k2_)), (fun j k0_ k1_ k2_ k3_ k4_ => (fc14 j k0_ k1_ k2_ k3_ k4_)), (fun j k0_ k2_ => (fc15 j k0_ k2_))⟩
      · refine J_ldc2 (v := (-1)) dX10_given_38 k877 ?_
        exact J_lret hq dX10_given_41 rfl wlen (Nat.le_refl _) (Nat.le_refl _) ⟨((-1) : Int64), u3, g4, rfl, rfl, h5, h6, h7, h8, h9, h10, (fun c k_ => (fr11 c (nin_sub (M := [(43, 48), (58, 67)]) k_ rfl))), (fun j k1_ k2_ k3_ => (fc12 j k1_ k2_ k3_)), (fun j k0_ k2_ => (fc13 j k0_ k2_)), (fun j k0_ k1_ k2_ k3_ k4_ => (fc14 j k0_ k1_ k2_ k3_ k4_)), (fun j k0_ k2_ => (fc15 j k0_ k2_))⟩
set_option maxHeartbeats 4000000 in
set_option maxRecDepth 100000 in
theorem c_P_worst {d : Nat} {u : Nat → Nat → Int32} {g : Nat → Nat → Int64} {ex : List MC} {hill : Int32} {plan : Int32} {what : Int32} (hd : 6 ≤ d) (hp0 : Bd 0 2 (u 1 5)) (hp1 : Bd 0 3 (u 1 7)) (hp2 : Bd 0 9 (u 44 0)) (hp3 : Bd 0 4 (u 44 2)) (hp4 : Bd 0 9 (u 5 0)) (hp5 : Bd 0 4 (u 5 2)) (hp6 : Bd 0 9 (u 10 0)) (hp7 : Bd 0 4 (u 10 2)) (hp8 : Bd 0 12 (u 15 0)) (hp9 : Bd 0 12 (u 19 0)) (hp10 : Bd 0 12 (u 23 0)) (hp11 : Bd 0 12 (u 49 0)) (hp12 : AB u 45 (-1) 999) (hp13 : AB u 6 (-1) 999) (hp14 : AB u 11 (-1) 999) (hp15 : (KM u 15)) (hp16 : (KM u 19)) (hp17 : (KM u 23)) (hp18 : (KM u 49)) (hp19 : Bd 0 9 (u 61 0)) (hp20 : Bd 0 4 (u 61 2)) (hp21 : AB u 66 0 511) : CT con0 d 0 0 yX10_worst cX10_worst 4 (some .long) [.ref 0, .int hill, .int plan, .int what] (Wd u g ex) (fun r h2 => ∃ (z : Int64) (u2 : Nat → Nat → Int32) (g2 : Nat → Nat → Int64), r = some (.long z) ∧ h2 = Wd u2 g2 ex ∧ Bd 0 9 (u2 44 0) ∧ Bd 0 4 (u2 44 2) ∧ AB u2 45 (-1) 999 ∧ Bd 0 9 (u2 61 0) ∧ Bd 0 4 (u2 61 2) ∧ AB u2 66 0 511 ∧ (∀ c, nin c [(43, 48), (58, 67)] = true → u2 c = u c) ∧ (∀ j, j ≠ 1 → j ≠ 2 → j ≠ 3 → u2 43 j = u 43 j) ∧ (∀ j, j ≠ 0 → j ≠ 2 → u2 44 j = u 44 j) ∧ (∀ j, j ≠ 0 → j ≠ 1 → j ≠ 2 → j ≠ 3 → j ≠ 4 → u2 58 j = u 58 j) ∧ (∀ j, j ≠ 0 → j ≠ 2 → u2 61 j = u 61 j)) := by
  refine CT_of (by decide) (Nat.le_of_ble_eq_true rfl) (fun x hq => ?_)
  show J x yX10_worst cX10_worst 4 (some .long) d 0 0 (Wd u g ex).length 0 [(0, .ref 0), (1, .int hill), (2, .int plan), (3, .int what)] [] (Wd u g ex) 0 0
  refine J_aload_n (i := 0) (j := 0) dX10_worst_0 rfl rfl ?_
  refine J_iload_n (i := 1) (j := 1) dX10_worst_1 rfl rfl ?_
  refine J_iload_n (i := 2) (j := 2) dX10_worst_2 rfl rfl ?_
  refine J_callV (As := [.int hill, .int plan]) (rest := []) dX10_worst_3 (c_P_looks (d := 5) (u := u) (g := g) (ex := ex) (hill := hill) (plan := plan)  (by decide) hp0 hp1 hp2 hp3 hp4 hp5 hp6 hp7 hp8 hp9 hp10 hp11 hp12 hp13 hp14 hp15 hp16 hp17 hp18 hp21 hp19 hp20) hq.n k852 k854 k23 wc_0 rfl rfl k87 k855 np_X10_looks (Nat.le_trans (by decide) hd) (by decide) (Nat.le_refl _) (Nat.le_refl _) wlen rfl (Nat.le_of_ble_eq_true rfl) (fun r_ h_ p1 => ?_)
  obtain ⟨t2, u3, g4, rfl, rfl, h5, h6, h7, h8, h9, h10, fr11, fc12, fc13, fc14, fc15⟩ := p1
  refine J_ifB_eq (tgt := 20) dX10_worst_6 (by decide) (fun c16 => ?_) (fun c16 => ?_)
  · refine J_ldc2 (v := (-1)) dX10_worst_20 k877 ?_
    exact J_lret hq dX10_worst_23 rfl wlen (Nat.le_refl _) (Nat.le_refl _) ⟨((-1) : Int64), u3, g4, rfl, rfl, h5, h6, h7, h8, h9, h10, (fun c k_ => (fr11 c (nin_sub (M := [(43, 48), (58, 67)]) k_ rfl))), (fun j k1_ k2_ k3_ => (fc12 j k1_ k2_ k3_)), (fun j k0_ k2_ => (fc13 j k0_ k2_)), (fun j k0_ k1_ k2_ k3_ k4_ => (fc14 j k0_ k1_ k2_ k3_ k4_)), (fun j k0_ k2_ => (fc15 j k0_ k2_))⟩
  · refine J_aload_n (i := 0) (j := 0) dX10_worst_9 rfl rfl ?_
    refine J_get (C := RX10) (T := TX10) (Z := 10) (ci := 10) (f := 8) dX10_worst_10 inG10 rfl (by decide) k431 wc_0 rfl ?_
    refine J_iload_n (i := 3) (j := 3) dX10_worst_13 rfl rfl ?_
    refine J_callV (As := [.int what]) (rest := []) dX10_worst_14 (c_O_worstTold (d := 2) (u := u3) (g := g4) (ex := ex) (what := what)  (by decide) h8 h9 h10) hq.n k1194 k1195 k1196 wc_57 rfl rfl k96 k1197 np_X2_worstTold (Nat.le_trans (by decide) hd) (by decide) (Nat.le_refl _) (Nat.le_refl _) wlen rfl (Nat.le_of_ble_eq_true rfl) (fun r_ h_ p17 => ?_)
    obtain ⟨l18, rfl, rfl⟩ := p17
    refine J_goto (tgt := 23) dX10_worst_17 (by decide) ?_
    exact J_lret hq dX10_worst_23 rfl wlen (Nat.le_refl _) (Nat.le_refl _) ⟨l18, u3, g4, rfl, rfl, h5, h6, h7, h8, h9, h10, (fun c k_ => (fr11 c (nin_sub (M := [(43, 48), (58, 67)]) k_ rfl))), (fun j k1_ k2_ k3_ => (fc12 j k1_ k2_ k3_)), (fun j k0_ k2_ => (fc13 j k0_ k2_)), (fun j k0_ k1_ k2_ k3_ k4_ => (fc14 j k0_ k1_ k2_ k3_ k4_)), (fun j k0_ k2_ => (fc15 j k0_ k2_))⟩
set_option maxHeartbeats 4000000 in
set_option maxRecDepth 100000 in
theorem c_P_flood {d : Nat} {u : Nat → Nat → Int32} {g : Nat → Nat → Int64} {ex : List MC} {hill : Int32} {plan : Int32} (hd : 6 ≤ d) (hp0 : Bd 0 2 (u 1 5)) (hp1 : Bd 0 3 (u 1 7)) (hp2 : Bd 0 9 (u 44 0)) (hp3 : Bd 0 4 (u 44 2)) (hp4 : Bd 0 9 (u 5 0)) (hp5 : Bd 0 4 (u 5 2)) (hp6 : Bd 0 9 (u 10 0)) (hp7 : Bd 0 4 (u 10 2)) (hp8 : Bd 0 12 (u 15 0)) (hp9 : Bd 0 12 (u 19 0)) (hp10 : Bd 0 12 (u 23 0)) (hp11 : Bd 0 12 (u 49 0)) (hp12 : AB u 45 (-1) 999) (hp13 : AB u 6 (-1) 999) (hp14 : AB u 11 (-1) 999) (hp15 : (KM u 15)) (hp16 : (KM u 19)) (hp17 : (KM u 23)) (hp18 : (KM u 49)) (hp19 : Bd 0 9 (u 61 0)) (hp20 : Bd 0 4 (u 61 2)) (hp21 : AB u 66 0 511) : CT con0 d 0 0 yX10_flood cX10_flood 3 (some .int) [.ref 0, .int hill, .int plan] (Wd u g ex) (fun r h2 => ∃ (z : Int32) (u2 : Nat → Nat → Int32) (g2 : Nat → Nat → Int64), r = some (.int z) ∧ h2 = Wd u2 g2 ex ∧ Bd 0 9 (u2 44 0) ∧ Bd 0 4 (u2 44 2) ∧ AB u2 45 (-1) 999 ∧ Bd 0 9 (u2 61 0) ∧ Bd 0 4 (u2 61 2) ∧ AB u2 66 0 511 ∧ (∀ c, nin c [(43, 48), (58, 67)] = true → u2 c = u c) ∧ (∀ j, j ≠ 1 → j ≠ 2 → j ≠ 3 → u2 43 j = u 43 j) ∧ (∀ j, j ≠ 0 → j ≠ 2 → u2 44 j = u 44 j) ∧ (∀ j, j ≠ 0 → j ≠ 1 → j ≠ 2 → j ≠ 3 → j ≠ 4 → u2 58 j = u 58 j) ∧ (∀ j, j ≠ 0 → j ≠ 2 → u2 61 j = u 61 j)) := by
  refine CT_of (by decide) (Nat.le_of_ble_eq_true rfl) (fun x hq => ?_)
  show J x yX10_flood cX10_flood 3 (some .int) d 0 0 (Wd u g ex).length 0 [(0, .ref 0), (1, .int hill), (2, .int plan)] [] (Wd u g ex) 0 0
  refine J_aload_n (i := 0) (j := 0) dX10_flood_0 rfl rfl ?_
  refine J_iload_n (i := 1) (j := 1) dX10_flood_1 rfl rfl ?_
  refine J_iload_n (i := 2) (j := 2) dX10_flood_2 rfl rfl ?_
  refine J_callV (As := [.int hill, .int plan]) (rest := []) dX10_flood_3 (c_P_looks (d := 5) (u := u) (g := g) (ex := ex) (hill := hill) (plan := plan)  (by decide) hp0 hp1 hp2 hp3 hp4 hp5 hp6 hp7 hp8 hp9 hp10 hp11 hp12 hp13 hp14 hp15 hp16 hp17 hp18 hp21 hp19 hp20) hq.n k852 k854 k23 wc_0 rfl rfl k87 k855 np_X10_looks (Nat.le_trans (by decide) hd) (by decide) (Nat.le_refl _) (Nat.le_refl _) wlen rfl (Nat.le_of_ble_eq_true rfl) (fun r_ h_ p1 => ?_)
  obtain ⟨t2, u3, g4, rfl, rfl, h5, h6, h7, h8, h9, h10, fr11, fc12, fc13, fc14, fc15⟩ := p1
  refine J_ifB_eq (tgt := 19) dX10_flood_6 (by decide) (fun c16 => ?_) (fun c16 => ?_)
  · refine J_iconst (v := (-1)) dX10_flood_19 (by decide) ?_
    exact J_iret hq dX10_flood_20 rfl wlen (Nat.le_refl _) (Nat.le_refl _) ⟨((-1) : Int32), u3, g4, rfl, rfl, h5, h6, h7, h8, h9, h10, (fun c k_ => (fr11 c (nin_sub (M := [(43, 48), (58, 67)]) k_ rfl))), (fun j k1_ k2_ k3_ => (fc12 j k1_ k2_ k3_)), (fun j k0_ k2_ => (fc13 j k0_ k2_)), (fun j k0_ k1_ k2_ k3_ k4_ => (fc14 j k0_ k1_ k2_ k3_ k4_)), (fun j k0_ k2_ => (fc15 j k0_ k2_))⟩
  · refine J_aload_n (i := 0) (j := 0) dX10_flood_9 rfl rfl ?_
    refine J_get (C := RX10) (T := TX10) (Z := 10) (ci := 10) (f := 8) dX10_flood_10 inG10 rfl (by decide) k431 wc_0 rfl ?_
    refine J_callV (As := []) (rest := []) dX10_flood_13 (c_O_mostInBrook (d := 3) (u := u3) (g := g4) (ex := ex)   (by decide) h8 h9 h10) hq.n k1203 k1204 k1205 wc_57 rfl rfl k96 k1206 np_X2_mostInBrook (Nat.le_trans (by decide) hd) (by decide) (Nat.le_refl _) (Nat.le_refl _) wlen rfl (Nat.le_of_ble_eq_true rfl) (fun r_ h_ p17 => ?_)
    obtain ⟨v18, u19, rfl, rfl, fr20, fc21⟩ := p17
    refine J_goto (tgt := 20) dX10_flood_16 (by decide) ?_
    exact J_iret hq dX10_flood_20 rfl wlen (Nat.le_refl _) (Nat.le_refl _) ⟨v18, u19, g4, rfl, rfl, (bd_r (congrFun (fr20 44 rfl) 0) h5), (bd_r (congrFun (fr20 44 rfl) 2) h6), (ab_c (fr20 45 rfl) h7), (bd_r (congrFun (fr20 61 rfl) 0) h8), (bd_r (congrFun (fr20 61 rfl) 2) h9), (ab_c (fr20 66 rfl) h10), (fun c k_ => ((fr20 c (nin_sub (M := [(58, 60)]) k_ rfl)).trans (fr11 c (nin_sub (M := [(43, 48), (58, 67)]) k_ rfl)))), (fun j k1_ k2_ k3_ => ((congrFun (fr20 43 rfl) j).trans (fc12 j k1_ k2_ k3_))), (fun j k0_ k2_ => ((congrFun (fr20 44 rfl) j).trans (fc13 j k0_ k2_))), (fun j k0_ k1_ k2_ k3_ k4_ => ((fc21 j k0_ k1_ k2_ k3_ k4_).trans (fc14 j k0_ k1_ k2_ k3_ k4_))), (fun j k0_ k2_ => ((congrFun (fr20 61 rfl) j).trans (fc15 j k0_ k2_)))⟩
set_option maxHeartbeats 4000000 in
set_option maxRecDepth 100000 in
theorem c_P_around {d : Nat} {u : Nat → Nat → Int32} {g : Nat → Nat → Int64} {ex : List MC} {hill : Int32} {plan : Int32} {second : Int32} (hd : 6 ≤ d) (hp0 : Bd 0 2 (u 1 5)) (hp1 : Bd 0 3 (u 1 7)) (hp2 : Bd 0 9 (u 44 0)) (hp3 : Bd 0 4 (u 44 2)) (hp4 : Bd 0 9 (u 5 0)) (hp5 : Bd 0 4 (u 5 2)) (hp6 : Bd 0 9 (u 10 0)) (hp7 : Bd 0 4 (u 10 2)) (hp8 : Bd 0 12 (u 15 0)) (hp9 : Bd 0 12 (u 19 0)) (hp10 : Bd 0 12 (u 23 0)) (hp11 : Bd 0 12 (u 49 0)) (hp12 : AB u 45 (-1) 999) (hp13 : AB u 6 (-1) 999) (hp14 : AB u 11 (-1) 999) (hp15 : (KM u 15)) (hp16 : (KM u 19)) (hp17 : (KM u 23)) (hp18 : (KM u 49)) (hp19 : Bd 0 9 (u 61 0)) (hp20 : Bd 0 4 (u 61 2)) (hp21 : AB u 66 0 511) (hp22 : Bd 0 9 (u 70 0)) (hp23 : Bd 0 4 (u 70 2)) : CT con0 d 0 0 yX10_around cX10_around 4 (some .int) [.ref 0, .int hill, .int plan, .int second] (Wd u g ex) (fun r h2 => ∃ (z : Int32) (u2 : Nat → Nat → Int32) (g2 : Nat → Nat → Int64), r = some (.int z) ∧ h2 = Wd u2 g2 ex ∧ Bd 0 9 (u2 44 0) ∧ Bd 0 4 (u2 44 2) ∧ AB u2 45 (-1) 999 ∧ Bd 0 9 (u2 61 0) ∧ Bd 0 4 (u2 61 2) ∧ AB u2 66 0 511 ∧ Bd 0 9 (u2 70 0) ∧ Bd 0 4 (u2 70 2) ∧ (∀ c, nin c [(43, 48), (56, 56), (58, 67), (70, 74)] = true → u2 c = u c) ∧ (∀ j, j ≠ 1 → j ≠ 2 → j ≠ 3 → u2 43 j = u 43 j) ∧ (∀ j, j ≠ 0 → j ≠ 2 → u2 44 j = u 44 j) ∧ (∀ j, j ≠ 2 → j ≠ 3 → u2 56 j = u 56 j) ∧ (∀ j, j ≠ 0 → j ≠ 1 → j ≠ 2 → j ≠ 3 → j ≠ 4 → u2 58 j = u 58 j) ∧ (∀ j, j ≠ 0 → j ≠ 2 → u2 61 j = u 61 j) ∧ (∀ j, j ≠ 0 → j ≠ 2 → u2 70 j = u 70 j)) := by
  refine CT_of (by decide) (Nat.le_of_ble_eq_true rfl) (fun x hq => ?_)
  show J x yX10_around cX10_around 4 (some .int) d 0 0 (Wd u g ex).length 0 [(0, .ref 0), (1, .int hill), (2, .int plan), (3, .int second)] [] (Wd u g ex) 0 0
  refine J_aload_n (i := 0) (j := 0) dX10_around_0 rfl rfl ?_
  refine J_iload_n (i := 1) (j := 1) dX10_around_1 rfl rfl ?_
  refine J_iload_n (i := 2) (j := 2) dX10_around_2 rfl rfl ?_
  refine J_callV (As := [.int hill, .int plan]) (rest := []) dX10_around_3 (c_P_lays (d := 4) (u := u) (g := g) (ex := ex) (hill := hill) (plan := plan)  (by decide) hp0 hp1 hp2 hp3 hp4 hp5 hp6 hp7 hp8 hp9 hp10 hp11 hp12 hp13 hp14 hp15 hp16 hp17 hp18) hq.n k723 k725 k12 wc_0 rfl rfl k87 k726 np_X10_lays (Nat.le_trans (by decide) hd) (by decide) (Nat.le_refl _) (Nat.le_refl _) wlen rfl (Nat.le_of_ble_eq_true rfl) (fun r_ h_ p1 => ?_)
  obtain ⟨t2, u3, rfl, rfl, h4, h5, h6, fr7, fc8, fc9⟩ := p1
  refine J_ifB_ne (tgt := 11) dX10_around_6 (by decide) (fun c10 => ?_) (fun c10 => ?_)
  · refine J_aload_n (i := 0) (j := 0) dX10_around_11 rfl rfl ?_
    refine J_get (C := RX10) (T := TX10) (Z := 10) (ci := 10) (f := 7) dX10_around_12 inG10 rfl (by decide) k430 wc_0 rfl ?_
    refine J_aload_n (i := 0) (j := 0) dX10_around_15 rfl rfl ?_
    refine J_get (C := RX10) (T := TX10) (Z := 10) (ci := 10) (f := 4) dX10_around_16 inG10 rfl (by decide) k427 wc_0 rfl ?_
    refine J_getN (C := RX4) (T := TX4) (Z := 4) (ci := 4) (f := 0) dX10_around_19 inG4 rfl (by decide) k295 wc_43 rfl ?_
    refine J_callV (As := [.ref 44]) (rest := []) dX10_around_22 (c_C_turnAround (d := 5) (u := u3) (g := g) (ex := ex)   (by decide) h4 h5 (ab_c (fr7 66 rfl) hp21) (bd_r (congrFun (fr7 70 rfl) 0) hp22) (bd_r (congrFun (fr7 70 rfl) 2) hp23)) hq.n k1211 k1212 k1213 wc_56 rfl rfl k95 k1214 np_X0_turnAround (Nat.le_trans (by decide) hd) (by decide) (Nat.le_refl _) (Nat.le_refl _) wlen rfl (Nat.le_of_ble_eq_true rfl) (fun r_ h_ p11 => ?_)
    obtain ⟨u12, g13, rfl, rfl, h14, h15, h16, h17, h18, fr19, fc20, fc21, fc22, fc23⟩ := p11
    refine J_iload_n (i := 3) (j := 3) dX10_around_25 rfl rfl ?_
    refine J_if_eq (tgt := 39) dX10_around_26 (by decide) (fun c24 => ?_) (fun c24 => ?_)
    · refine J_aload_n (i := 0) (j := 0) dX10_around_39 rfl rfl ?_
      refine J_get (C := RX10) (T := TX10) (Z := 10) (ci := 10) (f := 7) dX10_around_40 inG10 rfl (by decide) k430 wc_0 rfl ?_
      refine J_getN (C := RX0) (T := TX0) (Z := 10) (ci := 0) (f := 2) dX10_around_43 inG0 rfl (by decide) k390 wc_56 rfl ?_
      exact J_iret hq dX10_around_46 rfl wlen (Nat.le_refl _) (Nat.le_refl _) ⟨(u12 56 2), u12, g13, rfl, rfl, (bd_r (congrFun (fr19 44 rfl) 0) h4), (bd_r (congrFun (fr19 44 rfl) 2) h5), (ab_c (fr19 45 rfl) h6), h14, h15, h16, h17, h18, (fun c k_ => ((fr19 c (nin_sub (M := [(56, 56), (58, 67), (70, 74)]) k_ rfl)).trans (fr7 c (nin_sub (M := [(43, 48)]) k_ rfl)))), (fun j k1_ k2_ k3_ => ((congrFun (fr19 43 rfl) j).trans (fc8 j k1_ k2_ k3_))), (fun j k0_ k2_ => ((congrFun (fr19 44 rfl) j).trans (fc9 j k0_ k2_))), (fun j k2_ k3_ => ((fc20 j k2_ k3_).trans (congrFun (fr7 56 rfl) j))), (fun j k0_ k1_ k2_ k3_ k4_ => ((fc21 j k0_ k1_ k2_ k3_ k4_).trans (congrFun (fr7 58 rfl) j))), (fun j k0_ k2_ => ((fc22 j k0_ k2_).trans (congrFun (fr7 61 rfl) j))), (fun j k0_ k2_ => ((fc23 j k0_ k2_).trans (congrFun (fr7 70 rfl) j)))⟩
    · refine J_aload_n (i := 0) (j := 0) dX10_around_29 rfl rfl ?_
      refine J_get (C := RX10) (T := TX10) (Z := 10) (ci := 10) (f := 7) dX10_around_30 inG10 rfl (by decide) k430 wc_0 rfl ?_
      refine J_getN (C := RX0) (T := TX0) (Z := 10) (ci := 0) (f := 3) dX10_around_33 inG0 rfl (by decide) k392 wc_56 rfl ?_
      refine J_goto (tgt := 46) dX10_around_36 (by decide) ?_
      exact J_iret hq dX10_around_46 rfl wlen (Nat.le_refl _) (Nat.le_refl _) ⟨(u12 56 3), u12, g13, rfl, rfl, (bd_r (congrFun (fr19 44 rfl) 0) h4), (bd_r (congrFun (fr19 44 rfl) 2) h5), (ab_c (fr19 45 rfl) h6), h14, h15, h16, h17, h18, (fun c k_ => ((fr19 c (nin_sub (M := [(56, 56), (58, 67), (70, 74)]) k_ rfl)).trans (fr7 c (nin_sub (M := [(43, 48)]) k_ rfl)))), (fun j k1_ k2_ k3_ => ((congrFun (fr19 43 rfl) j).trans (fc8 j k1_ k2_ k3_))), (fun j k0_ k2_ => ((congrFun (fr19 44 rfl) j).trans (fc9 j k0_ k2_))), (fun j k2_ k3_ => ((fc20 j k2_ k3_).trans (congrFun (fr7 56 rfl) j))), (fun j k0_ k1_ k2_ k3_ k4_ => ((fc21 j k0_ k1_ k2_ k3_ k4_).trans (congrFun (fr7 58 rfl) j))), (fun j k0_ k2_ => ((fc22 j k0_ k2_).trans (congrFun (fr7 61 rfl) j))), (fun j k0_ k2_ => ((fc23 j k0_ k2_).trans (congrFun (fr7 70 rfl) j)))⟩
  · refine J_iconst (v := (-1)) dX10_around_9 (by decide) ?_
    exact J_iret hq dX10_around_10 rfl wlen (Nat.le_refl _) (Nat.le_refl _) ⟨((-1) : Int32), u3, g, rfl, rfl, h4, h5, h6, (bd_r (congrFun (fr7 61 rfl) 0) hp19), (bd_r (congrFun (fr7 61 rfl) 2) hp20), (ab_c (fr7 66 rfl) hp21), (bd_r (congrFun (fr7 70 rfl) 0) hp22), (bd_r (congrFun (fr7 70 rfl) 2) hp23), (fun c k_ => (fr7 c (nin_sub (M := [(43, 48)]) k_ rfl))), (fun j k1_ k2_ k3_ => (fc8 j k1_ k2_ k3_)), (fun j k0_ k2_ => (fc9 j k0_ k2_)), (fun j k2_ k3_ => (congrFun (fr7 56 rfl) j)), (fun j k0_ k1_ k2_ k3_ k4_ => (congrFun (fr7 58 rfl) j)), (fun j k0_ k2_ => (congrFun (fr7 61 rfl) j)), (fun j k0_ k2_ => (congrFun (fr7 70 rfl) j))⟩
set_option maxHeartbeats 4000000 in
set_option maxRecDepth 100000 in
theorem c_P_twice {d : Nat} {u : Nat → Nat → Int32} {g : Nat → Nat → Int64} {ex : List MC} {hill : Int32} {plan : Int32} {rain : Int32} {banks : Int32} {next : Int32} {others : Int32} {what : Int32} (hd : 5 ≤ d) (hp0 : Bd 0 2 (u 1 5)) (hp1 : Bd 0 3 (u 1 7)) (hp2 : Bd 0 9 (u 44 0)) (hp3 : Bd 0 4 (u 44 2)) (hp4 : Bd 0 9 (u 5 0)) (hp5 : Bd 0 4 (u 5 2)) (hp6 : Bd 0 9 (u 10 0)) (hp7 : Bd 0 4 (u 10 2)) (hp8 : Bd 0 12 (u 15 0)) (hp9 : Bd 0 12 (u 19 0)) (hp10 : Bd 0 12 (u 23 0)) (hp11 : Bd 0 12 (u 49 0)) (hp12 : AB u 45 (-1) 999) (hp13 : AB u 6 (-1) 999) (hp14 : AB u 11 (-1) 999) (hp15 : (KM u 15)) (hp16 : (KM u 19)) (hp17 : (KM u 23)) (hp18 : (KM u 49)) (hp19 : Bd 0 9 (u 53 0)) (hp20 : Bd 0 511 (u 53 1)) (hp21 : Bd 0 9 (u 79 0)) (hp22 : Bd 0 4 (u 79 2)) : CT con0 d 0 0 yX10_twice cX10_twice 8 (some .int) [.ref 0, .int hill, .int plan, .int rain, .int banks, .int next, .int others, .int what] (Wd u g ex) (fun r h2 => ∃ (z : Int32) (u2 : Nat → Nat → Int32), r = some (.int z) ∧ h2 = Wd u2 g ex ∧ Bd 0 9 (u2 44 0) ∧ Bd 0 4 (u2 44 2) ∧ AB u2 45 (-1) 999 ∧ Bd 0 9 (u2 53 0) ∧ Bd 0 511 (u2 53 1) ∧ Bd 0 9 (u2 79 0) ∧ Bd 0 4 (u2 79 2) ∧ (∀ c, nin c [(43, 48), (53, 55), (79, 83)] = true → u2 c = u c) ∧ (∀ j, j ≠ 1 → j ≠ 2 → j ≠ 3 → u2 43 j = u 43 j) ∧ (∀ j, j ≠ 0 → j ≠ 2 → u2 44 j = u 44 j) ∧ (∀ j, j ≠ 0 → j ≠ 1 → j ≠ 2 → j ≠ 3 → j ≠ 4 → u2 53 j = u 53 j) ∧ (∀ j, j ≠ 0 → j ≠ 2 → u2 79 j = u 79 j)) := by
  refine CT_of (by decide) (Nat.le_of_ble_eq_true rfl) (fun x hq => ?_)
  show J x yX10_twice cX10_twice 8 (some .int) d 0 0 (Wd u g ex).length 0 [(0, .ref 0), (1, .int hill), (2, .int plan), (3, .int rain), (4, .int banks), (5, .int next), (6, .int others), (7, .int what)] [] (Wd u g ex) 0 0
  refine J_aload_n (i := 0) (j := 0) dX10_twice_0 rfl rfl ?_
  refine J_iload_n (i := 1) (j := 1) dX10_twice_1 rfl rfl ?_
  refine J_iload_n (i := 2) (j := 2) dX10_twice_2 rfl rfl ?_
  refine J_callV (As := [.int hill, .int plan]) (rest := []) dX10_twice_3 (c_P_lays (d := 4) (u := u) (g := g) (ex := ex) (hill := hill) (plan := plan)  (by decide) hp0 hp1 hp2 hp3 hp4 hp5 hp6 hp7 hp8 hp9 hp10 hp11 hp12 hp13 hp14 hp15 hp16 hp17 hp18) hq.n k723 k725 k12 wc_0 rfl rfl k87 k726 np_X10_lays (Nat.le_trans (by decide) hd) (by decide) (Nat.le_refl _) (Nat.le_refl _) wlen rfl (Nat.le_of_ble_eq_true rfl) (fun r_ h_ p1 => ?_)
  obtain ⟨t2, u3, rfl, rfl, h4, h5, h6, fr7, fc8, fc9⟩ := p1
  refine J_ifB_eq (tgt := 42) dX10_twice_6 (by decide) (fun c10 => ?_) (fun c10 => ?_)
  · refine J_iconst (v := (-1)) dX10_twice_42 (by decide) ?_
    exact J_iret hq dX10_twice_43 rfl wlen (Nat.le_refl _) (Nat.le_refl _) ⟨((-1) : Int32), u3, rfl, rfl, h4, h5, h6, (bd_r (congrFun (fr7 53 rfl) 0) hp19), (bd_r (congrFun (fr7 53 rfl) 1) hp20), (bd_r (congrFun (fr7 79 rfl) 0) hp21), (bd_r (congrFun (fr7 79 rfl) 2) hp22), (fun c k_ => (fr7 c (nin_sub (M := [(43, 48)]) k_ rfl))), (fun j k1_ k2_ k3_ => (fc8 j k1_ k2_ k3_)), (fun j k0_ k2_ => (fc9 j k0_ k2_)), (fun j k0_ k1_ k2_ k3_ k4_ => (congrFun (fr7 53 rfl) j)), (fun j k0_ k2_ => (congrFun (fr7 79 rfl) j))⟩
  · refine J_aload_n (i := 0) (j := 0) dX10_twice_9 rfl rfl ?_
    refine J_get (C := RX10) (T := TX10) (Z := 10) (ci := 10) (f := 4) dX10_twice_10 inG10 rfl (by decide) k427 wc_0 rfl ?_
    refine J_getN (C := RX4) (T := TX4) (Z := 4) (ci := 4) (f := 0) dX10_twice_13 inG4 rfl (by decide) k295 wc_43 rfl ?_
    refine J_iload_n (i := 3) (j := 3) dX10_twice_16 rfl rfl ?_
    refine J_iload (i := 4) (j := 4) dX10_twice_17 rfl ?_
    refine J_callV (As := [.int rain, .int banks]) (rest := []) dX10_twice_19 (c_H_hasStorm (d := 2) (u := u3) (g := g) (ex := ex) (rain := rain) (banks := banks) (t := 44) (by decide) (by decide) h4 h5) hq.n k792 k793 k794 wc_44 rfl rfl k89 k795 np_X1_hasStorm (Nat.le_trans (by decide) hd) (by decide) (Nat.le_refl _) (Nat.le_refl _) wlen rfl (Nat.le_of_ble_eq_true rfl) (fun r_ h_ p11 => ?_)
    obtain ⟨t12, rfl, rfl, h13, h14⟩ := p11
    refine J_ifB_eq (tgt := 42) dX10_twice_22 (by decide) (fun c15 => ?_) (fun c15 => ?_)
    · refine J_iconst (v := (-1)) dX10_twice_42 (by decide) ?_
      exact J_iret hq dX10_twice_43 rfl wlen (Nat.le_refl _) (Nat.le_refl _) ⟨((-1) : Int32), u3, rfl, rfl, h4, h5, h6, (bd_r (congrFun (fr7 53 rfl) 0) hp19), (bd_r (congrFun (fr7 53 rfl) 1) hp20), (bd_r (congrFun (fr7 79 rfl) 0) hp21), (bd_r (congrFun (fr7 79 rfl) 2) hp22), (fun c k_ => (fr7 c (nin_sub (M := [(43, 48)]) k_ rfl))), (fun j k1_ k2_ k3_ => (fc8 j k1_ k2_ k3_)), (fun j k0_ k2_ => (fc9 j k0_ k2_)), (fun j k0_ k1_ k2_ k3_ k4_ => (congrFun (fr7 53 rfl) j)), (fun j k0_ k2_ => (congrFun (fr7 79 rfl) j))⟩
    · refine J_aload_n (i := 0) (j := 0) dX10_twice_25 rfl rfl ?_
      refine J_get (C := RX10) (T := TX10) (Z := 10) (ci := 10) (f := 4) dX10_twice_26 inG10 rfl (by decide) k427 wc_0 rfl ?_
      refine J_getN (C := RX4) (T := TX4) (Z := 4) (ci := 4) (f := 0) dX10_twice_29 inG4 rfl (by decide) k295 wc_43 rfl ?_
      refine J_iload (i := 5) (j := 5) dX10_twice_32 rfl ?_
      refine J_iload (i := 6) (j := 6) dX10_twice_34 rfl ?_
      refine J_callV (As := [.int next, .int others]) (rest := []) dX10_twice_36 (c_H_hasStorm (d := 2) (u := u3) (g := g) (ex := ex) (rain := next) (banks := others) (t := 44) (by decide) (by decide) h4 h5) hq.n k792 k793 k794 wc_44 rfl rfl k89 k795 np_X1_hasStorm (Nat.le_trans (by decide) hd) (by decide) (Nat.le_refl _) (Nat.le_refl _) wlen rfl (Nat.le_of_ble_eq_true rfl) (fun r_ h_ p16 => ?_)
      obtain ⟨t17, rfl, rfl, h18, h19⟩ := p16
      refine J_ifB_ne (tgt := 44) dX10_twice_39 (by decide) (fun c20 => ?_) (fun c20 => ?_)
      · refine J_aload_n (i := 0) (j := 0) dX10_twice_44 rfl rfl ?_
        refine J_get (C := RX10) (T := TX10) (Z := 10) (ci := 10) (f := 6) dX10_twice_45 inG10 rfl (by decide) k429 wc_0 rfl ?_
        refine J_aload_n (i := 0) (j := 0) dX10_twice_48 rfl rfl ?_
        refine J_get (C := RX10) (T := TX10) (Z := 10) (ci := 10) (f := 4) dX10_twice_49 inG10 rfl (by decide) k427 wc_0 rfl ?_
        refine J_getN (C := RX4) (T := TX4) (Z := 4) (ci := 4) (f := 0) dX10_twice_52 inG4 rfl (by decide) k295 wc_43 rfl ?_
        refine J_aload_n (i := 0) (j := 0) dX10_twice_55 rfl rfl ?_
        refine J_get (C := RX10) (T := TX10) (Z := 10) (ci := 10) (f := 4) dX10_twice_56 inG10 rfl (by decide) k427 wc_0 rfl ?_
        refine J_getN (C := RX4) (T := TX4) (Z := 4) (ci := 4) (f := 0) dX10_twice_59 inG4 rfl (by decide) k295 wc_43 rfl ?_
        refine J_iload_n (i := 3) (j := 3) dX10_twice_62 rfl rfl ?_
        refine J_callV (As := [.int rain]) (rest := [.ref 44, .ref 53]) dX10_twice_63 (c_H_stepsOf (d := 0) (u := u3) (g := g) (ex := ex) (rain := rain) (t := 44) (by decide) (by decide) h4 h5) hq.n k804 k716 k717 wc_44 rfl rfl k89 k718 np_X1_stepsOf (Nat.le_trans (by decide) hd) (by decide) (Nat.le_refl _) (Nat.le_refl _) wlen rfl (Nat.le_of_ble_eq_true rfl) (fun r_ h_ p21 => ?_)
        obtain ⟨v22, rfl, rfl⟩ := p21
        refine J_iload (i := 4) (j := 4) dX10_twice_66 rfl ?_
        refine J_iconst (v := (-1)) dX10_twice_68 (by decide) ?_
        refine J_callV (As := [.ref 44, .int v22, .int banks, .int (-1)]) (rest := []) dX10_twice_69 (c_S53_run (d := 2) (u := u3) (g := g) (ex := ex) (steps := v22) (banks := banks) (keeper := (-1)) (t := 44) (by decide) (by decide) h4 h5) hq.n k805 k806 k807 wc_53 rfl rfl k94 k808 np_X5_run (Nat.le_trans (by decide) hd) (by decide) (Nat.le_refl _) (Nat.le_refl _) wlen rfl (Nat.le_of_ble_eq_true rfl) (fun r_ h_ p23 => ?_)
        obtain ⟨u24, rfl, rfl, h25, h26, fr27, fc28⟩ := p23
        refine J_aload_n (i := 0) (j := 0) dX10_twice_72 rfl rfl ?_
        refine J_get (C := RX10) (T := TX10) (Z := 10) (ci := 10) (f := 9) dX10_twice_73 inG10 rfl (by decide) k432 wc_0 rfl ?_
        refine J_aload_n (i := 0) (j := 0) dX10_twice_76 rfl rfl ?_
        refine J_get (C := RX10) (T := TX10) (Z := 10) (ci := 10) (f := 4) dX10_twice_77 inG10 rfl (by decide) k427 wc_0 rfl ?_
        refine J_getN (C := RX4) (T := TX4) (Z := 4) (ci := 4) (f := 0) dX10_twice_80 inG4 rfl (by decide) k295 wc_43 rfl ?_
        refine J_callV (As := [.ref 44]) (rest := []) dX10_twice_83 (c_H_copy (d := 1) (u := u24) (g := g) (ex := ex)  (t := 79) (f := 44) (by decide) (by decide) (by decide) (Nat.ne_of_beq_eq_false rfl) (bd_r (congrFun (fr27 44 rfl) 0) h4) (bd_r (congrFun (fr27 44 rfl) 2) h5)) hq.n k1030 k681 k682 wc_79 rfl rfl k89 k683 np_X1_copy (Nat.le_trans (by decide) hd) (by decide) (Nat.le_refl _) (Nat.le_refl _) wlen rfl (Nat.le_of_ble_eq_true rfl) (fun r_ h_ p29 => ?_)
        obtain ⟨u30, rfl, rfl, h31, h32, fr33, fc34⟩ := p29
        refine J_aload_n (i := 0) (j := 0) dX10_twice_86 rfl rfl ?_
        refine J_get (C := RX10) (T := TX10) (Z := 10) (ci := 10) (f := 6) dX10_twice_87 inG10 rfl (by decide) k429 wc_0 rfl ?_
        refine J_aload_n (i := 0) (j := 0) dX10_twice_90 rfl rfl ?_
        refine J_get (C := RX10) (T := TX10) (Z := 10) (ci := 10) (f := 9) dX10_twice_91 inG10 rfl (by decide) k432 wc_0 rfl ?_
        refine J_callV (As := [.ref 79]) (rest := []) dX10_twice_94 (c_S53_leaveBehind (d := 2) (u := u30) (g := g) (ex := ex)  (t := 79) (by decide) (by decide) (bd_r (congrFun (fr33 53 (Nat.ne_of_beq_eq_false rfl) (Nat.ne_of_beq_eq_false rfl) (Nat.ne_of_beq_eq_false rfl) (Nat.ne_of_beq_eq_false rfl) (Nat.ne_of_beq_eq_false rfl)) 0) h25) (bd_r (congrFun (fr33 53 (Nat.ne_of_beq_eq_false rfl) (Nat.ne_of_beq_eq_false rfl) (Nat.ne_of_beq_eq_false rfl) (Nat.ne_of_beq_eq_false rfl) (Nat.ne_of_beq_eq_false rfl)) 1) h26)) hq.n k1220 k1221 k1222 wc_53 rfl rfl k94 k1223 np_X5_leaveBehind (Nat.le_trans (by decide) hd) (by decide) (Nat.le_refl _) (Nat.le_refl _) wlen rfl (Nat.le_of_ble_eq_true rfl) (fun r_ h_ p35 => ?_)
        obtain ⟨u36, rfl, rfl, fr37⟩ := p35
        refine J_aload_n (i := 0) (j := 0) dX10_twice_97 rfl rfl ?_
        refine J_get (C := RX10) (T := TX10) (Z := 10) (ci := 10) (f := 6) dX10_twice_98 inG10 rfl (by decide) k429 wc_0 rfl ?_
        refine J_aload_n (i := 0) (j := 0) dX10_twice_101 rfl rfl ?_
        refine J_get (C := RX10) (T := TX10) (Z := 10) (ci := 10) (f := 9) dX10_twice_102 inG10 rfl (by decide) k432 wc_0 rfl ?_
        refine J_aload_n (i := 0) (j := 0) dX10_twice_105 rfl rfl ?_
        refine J_get (C := RX10) (T := TX10) (Z := 10) (ci := 10) (f := 9) dX10_twice_106 inG10 rfl (by decide) k432 wc_0 rfl ?_
        refine J_iload (i := 5) (j := 5) dX10_twice_109 rfl ?_
        refine J_callV (As := [.int next]) (rest := [.ref 79, .ref 53]) dX10_twice_111 (c_H_stepsOf (d := 0) (u := u36) (g := g) (ex := ex) (rain := next) (t := 79) (by decide) (by decide) (bd_r (congrFun (fr37 79 (Nat.ne_of_beq_eq_false rfl)) 0) h31) (bd_r (congrFun (fr37 79 (Nat.ne_of_beq_eq_false rfl)) 2) h32)) hq.n k804 k716 k717 wc_79 rfl rfl k89 k718 np_X1_stepsOf (Nat.le_trans (by decide) hd) (by decide) (Nat.le_refl _) (Nat.le_refl _) wlen rfl (Nat.le_of_ble_eq_true rfl) (fun r_ h_ p38 => ?_)
        obtain ⟨v39, rfl, rfl⟩ := p38
        refine J_iload (i := 6) (j := 6) dX10_twice_114 rfl ?_
        refine J_iconst (v := (-1)) dX10_twice_116 (by decide) ?_
        refine J_callV (As := [.ref 79, .int v39, .int others, .int (-1)]) (rest := []) dX10_twice_117 (c_S53_run (d := 2) (u := u36) (g := g) (ex := ex) (steps := v39) (banks := others) (keeper := (-1)) (t := 79) (by decide) (by decide) (bd_r (congrFun (fr37 79 (Nat.ne_of_beq_eq_false rfl)) 0) h31) (bd_r (congrFun (fr37 79 (Nat.ne_of_beq_eq_false rfl)) 2) h32)) hq.n k805 k806 k807 wc_53 rfl rfl k94 k808 np_X5_run (Nat.le_trans (by decide) hd) (by decide) (Nat.le_refl _) (Nat.le_refl _) wlen rfl (Nat.le_of_ble_eq_true rfl) (fun r_ h_ p40 => ?_)
        obtain ⟨u41, rfl, rfl, h42, h43, fr44, fc45⟩ := p40
        refine J_aload_n (i := 0) (j := 0) dX10_twice_120 rfl rfl ?_
        refine J_get (C := RX10) (T := TX10) (Z := 10) (ci := 10) (f := 6) dX10_twice_121 inG10 rfl (by decide) k429 wc_0 rfl ?_
        refine J_iload (i := 7) (j := 7) dX10_twice_124 rfl ?_
        refine J_callV (As := [.int what]) (rest := []) dX10_twice_126 (c_S53_told (d := 1) (u := u41) (g := g) (ex := ex) (what := what)  (by decide) h42 h43) hq.n k840 k841 k842 wc_53 rfl rfl k94 k843 np_X5_told (Nat.le_trans (by decide) hd) (by decide) (Nat.le_refl _) (Nat.le_refl _) wlen rfl (Nat.le_of_ble_eq_true rfl) (fun r_ h_ p46 => ?_)
        obtain ⟨v47, rfl, rfl⟩ := p46
        exact J_iret hq dX10_twice_129 rfl wlen (Nat.le_refl _) (Nat.le_refl _) ⟨v47, u41, rfl, rfl, (bd_r ((congrFun (fr44 44 rfl) 0).trans ((congrFun (fr37 44 (Nat.ne_of_beq_eq_false rfl)) 0).trans ((congrFun (fr33 44 (Nat.ne_of_beq_eq_false rfl) (Nat.ne_of_beq_eq_false rfl) (Nat.ne_of_beq_eq_false rfl) (Nat.ne_of_beq_eq_false rfl) (Nat.ne_of_beq_eq_false rfl)) 0).trans (congrFun (fr27 44 rfl) 0)))) h4), (bd_r ((congrFun (fr44 44 rfl) 2).trans ((congrFun (fr37 44 (Nat.ne_of_beq_eq_false rfl)) 2).trans ((congrFun (fr33 44 (Nat.ne_of_beq_eq_false rfl) (Nat.ne_of_beq_eq_false rfl) (Nat.ne_of_beq_eq_false rfl) (Nat.ne_of_beq_eq_false rfl) (Nat.ne_of_beq_eq_false rfl)) 2).trans (congrFun (fr27 44 rfl) 2)))) h5), (ab_c ((fr44 45 rfl).trans ((fr37 45 (Nat.ne_of_beq_eq_false rfl)).trans ((fr33 45 (Nat.ne_of_beq_eq_false rfl) (Nat.ne_of_beq_eq_false rfl) (Nat.ne_of_beq_eq_false rfl) (Nat.ne_of_beq_eq_false rfl) (Nat.ne_of_beq_eq_false rfl)).trans (fr27 45 rfl)))) h6), h42, h43, (bd_r ((congrFun (fr44 79 rfl) 0).trans (congrFun (fr37 79 (Nat.ne_of_beq_eq_false rfl)) 0)) h31), (bd_r ((congrFun (fr44 79 rfl) 2).trans (congrFun (fr37 79 (Nat.ne_of_beq_eq_false rfl)) 2)) h32), (fun c k_ => ((fr44 c (nin_sub (M := [(53, 55)]) k_ rfl)).trans ((fr37 c (nin_ne (a := 80) k_ rfl)).trans ((fr33 c (nin_ne (a := 79) k_ rfl) (nin_ne (a := 80) k_ rfl) (nin_ne (a := 81) k_ rfl) (nin_ne (a := 82) k_ rfl) (nin_ne (a := 83) k_ rfl)).trans ((fr27 c (nin_sub (M := [(53, 55)]) k_ rfl)).trans (fr7 c (nin_sub (M := [(43, 48)]) k_ rfl))))))), (fun j k1_ k2_ k3_ => ((congrFun (fr44 43 rfl) j).trans ((congrFun (fr37 43 (Nat.ne_of_beq_eq_false rfl)) j).trans ((congrFun (fr33 43 (Nat.ne_of_beq_eq_false rfl) (Nat.ne_of_beq_eq_false rfl) (Nat.ne_of_beq_eq_false rfl) (Nat.ne_of_beq_eq_false rfl) (Nat.ne_of_beq_eq_false rfl)) j).trans ((congrFun (fr27 43 rfl) j).trans (fc8 j k1_ k2_ k3_)))))), (fun j k0_ k2_ => ((congrFun (fr44 44 rfl) j).trans ((congrFun (fr37 44 (Nat.ne_of_beq_eq_false rfl)) j).trans ((congrFun (fr33 44 (Nat.ne_of_beq_eq_false rfl) (Nat.ne_of_beq_eq_false rfl) (Nat.ne_of_beq_eq_false rfl) (Nat.ne_of_beq_eq_false rfl) (Nat.ne_of_beq_eq_false rfl)) j).trans ((congrFun (fr27 44 rfl) j).trans (fc9 j k0_ k2_)))))), (fun j k0_ k1_ k2_ k3_ k4_ => ((fc45 j k0_ k1_ k2_ k3_ k4_).trans ((congrFun (fr37 53 (Nat.ne_of_beq_eq_false rfl)) j).trans ((congrFun (fr33 53 (Nat.ne_of_beq_eq_false rfl) (Nat.ne_of_beq_eq_false rfl) (Nat.ne_of_beq_eq_false rfl) (Nat.ne_of_beq_eq_false rfl) (Nat.ne_of_beq_eq_false rfl)) j).trans ((fc28 j k0_ k1_ k2_ k3_ k4_).trans (congrFun (fr7 53 rfl) j)))))), (fun j k0_ k2_ => ((congrFun (fr44 79 rfl) j).trans ((congrFun (fr37 79 (Nat.ne_of_beq_eq_false rfl)) j).trans ((fc34 j k0_ k2_).trans ((congrFun (fr27 79 rfl) j).trans (congrFun (fr7 79 rfl) j))))))⟩
      · refine J_iconst (v := (-1)) dX10_twice_42 (by decide) ?_
        exact J_iret hq dX10_twice_43 rfl wlen (Nat.le_refl _) (Nat.le_refl _) ⟨((-1) : Int32), u3, rfl, rfl, h4, h5, h6, (bd_r (congrFun (fr7 53 rfl) 0) hp19), (bd_r (congrFun (fr7 53 rfl) 1) hp20), (bd_r (congrFun (fr7 79 rfl) 0) hp21), (bd_r (congrFun (fr7 79 rfl) 2) hp22), (fun c k_ => (fr7 c (nin_sub (M := [(43, 48)]) k_ rfl))), (fun j k1_ k2_ k3_ => (fc8 j k1_ k2_ k3_)), (fun j k0_ k2_ => (fc9 j k0_ k2_)), (fun j k0_ k1_ k2_ k3_ k4_ => (congrFun (fr7 53 rfl) j)), (fun j k0_ k2_ => (congrFun (fr7 79 rfl) j))⟩
set_option maxHeartbeats 4000000 in
set_option maxRecDepth 100000 in
theorem c_P_better {d : Nat} {u : Nat → Nat → Int32} {g : Nat → Nat → Int64} {ex : List MC} {hill : Int32} {one : Int32} {other : Int32} (hd : 5 ≤ d) (hp0 : Bd 0 2 (u 1 5)) (hp1 : Bd 0 3 (u 1 7)) (hp2 : Bd 0 9 (u 44 0)) (hp3 : Bd 0 4 (u 44 2)) (hp4 : Bd 0 9 (u 5 0)) (hp5 : Bd 0 4 (u 5 2)) (hp6 : Bd 0 9 (u 10 0)) (hp7 : Bd 0 4 (u 10 2)) (hp8 : Bd 0 12 (u 15 0)) (hp9 : Bd 0 12 (u 19 0)) (hp10 : Bd 0 12 (u 23 0)) (hp11 : Bd 0 12 (u 49 0)) (hp12 : AB u 45 (-1) 999) (hp13 : AB u 6 (-1) 999) (hp14 : AB u 11 (-1) 999) (hp15 : (KM u 15)) (hp16 : (KM u 19)) (hp17 : (KM u 23)) (hp18 : (KM u 49)) (hp19 : Bd 0 9 (u 61 0)) (hp20 : Bd 0 4 (u 61 2)) (hp21 : AB u 66 0 511) : CT con0 d 0 0 yX10_better cX10_better 8 (some .int) [.ref 0, .int hill, .int one, .int other] (Wd u g ex) (fun r h2 => ∃ (z : Int32) (u2 : Nat → Nat → Int32) (g2 : Nat → Nat → Int64), r = some (.int z) ∧ h2 = Wd u2 g2 ex ∧ Bd 0 9 (u2 44 0) ∧ Bd 0 4 (u2 44 2) ∧ AB u2 45 (-1) 999 ∧ Bd 0 9 (u2 61 0) ∧ Bd 0 4 (u2 61 2) ∧ AB u2 66 0 511 ∧ (∀ c, nin c [(43, 48), (58, 67)] = true → u2 c = u c) ∧ (∀ j, j ≠ 1 → j ≠ 2 → j ≠ 3 → u2 43 j = u 43 j) ∧ (∀ j, j ≠ 0 → j ≠ 2 → u2 44 j = u 44 j) ∧ (∀ j, j ≠ 0 → j ≠ 1 → j ≠ 2 → j ≠ 3 → j ≠ 4 → u2 58 j = u 58 j) ∧ (∀ j, j ≠ 0 → j ≠ 2 → u2 61 j = u 61 j)) := by
  refine CT_of (by decide) (Nat.le_of_ble_eq_true rfl) (fun x hq => ?_)
  show J x yX10_better cX10_better 8 (some .int) d 0 0 (Wd u g ex).length 0 [(0, .ref 0), (1, .int hill), (2, .int one), (3, .int other)] [] (Wd u g ex) 0 0
  refine J_aload_n (i := 0) (j := 0) dX10_better_0 rfl rfl ?_
  refine J_iload_n (i := 1) (j := 1) dX10_better_1 rfl rfl ?_
  refine J_iload_n (i := 2) (j := 2) dX10_better_2 rfl rfl ?_
  refine J_callV (As := [.int hill, .int one]) (rest := []) dX10_better_3 (c_P_lays (d := 4) (u := u) (g := g) (ex := ex) (hill := hill) (plan := one)  (by decide) hp0 hp1 hp2 hp3 hp4 hp5 hp6 hp7 hp8 hp9 hp10 hp11 hp12 hp13 hp14 hp15 hp16 hp17 hp18) hq.n k723 k725 k12 wc_0 rfl rfl k87 k726 np_X10_lays (Nat.le_trans (by decide) hd) (by decide) (Nat.le_refl _) (Nat.le_refl _) wlen rfl (Nat.le_of_ble_eq_true rfl) (fun r_ h_ p1 => ?_)
  obtain ⟨t2, u3, rfl, rfl, h4, h5, h6, fr7, fc8, fc9⟩ := p1
  refine J_ifB_ne (tgt := 11) dX10_better_6 (by decide) (fun c10 => ?_) (fun c10 => ?_)
  · refine J_aload_n (i := 0) (j := 0) dX10_better_11 rfl rfl ?_
    refine J_get (C := RX10) (T := TX10) (Z := 10) (ci := 10) (f := 8) dX10_better_12 inG10 rfl (by decide) k431 wc_0 rfl ?_
    refine J_aload_n (i := 0) (j := 0) dX10_better_15 rfl rfl ?_
    refine J_get (C := RX10) (T := TX10) (Z := 10) (ci := 10) (f := 4) dX10_better_16 inG10 rfl (by decide) k427 wc_0 rfl ?_
    refine J_getN (C := RX4) (T := TX4) (Z := 4) (ci := 4) (f := 0) dX10_better_19 inG4 rfl (by decide) k295 wc_43 rfl ?_
    refine J_iconst (v := (-1)) dX10_better_22 (by decide) ?_
    refine J_callV (As := [.ref 44, .int (-1)]) (rest := []) dX10_better_23 (c_O_wholeMean_44 (d := 4) (u := u3) (g := g) (ex := ex) (keeper := (-1))  (by decide) h4 h5 (ab_c (fr7 66 rfl) hp21)) hq.n k1029 k995 k996 wc_57 rfl rfl k96 k997 np_X2_wholeMean (Nat.le_trans (by decide) hd) (by decide) (Nat.le_refl _) (Nat.le_refl _) wlen rfl (Nat.le_of_ble_eq_true rfl) (fun r_ h_ p11 => ?_)
    obtain ⟨l12, u13, g14, rfl, rfl, h15, h16, h17, fr18, fc19, fc20⟩ := p11
    refine J_lstore (i := 4) (lw := [(4, .long l12), (0, .ref 0), (1, .int hill), (2, .int one), (3, .int other)]) dX10_better_26 (by decide) rfl ?_
    refine J_aload_n (i := 0) (j := 1) dX10_better_28 rfl rfl ?_
    refine J_iload_n (i := 1) (j := 2) dX10_better_29 rfl rfl ?_
    refine J_iload_n (i := 3) (j := 4) dX10_better_30 rfl rfl ?_
    refine J_callV (As := [.int hill, .int other]) (rest := []) dX10_better_31 (c_P_lays (d := 4) (u := u13) (g := g14) (ex := ex) (hill := hill) (plan := other)  (by decide) (bd_r ((congrFun (fr18 1 rfl) 5).trans (congrFun (fr7 1 rfl) 5)) hp0) (bd_r ((congrFun (fr18 1 rfl) 7).trans (congrFun (fr7 1 rfl) 7)) hp1) (bd_r (congrFun (fr18 44 rfl) 0) h4) (bd_r (congrFun (fr18 44 rfl) 2) h5) (bd_r ((congrFun (fr18 5 rfl) 0).trans (congrFun (fr7 5 rfl) 0)) hp4) (bd_r ((congrFun (fr18 5 rfl) 2).trans (congrFun (fr7 5 rfl) 2)) hp5) (bd_r ((congrFun (fr18 10 rfl) 0).trans (congrFun (fr7 10 rfl) 0)) hp6) (bd_r ((congrFun (fr18 10 rfl) 2).trans (congrFun (fr7 10 rfl) 2)) hp7) (bd_r ((congrFun (fr18 15 rfl) 0).trans (congrFun (fr7 15 rfl) 0)) hp8) (bd_r ((congrFun (fr18 19 rfl) 0).trans (congrFun (fr7 19 rfl) 0)) hp9) (bd_r ((congrFun (fr18 23 rfl) 0).trans (congrFun (fr7 23 rfl) 0)) hp10) (bd_r ((congrFun (fr18 49 rfl) 0).trans (congrFun (fr7 49 rfl) 0)) hp11) (ab_c (fr18 45 rfl) h6) (ab_c ((fr18 6 rfl).trans (fr7 6 rfl)) hp13) (ab_c ((fr18 11 rfl).trans (fr7 11 rfl)) hp14) (km_c ((fr18 16 rfl).trans (fr7 16 rfl)) ((fr18 18 rfl).trans (fr7 18 rfl)) hp15) (km_c ((fr18 20 rfl).trans (fr7 20 rfl)) ((fr18 22 rfl).trans (fr7 22 rfl)) hp16) (km_c ((fr18 24 rfl).trans (fr7 24 rfl)) ((fr18 26 rfl).trans (fr7 26 rfl)) hp17) (km_c ((fr18 50 rfl).trans (fr7 50 rfl)) ((fr18 52 rfl).trans (fr7 52 rfl)) hp18)) hq.n k723 k725 k12 wc_0 rfl rfl k87 k726 np_X10_lays (Nat.le_trans (by decide) hd) (by decide) (Nat.le_refl _) (Nat.le_refl _) wlen rfl (Nat.le_of_ble_eq_true rfl) (fun r_ h_ p21 => ?_)
    obtain ⟨t22, u23, rfl, rfl, h24, h25, h26, fr27, fc28, fc29⟩ := p21
    refine J_ifB_ne (tgt := 39) dX10_better_34 (by decide) (fun c30 => ?_) (fun c30 => ?_)
    · refine J_aload_n (i := 0) (j := 1) dX10_better_39 rfl rfl ?_
      refine J_get (C := RX10) (T := TX10) (Z := 10) (ci := 10) (f := 8) dX10_better_40 inG10 rfl (by decide) k431 wc_0 rfl ?_
      refine J_aload_n (i := 0) (j := 1) dX10_better_43 rfl rfl ?_
      refine J_get (C := RX10) (T := TX10) (Z := 10) (ci := 10) (f := 4) dX10_better_44 inG10 rfl (by decide) k427 wc_0 rfl ?_
      refine J_getN (C := RX4) (T := TX4) (Z := 4) (ci := 4) (f := 0) dX10_better_47 inG4 rfl (by decide) k295 wc_43 rfl ?_
      refine J_iconst (v := (-1)) dX10_better_50 (by decide) ?_
      refine J_callV (As := [.ref 44, .int (-1)]) (rest := []) dX10_better_51 (c_O_wholeMean_44 (d := 4) (u := u23) (g := g14) (ex := ex) (keeper := (-1))  (by decide) h24 h25 (ab_c (fr27 66 rfl) h17)) hq.n k1029 k995 k996 wc_57 rfl rfl k96 k997 np_X2_wholeMean (Nat.le_trans (by decide) hd) (by decide) (Nat.le_refl _) (Nat.le_refl _) wlen rfl (Nat.le_of_ble_eq_true rfl) (fun r_ h_ p31 => ?_)
      obtain ⟨l32, u33, g34, rfl, rfl, h35, h36, h37, fr38, fc39, fc40⟩ := p31
      refine J_lstore (i := 6) (lw := [(6, .long l32), (4, .long l12), (0, .ref 0), (1, .int hill), (2, .int one), (3, .int other)]) dX10_better_54 (by decide) rfl ?_
      refine J_lload (i := 4) (j := 1) dX10_better_56 rfl ?_
      refine J_lload (i := 6) (j := 0) dX10_better_58 rfl ?_
      refine J_lcmp dX10_better_60 ?_
      refine J_if_ne (tgt := 66) dX10_better_61 (by decide) (fun c41 => ?_) (fun c41 => ?_)
      · refine J_lload (i := 4) (j := 1) dX10_better_66 rfl ?_
        refine J_lload (i := 6) (j := 0) dX10_better_68 rfl ?_
        refine J_lcmp dX10_better_70 ?_
        refine J_if_ge (tgt := 78) dX10_better_71 (by decide) (fun c42 => ?_) (fun c42 => ?_)
        · refine J_iconst (v := 1) dX10_better_78 (by decide) ?_
          exact J_iret hq dX10_better_79 rfl wlen (Nat.le_refl _) (Nat.le_refl _) ⟨(1 : Int32), u33, g34, rfl, rfl, (bd_r (congrFun (fr38 44 rfl) 0) h24), (bd_r (congrFun (fr38 44 rfl) 2) h25), (ab_c (fr38 45 rfl) h26), h35, h36, h37, (fun c k_ => ((fr38 c (nin_sub (M := [(58, 67)]) k_ rfl)).trans ((fr27 c (nin_sub (M := [(43, 48)]) k_ rfl)).trans ((fr18 c (nin_sub (M := [(58, 67)]) k_ rfl)).trans (fr7 c (nin_sub (M := [(43, 48)]) k_ rfl)))))), (fun j k1_ k2_ k3_ => ((congrFun (fr38 43 rfl) j).trans ((fc28 j k1_ k2_ k3_).trans ((congrFun (fr18 43 rfl) j).trans (fc8 j k1_ k2_ k3_))))), (fun j k0_ k2_ => ((congrFun (fr38 44 rfl) j).trans ((fc29 j k0_ k2_).trans ((congrFun (fr18 44 rfl) j).trans (fc9 j k0_ k2_))))), (fun j k0_ k1_ k2_ k3_ k4_ => ((fc39 j k0_ k1_ k2_ k3_ k4_).trans ((congrFun (fr27 58 rfl) j).trans ((fc19 j k0_ k1_ k2_ k3_ k4_).trans (congrFun (fr7 58 rfl) j))))), (fun j k0_ k2_ => ((fc40 j k0_ k2_).trans ((congrFun (fr27 61 rfl) j).trans ((fc20 j k0_ k2_).trans (congrFun (fr7 61 rfl) j)))))⟩
        · refine J_iconst (v := 0) dX10_better_74 (by decide) ?_
          refine J_goto (tgt := 79) dX10_better_75 (by decide) ?_
          exact J_iret hq dX10_better_79 rfl wlen (Nat.le_refl _) (Nat.le_refl _) ⟨(0 : Int32), u33, g34, rfl, rfl, (bd_r (congrFun (fr38 44 rfl) 0) h24), (bd_r (congrFun (fr38 44 rfl) 2) h25), (ab_c (fr38 45 rfl) h26), h35, h36, h37, (fun c k_ => ((fr38 c (nin_sub (M := [(58, 67)]) k_ rfl)).trans ((fr27 c (nin_sub (M := [(43, 48)]) k_ rfl)).trans ((fr18 c (nin_sub (M := [(58, 67)]) k_ rfl)).trans (fr7 c (nin_sub (M := [(43, 48)]) k_ rfl)))))), (fun j k1_ k2_ k3_ => ((congrFun (fr38 43 rfl) j).trans ((fc28 j k1_ k2_ k3_).trans ((congrFun (fr18 43 rfl) j).trans (fc8 j k1_ k2_ k3_))))), (fun j k0_ k2_ => ((congrFun (fr38 44 rfl) j).trans ((fc29 j k0_ k2_).trans ((congrFun (fr18 44 rfl) j).trans (fc9 j k0_ k2_))))), (fun j k0_ k1_ k2_ k3_ k4_ => ((fc39 j k0_ k1_ k2_ k3_ k4_).trans ((congrFun (fr27 58 rfl) j).trans ((fc19 j k0_ k1_ k2_ k3_ k4_).trans (congrFun (fr7 58 rfl) j))))), (fun j k0_ k2_ => ((fc40 j k0_ k2_).trans ((congrFun (fr27 61 rfl) j).trans ((fc20 j k0_ k2_).trans (congrFun (fr7 61 rfl) j)))))⟩
      · refine J_iconst (v := 2) dX10_better_64 (by decide) ?_
        exact J_iret hq dX10_better_65 rfl wlen (Nat.le_refl _) (Nat.le_refl _) ⟨(2 : Int32), u33, g34, rfl, rfl, (bd_r (congrFun (fr38 44 rfl) 0) h24), (bd_r (congrFun (fr38 44 rfl) 2) h25), (ab_c (fr38 45 rfl) h26), h35, h36, h37, (fun c k_ => ((fr38 c (nin_sub (M := [(58, 67)]) k_ rfl)).trans ((fr27 c (nin_sub (M := [(43, 48)]) k_ rfl)).trans ((fr18 c (nin_sub (M := [(58, 67)]) k_ rfl)).trans (fr7 c (nin_sub (M := [(43, 48)]) k_ rfl)))))), (fun j k1_ k2_ k3_ => ((congrFun (fr38 43 rfl) j).trans ((fc28 j k1_ k2_ k3_).trans ((congrFun (fr18 43 rfl) j).trans (fc8 j k1_ k2_ k3_))))), (fun j k0_ k2_ => ((congrFun (fr38 44 rfl) j).trans ((fc29 j k0_ k2_).trans ((congrFun (fr18 44 rfl) j).trans (fc9 j k0_ k2_))))), (fun j k0_ k1_ k2_ k3_ k4_ => ((fc39 j k0_ k1_ k2_ k3_ k4_).trans ((congrFun (fr27 58 rfl) j).trans ((fc19 j k0_ k1_ k2_ k3_ k4_).trans (congrFun (fr7 58 rfl) j))))), (fun j k0_ k2_ => ((fc40 j k0_ k2_).trans ((congrFun (fr27 61 rfl) j).trans ((fc20 j k0_ k2_).trans (congrFun (fr7 61 rfl) j)))))⟩
    · refine J_iconst (v := (-1)) dX10_better_37 (by decide) ?_
      exact J_iret hq dX10_better_38 rfl wlen (Nat.le_refl _) (Nat.le_refl _) ⟨((-1) : Int32), u23, g14, rfl, rfl, h24, h25, h26, (bd_r (congrFun (fr27 61 rfl) 0) h15), (bd_r (congrFun (fr27 61 rfl) 2) h16), (ab_c (fr27 66 rfl) h17), (fun c k_ => ((fr27 c (nin_sub (M := [(43, 48)]) k_ rfl)).trans ((fr18 c (nin_sub (M := [(58, 67)]) k_ rfl)).trans (fr7 c (nin_sub (M := [(43, 48)]) k_ rfl))))), (fun j k1_ k2_ k3_ => ((fc28 j k1_ k2_ k3_).trans ((congrFun (fr18 43 rfl) j).trans (fc8 j k1_ k2_ k3_)))), (fun j k0_ k2_ => ((fc29 j k0_ k2_).trans ((congrFun (fr18 44 rfl) j).trans (fc9 j k0_ k2_)))), (fun j k0_ k1_ k2_ k3_ k4_ => ((congrFun (fr27 58 rfl) j).trans ((fc19 j k0_ k1_ k2_ k3_ k4_).trans (congrFun (fr7 58 rfl) j)))), (fun j k0_ k2_ => ((congrFun (fr27 61 rfl) j).trans ((fc20 j k0_ k2_).trans (congrFun (fr7 61 rfl) j))))⟩
  · refine J_iconst (v := (-1)) dX10_better_9 (by decide) ?_
    exact J_iret hq dX10_better_10 rfl wlen (Nat.le_refl _) (Nat.le_refl _) ⟨((-1) : Int32), u3, g, rfl, rfl, h4, h5, h6, (bd_r (congrFun (fr7 61 rfl) 0) hp19), (bd_r (congrFun (fr7 61 rfl) 2) hp20), (ab_c (fr7 66 rfl) hp21), (fun c k_ => (fr7 c (nin_sub (M := [(43, 48)]) k_ rfl))), (fun j k1_ k2_ k3_ => (fc8 j k1_ k2_ k3_)), (fun j k0_ k2_ => (fc9 j k0_ k2_)), (fun j k0_ k1_ k2_ k3_ k4_ => (congrFun (fr7 58 rfl) j)), (fun j k0_ k2_ => (congrFun (fr7 61 rfl) j))⟩
set_option maxHeartbeats 4000000 in
set_option maxRecDepth 100000 in
theorem c_P_count {d : Nat} {u : Nat → Nat → Int32} {g : Nat → Nat → Int64} {ex : List MC} {what : Int32} (hd : 0 ≤ d)  : CT con0 d 0 0 yX10_count cX10_count 2 (some .int) [.ref 0, .int what] (Wd u g ex) (fun r h2 => ∃ (z : Int32), r = some (.int z) ∧ h2 = Wd u g ex) := by
  refine CT_of (by decide) (Nat.le_of_ble_eq_true rfl) (fun x hq => ?_)
  show J x yX10_count cX10_count 2 (some .int) d 0 0 (Wd u g ex).length 0 [(0, .ref 0), (1, .int what)] [] (Wd u g ex) 0 0
  refine J_iload_n (i := 1) (j := 1) dX10_count_0 rfl rfl ?_
  by_cases c1 : what = 0
  · refine J_ci (v := 0) c1 ?_
    refine J_lookup (tgt := 28) dX10_count_1 (by decide) (off := 27) (by decide) (by decide) ?_
    refine J_aload_n (i := 0) (j := 0) dX10_count_28 rfl rfl ?_
    refine J_get (C := RX10) (T := TX10) (Z := 10) (ci := 10) (f := 0) dX10_count_29 inG10 rfl (by decide) k423 wc_0 rfl ?_
    refine J_getN (C := RX7) (T := TX7) (Z := 8) (ci := 7) (f := 5) dX10_count_32 inG7 rfl (by decide) k197 wc_1 rfl ?_
    exact J_iret hq dX10_count_35 rfl wlen (Nat.le_refl _) (Nat.le_refl _) ⟨(u 1 5), rfl, rfl⟩
  by_cases c2 : what = 1
  · refine J_ci (v := 1) c2 ?_
    refine J_lookup (tgt := 36) dX10_count_1 (by decide) (off := 35) (by decide) (by decide) ?_
    refine J_aload_n (i := 0) (j := 0) dX10_count_36 rfl rfl ?_
    refine J_get (C := RX10) (T := TX10) (Z := 10) (ci := 10) (f := 0) dX10_count_37 inG10 rfl (by decide) k423 wc_0 rfl ?_
    refine J_getN (C := RX7) (T := TX7) (Z := 8) (ci := 7) (f := 7) dX10_count_40 inG7 rfl (by decide) k201 wc_1 rfl ?_
    exact J_iret hq dX10_count_43 rfl wlen (Nat.le_refl _) (Nat.le_refl _) ⟨(u 1 7), rfl, rfl⟩
  · refine J_lookup (tgt := 44) dX10_count_1 (by decide) (off := 43) ((lv_osw c1 (by decide)).trans ((lv_osw c2 (by decide)).trans rfl)) (by decide) ?_
    refine J_bipush (v := (-2)) dX10_count_44 (by decide) ?_
    exact J_iret hq dX10_count_46 rfl wlen (Nat.le_refl _) (Nat.le_refl _) ⟨((-2) : Int32), rfl, rfl⟩
