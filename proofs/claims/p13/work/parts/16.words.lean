theorem k493 : Cond.methodLink RX6 29 Lib.Math.min.name ∈ gt := gt_t2 (i := 167) rfl rfl
theorem k507 : Cond.methodLink RX6 39 yX6_isLetter ∈ gt := gt_t2 (i := 181) rfl rfl
theorem k508 : Cond.static yX6_isLetter ∈ gt := gt_t2 (i := 182) rfl rfl
theorem k509 : Cond.code yX6_isLetter cX6_isLetter 1 (some .boolean) ∈ gt := gt_t2 (i := 183) rfl rfl
theorem np_X6_isLetter : yX6_isLetter.cls ≠ "java/lang/invoke/MethodHandle" ∧ yX6_isLetter.cls ≠ "java/lang/invoke/VarHandle" ∧ (parseMethodDescriptor yX6_isLetter.desc).map (fun d => d.parameters.length) = some 1 := by decide +kernel
theorem k514 : Cond.methodLink RX6 45 yX6_isDigit ∈ gt := gt_t2 (i := 188) rfl rfl
theorem k515 : Cond.static yX6_isDigit ∈ gt := gt_t2 (i := 189) rfl rfl
theorem k516 : Cond.code yX6_isDigit cX6_isDigit 1 (some .boolean) ∈ gt := gt_t2 (i := 190) rfl rfl
theorem np_X6_isDigit : yX6_isDigit.cls ≠ "java/lang/invoke/MethodHandle" ∧ yX6_isDigit.cls ≠ "java/lang/invoke/VarHandle" ∧ (parseMethodDescriptor yX6_isDigit.desc).map (fun d => d.parameters.length) = some 1 := by decide +kernel
theorem k504 : Cond.methodLink RX6 35 yX6_isBlank ∈ gt := gt_t2 (i := 178) rfl rfl
theorem k505 : Cond.static yX6_isBlank ∈ gt := gt_t2 (i := 179) rfl rfl
theorem k506 : Cond.code yX6_isBlank cX6_isBlank 1 (some .boolean) ∈ gt := gt_t2 (i := 180) rfl rfl
theorem np_X6_isBlank : yX6_isBlank.cls ≠ "java/lang/invoke/MethodHandle" ∧ yX6_isBlank.cls ≠ "java/lang/invoke/VarHandle" ∧ (parseMethodDescriptor yX6_isBlank.desc).map (fun d => d.parameters.length) = some 1 := by decide +kernel
theorem k517 : Cond.methodLink RX6 48 yX6_takeNumber ∈ gt := gt_t2 (i := 191) rfl rfl
theorem k519 : Cond.instanceMethod yX6_takeNumber ∈ gt := gt_t2 (i := 193) rfl rfl
theorem k2 : Cond.selects RX6 yX6_takeNumber yX6_takeNumber ∈ gt := gt_in 2 (by decide +kernel) (by decide +kernel)
theorem k520 : Cond.code yX6_takeNumber cX6_takeNumber 1 none ∈ gt := gt_t2 (i := 194) rfl rfl
theorem np_X6_takeNumber : yX6_takeNumber.cls ≠ "java/lang/invoke/MethodHandle" ∧ yX6_takeNumber.cls ≠ "java/lang/invoke/VarHandle" ∧ (parseMethodDescriptor yX6_takeNumber.desc).map (fun d => d.parameters.length) = some 0 := by decide +kernel
theorem k510 : Cond.methodLink RX6 42 yX6_takeWord ∈ gt := gt_t2 (i := 184) rfl rfl
theorem k512 : Cond.instanceMethod yX6_takeWord ∈ gt := gt_t2 (i := 186) rfl rfl
theorem k1 : Cond.selects RX6 yX6_takeWord yX6_takeWord ∈ gt := gt_in 1 (by decide +kernel) (by decide +kernel)
theorem k513 : Cond.code yX6_takeWord cX6_takeWord 1 none ∈ gt := gt_t2 (i := 187) rfl rfl
theorem np_X6_takeWord : yX6_takeWord.cls ≠ "java/lang/invoke/MethodHandle" ∧ yX6_takeWord.cls ≠ "java/lang/invoke/VarHandle" ∧ (parseMethodDescriptor yX6_takeWord.desc).map (fun d => d.parameters.length) = some 0 := by decide +kernel
theorem k561 : Cond.fieldLink RJ0 38 "java/lang/String" "COMPACT_STRINGS" "Z" ∈ gt := gt_t2 (i := 235) rfl rfl
theorem k1814 : Cond.fieldLink RJ0 15 "java/lang/String" "coder" "B" ∈ gt := gt_t8 (i := 48) rfl rfl
theorem k1813 : Cond.fieldLink RJ0 9 "java/lang/String" "value" "[B" ∈ gt := gt_t8 (i := 47) rfl rfl
theorem k557 : Cond.methodLink RJ0 335 yJ0_coder_7d493 ∈ gt := gt_t2 (i := 231) rfl rfl
theorem k558 : Cond.instanceMethod yJ0_coder_7d493 ∈ gt := gt_t2 (i := 232) rfl rfl
theorem k559 : Cond.selects RJ0 yJ0_coder_7d493 yJ0_coder_7d493 ∈ gt := gt_t2 (i := 233) rfl rfl
theorem k100 : Cond.initialized RJ0 ∈ gt := gt_t1 (i := 14) rfl rfl
theorem k560 : Cond.code yJ0_coder_7d493 cJ0_coder_7d493 1 (some .byte) ∈ gt := gt_t2 (i := 234) rfl rfl
theorem np_J0_coder_7d493 : yJ0_coder_7d493.cls ≠ "java/lang/invoke/MethodHandle" ∧ yJ0_coder_7d493.cls ≠ "java/lang/invoke/VarHandle" ∧ (parseMethodDescriptor yJ0_coder_7d493.desc).map (fun d => d.parameters.length) = some 0 := by decide +kernel
theorem k577 : Cond.fieldLink RJ0 1053 "jdk/internal/util/Preconditions" "SIOOBE_FORMATTER" "Ljava/util/function/BiFunction;" ∈ gt := gt_t3 (i := 11) rfl rfl
theorem k579 : Cond.methodLink RJ0 1059 yJ3_checkIndex_8e157 ∈ gt := gt_t3 (i := 13) rfl rfl
theorem k580 : Cond.static yJ3_checkIndex_8e157 ∈ gt := gt_t3 (i := 14) rfl rfl
theorem k102 : Cond.initialized RJ3 ∈ gt := gt_t1 (i := 16) rfl rfl
theorem k581 : Cond.code yJ3_checkIndex_8e157 cJ3_checkIndex_8e157 3 (some .int) ∈ gt := gt_t3 (i := 15) rfl rfl
theorem np_J3_checkIndex_8e157 : yJ3_checkIndex_8e157.cls ≠ "java/lang/invoke/MethodHandle" ∧ yJ3_checkIndex_8e157.cls ≠ "java/lang/invoke/VarHandle" ∧ (parseMethodDescriptor yJ3_checkIndex_8e157.desc).map (fun d => d.parameters.length) = some 3 := by decide +kernel
theorem k574 : Cond.methodLink RJ1 9 yJ0_checkIndex_df160 ∈ gt := gt_t3 (i := 8) rfl rfl
theorem k575 : Cond.static yJ0_checkIndex_df160 ∈ gt := gt_t3 (i := 9) rfl rfl
theorem k576 : Cond.code yJ0_checkIndex_df160 cJ0_checkIndex_df160 2 none ∈ gt := gt_t3 (i := 10) rfl rfl
theorem np_J0_checkIndex_df160 : yJ0_checkIndex_df160.cls ≠ "java/lang/invoke/MethodHandle" ∧ yJ0_checkIndex_df160.cls ≠ "java/lang/invoke/VarHandle" ∧ (parseMethodDescriptor yJ0_checkIndex_df160.desc).map (fun d => d.parameters.length) = some 2 := by decide +kernel
theorem k567 : Cond.methodLink RJ0 492 yJ0_isLatin1_aae02 ∈ gt := gt_t3 (i := 1) rfl rfl
theorem k568 : Cond.instanceMethod yJ0_isLatin1_aae02 ∈ gt := gt_t3 (i := 2) rfl rfl
theorem k569 : Cond.selects RJ0 yJ0_isLatin1_aae02 yJ0_isLatin1_aae02 ∈ gt := gt_t3 (i := 3) rfl rfl
theorem k570 : Cond.code yJ0_isLatin1_aae02 cJ0_isLatin1_aae02 1 (some .boolean) ∈ gt := gt_t3 (i := 4) rfl rfl
theorem np_J0_isLatin1_aae02 : yJ0_isLatin1_aae02.cls ≠ "java/lang/invoke/MethodHandle" ∧ yJ0_isLatin1_aae02.cls ≠ "java/lang/invoke/VarHandle" ∧ (parseMethodDescriptor yJ0_isLatin1_aae02.desc).map (fun d => d.parameters.length) = some 0 := by decide +kernel
theorem k571 : Cond.methodLink RJ0 495 yJ1_charAt_3b067 ∈ gt := gt_t3 (i := 5) rfl rfl
theorem k572 : Cond.static yJ1_charAt_3b067 ∈ gt := gt_t3 (i := 6) rfl rfl
theorem k101 : Cond.initialized RJ1 ∈ gt := gt_t1 (i := 15) rfl rfl
theorem k573 : Cond.code yJ1_charAt_3b067 cJ1_charAt_3b067 2 (some .char) ∈ gt := gt_t3 (i := 7) rfl rfl
theorem np_J1_charAt_3b067 : yJ1_charAt_3b067.cls ≠ "java/lang/invoke/MethodHandle" ∧ yJ1_charAt_3b067.cls ≠ "java/lang/invoke/VarHandle" ∧ (parseMethodDescriptor yJ1_charAt_3b067.desc).map (fun d => d.parameters.length) = some 2 := by decide +kernel
theorem dX6_isBlank_0 : decode cX6_isBlank 0 = .ok (.iload_n 0, 1) := dc_26 rfl
theorem dX6_isBlank_1 : decode cX6_isBlank 1 = .ok (.bipush 10, 2) := dc_16 rfl rfl (by decide)
theorem dX6_isBlank_3 : decode cX6_isBlank 3 = .ok (.if_icmp .eq 9, 3) := dc_159 rfl rfl rfl (sg_p rfl rfl)
theorem dX6_isBlank_6 : decode cX6_isBlank 6 = .ok (.iload_n 0, 1) := dc_26 rfl
theorem dX6_isBlank_7 : decode cX6_isBlank 7 = .ok (.bipush 32, 2) := dc_16 rfl rfl (by decide)
theorem dX6_isBlank_9 : decode cX6_isBlank 9 = .ok (.if_icmp .ne 7, 3) := dc_160 rfl rfl rfl (sg_p rfl rfl)
theorem dX6_isBlank_12 : decode cX6_isBlank 12 = .ok (.iconst 1, 1) := dc_4 rfl
theorem dX6_isBlank_13 : decode cX6_isBlank 13 = .ok (.goto 4, 3) := dc_167 rfl rfl rfl (sg_p rfl rfl)
theorem dX6_isBlank_16 : decode cX6_isBlank 16 = .ok (.iconst 0, 1) := dc_3 rfl
theorem dX6_isBlank_17 : decode cX6_isBlank 17 = .ok (.ireturn, 1) := dc_172 rfl
theorem dX6_isLetter_0 : decode cX6_isLetter 0 = .ok (.iload_n 0, 1) := dc_26 rfl
theorem dX6_isLetter_1 : decode cX6_isLetter 1 = .ok (.bipush 97, 2) := dc_16 rfl rfl (by decide)
theorem dX6_isLetter_3 : decode cX6_isLetter 3 = .ok (.if_icmp .lt 13, 3) := dc_161 rfl rfl rfl (sg_p rfl rfl)
theorem dX6_isLetter_6 : decode cX6_isLetter 6 = .ok (.iload_n 0, 1) := dc_26 rfl
theorem dX6_isLetter_7 : decode cX6_isLetter 7 = .ok (.bipush 122, 2) := dc_16 rfl rfl (by decide)
theorem dX6_isLetter_9 : decode cX6_isLetter 9 = .ok (.if_icmp .gt 7, 3) := dc_163 rfl rfl rfl (sg_p rfl rfl)
theorem dX6_isLetter_12 : decode cX6_isLetter 12 = .ok (.iconst 1, 1) := dc_4 rfl
theorem dX6_isLetter_13 : decode cX6_isLetter 13 = .ok (.goto 4, 3) := dc_167 rfl rfl rfl (sg_p rfl rfl)
theorem dX6_isLetter_16 : decode cX6_isLetter 16 = .ok (.iconst 0, 1) := dc_3 rfl
theorem dX6_isLetter_17 : decode cX6_isLetter 17 = .ok (.ireturn, 1) := dc_172 rfl
theorem dX6_isDigit_0 : decode cX6_isDigit 0 = .ok (.iload_n 0, 1) := dc_26 rfl
theorem dX6_isDigit_1 : decode cX6_isDigit 1 = .ok (.bipush 48, 2) := dc_16 rfl rfl (by decide)
theorem dX6_isDigit_3 : decode cX6_isDigit 3 = .ok (.if_icmp .lt 13, 3) := dc_161 rfl rfl rfl (sg_p rfl rfl)
theorem dX6_isDigit_6 : decode cX6_isDigit 6 = .ok (.iload_n 0, 1) := dc_26 rfl
theorem dX6_isDigit_7 : decode cX6_isDigit 7 = .ok (.bipush 57, 2) := dc_16 rfl rfl (by decide)
theorem dX6_isDigit_9 : decode cX6_isDigit 9 = .ok (.if_icmp .gt 7, 3) := dc_163 rfl rfl rfl (sg_p rfl rfl)
theorem dX6_isDigit_12 : decode cX6_isDigit 12 = .ok (.iconst 1, 1) := dc_4 rfl
theorem dX6_isDigit_13 : decode cX6_isDigit 13 = .ok (.goto 4, 3) := dc_167 rfl rfl rfl (sg_p rfl rfl)
theorem dX6_isDigit_16 : decode cX6_isDigit 16 = .ok (.iconst 0, 1) := dc_3 rfl
theorem dX6_isDigit_17 : decode cX6_isDigit 17 = .ok (.ireturn, 1) := dc_172 rfl
theorem dX6_begin_0 : decode cX6_begin 0 = .ok (.aload_n 0, 1) := dc_42 rfl
theorem dX6_begin_1 : decode cX6_begin 1 = .ok (.aload_n 1, 1) := dc_43 rfl
theorem dX6_begin_2 : decode cX6_begin 2 = .ok (.putfield 7, 3) := dc_181 rfl rfl rfl rfl
theorem dX6_begin_5 : decode cX6_begin 5 = .ok (.aload_n 0, 1) := dc_42 rfl
theorem dX6_begin_6 : decode cX6_begin 6 = .ok (.iload_n 2, 1) := dc_28 rfl
theorem dX6_begin_7 : decode cX6_begin 7 = .ok (.aload_n 1, 1) := dc_43 rfl
theorem dX6_begin_8 : decode cX6_begin 8 = .ok (.arraylength, 1) := dc_190 rfl
theorem dX6_begin_9 : decode cX6_begin 9 = .ok (.invokestatic 29, 3) := dc_184 rfl rfl rfl rfl
theorem dX6_begin_12 : decode cX6_begin 12 = .ok (.putfield 13, 3) := dc_181 rfl rfl rfl rfl
theorem dX6_begin_15 : decode cX6_begin 15 = .ok (.aload_n 0, 1) := dc_42 rfl
theorem dX6_begin_16 : decode cX6_begin 16 = .ok (.iconst 0, 1) := dc_3 rfl
theorem dX6_begin_17 : decode cX6_begin 17 = .ok (.putfield 17, 3) := dc_181 rfl rfl rfl rfl
theorem dX6_begin_20 : decode cX6_begin 20 = .ok (.return_, 1) := dc_177 rfl
theorem dX6_takeWord_0 : decode cX6_takeWord 0 = .ok (.aload_n 0, 1) := dc_42 rfl
theorem dX6_takeWord_1 : decode cX6_takeWord 1 = .ok (.iconst 1, 1) := dc_4 rfl
theorem dX6_takeWord_2 : decode cX6_takeWord 2 = .ok (.putfield 20, 3) := dc_181 rfl rfl rfl rfl
theorem dX6_takeWord_5 : decode cX6_takeWord 5 = .ok (.aload_n 0, 1) := dc_42 rfl
theorem dX6_takeWord_6 : decode cX6_takeWord 6 = .ok (.getfield 17, 3) := dc_180 rfl rfl rfl rfl
theorem dX6_takeWord_9 : decode cX6_takeWord 9 = .ok (.aload_n 0, 1) := dc_42 rfl
theorem dX6_takeWord_10 : decode cX6_takeWord 10 = .ok (.getfield 13, 3) := dc_180 rfl rfl rfl rfl
theorem dX6_takeWord_13 : decode cX6_takeWord 13 = .ok (.if_icmp .ge 31, 3) := dc_162 rfl rfl rfl (sg_p rfl rfl)
theorem dX6_takeWord_16 : decode cX6_takeWord 16 = .ok (.aload_n 0, 1) := dc_42 rfl
theorem dX6_takeWord_17 : decode cX6_takeWord 17 = .ok (.getfield 7, 3) := dc_180 rfl rfl rfl rfl
theorem dX6_takeWord_20 : decode cX6_takeWord 20 = .ok (.aload_n 0, 1) := dc_42 rfl
theorem dX6_takeWord_21 : decode cX6_takeWord 21 = .ok (.getfield 17, 3) := dc_180 rfl rfl rfl rfl
theorem dX6_takeWord_24 : decode cX6_takeWord 24 = .ok (.baload, 1) := dc_51 rfl
theorem dX6_takeWord_25 : decode cX6_takeWord 25 = .ok (.invokestatic 39, 3) := dc_184 rfl rfl rfl rfl
theorem dX6_takeWord_28 : decode cX6_takeWord 28 = .ok (.ifCond .eq 16, 3) := dc_153 rfl rfl rfl (sg_p rfl rfl)
theorem dX6_takeWord_31 : decode cX6_takeWord 31 = .ok (.aload_n 0, 1) := dc_42 rfl
theorem dX6_takeWord_32 : decode cX6_takeWord 32 = .ok (.dup, 1) := dc_89 rfl
theorem dX6_takeWord_33 : decode cX6_takeWord 33 = .ok (.getfield 17, 3) := dc_180 rfl rfl rfl rfl
theorem dX6_takeWord_36 : decode cX6_takeWord 36 = .ok (.iconst 1, 1) := dc_4 rfl
theorem dX6_takeWord_37 : decode cX6_takeWord 37 = .ok (.iadd, 1) := dc_96 rfl
theorem dX6_takeWord_38 : decode cX6_takeWord 38 = .ok (.putfield 17, 3) := dc_181 rfl rfl rfl rfl
theorem dX6_takeWord_41 : decode cX6_takeWord 41 = .ok (.goto (-36), 3) := dc_167 rfl rfl rfl (sg_n (k := 36) rfl rfl rfl)
theorem dX6_takeWord_44 : decode cX6_takeWord 44 = .ok (.return_, 1) := dc_177 rfl
theorem dX6_takeNumber_0 : decode cX6_takeNumber 0 = .ok (.aload_n 0, 1) := dc_42 rfl
theorem dX6_takeNumber_1 : decode cX6_takeNumber 1 = .ok (.iconst 0, 1) := dc_3 rfl
theorem dX6_takeNumber_2 : decode cX6_takeNumber 2 = .ok (.putfield 26, 3) := dc_181 rfl rfl rfl rfl
theorem dX6_takeNumber_5 : decode cX6_takeNumber 5 = .ok (.aload_n 0, 1) := dc_42 rfl
theorem dX6_takeNumber_6 : decode cX6_takeNumber 6 = .ok (.getfield 17, 3) := dc_180 rfl rfl rfl rfl
theorem dX6_takeNumber_9 : decode cX6_takeNumber 9 = .ok (.aload_n 0, 1) := dc_42 rfl
theorem dX6_takeNumber_10 : decode cX6_takeNumber 10 = .ok (.getfield 13, 3) := dc_180 rfl rfl rfl rfl
theorem dX6_takeNumber_13 : decode cX6_takeNumber 13 = .ok (.if_icmp .ge 55, 3) := dc_162 rfl rfl rfl (sg_p rfl rfl)
theorem dX6_takeNumber_16 : decode cX6_takeNumber 16 = .ok (.aload_n 0, 1) := dc_42 rfl
theorem dX6_takeNumber_17 : decode cX6_takeNumber 17 = .ok (.getfield 7, 3) := dc_180 rfl rfl rfl rfl
theorem dX6_takeNumber_20 : decode cX6_takeNumber 20 = .ok (.aload_n 0, 1) := dc_42 rfl
theorem dX6_takeNumber_21 : decode cX6_takeNumber 21 = .ok (.getfield 17, 3) := dc_180 rfl rfl rfl rfl
theorem dX6_takeNumber_24 : decode cX6_takeNumber 24 = .ok (.baload, 1) := dc_51 rfl
theorem dX6_takeNumber_25 : decode cX6_takeNumber 25 = .ok (.invokestatic 45, 3) := dc_184 rfl rfl rfl rfl
theorem dX6_takeNumber_28 : decode cX6_takeNumber 28 = .ok (.ifCond .eq 40, 3) := dc_153 rfl rfl rfl (sg_p rfl rfl)
theorem dX6_takeNumber_31 : decode cX6_takeNumber 31 = .ok (.aload_n 0, 1) := dc_42 rfl
theorem dX6_takeNumber_32 : decode cX6_takeNumber 32 = .ok (.aload_n 0, 1) := dc_42 rfl
theorem dX6_takeNumber_33 : decode cX6_takeNumber 33 = .ok (.getfield 26, 3) := dc_180 rfl rfl rfl rfl
theorem dX6_takeNumber_36 : decode cX6_takeNumber 36 = .ok (.bipush 10, 2) := dc_16 rfl rfl (by decide)
theorem dX6_takeNumber_38 : decode cX6_takeNumber 38 = .ok (.imul, 1) := dc_104 rfl
theorem dX6_takeNumber_39 : decode cX6_takeNumber 39 = .ok (.aload_n 0, 1) := dc_42 rfl
theorem dX6_takeNumber_40 : decode cX6_takeNumber 40 = .ok (.getfield 7, 3) := dc_180 rfl rfl rfl rfl
theorem dX6_takeNumber_43 : decode cX6_takeNumber 43 = .ok (.aload_n 0, 1) := dc_42 rfl
theorem dX6_takeNumber_44 : decode cX6_takeNumber 44 = .ok (.getfield 17, 3) := dc_180 rfl rfl rfl rfl
theorem dX6_takeNumber_47 : decode cX6_takeNumber 47 = .ok (.baload, 1) := dc_51 rfl
theorem dX6_takeNumber_48 : decode cX6_takeNumber 48 = .ok (.bipush 48, 2) := dc_16 rfl rfl (by decide)
theorem dX6_takeNumber_50 : decode cX6_takeNumber 50 = .ok (.isub, 1) := dc_100 rfl
theorem dX6_takeNumber_51 : decode cX6_takeNumber 51 = .ok (.iadd, 1) := dc_96 rfl
theorem dX6_takeNumber_52 : decode cX6_takeNumber 52 = .ok (.putfield 26, 3) := dc_181 rfl rfl rfl rfl
theorem dX6_takeNumber_55 : decode cX6_takeNumber 55 = .ok (.aload_n 0, 1) := dc_42 rfl
theorem dX6_takeNumber_56 : decode cX6_takeNumber 56 = .ok (.dup, 1) := dc_89 rfl
theorem dX6_takeNumber_57 : decode cX6_takeNumber 57 = .ok (.getfield 17, 3) := dc_180 rfl rfl rfl rfl
theorem dX6_takeNumber_60 : decode cX6_takeNumber 60 = .ok (.iconst 1, 1) := dc_4 rfl
theorem dX6_takeNumber_61 : decode cX6_takeNumber 61 = .ok (.iadd, 1) := dc_96 rfl
theorem dX6_takeNumber_62 : decode cX6_takeNumber 62 = .ok (.putfield 17, 3) := dc_181 rfl rfl rfl rfl
theorem dX6_takeNumber_65 : decode cX6_takeNumber 65 = .ok (.goto (-60), 3) := dc_167 rfl rfl rfl (sg_n (k := 60) rfl rfl rfl)
theorem dX6_takeNumber_68 : decode cX6_takeNumber 68 = .ok (.aload_n 0, 1) := dc_42 rfl
theorem dX6_takeNumber_69 : decode cX6_takeNumber 69 = .ok (.aload_n 0, 1) := dc_42 rfl
theorem dX6_takeNumber_70 : decode cX6_takeNumber 70 = .ok (.getfield 17, 3) := dc_180 rfl rfl rfl rfl
theorem dX6_takeNumber_73 : decode cX6_takeNumber 73 = .ok (.aload_n 0, 1) := dc_42 rfl
theorem dX6_takeNumber_74 : decode cX6_takeNumber 74 = .ok (.getfield 23, 3) := dc_180 rfl rfl rfl rfl
theorem dX6_takeNumber_77 : decode cX6_takeNumber 77 = .ok (.isub, 1) := dc_100 rfl
theorem dX6_takeNumber_78 : decode cX6_takeNumber 78 = .ok (.iconst 3, 1) := dc_6 rfl
theorem dX6_takeNumber_79 : decode cX6_takeNumber 79 = .ok (.if_icmp .le 7, 3) := dc_164 rfl rfl rfl (sg_p rfl rfl)
theorem dX6_takeNumber_82 : decode cX6_takeNumber 82 = .ok (.iconst 4, 1) := dc_7 rfl
theorem dX6_takeNumber_83 : decode cX6_takeNumber 83 = .ok (.goto 4, 3) := dc_167 rfl rfl rfl (sg_p rfl rfl)
theorem dX6_takeNumber_86 : decode cX6_takeNumber 86 = .ok (.iconst 2, 1) := dc_5 rfl
theorem dX6_takeNumber_87 : decode cX6_takeNumber 87 = .ok (.putfield 20, 3) := dc_181 rfl rfl rfl rfl
theorem dX6_takeNumber_90 : decode cX6_takeNumber 90 = .ok (.return_, 1) := dc_177 rfl
theorem dX6_advance_0 : decode cX6_advance 0 = .ok (.aload_n 0, 1) := dc_42 rfl
theorem dX6_advance_1 : decode cX6_advance 1 = .ok (.getfield 17, 3) := dc_180 rfl rfl rfl rfl
theorem dX6_advance_4 : decode cX6_advance 4 = .ok (.aload_n 0, 1) := dc_42 rfl
theorem dX6_advance_5 : decode cX6_advance 5 = .ok (.getfield 13, 3) := dc_180 rfl rfl rfl rfl
theorem dX6_advance_8 : decode cX6_advance 8 = .ok (.if_icmp .ge 31, 3) := dc_162 rfl rfl rfl (sg_p rfl rfl)
theorem dX6_advance_11 : decode cX6_advance 11 = .ok (.aload_n 0, 1) := dc_42 rfl
theorem dX6_advance_12 : decode cX6_advance 12 = .ok (.getfield 7, 3) := dc_180 rfl rfl rfl rfl
theorem dX6_advance_15 : decode cX6_advance 15 = .ok (.aload_n 0, 1) := dc_42 rfl
theorem dX6_advance_16 : decode cX6_advance 16 = .ok (.getfield 17, 3) := dc_180 rfl rfl rfl rfl
theorem dX6_advance_19 : decode cX6_advance 19 = .ok (.baload, 1) := dc_51 rfl
theorem dX6_advance_20 : decode cX6_advance 20 = .ok (.invokestatic 35, 3) := dc_184 rfl rfl rfl rfl
theorem dX6_advance_23 : decode cX6_advance 23 = .ok (.ifCond .eq 16, 3) := dc_153 rfl rfl rfl (sg_p rfl rfl)
theorem dX6_advance_26 : decode cX6_advance 26 = .ok (.aload_n 0, 1) := dc_42 rfl
theorem dX6_advance_27 : decode cX6_advance 27 = .ok (.dup, 1) := dc_89 rfl
theorem dX6_advance_28 : decode cX6_advance 28 = .ok (.getfield 17, 3) := dc_180 rfl rfl rfl rfl
theorem dX6_advance_31 : decode cX6_advance 31 = .ok (.iconst 1, 1) := dc_4 rfl
theorem dX6_advance_32 : decode cX6_advance 32 = .ok (.iadd, 1) := dc_96 rfl
theorem dX6_advance_33 : decode cX6_advance 33 = .ok (.putfield 17, 3) := dc_181 rfl rfl rfl rfl
theorem dX6_advance_36 : decode cX6_advance 36 = .ok (.goto (-36), 3) := dc_167 rfl rfl rfl (sg_n (k := 36) rfl rfl rfl)
theorem dX6_advance_39 : decode cX6_advance 39 = .ok (.aload_n 0, 1) := dc_42 rfl
theorem dX6_advance_40 : decode cX6_advance 40 = .ok (.aload_n 0, 1) := dc_42 rfl
theorem dX6_advance_41 : decode cX6_advance 41 = .ok (.getfield 17, 3) := dc_180 rfl rfl rfl rfl
theorem dX6_advance_44 : decode cX6_advance 44 = .ok (.putfield 23, 3) := dc_181 rfl rfl rfl rfl
theorem dX6_advance_47 : decode cX6_advance 47 = .ok (.aload_n 0, 1) := dc_42 rfl
theorem dX6_advance_48 : decode cX6_advance 48 = .ok (.getfield 23, 3) := dc_180 rfl rfl rfl rfl
theorem dX6_advance_51 : decode cX6_advance 51 = .ok (.aload_n 0, 1) := dc_42 rfl
theorem dX6_advance_52 : decode cX6_advance 52 = .ok (.getfield 13, 3) := dc_180 rfl rfl rfl rfl
theorem dX6_advance_55 : decode cX6_advance 55 = .ok (.if_icmp .lt 11, 3) := dc_161 rfl rfl rfl (sg_p rfl rfl)
theorem dX6_advance_58 : decode cX6_advance 58 = .ok (.aload_n 0, 1) := dc_42 rfl
theorem dX6_advance_59 : decode cX6_advance 59 = .ok (.iconst 0, 1) := dc_3 rfl
theorem dX6_advance_60 : decode cX6_advance 60 = .ok (.putfield 20, 3) := dc_181 rfl rfl rfl rfl
theorem dX6_advance_63 : decode cX6_advance 63 = .ok (.goto 80, 3) := dc_167 rfl rfl rfl (sg_p rfl rfl)
theorem dX6_advance_66 : decode cX6_advance 66 = .ok (.aload_n 0, 1) := dc_42 rfl
theorem dX6_advance_67 : decode cX6_advance 67 = .ok (.getfield 7, 3) := dc_180 rfl rfl rfl rfl
theorem dX6_advance_70 : decode cX6_advance 70 = .ok (.aload_n 0, 1) := dc_42 rfl
theorem dX6_advance_71 : decode cX6_advance 71 = .ok (.getfield 23, 3) := dc_180 rfl rfl rfl rfl
theorem dX6_advance_74 : decode cX6_advance 74 = .ok (.baload, 1) := dc_51 rfl
theorem dX6_advance_75 : decode cX6_advance 75 = .ok (.invokestatic 39, 3) := dc_184 rfl rfl rfl rfl
theorem dX6_advance_78 : decode cX6_advance 78 = .ok (.ifCond .eq 10, 3) := dc_153 rfl rfl rfl (sg_p rfl rfl)
theorem dX6_advance_81 : decode cX6_advance 81 = .ok (.aload_n 0, 1) := dc_42 rfl
theorem dX6_advance_82 : decode cX6_advance 82 = .ok (.invokevirtual 42, 3) := dc_182 rfl rfl rfl rfl
theorem dX6_advance_85 : decode cX6_advance 85 = .ok (.goto 58, 3) := dc_167 rfl rfl rfl (sg_p rfl rfl)
theorem dX6_advance_88 : decode cX6_advance 88 = .ok (.aload_n 0, 1) := dc_42 rfl
theorem dX6_advance_89 : decode cX6_advance 89 = .ok (.getfield 7, 3) := dc_180 rfl rfl rfl rfl
theorem dX6_advance_92 : decode cX6_advance 92 = .ok (.aload_n 0, 1) := dc_42 rfl
theorem dX6_advance_93 : decode cX6_advance 93 = .ok (.getfield 23, 3) := dc_180 rfl rfl rfl rfl
theorem dX6_advance_96 : decode cX6_advance 96 = .ok (.baload, 1) := dc_51 rfl
theorem dX6_advance_97 : decode cX6_advance 97 = .ok (.invokestatic 45, 3) := dc_184 rfl rfl rfl rfl
theorem dX6_advance_100 : decode cX6_advance 100 = .ok (.ifCond .eq 10, 3) := dc_153 rfl rfl rfl (sg_p rfl rfl)
theorem dX6_advance_103 : decode cX6_advance 103 = .ok (.aload_n 0, 1) := dc_42 rfl
theorem dX6_advance_104 : decode cX6_advance 104 = .ok (.invokevirtual 48, 3) := dc_182 rfl rfl rfl rfl
theorem dX6_advance_107 : decode cX6_advance 107 = .ok (.goto 36, 3) := dc_167 rfl rfl rfl (sg_p rfl rfl)
theorem dX6_advance_110 : decode cX6_advance 110 = .ok (.aload_n 0, 1) := dc_42 rfl
theorem dX6_advance_111 : decode cX6_advance 111 = .ok (.aload_n 0, 1) := dc_42 rfl
theorem dX6_advance_112 : decode cX6_advance 112 = .ok (.getfield 7, 3) := dc_180 rfl rfl rfl rfl
theorem dX6_advance_115 : decode cX6_advance 115 = .ok (.aload_n 0, 1) := dc_42 rfl
theorem dX6_advance_116 : decode cX6_advance 116 = .ok (.getfield 23, 3) := dc_180 rfl rfl rfl rfl
theorem dX6_advance_119 : decode cX6_advance 119 = .ok (.baload, 1) := dc_51 rfl
theorem dX6_advance_120 : decode cX6_advance 120 = .ok (.bipush 59, 2) := dc_16 rfl rfl (by decide)
theorem dX6_advance_122 : decode cX6_advance 122 = .ok (.if_icmp .ne 7, 3) := dc_160 rfl rfl rfl (sg_p rfl rfl)
theorem dX6_advance_125 : decode cX6_advance 125 = .ok (.iconst 3, 1) := dc_6 rfl
theorem dX6_advance_126 : decode cX6_advance 126 = .ok (.goto 4, 3) := dc_167 rfl rfl rfl (sg_p rfl rfl)
theorem dX6_advance_129 : decode cX6_advance 129 = .ok (.iconst 4, 1) := dc_7 rfl
theorem dX6_advance_130 : decode cX6_advance 130 = .ok (.putfield 20, 3) := dc_181 rfl rfl rfl rfl
theorem dX6_advance_133 : decode cX6_advance 133 = .ok (.aload_n 0, 1) := dc_42 rfl
theorem dX6_advance_134 : decode cX6_advance 134 = .ok (.dup, 1) := dc_89 rfl
theorem dX6_advance_135 : decode cX6_advance 135 = .ok (.getfield 17, 3) := dc_180 rfl rfl rfl rfl
theorem dX6_advance_138 : decode cX6_advance 138 = .ok (.iconst 1, 1) := dc_4 rfl
theorem dX6_advance_139 : decode cX6_advance 139 = .ok (.iadd, 1) := dc_96 rfl
theorem dX6_advance_140 : decode cX6_advance 140 = .ok (.putfield 17, 3) := dc_181 rfl rfl rfl rfl
theorem dX6_advance_143 : decode cX6_advance 143 = .ok (.return_, 1) := dc_177 rfl
theorem dJ0_coder_7d493_0 : decode cJ0_coder_7d493 0 = .ok (.getstatic 38, 3) := dc_178 rfl rfl rfl rfl
theorem dJ0_coder_7d493_3 : decode cJ0_coder_7d493 3 = .ok (.ifCond .eq 10, 3) := dc_153 rfl rfl rfl (sg_p rfl rfl)
theorem dJ0_coder_7d493_6 : decode cJ0_coder_7d493 6 = .ok (.aload_n 0, 1) := dc_42 rfl
theorem dJ0_coder_7d493_7 : decode cJ0_coder_7d493 7 = .ok (.getfield 15, 3) := dc_180 rfl rfl rfl rfl
theorem dJ0_coder_7d493_10 : decode cJ0_coder_7d493 10 = .ok (.goto 4, 3) := dc_167 rfl rfl rfl (sg_p rfl rfl)
theorem dJ0_coder_7d493_14 : decode cJ0_coder_7d493 14 = .ok (.ireturn, 1) := dc_172 rfl
theorem dJ0_isLatin1_aae02_0 : decode cJ0_isLatin1_aae02 0 = .ok (.getstatic 38, 3) := dc_178 rfl rfl rfl rfl
theorem dJ0_isLatin1_aae02_3 : decode cJ0_isLatin1_aae02 3 = .ok (.ifCond .eq 14, 3) := dc_153 rfl rfl rfl (sg_p rfl rfl)
theorem dJ0_isLatin1_aae02_6 : decode cJ0_isLatin1_aae02 6 = .ok (.aload_n 0, 1) := dc_42 rfl
theorem dJ0_isLatin1_aae02_7 : decode cJ0_isLatin1_aae02 7 = .ok (.getfield 15, 3) := dc_180 rfl rfl rfl rfl
theorem dJ0_isLatin1_aae02_10 : decode cJ0_isLatin1_aae02 10 = .ok (.ifCond .ne 7, 3) := dc_154 rfl rfl rfl (sg_p rfl rfl)
theorem dJ0_isLatin1_aae02_13 : decode cJ0_isLatin1_aae02 13 = .ok (.iconst 1, 1) := dc_4 rfl
theorem dJ0_isLatin1_aae02_14 : decode cJ0_isLatin1_aae02 14 = .ok (.goto 4, 3) := dc_167 rfl rfl rfl (sg_p rfl rfl)
theorem dJ0_isLatin1_aae02_18 : decode cJ0_isLatin1_aae02 18 = .ok (.ireturn, 1) := dc_172 rfl
theorem dJ0_length_8abf5_0 : decode cJ0_length_8abf5 0 = .ok (.aload_n 0, 1) := dc_42 rfl
theorem dJ0_length_8abf5_1 : decode cJ0_length_8abf5 1 = .ok (.getfield 9, 3) := dc_180 rfl rfl rfl rfl
theorem dJ0_length_8abf5_4 : decode cJ0_length_8abf5 4 = .ok (.arraylength, 1) := dc_190 rfl
theorem dJ0_length_8abf5_5 : decode cJ0_length_8abf5 5 = .ok (.aload_n 0, 1) := dc_42 rfl
theorem dJ0_length_8abf5_6 : decode cJ0_length_8abf5 6 = .ok (.invokevirtual 335, 3) := dc_182 rfl rfl rfl rfl
theorem dJ0_length_8abf5_9 : decode cJ0_length_8abf5 9 = .ok (.ishr, 1) := dc_122 rfl
theorem dJ0_length_8abf5_10 : decode cJ0_length_8abf5 10 = .ok (.ireturn, 1) := dc_172 rfl
theorem dJ3_checkIndex_8e157_0 : decode cJ3_checkIndex_8e157 0 = .ok (.iload_n 0, 1) := dc_26 rfl
theorem dJ3_checkIndex_8e157_1 : decode cJ3_checkIndex_8e157 1 = .ok (.ifCond .lt 8, 3) := dc_155 rfl rfl rfl (sg_p rfl rfl)
theorem dJ3_checkIndex_8e157_4 : decode cJ3_checkIndex_8e157 4 = .ok (.iload_n 0, 1) := dc_26 rfl
theorem dJ3_checkIndex_8e157_5 : decode cJ3_checkIndex_8e157 5 = .ok (.iload_n 1, 1) := dc_27 rfl
theorem dJ3_checkIndex_8e157_6 : decode cJ3_checkIndex_8e157 6 = .ok (.if_icmp .lt 10, 3) := dc_161 rfl rfl rfl (sg_p rfl rfl)
theorem dJ3_checkIndex_8e157_16 : decode cJ3_checkIndex_8e157 16 = .ok (.iload_n 0, 1) := dc_26 rfl
theorem dJ3_checkIndex_8e157_17 : decode cJ3_checkIndex_8e157 17 = .ok (.ireturn, 1) := dc_172 rfl
theorem dJ0_checkIndex_df160_0 : decode cJ0_checkIndex_df160 0 = .ok (.iload_n 0, 1) := dc_26 rfl
theorem dJ0_checkIndex_df160_1 : decode cJ0_checkIndex_df160 1 = .ok (.iload_n 1, 1) := dc_27 rfl
theorem dJ0_checkIndex_df160_2 : decode cJ0_checkIndex_df160 2 = .ok (.getstatic 1053, 3) := dc_178 rfl rfl rfl rfl
theorem dJ0_checkIndex_df160_5 : decode cJ0_checkIndex_df160 5 = .ok (.invokestatic 1059, 3) := dc_184 rfl rfl rfl rfl
theorem dJ0_checkIndex_df160_8 : decode cJ0_checkIndex_df160 8 = .ok (.pop, 1) := dc_87 rfl
theorem dJ0_checkIndex_df160_9 : decode cJ0_checkIndex_df160 9 = .ok (.return_, 1) := dc_177 rfl
theorem dJ1_charAt_3b067_0 : decode cJ1_charAt_3b067 0 = .ok (.iload_n 1, 1) := dc_27 rfl
theorem dJ1_charAt_3b067_1 : decode cJ1_charAt_3b067 1 = .ok (.aload_n 0, 1) := dc_42 rfl
theorem dJ1_charAt_3b067_2 : decode cJ1_charAt_3b067 2 = .ok (.arraylength, 1) := dc_190 rfl
theorem dJ1_charAt_3b067_3 : decode cJ1_charAt_3b067 3 = .ok (.invokestatic 9, 3) := dc_184 rfl rfl rfl rfl
theorem dJ1_charAt_3b067_6 : decode cJ1_charAt_3b067 6 = .ok (.aload_n 0, 1) := dc_42 rfl
theorem dJ1_charAt_3b067_7 : decode cJ1_charAt_3b067 7 = .ok (.iload_n 1, 1) := dc_27 rfl
theorem dJ1_charAt_3b067_8 : decode cJ1_charAt_3b067 8 = .ok (.baload, 1) := dc_51 rfl
theorem dJ1_charAt_3b067_9 : decode cJ1_charAt_3b067 9 = .ok (.sipush 255, 3) := dc_17 rfl rfl rfl (sg_p rfl rfl)
theorem dJ1_charAt_3b067_12 : decode cJ1_charAt_3b067 12 = .ok (.iand, 1) := dc_126 rfl
theorem dJ1_charAt_3b067_13 : decode cJ1_charAt_3b067 13 = .ok (.i2c, 1) := dc_146 rfl
theorem dJ1_charAt_3b067_14 : decode cJ1_charAt_3b067 14 = .ok (.ireturn, 1) := dc_172 rfl
theorem dJ0_charAt_5068e_0 : decode cJ0_charAt_5068e 0 = .ok (.aload_n 0, 1) := dc_42 rfl
theorem dJ0_charAt_5068e_1 : decode cJ0_charAt_5068e 1 = .ok (.invokevirtual 492, 3) := dc_182 rfl rfl rfl rfl
theorem dJ0_charAt_5068e_4 : decode cJ0_charAt_5068e 4 = .ok (.ifCond .eq 12, 3) := dc_153 rfl rfl rfl (sg_p rfl rfl)
theorem dJ0_charAt_5068e_7 : decode cJ0_charAt_5068e 7 = .ok (.aload_n 0, 1) := dc_42 rfl
theorem dJ0_charAt_5068e_8 : decode cJ0_charAt_5068e 8 = .ok (.getfield 9, 3) := dc_180 rfl rfl rfl rfl
theorem dJ0_charAt_5068e_11 : decode cJ0_charAt_5068e 11 = .ok (.iload_n 1, 1) := dc_27 rfl
theorem dJ0_charAt_5068e_12 : decode cJ0_charAt_5068e 12 = .ok (.invokestatic 495, 3) := dc_184 rfl rfl rfl rfl
theorem dJ0_charAt_5068e_15 : decode cJ0_charAt_5068e 15 = .ok (.ireturn, 1) := dc_172 rfl
set_option maxHeartbeats 4000000 in
set_option maxRecDepth 100000 in
theorem c_St_coder {d : Nat} {u : Nat → Nat → Int32} {g : Nat → Nat → Int64} {ex : List MC} {i : Nat} (hd : 0 ≤ d) (hi_i : i < 18) : CT con0 d 0 0 yJ0_coder_7d493 cJ0_coder_7d493 1 (some .byte) [.retAddr (10 + i)] (Wd u g ex) (fun r h2 => r = some (.int ((0 : Int32))) ∧ h2 = Wd u g ex) := by
  refine CT_of (by decide) (Nat.le_of_ble_eq_true rfl) (fun x hq => ?_)
  show J x yJ0_coder_7d493 cJ0_coder_7d493 1 (some .byte) d 0 0 (Wd u g ex).length 0 [(0, .retAddr (10 + i))] [] (Wd u g ex) 0 0
  refine J_getsC dJ0_coder_7d493_0 k561 ?_
  refine J_if_eq (tgt := 13) dJ0_coder_7d493_3 (by decide) (fun q => absurd q (by decide)) (fun _ => ?_)
  refine J_aload_nC (i := 0) (j := 0) dJ0_coder_7d493_6 rfl rfl ?_
  refine J_scod (i := i) dJ0_coder_7d493_7 hi_i k1814 ?_
  refine J_goto (tgt := 14) dJ0_coder_7d493_10 (by decide) ?_
  exact J_bret hq dJ0_coder_7d493_14 rfl rfl wlen (Nat.le_refl _) (Nat.le_refl _) ⟨(congrArg (fun z => some (Value.int z)) rfl), rfl⟩
set_option maxHeartbeats 4000000 in
set_option maxRecDepth 100000 in
theorem c_St_isLatin1 {d : Nat} {u : Nat → Nat → Int32} {g : Nat → Nat → Int64} {ex : List MC} {i : Nat} (hd : 0 ≤ d) (hi_i : i < 18) : CT con0 d 0 0 yJ0_isLatin1_aae02 cJ0_isLatin1_aae02 1 (some .boolean) [.retAddr (10 + i)] (Wd u g ex) (fun r h2 => r = some (.int ((1 : Int32))) ∧ h2 = Wd u g ex) := by
  refine CT_of (by decide) (Nat.le_of_ble_eq_true rfl) (fun x hq => ?_)
  show J x yJ0_isLatin1_aae02 cJ0_isLatin1_aae02 1 (some .boolean) d 0 0 (Wd u g ex).length 0 [(0, .retAddr (10 + i))] [] (Wd u g ex) 0 0
  refine J_getsC dJ0_isLatin1_aae02_0 k561 ?_
  refine J_if_eq (tgt := 17) dJ0_isLatin1_aae02_3 (by decide) (fun q => absurd q (by decide)) (fun _ => ?_)
  refine J_aload_nC (i := 0) (j := 0) dJ0_isLatin1_aae02_6 rfl rfl ?_
  refine J_scod (i := i) dJ0_isLatin1_aae02_7 hi_i k1814 ?_
  refine J_if_ne (tgt := 17) dJ0_isLatin1_aae02_10 (by decide) (fun q => absurd (by decide) q) (fun _ => ?_)
  refine J_iconst (v := 1) dJ0_isLatin1_aae02_13 (by decide) ?_
  refine J_goto (tgt := 18) dJ0_isLatin1_aae02_14 (by decide) ?_
  exact J_zret hq dJ0_isLatin1_aae02_18 rfl rfl wlen (Nat.le_refl _) (Nat.le_refl _) ⟨(congrArg (fun z => some (Value.int z)) rfl), rfl⟩
set_option maxHeartbeats 4000000 in
set_option maxRecDepth 100000 in
theorem c_St_length {d : Nat} {u : Nat → Nat → Int32} {g : Nat → Nat → Int64} {ex : List MC} {i : Nat} (hd : 1 ≤ d) (hi_i : i < 18) : CT con0 d 0 0 yJ0_length_8abf5 cJ0_length_8abf5 1 (some .int) [.retAddr (10 + i)] (Wd u g ex) (fun r h2 => r = some (.int (Int32.ofNat (sLn.getD i 0))) ∧ h2 = Wd u g ex) := by
  refine CT_of (by decide) (Nat.le_of_ble_eq_true rfl) (fun x hq => ?_)
  show J x yJ0_length_8abf5 cJ0_length_8abf5 1 (some .int) d 0 0 (Wd u g ex).length 0 [(0, .retAddr (10 + i))] [] (Wd u g ex) 0 0
  refine J_aload_nC (i := 0) (j := 0) dJ0_length_8abf5_0 rfl rfl ?_
  refine J_sval (i := i) dJ0_length_8abf5_1 hi_i k1813 ?_
  refine J_sbln (i := i) dJ0_length_8abf5_4 hi_i ?_
  refine J_aload_nC (i := 0) (j := 0) dJ0_length_8abf5_5 rfl rfl ?_
  refine J_callVC (i := i) (As := []) (rest := [.int (Int32.ofNat (sLn.getD i 0))]) dJ0_length_8abf5_6 (c_St_coder (d := 0) (u := u) (g := g) (ex := ex)  (i := i)  (by decide) hi_i) hq.n k557 k558 k559 hi_i rfl k100 k560 np_J0_coder_7d493 (Nat.le_trans (by decide) hd) (by decide) (Nat.le_refl _) (Nat.le_refl _) wlen rfl (Nat.le_of_ble_eq_true rfl) (fun r_ h_ p1 => ?_)
  obtain ⟨rfl, rfl⟩ := p1
  refine J_ishr dJ0_length_8abf5_9 ?_
  exact J_iret hq dJ0_length_8abf5_10 rfl wlen (Nat.le_refl _) (Nat.le_refl _) ⟨(congrArg (fun z => some (Value.int z)) (slen_sh i hi_i)), rfl⟩
set_option maxHeartbeats 4000000 in
set_option maxRecDepth 100000 in
theorem c_Pr_checkIndexn {d : Nat} {u : Nat → Nat → Int32} {g : Nat → Nat → Int64} {ex : List MC} {index : Int32} {length : Int32} (hd : 0 ≤ d) (hp0 : (0 ≤ index)) (hp1 : (index < length)) : CT con0 d 0 0 yJ3_checkIndex_8e157 cJ3_checkIndex_8e157 3 (some .int) [.int index, .int length, .null] (Wd u g ex) (fun r h2 => ∃ (z : Int32), r = some (.int z) ∧ h2 = Wd u g ex) := by
  refine CT_of (by decide) (Nat.le_of_ble_eq_true rfl) (fun x hq => ?_)
  show J x yJ3_checkIndex_8e157 cJ3_checkIndex_8e157 3 (some .int) d 0 0 (Wd u g ex).length 0 [(0, .int index), (1, .int length), (2, .null)] [] (Wd u g ex) 0 0
  refine J_iload_n (i := 0) (j := 0) dJ3_checkIndex_8e157_0 rfl rfl ?_
  refine J_if_lt (tgt := 9) dJ3_checkIndex_8e157_1 (by decide) (fun c1 => ?_) (fun c1 => ?_)
  · exact (bd_no (bd_lt_hi (bd_lt_hi (bd_le_lo (bd_any index) hp0 (bd_c (v := 0) (lo := 0) (hi := 0) (by decide))) hp1 (bd_any length)) c1 (bd_c (v := 0) (lo := 0) (hi := 0) (by decide))) (by decide)).elim
  · refine J_iload_n (i := 0) (j := 0) dJ3_checkIndex_8e157_4 rfl rfl ?_
    refine J_iload_n (i := 1) (j := 1) dJ3_checkIndex_8e157_5 rfl rfl ?_
    refine J_icmp_lt (tgt := 16) dJ3_checkIndex_8e157_6 (by decide) (fun c2 => ?_) (fun c2 => ?_)
    · refine J_iload_n (i := 0) (j := 0) dJ3_checkIndex_8e157_16 rfl rfl ?_
      exact J_iret hq dJ3_checkIndex_8e157_17 rfl wlen (Nat.le_refl _) (Nat.le_refl _) ⟨index, rfl, rfl⟩
    · exact (lt_le_no hp1 (i_nlt c2)).elim
set_option maxHeartbeats 4000000 in
set_option maxRecDepth 100000 in
theorem c_Pr_checkIndexq {d : Nat} {u : Nat → Nat → Int32} {g : Nat → Nat → Int64} {ex : List MC} {index : Int32} {length : Int32} (hd : 0 ≤ d) (hp0 : (0 ≤ index)) (hp1 : (index < length)) : CT con0 d 0 0 yJ3_checkIndex_8e157 cJ3_checkIndex_8e157 3 (some .int) [.int index, .int length, .retAddr 60] (Wd u g ex) (fun r h2 => ∃ (z : Int32), r = some (.int z) ∧ h2 = Wd u g ex) := by
  refine CT_of (by decide) (Nat.le_of_ble_eq_true rfl) (fun x hq => ?_)
  show J x yJ3_checkIndex_8e157 cJ3_checkIndex_8e157 3 (some .int) d 0 0 (Wd u g ex).length 0 [(0, .int index), (1, .int length), (2, .retAddr 60)] [] (Wd u g ex) 0 0
  refine J_iload_n (i := 0) (j := 0) dJ3_checkIndex_8e157_0 rfl rfl ?_
  refine J_if_lt (tgt := 9) dJ3_checkIndex_8e157_1 (by decide) (fun c1 => ?_) (fun c1 => ?_)
  · exact (bd_no (bd_lt_hi (bd_lt_hi (bd_le_lo (bd_any index) hp0 (bd_c (v := 0) (lo := 0) (hi := 0) (by decide))) hp1 (bd_any length)) c1 (bd_c (v := 0) (lo := 0) (hi := 0) (by decide))) (by decide)).elim
  · refine J_iload_n (i := 0) (j := 0) dJ3_checkIndex_8e157_4 rfl rfl ?_
    refine J_iload_n (i := 1) (j := 1) dJ3_checkIndex_8e157_5 rfl rfl ?_
    refine J_icmp_lt (tgt := 16) dJ3_checkIndex_8e157_6 (by decide) (fun c2 => ?_) (fun c2 => ?_)
    · refine J_iload_n (i := 0) (j := 0) dJ3_checkIndex_8e157_16 rfl rfl ?_
      exact J_iret hq dJ3_checkIndex_8e157_17 rfl wlen (Nat.le_refl _) (Nat.le_refl _) ⟨index, rfl, rfl⟩
    · exact (lt_le_no hp1 (i_nlt c2)).elim
set_option maxHeartbeats 4000000 in
set_option maxRecDepth 100000 in
theorem c_St_checkIndex {d : Nat} {u : Nat → Nat → Int32} {g : Nat → Nat → Int64} {ex : List MC} {index : Int32} {length : Int32} (hd : 1 ≤ d) (hp0 : (0 ≤ index)) (hp1 : (index < length)) : CT con0 d 0 0 yJ0_checkIndex_df160 cJ0_checkIndex_df160 2 none [.int index, .int length] (Wd u g ex) (fun r h2 => r = none ∧ h2 = Wd u g ex) := by
  refine CT_of (by decide) (Nat.le_of_ble_eq_true rfl) (fun x hq => ?_)
  show J x yJ0_checkIndex_df160 cJ0_checkIndex_df160 2 none d 0 0 (Wd u g ex).length 0 [(0, .int index), (1, .int length)] [] (Wd u g ex) 0 0
  refine J_iload_n (i := 0) (j := 0) dJ0_checkIndex_df160_0 rfl rfl ?_
  refine J_iload_n (i := 1) (j := 1) dJ0_checkIndex_df160_1 rfl rfl ?_
  refine J_getsQ dJ0_checkIndex_df160_2 k577 ?_ ?_
  · refine J_callS (As := [.int index, .int length, .null]) (rest := []) dJ0_checkIndex_df160_5 (c_Pr_checkIndexn (d := 0) (u := u) (g := g) (ex := ex) (index := index) (length := length)  (by decide) hp0 hp1) hq.n k579 k580 k102 k581 np_J3_checkIndex_8e157 (Nat.le_trans (by decide) hd) (by decide) (Nat.le_refl _) (Nat.le_refl _) wlen rfl (Nat.le_of_ble_eq_true rfl) (fun r_ h_ p1 => ?_)
    obtain ⟨v2, rfl, rfl⟩ := p1
    refine J_pop dJ0_checkIndex_df160_8 rfl ?_
    exact J_vret hq dJ0_checkIndex_df160_9 rfl wlen (Nat.le_refl _) (Nat.le_refl _) ⟨rfl, rfl⟩
  · refine J_callS (As := [.int index, .int length, .retAddr 60]) (rest := []) dJ0_checkIndex_df160_5 (c_Pr_checkIndexq (d := 0) (u := u) (g := g) (ex := ex) (index := index) (length := length)  (by decide) hp0 hp1) hq.n k579 k580 k102 k581 np_J3_checkIndex_8e157 (Nat.le_trans (by decide) hd) (by decide) (Nat.le_refl _) (Nat.le_refl _) wlen rfl (Nat.le_of_ble_eq_true rfl) (fun r_ h_ p3 => ?_)
    obtain ⟨v4, rfl, rfl⟩ := p3
    refine J_pop dJ0_checkIndex_df160_8 rfl ?_
    exact J_vret hq dJ0_checkIndex_df160_9 rfl wlen (Nat.le_refl _) (Nat.le_refl _) ⟨rfl, rfl⟩
