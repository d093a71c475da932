theorem k493 : Cond.methodLink RX6 29 Lib.Math.min.name ∈ gt := gt_in 493 (by decide +kernel) (by decide +kernel)
theorem k507 : Cond.methodLink RX6 39 yX6_isLetter ∈ gt := gt_in 507 (by decide +kernel) (by decide +kernel)
theorem k508 : Cond.static yX6_isLetter ∈ gt := gt_in 508 (by decide +kernel) (by decide +kernel)
theorem k509 : Cond.code yX6_isLetter cX6_isLetter 1 (some .boolean) ∈ gt := gt_in 509 (by decide +kernel) (by decide +kernel)
theorem np_X6_isLetter : yX6_isLetter.cls ≠ "java/lang/invoke/MethodHandle" ∧ yX6_isLetter.cls ≠ "java/lang/invoke/VarHandle" ∧ (parseMethodDescriptor yX6_isLetter.desc).map (fun d => d.parameters.length) = some 1 := by decide +kernel
theorem k514 : Cond.methodLink RX6 45 yX6_isDigit ∈ gt := gt_in 514 (by decide +kernel) (by decide +kernel)
theorem k515 : Cond.static yX6_isDigit ∈ gt := gt_in 515 (by decide +kernel) (by decide +kernel)
theorem k516 : Cond.code yX6_isDigit cX6_isDigit 1 (some .boolean) ∈ gt := gt_in 516 (by decide +kernel) (by decide +kernel)
theorem np_X6_isDigit : yX6_isDigit.cls ≠ "java/lang/invoke/MethodHandle" ∧ yX6_isDigit.cls ≠ "java/lang/invoke/VarHandle" ∧ (parseMethodDescriptor yX6_isDigit.desc).map (fun d => d.parameters.length) = some 1 := by decide +kernel
theorem k504 : Cond.methodLink RX6 35 yX6_isBlank ∈ gt := gt_in 504 (by decide +kernel) (by decide +kernel)
theorem k505 : Cond.static yX6_isBlank ∈ gt := gt_in 505 (by decide +kernel) (by decide +kernel)
theorem k506 : Cond.code yX6_isBlank cX6_isBlank 1 (some .boolean) ∈ gt := gt_in 506 (by decide +kernel) (by decide +kernel)
theorem np_X6_isBlank : yX6_isBlank.cls ≠ "java/lang/invoke/MethodHandle" ∧ yX6_isBlank.cls ≠ "java/lang/invoke/VarHandle" ∧ (parseMethodDescriptor yX6_isBlank.desc).map (fun d => d.parameters.length) = some 1 := by decide +kernel
theorem k517 : Cond.methodLink RX6 48 yX6_takeNumber ∈ gt := gt_in 517 (by decide +kernel) (by decide +kernel)
theorem k519 : Cond.instanceMethod yX6_takeNumber ∈ gt := gt_in 519 (by decide +kernel) (by decide +kernel)
theorem k2 : Cond.selects RX6 yX6_takeNumber yX6_takeNumber ∈ gt := gt_in 2 (by decide +kernel) (by decide +kernel)
theorem k520 : Cond.code yX6_takeNumber cX6_takeNumber 1 none ∈ gt := gt_in 520 (by decide +kernel) (by decide +kernel)
theorem np_X6_takeNumber : yX6_takeNumber.cls ≠ "java/lang/invoke/MethodHandle" ∧ yX6_takeNumber.cls ≠ "java/lang/invoke/VarHandle" ∧ (parseMethodDescriptor yX6_takeNumber.desc).map (fun d => d.parameters.length) = some 0 := by decide +kernel
theorem k510 : Cond.methodLink RX6 42 yX6_takeWord ∈ gt := gt_in 510 (by decide +kernel) (by decide +kernel)
theorem k512 : Cond.instanceMethod yX6_takeWord ∈ gt := gt_in 512 (by decide +kernel) (by decide +kernel)
theorem k1 : Cond.selects RX6 yX6_takeWord yX6_takeWord ∈ gt := gt_in 1 (by decide +kernel) (by decide +kernel)
theorem k513 : Cond.code yX6_takeWord cX6_takeWord 1 none ∈ gt := gt_in 513 (by decide +kernel) (by decide +kernel)
theorem np_X6_takeWord : yX6_takeWord.cls ≠ "java/lang/invoke/MethodHandle" ∧ yX6_takeWord.cls ≠ "java/lang/invoke/VarHandle" ∧ (parseMethodDescriptor yX6_takeWord.desc).map (fun d => d.parameters.length) = some 0 := by decide +kernel
theorem k561 : Cond.fieldLink RJ0 38 "java/lang/String" "COMPACT_STRINGS" "Z" ∈ gt := gt_in 561 (by decide +kernel) (by decide +kernel)
theorem k1814 : Cond.fieldLink RJ0 15 "java/lang/String" "coder" "B" ∈ gt := gt_in 1814 (by decide +kernel) (by decide +kernel)
theorem k1813 : Cond.fieldLink RJ0 9 "java/lang/String" "value" "[B" ∈ gt := gt_in 1813 (by decide +kernel) (by decide +kernel)
theorem k557 : Cond.methodLink RJ0 335 yJ0_coder_7d493 ∈ gt := gt_in 557 (by decide +kernel) (by decide +kernel)
theorem k558 : Cond.instanceMethod yJ0_coder_7d493 ∈ gt := gt_in 558 (by decide +kernel) (by decide +kernel)
theorem k559 : Cond.selects RJ0 yJ0_coder_7d493 yJ0_coder_7d493 ∈ gt := gt_in 559 (by decide +kernel) (by decide +kernel)
theorem k100 : Cond.initialized RJ0 ∈ gt := gt_in 100 (by decide +kernel) (by decide +kernel)
theorem k560 : Cond.code yJ0_coder_7d493 cJ0_coder_7d493 1 (some .byte) ∈ gt := gt_in 560 (by decide +kernel) (by decide +kernel)
theorem np_J0_coder_7d493 : yJ0_coder_7d493.cls ≠ "java/lang/invoke/MethodHandle" ∧ yJ0_coder_7d493.cls ≠ "java/lang/invoke/VarHandle" ∧ (parseMethodDescriptor yJ0_coder_7d493.desc).map (fun d => d.parameters.length) = some 0 := by decide +kernel
theorem k577 : Cond.fieldLink RJ0 1053 "jdk/internal/util/Preconditions" "SIOOBE_FORMATTER" "Ljava/util/function/BiFunction;" ∈ gt := gt_in 577 (by decide +kernel) (by decide +kernel)
theorem k579 : Cond.methodLink RJ0 1059 yJ3_checkIndex_8e157 ∈ gt := gt_in 579 (by decide +kernel) (by decide +kernel)
theorem k580 : Cond.static yJ3_checkIndex_8e157 ∈ gt := gt_in 580 (by decide +kernel) (by decide +kernel)
theorem k102 : Cond.initialized RJ3 ∈ gt := gt_in 102 (by decide +kernel) (by decide +kernel)
theorem k581 : Cond.code yJ3_checkIndex_8e157 cJ3_checkIndex_8e157 3 (some .int) ∈ gt := gt_in 581 (by decide +kernel) (by decide +kernel)
theorem np_J3_checkIndex_8e157 : yJ3_checkIndex_8e157.cls ≠ "java/lang/invoke/MethodHandle" ∧ yJ3_checkIndex_8e157.cls ≠ "java/lang/invoke/VarHandle" ∧ (parseMethodDescriptor yJ3_checkIndex_8e157.desc).map (fun d => d.parameters.length) = some 3 := by decide +kernel
theorem k574 : Cond.methodLink RJ1 9 yJ0_checkIndex_df160 ∈ gt := gt_in 574 (by decide +kernel) (by decide +kernel)
theorem k575 : Cond.static yJ0_checkIndex_df160 ∈ gt := gt_in 575 (by decide +kernel) (by decide +kernel)
theorem k576 : Cond.code yJ0_checkIndex_df160 cJ0_checkIndex_df160 2 none ∈ gt := gt_in 576 (by decide +kernel) (by decide +kernel)
theorem np_J0_checkIndex_df160 : yJ0_checkIndex_df160.cls ≠ "java/lang/invoke/MethodHandle" ∧ yJ0_checkIndex_df160.cls ≠ "java/lang/invoke/VarHandle" ∧ (parseMethodDescriptor yJ0_checkIndex_df160.desc).map (fun d => d.parameters.length) = some 2 := by decide +kernel
theorem k567 : Cond.methodLink RJ0 492 yJ0_isLatin1_aae02 ∈ gt := gt_in 567 (by decide +kernel) (by decide +kernel)
theorem k568 : Cond.instanceMethod yJ0_isLatin1_aae02 ∈ gt := gt_in 568 (by decide +kernel) (by decide +kernel)
theorem k569 : Cond.selects RJ0 yJ0_isLatin1_aae02 yJ0_isLatin1_aae02 ∈ gt := gt_in 569 (by decide +kernel) (by decide +kernel)
theorem k570 : Cond.code yJ0_isLatin1_aae02 cJ0_isLatin1_aae02 1 (some .boolean) ∈ gt := gt_in 570 (by decide +kernel) (by decide +kernel)
theorem np_J0_isLatin1_aae02 : yJ0_isLatin1_aae02.cls ≠ "java/lang/invoke/MethodHandle" ∧ yJ0_isLatin1_aae02.cls ≠ "java/lang/invoke/VarHandle" ∧ (parseMethodDescriptor yJ0_isLatin1_aae02.desc).map (fun d => d.parameters.length) = some 0 := by decide +kernel
theorem k571 : Cond.methodLink RJ0 495 yJ1_charAt_3b067 ∈ gt := gt_in 571 (by decide +kernel) (by decide +kernel)
theorem k572 : Cond.static yJ1_charAt_3b067 ∈ gt := gt_in 572 (by decide +kernel) (by decide +kernel)
theorem k101 : Cond.initialized RJ1 ∈ gt := gt_in 101 (by decide +kernel) (by decide +kernel)
theorem k573 : Cond.code yJ1_charAt_3b067 cJ1_charAt_3b067 2 (some .char) ∈ gt := gt_in 573 (by decide +kernel) (by decide +kernel)
theorem np_J1_charAt_3b067 : yJ1_charAt_3b067.cls ≠ "java/lang/invoke/MethodHandle" ∧ yJ1_charAt_3b067.cls ≠ "java/lang/invoke/VarHandle" ∧ (parseMethodDescriptor yJ1_charAt_3b067.desc).map (fun d => d.parameters.length) = some 2 := by decide +kernel
theorem dX6_isBlank_0 : decode cX6_isBlank 0 = .ok (.iload_n 0, 1) := by decide +kernel
theorem dX6_isBlank_1 : decode cX6_isBlank 1 = .ok (.bipush 10, 2) := by decide +kernel
theorem dX6_isBlank_3 : decode cX6_isBlank 3 = .ok (.if_icmp .eq 9, 3) := by decide +kernel
theorem dX6_isBlank_6 : decode cX6_isBlank 6 = .ok (.iload_n 0, 1) := by decide +kernel
theorem dX6_isBlank_7 : decode cX6_isBlank 7 = .ok (.bipush 32, 2) := by decide +kernel
theorem dX6_isBlank_9 : decode cX6_isBlank 9 = .ok (.if_icmp .ne 7, 3) := by decide +kernel
theorem dX6_isBlank_12 : decode cX6_isBlank 12 = .ok (.iconst 1, 1) := by decide +kernel
theorem dX6_isBlank_13 : decode cX6_isBlank 13 = .ok (.goto 4, 3) := by decide +kernel
theorem dX6_isBlank_16 : decode cX6_isBlank 16 = .ok (.iconst 0, 1) := by decide +kernel
theorem dX6_isBlank_17 : decode cX6_isBlank 17 = .ok (.ireturn, 1) := by decide +kernel
theorem dX6_isLetter_0 : decode cX6_isLetter 0 = .ok (.iload_n 0, 1) := by decide +kernel
theorem dX6_isLetter_1 : decode cX6_isLetter 1 = .ok (.bipush 97, 2) := by decide +kernel
theorem dX6_isLetter_3 : decode cX6_isLetter 3 = .ok (.if_icmp .lt 13, 3) := by decide +kernel
theorem dX6_isLetter_6 : decode cX6_isLetter 6 = .ok (.iload_n 0, 1) := by decide +kernel
theorem dX6_isLetter_7 : decode cX6_isLetter 7 = .ok (.bipush 122, 2) := by decide +kernel
theorem dX6_isLetter_9 : decode cX6_isLetter 9 = .ok (.if_icmp .gt 7, 3) := by decide +kernel
theorem dX6_isLetter_12 : decode cX6_isLetter 12 = .ok (.iconst 1, 1) := by decide +kernel
theorem dX6_isLetter_13 : decode cX6_isLetter 13 = .ok (.goto 4, 3) := by decide +kernel
theorem dX6_isLetter_16 : decode cX6_isLetter 16 = .ok (.iconst 0, 1) := by decide +kernel
theorem dX6_isLetter_17 : decode cX6_isLetter 17 = .ok (.ireturn, 1) := by decide +kernel
theorem dX6_isDigit_0 : decode cX6_isDigit 0 = .ok (.iload_n 0, 1) := by decide +kernel
theorem dX6_isDigit_1 : decode cX6_isDigit 1 = .ok (.bipush 48, 2) := by decide +kernel
theorem dX6_isDigit_3 : decode cX6_isDigit 3 = .ok (.if_icmp .lt 13, 3) := by decide +kernel
theorem dX6_isDigit_6 : decode cX6_isDigit 6 = .ok (.iload_n 0, 1) := by decide +kernel
theorem dX6_isDigit_7 : decode cX6_isDigit 7 = .ok (.bipush 57, 2) := by decide +kernel
theorem dX6_isDigit_9 : decode cX6_isDigit 9 = .ok (.if_icmp .gt 7, 3) := by decide +kernel
theorem dX6_isDigit_12 : decode cX6_isDigit 12 = .ok (.iconst 1, 1) := by decide +kernel
theorem dX6_isDigit_13 : decode cX6_isDigit 13 = .ok (.goto 4, 3) := by decide +kernel
theorem dX6_isDigit_16 : decode cX6_isDigit 16 = .ok (.iconst 0, 1) := by decide +kernel
theorem dX6_isDigit_17 : decode cX6_isDigit 17 = .ok (.ireturn, 1) := by decide +kernel
theorem dX6_begin_0 : decode cX6_begin 0 = .ok (.aload_n 0, 1) := by decide +kernel
theorem dX6_begin_1 : decode cX6_begin 1 = .ok (.aload_n 1, 1) := by decide +kernel
theorem dX6_begin_2 : decode cX6_begin 2 = .ok (.putfield 7, 3) := by decide +kernel
theorem dX6_begin_5 : decode cX6_begin 5 = .ok (.aload_n 0, 1) := by decide +kernel
theorem dX6_begin_6 : decode cX6_begin 6 = .ok (.iload_n 2, 1) := by decide +kernel
theorem dX6_begin_7 : decode cX6_begin 7 = .ok (.aload_n 1, 1) := by decide +kernel
theorem dX6_begin_8 : decode cX6_begin 8 = .ok (.arraylength, 1) := by decide +kernel
theorem dX6_begin_9 : decode cX6_begin 9 = .ok (.invokestatic 29, 3) := by decide +kernel
theorem dX6_begin_12 : decode cX6_begin 12 = .ok (.putfield 13, 3) := by decide +kernel
theorem dX6_begin_15 : decode cX6_begin 15 = .ok (.aload_n 0, 1) := by decide +kernel
theorem dX6_begin_16 : decode cX6_begin 16 = .ok (.iconst 0, 1) := by decide +kernel
theorem dX6_begin_17 : decode cX6_begin 17 = .ok (.putfield 17, 3) := by decide +kernel
theorem dX6_begin_20 : decode cX6_begin 20 = .ok (.return_, 1) := by decide +kernel
theorem dX6_takeWord_0 : decode cX6_takeWord 0 = .ok (.aload_n 0, 1) := by decide +kernel
theorem dX6_takeWord_1 : decode cX6_takeWord 1 = .ok (.iconst 1, 1) := by decide +kernel
theorem dX6_takeWord_2 : decode cX6_takeWord 2 = .ok (.putfield 20, 3) := by decide +kernel
theorem dX6_takeWord_5 : decode cX6_takeWord 5 = .ok (.aload_n 0, 1) := by decide +kernel
theorem dX6_takeWord_6 : decode cX6_takeWord 6 = .ok (.getfield 17, 3) := by decide +kernel
theorem dX6_takeWord_9 : decode cX6_takeWord 9 = .ok (.aload_n 0, 1) := by decide +kernel
theorem dX6_takeWord_10 : decode cX6_takeWord 10 = .ok (.getfield 13, 3) := by decide +kernel
theorem dX6_takeWord_13 : decode cX6_takeWord 13 = .ok (.if_icmp .ge 31, 3) := by decide +kernel
theorem dX6_takeWord_16 : decode cX6_takeWord 16 = .ok (.aload_n 0, 1) := by decide +kernel
theorem dX6_takeWord_17 : decode cX6_takeWord 17 = .ok (.getfield 7, 3) := by decide +kernel
theorem dX6_takeWord_20 : decode cX6_takeWord 20 = .ok (.aload_n 0, 1) := by decide +kernel
theorem dX6_takeWord_21 : decode cX6_takeWord 21 = .ok (.getfield 17, 3) := by decide +kernel
theorem dX6_takeWord_24 : decode cX6_takeWord 24 = .ok (.baload, 1) := by decide +kernel
theorem dX6_takeWord_25 : decode cX6_takeWord 25 = .ok (.invokestatic 39, 3) := by decide +kernel
theorem dX6_takeWord_28 : decode cX6_takeWord 28 = .ok (.ifCond .eq 16, 3) := by decide +kernel
theorem dX6_takeWord_31 : decode cX6_takeWord 31 = .ok (.aload_n 0, 1) := by decide +kernel
theorem dX6_takeWord_32 : decode cX6_takeWord 32 = .ok (.dup, 1) := by decide +kernel
theorem dX6_takeWord_33 : decode cX6_takeWord 33 = .ok (.getfield 17, 3) := by decide +kernel
theorem dX6_takeWord_36 : decode cX6_takeWord 36 = .ok (.iconst 1, 1) := by decide +kernel
theorem dX6_takeWord_37 : decode cX6_takeWord 37 = .ok (.iadd, 1) := by decide +kernel
theorem dX6_takeWord_38 : decode cX6_takeWord 38 = .ok (.putfield 17, 3) := by decide +kernel
theorem dX6_takeWord_41 : decode cX6_takeWord 41 = .ok (.goto (-36), 3) := by decide +kernel
theorem dX6_takeWord_44 : decode cX6_takeWord 44 = .ok (.return_, 1) := by decide +kernel
theorem dX6_takeNumber_0 : decode cX6_takeNumber 0 = .ok (.aload_n 0, 1) := by decide +kernel
theorem dX6_takeNumber_1 : decode cX6_takeNumber 1 = .ok (.iconst 0, 1) := by decide +kernel
theorem dX6_takeNumber_2 : decode cX6_takeNumber 2 = .ok (.putfield 26, 3) := by decide +kernel
theorem dX6_takeNumber_5 : decode cX6_takeNumber 5 = .ok (.aload_n 0, 1) := by decide +kernel
theorem dX6_takeNumber_6 : decode cX6_takeNumber 6 = .ok (.getfield 17, 3) := by decide +kernel
theorem dX6_takeNumber_9 : decode cX6_takeNumber 9 = .ok (.aload_n 0, 1) := by decide +kernel
theorem dX6_takeNumber_10 : decode cX6_takeNumber 10 = .ok (.getfield 13, 3) := by decide +kernel
theorem dX6_takeNumber_13 : decode cX6_takeNumber 13 = .ok (.if_icmp .ge 55, 3) := by decide +kernel
theorem dX6_takeNumber_16 : decode cX6_takeNumber 16 = .ok (.aload_n 0, 1) := by decide +kernel
theorem dX6_takeNumber_17 : decode cX6_takeNumber 17 = .ok (.getfield 7, 3) := by decide +kernel
theorem dX6_takeNumber_20 : decode cX6_takeNumber 20 = .ok (.aload_n 0, 1) := by decide +kernel
theorem dX6_takeNumber_21 : decode cX6_takeNumber 21 = .ok (.getfield 17, 3) := by decide +kernel
theorem dX6_takeNumber_24 : decode cX6_takeNumber 24 = .ok (.baload, 1) := by decide +kernel
theorem dX6_takeNumber_25 : decode cX6_takeNumber 25 = .ok (.invokestatic 45, 3) := by decide +kernel
theorem dX6_takeNumber_28 : decode cX6_takeNumber 28 = .ok (.ifCond .eq 40, 3) := by decide +kernel
theorem dX6_takeNumber_31 : decode cX6_takeNumber 31 = .ok (.aload_n 0, 1) := by decide +kernel
theorem dX6_takeNumber_32 : decode cX6_takeNumber 32 = .ok (.aload_n 0, 1) := by decide +kernel
theorem dX6_takeNumber_33 : decode cX6_takeNumber 33 = .ok (.getfield 26, 3) := by decide +kernel
theorem dX6_takeNumber_36 : decode cX6_takeNumber 36 = .ok (.bipush 10, 2) := by decide +kernel
theorem dX6_takeNumber_38 : decode cX6_takeNumber 38 = .ok (.imul, 1) := by decide +kernel
theorem dX6_takeNumber_39 : decode cX6_takeNumber 39 = .ok (.aload_n 0, 1) := by decide +kernel
theorem dX6_takeNumber_40 : decode cX6_takeNumber 40 = .ok (.getfield 7, 3) := by decide +kernel
theorem dX6_takeNumber_43 : decode cX6_takeNumber 43 = .ok (.aload_n 0, 1) := by decide +kernel
theorem dX6_takeNumber_44 : decode cX6_takeNumber 44 = .ok (.getfield 17, 3) := by decide +kernel
theorem dX6_takeNumber_47 : decode cX6_takeNumber 47 = .ok (.baload, 1) := by decide +kernel
theorem dX6_takeNumber_48 : decode cX6_takeNumber 48 = .ok (.bipush 48, 2) := by decide +kernel
theorem dX6_takeNumber_50 : decode cX6_takeNumber 50 = .ok (.isub, 1) := by decide +kernel
theorem dX6_takeNumber_51 : decode cX6_takeNumber 51 = .ok (.iadd, 1) := by decide +kernel
theorem dX6_takeNumber_52 : decode cX6_takeNumber 52 = .ok (.putfield 26, 3) := by decide +kernel
theorem dX6_takeNumber_55 : decode cX6_takeNumber 55 = .ok (.aload_n 0, 1) := by decide +kernel
theorem dX6_takeNumber_56 : decode cX6_takeNumber 56 = .ok (.dup, 1) := by decide +kernel
theorem dX6_takeNumber_57 : decode cX6_takeNumber 57 = .ok (.getfield 17, 3) := by decide +kernel
theorem dX6_takeNumber_60 : decode cX6_takeNumber 60 = .ok (.iconst 1, 1) := by decide +kernel
theorem dX6_takeNumber_61 : decode cX6_takeNumber 61 = .ok (.iadd, 1) := by decide +kernel
theorem dX6_takeNumber_62 : decode cX6_takeNumber 62 = .ok (.putfield 17, 3) := by decide +kernel
theorem dX6_takeNumber_65 : decode cX6_takeNumber 65 = .ok (.goto (-60), 3) := by decide +kernel
theorem dX6_takeNumber_68 : decode cX6_takeNumber 68 = .ok (.aload_n 0, 1) := by decide +kernel
theorem dX6_takeNumber_69 : decode cX6_takeNumber 69 = .ok (.aload_n 0, 1) := by decide +kernel
theorem dX6_takeNumber_70 : decode cX6_takeNumber 70 = .ok (.getfield 17, 3) := by decide +kernel
theorem dX6_takeNumber_73 : decode cX6_takeNumber 73 = .ok (.aload_n 0, 1) := by decide +kernel
theorem dX6_takeNumber_74 : decode cX6_takeNumber 74 = .ok (.getfield 23, 3) := by decide +kernel
theorem dX6_takeNumber_77 : decode cX6_takeNumber 77 = .ok (.isub, 1) := by decide +kernel
theorem dX6_takeNumber_78 : decode cX6_takeNumber 78 = .ok (.iconst 3, 1) := by decide +kernel
theorem dX6_takeNumber_79 : decode cX6_takeNumber 79 = .ok (.if_icmp .le 7, 3) := by decide +kernel
theorem dX6_takeNumber_82 : decode cX6_takeNumber 82 = .ok (.iconst 4, 1) := by decide +kernel
theorem dX6_takeNumber_83 : decode cX6_takeNumber 83 = .ok (.goto 4, 3) := by decide +kernel
theorem dX6_takeNumber_86 : decode cX6_takeNumber 86 = .ok (.iconst 2, 1) := by decide +kernel
theorem dX6_takeNumber_87 : decode cX6_takeNumber 87 = .ok (.putfield 20, 3) := by decide +kernel
theorem dX6_takeNumber_90 : decode cX6_takeNumber 90 = .ok (.return_, 1) := by decide +kernel
theorem dX6_advance_0 : decode cX6_advance 0 = .ok (.aload_n 0, 1) := by decide +kernel
theorem dX6_advance_1 : decode cX6_advance 1 = .ok (.getfield 17, 3) := by decide +kernel
theorem dX6_advance_4 : decode cX6_advance 4 = .ok (.aload_n 0, 1) := by decide +kernel
theorem dX6_advance_5 : decode cX6_advance 5 = .ok (.getfield 13, 3) := by decide +kernel
theorem dX6_advance_8 : decode cX6_advance 8 = .ok (.if_icmp .ge 31, 3) := by decide +kernel
theorem dX6_advance_11 : decode cX6_advance 11 = .ok (.aload_n 0, 1) := by decide +kernel
theorem dX6_advance_12 : decode cX6_advance 12 = .ok (.getfield 7, 3) := by decide +kernel
theorem dX6_advance_15 : decode cX6_advance 15 = .ok (.aload_n 0, 1) := by decide +kernel
theorem dX6_advance_16 : decode cX6_advance 16 = .ok (.getfield 17, 3) := by decide +kernel
theorem dX6_advance_19 : decode cX6_advance 19 = .ok (.baload, 1) := by decide +kernel
theorem dX6_advance_20 : decode cX6_advance 20 = .ok (.invokestatic 35, 3) := by decide +kernel
theorem dX6_advance_23 : decode cX6_advance 23 = .ok (.ifCond .eq 16, 3) := by decide +kernel
theorem dX6_advance_26 : decode cX6_advance 26 = .ok (.aload_n 0, 1) := by decide +kernel
theorem dX6_advance_27 : decode cX6_advance 27 = .ok (.dup, 1) := by decide +kernel
theorem dX6_advance_28 : decode cX6_advance 28 = .ok (.getfield 17, 3) := by decide +kernel
theorem dX6_advance_31 : decode cX6_advance 31 = .ok (.iconst 1, 1) := by decide +kernel
theorem dX6_advance_32 : decode cX6_advance 32 = .ok (.iadd, 1) := by decide +kernel
theorem dX6_advance_33 : decode cX6_advance 33 = .ok (.putfield 17, 3) := by decide +kernel
theorem dX6_advance_36 : decode cX6_advance 36 = .ok (.goto (-36), 3) := by decide +kernel
theorem dX6_advance_39 : decode cX6_advance 39 = .ok (.aload_n 0, 1) := by decide +kernel
theorem dX6_advance_40 : decode cX6_advance 40 = .ok (.aload_n 0, 1) := by decide +kernel
theorem dX6_advance_41 : decode cX6_advance 41 = .ok (.getfield 17, 3) := by decide +kernel
theorem dX6_advance_44 : decode cX6_advance 44 = .ok (.putfield 23, 3) := by decide +kernel
theorem dX6_advance_47 : decode cX6_advance 47 = .ok (.aload_n 0, 1) := by decide +kernel
theorem dX6_advance_48 : decode cX6_advance 48 = .ok (.getfield 23, 3) := by decide +kernel
theorem dX6_advance_51 : decode cX6_advance 51 = .ok (.aload_n 0, 1) := by decide +kernel
theorem dX6_advance_52 : decode cX6_advance 52 = .ok (.getfield 13, 3) := by decide +kernel
theorem dX6_advance_55 : decode cX6_advance 55 = .ok (.if_icmp .lt 11, 3) := by decide +kernel
theorem dX6_advance_58 : decode cX6_advance 58 = .ok (.aload_n 0, 1) := by decide +kernel
theorem dX6_advance_59 : decode cX6_advance 59 = .ok (.iconst 0, 1) := by decide +kernel
theorem dX6_advance_60 : decode cX6_advance 60 = .ok (.putfield 20, 3) := by decide +kernel
theorem dX6_advance_63 : decode cX6_advance 63 = .ok (.goto 80, 3) := by decide +kernel
theorem dX6_advance_66 : decode cX6_advance 66 = .ok (.aload_n 0, 1) := by decide +kernel
theorem dX6_advance_67 : decode cX6_advance 67 = .ok (.getfield 7, 3) := by decide +kernel
theorem dX6_advance_70 : decode cX6_advance 70 = .ok (.aload_n 0, 1) := by decide +kernel
theorem dX6_advance_71 : decode cX6_advance 71 = .ok (.getfield 23, 3) := by decide +kernel
theorem dX6_advance_74 : decode cX6_advance 74 = .ok (.baload, 1) := by decide +kernel
theorem dX6_advance_75 : decode cX6_advance 75 = .ok (.invokestatic 39, 3) := by decide +kernel
theorem dX6_advance_78 : decode cX6_advance 78 = .ok (.ifCond .eq 10, 3) := by decide +kernel
theorem dX6_advance_81 : decode cX6_advance 81 = .ok (.aload_n 0, 1) := by decide +kernel
theorem dX6_advance_82 : decode cX6_advance 82 = .ok (.invokevirtual 42, 3) := by decide +kernel
theorem dX6_advance_85 : decode cX6_advance 85 = .ok (.goto 58, 3) := by decide +kernel
theorem dX6_advance_88 : decode cX6_advance 88 = .ok (.aload_n 0, 1) := by decide +kernel
theorem dX6_advance_89 : decode cX6_advance 89 = .ok (.getfield 7, 3) := by decide +kernel
theorem dX6_advance_92 : decode cX6_advance 92 = .ok (.aload_n 0, 1) := by decide +kernel
theorem dX6_advance_93 : decode cX6_advance 93 = .ok (.getfield 23, 3) := by decide +kernel
theorem dX6_advance_96 : decode cX6_advance 96 = .ok (.baload, 1) := by decide +kernel
theorem dX6_advance_97 : decode cX6_advance 97 = .ok (.invokestatic 45, 3) := by decide +kernel
theorem dX6_advance_100 : decode cX6_advance 100 = .ok (.ifCond .eq 10, 3) := by decide +kernel
theorem dX6_advance_103 : decode cX6_advance 103 = .ok (.aload_n 0, 1) := by decide +kernel
theorem dX6_advance_104 : decode cX6_advance 104 = .ok (.invokevirtual 48, 3) := by decide +kernel
theorem dX6_advance_107 : decode cX6_advance 107 = .ok (.goto 36, 3) := by decide +kernel
theorem dX6_advance_110 : decode cX6_advance 110 = .ok (.aload_n 0, 1) := by decide +kernel
theorem dX6_advance_111 : decode cX6_advance 111 = .ok (.aload_n 0, 1) := by decide +kernel
theorem dX6_advance_112 : decode cX6_advance 112 = .ok (.getfield 7, 3) := by decide +kernel
theorem dX6_advance_115 : decode cX6_advance 115 = .ok (.aload_n 0, 1) := by decide +kernel
theorem dX6_advance_116 : decode cX6_advance 116 = .ok (.getfield 23, 3) := by decide +kernel
theorem dX6_advance_119 : decode cX6_advance 119 = .ok (.baload, 1) := by decide +kernel
theorem dX6_advance_120 : decode cX6_advance 120 = .ok (.bipush 59, 2) := by decide +kernel
theorem dX6_advance_122 : decode cX6_advance 122 = .ok (.if_icmp .ne 7, 3) := by decide +kernel
theorem dX6_advance_125 : decode cX6_advance 125 = .ok (.iconst 3, 1) := by decide +kernel
theorem dX6_advance_126 : decode cX6_advance 126 = .ok (.goto 4, 3) := by decide +kernel
theorem dX6_advance_129 : decode cX6_advance 129 = .ok (.iconst 4, 1) := by decide +kernel
theorem dX6_advance_130 : decode cX6_advance 130 = .ok (.putfield 20, 3) := by decide +kernel
theorem dX6_advance_133 : decode cX6_advance 133 = .ok (.aload_n 0, 1) := by decide +kernel
theorem dX6_advance_134 : decode cX6_advance 134 = .ok (.dup, 1) := by decide +kernel
theorem dX6_advance_135 : decode cX6_advance 135 = .ok (.getfield 17, 3) := by decide +kernel
theorem dX6_advance_138 : decode cX6_advance 138 = .ok (.iconst 1, 1) := by decide +kernel
theorem dX6_advance_139 : decode cX6_advance 139 = .ok (.iadd, 1) := by decide +kernel
theorem dX6_advance_140 : decode cX6_advance 140 = .ok (.putfield 17, 3) := by decide +kernel
theorem dX6_advance_143 : decode cX6_advance 143 = .ok (.return_, 1) := by decide +kernel
theorem dJ0_coder_7d493_0 : decode cJ0_coder_7d493 0 = .ok (.getstatic 38, 3) := by decide +kernel
theorem dJ0_coder_7d493_3 : decode cJ0_coder_7d493 3 = .ok (.ifCond .eq 10, 3) := by decide +kernel
theorem dJ0_coder_7d493_6 : decode cJ0_coder_7d493 6 = .ok (.aload_n 0, 1) := by decide +kernel
theorem dJ0_coder_7d493_7 : decode cJ0_coder_7d493 7 = .ok (.getfield 15, 3) := by decide +kernel
theorem dJ0_coder_7d493_10 : decode cJ0_coder_7d493 10 = .ok (.goto 4, 3) := by decide +kernel
theorem dJ0_coder_7d493_14 : decode cJ0_coder_7d493 14 = .ok (.ireturn, 1) := by decide +kernel
theorem dJ0_isLatin1_aae02_0 : decode cJ0_isLatin1_aae02 0 = .ok (.getstatic 38, 3) := by decide +kernel
theorem dJ0_isLatin1_aae02_3 : decode cJ0_isLatin1_aae02 3 = .ok (.ifCond .eq 14, 3) := by decide +kernel
theorem dJ0_isLatin1_aae02_6 : decode cJ0_isLatin1_aae02 6 = .ok (.aload_n 0, 1) := by decide +kernel
theorem dJ0_isLatin1_aae02_7 : decode cJ0_isLatin1_aae02 7 = .ok (.getfield 15, 3) := by decide +kernel
theorem dJ0_isLatin1_aae02_10 : decode cJ0_isLatin1_aae02 10 = .ok (.ifCond .ne 7, 3) := by decide +kernel
theorem dJ0_isLatin1_aae02_13 : decode cJ0_isLatin1_aae02 13 = .ok (.iconst 1, 1) := by decide +kernel
theorem dJ0_isLatin1_aae02_14 : decode cJ0_isLatin1_aae02 14 = .ok (.goto 4, 3) := by decide +kernel
theorem dJ0_isLatin1_aae02_18 : decode cJ0_isLatin1_aae02 18 = .ok (.ireturn, 1) := by decide +kernel
theorem dJ0_length_8abf5_0 : decode cJ0_length_8abf5 0 = .ok (.aload_n 0, 1) := by decide +kernel
theorem dJ0_length_8abf5_1 : decode cJ0_length_8abf5 1 = .ok (.getfield 9, 3) := by decide +kernel
theorem dJ0_length_8abf5_4 : decode cJ0_length_8abf5 4 = .ok (.arraylength, 1) := by decide +kernel
theorem dJ0_length_8abf5_5 : decode cJ0_length_8abf5 5 = .ok (.aload_n 0, 1) := by decide +kernel
theorem dJ0_length_8abf5_6 : decode cJ0_length_8abf5 6 = .ok (.invokevirtual 335, 3) := by decide +kernel
theorem dJ0_length_8abf5_9 : decode cJ0_length_8abf5 9 = .ok (.ishr, 1) := by decide +kernel
theorem dJ0_length_8abf5_10 : decode cJ0_length_8abf5 10 = .ok (.ireturn, 1) := by decide +kernel
theorem dJ3_checkIndex_8e157_0 : decode cJ3_checkIndex_8e157 0 = .ok (.iload_n 0, 1) := by decide +kernel
theorem dJ3_checkIndex_8e157_1 : decode cJ3_checkIndex_8e157 1 = .ok (.ifCond .lt 8, 3) := by decide +kernel
theorem dJ3_checkIndex_8e157_4 : decode cJ3_checkIndex_8e157 4 = .ok (.iload_n 0, 1) := by decide +kernel
theorem dJ3_checkIndex_8e157_5 : decode cJ3_checkIndex_8e157 5 = .ok (.iload_n 1, 1) := by decide +kernel
theorem dJ3_checkIndex_8e157_6 : decode cJ3_checkIndex_8e157 6 = .ok (.if_icmp .lt 10, 3) := by decide +kernel
theorem dJ3_checkIndex_8e157_16 : decode cJ3_checkIndex_8e157 16 = .ok (.iload_n 0, 1) := by decide +kernel
theorem dJ3_checkIndex_8e157_17 : decode cJ3_checkIndex_8e157 17 = .ok (.ireturn, 1) := by decide +kernel
theorem dJ0_checkIndex_df160_0 : decode cJ0_checkIndex_df160 0 = .ok (.iload_n 0, 1) := by decide +kernel
theorem dJ0_checkIndex_df160_1 : decode cJ0_checkIndex_df160 1 = .ok (.iload_n 1, 1) := by decide +kernel
theorem dJ0_checkIndex_df160_2 : decode cJ0_checkIndex_df160 2 = .ok (.getstatic 1053, 3) := by decide +kernel
theorem dJ0_checkIndex_df160_5 : decode cJ0_checkIndex_df160 5 = .ok (.invokestatic 1059, 3) := by decide +kernel
theorem dJ0_checkIndex_df160_8 : decode cJ0_checkIndex_df160 8 = .ok (.pop, 1) := by decide +kernel
theorem dJ0_checkIndex_df160_9 : decode cJ0_checkIndex_df160 9 = .ok (.return_, 1) := by decide +kernel
theorem dJ1_charAt_3b067_0 : decode cJ1_charAt_3b067 0 = .ok (.iload_n 1, 1) := by decide +kernel
theorem dJ1_charAt_3b067_1 : decode cJ1_charAt_3b067 1 = .ok (.aload_n 0, 1) := by decide +kernel
theorem dJ1_charAt_3b067_2 : decode cJ1_charAt_3b067 2 = .ok (.arraylength, 1) := by decide +kernel
theorem dJ1_charAt_3b067_3 : decode cJ1_charAt_3b067 3 = .ok (.invokestatic 9, 3) := by decide +kernel
theorem dJ1_charAt_3b067_6 : decode cJ1_charAt_3b067 6 = .ok (.aload_n 0, 1) := by decide +kernel
theorem dJ1_charAt_3b067_7 : decode cJ1_charAt_3b067 7 = .ok (.iload_n 1, 1) := by decide +kernel
theorem dJ1_charAt_3b067_8 : decode cJ1_charAt_3b067 8 = .ok (.baload, 1) := by decide +kernel
theorem dJ1_charAt_3b067_9 : decode cJ1_charAt_3b067 9 = .ok (.sipush 255, 3) := by decide +kernel
theorem dJ1_charAt_3b067_12 : decode cJ1_charAt_3b067 12 = .ok (.iand, 1) := by decide +kernel
theorem dJ1_charAt_3b067_13 : decode cJ1_charAt_3b067 13 = .ok (.i2c, 1) := by decide +kernel
theorem dJ1_charAt_3b067_14 : decode cJ1_charAt_3b067 14 = .ok (.ireturn, 1) := by decide +kernel
theorem dJ0_charAt_5068e_0 : decode cJ0_charAt_5068e 0 = .ok (.aload_n 0, 1) := by decide +kernel
theorem dJ0_charAt_5068e_1 : decode cJ0_charAt_5068e 1 = .ok (.invokevirtual 492, 3) := by decide +kernel
theorem dJ0_charAt_5068e_4 : decode cJ0_charAt_5068e 4 = .ok (.ifCond .eq 12, 3) := by decide +kernel
theorem dJ0_charAt_5068e_7 : decode cJ0_charAt_5068e 7 = .ok (.aload_n 0, 1) := by decide +kernel
theorem dJ0_charAt_5068e_8 : decode cJ0_charAt_5068e 8 = .ok (.getfield 9, 3) := by decide +kernel
theorem dJ0_charAt_5068e_11 : decode cJ0_charAt_5068e 11 = .ok (.iload_n 1, 1) := by decide +kernel
theorem dJ0_charAt_5068e_12 : decode cJ0_charAt_5068e 12 = .ok (.invokestatic 495, 3) := by decide +kernel
theorem dJ0_charAt_5068e_15 : decode cJ0_charAt_5068e 15 = .ok (.ireturn, 1) := by decide +kernel
set_option maxHeartbeats 4000000 in
set_option maxRecDepth 100000 in
theorem c_Tk_isBlank {d : Nat} {u : Nat → Nat → Int32} {g : Nat → Nat → Int64} {ex : List MC} {sign : Int32} (hd : 0 ≤ d)  : CT con0 d 0 0 yX6_isBlank cX6_isBlank 1 (some .boolean) [.int sign] (Wd u g ex) (fun r h2 => ∃ (z : Bool), r = some (.int (bI z)) ∧ h2 = Wd u g ex) := by
  refine CT_of (by decide) (Nat.le_of_ble_eq_true rfl) (fun x hq => ?_)
  show J x yX6_isBlank cX6_isBlank 1 (some .boolean) d 0 0 (Wd u g ex).length 0 [(0, .int sign)] [] (Wd u g ex) 0 0
  refine J_iload_n (i := 0) (j := 0) dX6_isBlank_0 rfl rfl ?_
  refine J_bipush (v := 10) dX6_isBlank_1 (by decide) ?_
  refine J_icmp_eq (tgt := 12) dX6_isBlank_3 (by decide) (fun c1 => ?_) (fun c1 => ?_)
  · refine J_iconst (v := 1) dX6_isBlank_12 (by decide) ?_
    refine J_goto (tgt := 17) dX6_isBlank_13 (by decide) ?_
    exact J_zret hq dX6_isBlank_17 rfl rfl wlen (Nat.le_refl _) (Nat.le_refl _) ⟨true, rfl, rfl⟩
  · refine J_iload_n (i := 0) (j := 0) dX6_isBlank_6 rfl rfl ?_
    refine J_bipush (v := 32) dX6_isBlank_7 (by decide) ?_
    refine J_icmp_ne (tgt := 16) dX6_isBlank_9 (by decide) (fun c2 => ?_) (fun c2 => ?_)
    · refine J_iconst (v := 0) dX6_isBlank_16 (by decide) ?_
      exact J_zret hq dX6_isBlank_17 rfl rfl wlen (Nat.le_refl _) (Nat.le_refl _) ⟨false, rfl, rfl⟩
    · refine J_iconst (v := 1) dX6_isBlank_12 (by decide) ?_
      refine J_goto (tgt := 17) dX6_isBlank_13 (by decide) ?_
      exact J_zret hq dX6_isBlank_17 rfl rfl wlen (Nat.le_refl _) (Nat.le_refl _) ⟨true, rfl, rfl⟩
set_option maxHeartbeats 4000000 in
set_option maxRecDepth 100000 in
theorem c_Tk_isLetter {d : Nat} {u : Nat → Nat → Int32} {g : Nat → Nat → Int64} {ex : List MC} {sign : Int32} (hd : 0 ≤ d)  : CT con0 d 0 0 yX6_isLetter cX6_isLetter 1 (some .boolean) [.int sign] (Wd u g ex) (fun r h2 => ∃ (z : Bool), r = some (.int (bI z)) ∧ h2 = Wd u g ex ∧ (z = true → Bd 97 122 sign)) := by
  refine CT_of (by decide) (Nat.le_of_ble_eq_true rfl) (fun x hq => ?_)
  show J x yX6_isLetter cX6_isLetter 1 (some .boolean) d 0 0 (Wd u g ex).length 0 [(0, .int sign)] [] (Wd u g ex) 0 0
  refine J_iload_n (i := 0) (j := 0) dX6_isLetter_0 rfl rfl ?_
  refine J_bipush (v := 97) dX6_isLetter_1 (by decide) ?_
  refine J_icmp_lt (tgt := 16) dX6_isLetter_3 (by decide) (fun c1 => ?_) (fun c1 => ?_)
  · refine J_iconst (v := 0) dX6_isLetter_16 (by decide) ?_
    exact J_zret hq dX6_isLetter_17 rfl rfl wlen (Nat.le_refl _) (Nat.le_refl _) ⟨false, rfl, rfl, (fun q => absurd q (by decide))⟩
  · refine J_iload_n (i := 0) (j := 0) dX6_isLetter_6 rfl rfl ?_
    refine J_bipush (v := 122) dX6_isLetter_7 (by decide) ?_
    refine J_icmp_gt (tgt := 16) dX6_isLetter_9 (by decide) (fun c2 => ?_) (fun c2 => ?_)
    · refine J_iconst (v := 0) dX6_isLetter_16 (by decide) ?_
      exact J_zret hq dX6_isLetter_17 rfl rfl wlen (Nat.le_refl _) (Nat.le_refl _) ⟨false, rfl, rfl, (fun q => absurd q (by decide))⟩
    · refine J_iconst (v := 1) dX6_isLetter_12 (by decide) ?_
      refine J_goto (tgt := 17) dX6_isLetter_13 (by decide) ?_
      exact J_zret hq dX6_isLetter_17 rfl rfl wlen (Nat.le_refl _) (Nat.le_refl _) ⟨true, rfl, rfl, (fun qb => (bd_le_hi (bd_le_lo (bd_any sign) (i_nlt c1) (bd_c (v := 97) (lo := 97) (hi := 97) (by decide))) (i_nlt c2) (bd_c (v := 122) (lo := 122) (hi := 122) (by decide))))⟩
set_option maxHeartbeats 4000000 in
set_option maxRecDepth 100000 in
theorem c_Tk_isDigit {d : Nat} {u : Nat → Nat → Int32} {g : Nat → Nat → Int64} {ex : List MC} {sign : Int32} (hd : 0 ≤ d)  : CT con0 d 0 0 yX6_isDigit cX6_isDigit 1 (some .boolean) [.int sign] (Wd u g ex) (fun r h2 => ∃ (z : Bool), r = some (.int (bI z)) ∧ h2 = Wd u g ex ∧ (z = true → Bd 48 57 sign)) := by
  refine CT_of (by decide) (Nat.le_of_ble_eq_true rfl) (fun x hq => ?_)
  show J x yX6_isDigit cX6_isDigit 1 (some .boolean) d 0 0 (Wd u g ex).length 0 [(0, .int sign)] [] (Wd u g ex) 0 0
  refine J_iload_n (i := 0) (j := 0) dX6_isDigit_0 rfl rfl ?_
  refine J_bipush (v := 48) dX6_isDigit_1 (by decide) ?_
  refine J_icmp_lt (tgt := 16) dX6_isDigit_3 (by decide) (fun c1 => ?_) (fun c1 => ?_)
  · refine J_iconst (v := 0) dX6_isDigit_16 (by decide) ?_
    exact J_zret hq dX6_isDigit_17 rfl rfl wlen (Nat.le_refl _) (Nat.le_refl _) ⟨false, rfl, rfl, (fun q => absurd q (by decide))⟩
  · refine J_iload_n (i := 0) (j := 0) dX6_isDigit_6 rfl rfl ?_
    refine J_bipush (v := 57) dX6_isDigit_7 (by decide) ?_
    refine J_icmp_gt (tgt := 16) dX6_isDigit_9 (by decide) (fun c2 => ?_) (fun c2 => ?_)
    · refine J_iconst (v := 0) dX6_isDigit_16 (by decide) ?_
      exact J_zret hq dX6_isDigit_17 rfl rfl wlen (Nat.le_refl _) (Nat.le_refl _) ⟨false, rfl, rfl, (fun q => absurd q (by decide))⟩
    · refine J_iconst (v := 1) dX6_isDigit_12 (by decide) ?_
      refine J_goto (tgt := 17) dX6_isDigit_13 (by decide) ?_
      exact J_zret hq dX6_isDigit_17 rfl rfl wlen (Nat.le_refl _) (Nat.le_refl _) ⟨true, rfl, rfl, (fun qb => (bd_le_hi (bd_le_lo (bd_any sign) (i_nlt c1) (bd_c (v := 48) (lo := 48) (hi := 48) (by decide))) (i_nlt c2) (bd_c (v := 57) (lo := 57) (hi := 57) (by decide))))⟩
set_option maxHeartbeats 4000000 in
set_option maxRecDepth 100000 in
theorem c_Tk_begin {d : Nat} {u : Nat → Nat → Int32} {g : Nat → Nat → Int64} {ex : List MC} {count : Int32} (hd : 1 ≤ d) (hp0 : Bd 0 600 count) : CT con0 d 0 0 yX6_begin cX6_begin 3 none [.ref 30, .ref 2, .int count] (Wd u g ex) (fun r h2 => ∃ (u2 : Nat → Nat → Int32), r = none ∧ h2 = Wd u2 g ex ∧ (u2 30 0) = 1 ∧ Bd 0 600 (u2 30 1) ∧ Bd 0 0 (u2 30 2) ∧ (∀ c, c ≠ 30 → u2 c = u c) ∧ (∀ j, j ≠ 0 → j ≠ 1 → j ≠ 2 → u2 30 j = u 30 j)) := by
  refine CT_of (by decide) (Nat.le_of_ble_eq_true rfl) (fun x hq => ?_)
  show J x yX6_begin cX6_begin 3 none d 0 0 (Wd u g ex).length 0 [(0, .ref 30), (1, .ref 2), (2, .int count)] [] (Wd u g ex) 0 0
  refine J_aload_n (i := 0) (j := 0) dX6_begin_0 rfl rfl ?_
  refine J_aload_n (i := 1) (j := 1) dX6_begin_1 rfl rfl ?_
  obtain ⟨u1, e2⟩ : ∃ z, z = ms u 30 0 1 := ⟨_, rfl⟩
  refine J_put (C := RX6) (T := TX6) (Z := 6) (ci := 6) (f := 0) (ty0 := tyX6) dX6_begin_2 inG6 rfl tyX6_ok nmX6 (by decide) k232 rfl rfl wc_30 (Nat.le_of_ble_eq_true rfl) (fun _ _ => ⟨rfl, rfl⟩) (ws e2 wk_30 rfl) ?_
  refine J_aload_n (i := 0) (j := 0) dX6_begin_5 rfl rfl ?_
  refine J_iload_n (i := 2) (j := 2) dX6_begin_6 rfl rfl ?_
  refine J_aload_n (i := 1) (j := 1) dX6_begin_7 rfl rfl ?_
  refine J_alen dX6_begin_8 wc_2 (fun _ => rfl) ?_
  refine J_ci (v := 600) (by decide) ?_
  refine J_mmin dX6_begin_9 k493 k494 k99 k495 (Nat.le_trans (by decide) hd) (Nat.le_of_ble_eq_true rfl) (Nat.zero_le _) (Nat.zero_le _) ?_
  refine J_topi (fun v3 qv3 => ?_)
  obtain ⟨u4, e5⟩ : ∃ z, z = ms u1 30 1 v3 := ⟨_, rfl⟩
  refine J_put (C := RX6) (T := TX6) (Z := 6) (ci := 6) (f := 1) (ty0 := tyX6) dX6_begin_12 inG6 rfl tyX6_ok nmX6 (by decide) k233 rfl rfl wc_30 (Nat.le_of_ble_eq_true rfl) (fun _ _ => ⟨rfl, rfl⟩) (ws e5 wk_30 rfl) ?_
  refine J_aload_n (i := 0) (j := 0) dX6_begin_15 rfl rfl ?_
  refine J_iconst (v := 0) dX6_begin_16 (by decide) ?_
  obtain ⟨u6, e7⟩ : ∃ z, z = ms u4 30 2 0 := ⟨_, rfl⟩
  refine J_put (C := RX6) (T := TX6) (Z := 6) (ci := 6) (f := 2) (ty0 := tyX6) dX6_begin_17 inG6 rfl tyX6_ok nmX6 (by decide) k235 rfl rfl wc_30 (Nat.le_of_ble_eq_true rfl) (fun _ _ => ⟨rfl, rfl⟩) (ws e7 wk_30 rfl) ?_
  exact J_vret hq dX6_begin_20 rfl wlen (Nat.le_refl _) (Nat.le_refl _) ⟨u6, rfl, rfl, (((ms_i e7 (by decide)).trans ((ms_i e5 (by decide)).trans (ms_e e2))).trans rfl), (bd_r ((ms_i e7 (by decide)).trans (ms_e e5)) (bd_r qv3 (bd_min (l := 0) (h := 600) hp0 (bd_c (v := 600) (lo := 600) (hi := 600) (by decide)) (by decide)))), (bd_r (ms_e e7) (bd_c (v := 0) (lo := 0) (hi := 0) (by decide))), (fun c k0_ => ((ms_c e7 k0_).trans ((ms_c e5 k0_).trans (ms_c e2 k0_)))), (fun j k0_ k1_ k2_ => ((ms_i e7 k2_).trans ((ms_i e5 k1_).trans (ms_i e2 k0_))))⟩
set_option maxHeartbeats 4000000 in
set_option maxRecDepth 100000 in
theorem c_Tk_takeWord {d : Nat} {u : Nat → Nat → Int32} {g : Nat → Nat → Int64} {ex : List MC}  (hd : 1 ≤ d) (hp0 : (u 30 0) = 1) (hp1 : Bd 0 600 (u 30 1)) (hp2 : Bd 0 600 (u 30 2)) : CT con0 d 0 0 yX6_takeWord cX6_takeWord 1 none [.ref 30] (Wd u g ex) (fun r h2 => ∃ (u2 : Nat → Nat → Int32), r = none ∧ h2 = Wd u2 g ex ∧ Bd 0 600 (u2 30 2) ∧ (u2 30 3) = 1 ∧ (∀ c, c ≠ 30 → u2 c = u c) ∧ (∀ j, j ≠ 2 → j ≠ 3 → u2 30 j = u 30 j)) := by
  refine CT_of (by decide) (Nat.le_of_ble_eq_true rfl) (fun x hq => ?_)
  show J x yX6_takeWord cX6_takeWord 1 none d 0 0 (Wd u g ex).length 0 [(0, .ref 30)] [] (Wd u g ex) 0 0
  refine J_aload_n (i := 0) (j := 0) dX6_takeWord_0 rfl rfl ?_
  refine J_iconst (v := 1) dX6_takeWord_1 (by decide) ?_
  obtain ⟨u1, e2⟩ : ∃ z, z = ms u 30 3 1 := ⟨_, rfl⟩
  refine J_put (C := RX6) (T := TX6) (Z := 6) (ci := 6) (f := 3) (ty0 := tyX6) dX6_takeWord_2 inG6 rfl tyX6_ok nmX6 (by decide) k236 rfl rfl wc_30 (Nat.le_of_ble_eq_true rfl) (fun _ _ => ⟨rfl, rfl⟩) (ws e2 wk_30 rfl) ?_
  have lp23 : ∀ (n24 : Nat) (u11 : Nat → Nat → Int32), (∀ c, c ≠ 30 → u11 c = u1 c) → (∀ j, j ≠ 2 → u11 30 j = u1 30 j) → Bd 0 600 (u11 30 2) → (600 - (u11 30 2).toInt).toNat < n24 → J x yX6_takeWord cX6_takeWord 1 none d 0 0 (Wd u g ex).length 5 [(0, .ref 30)] [] (Wd u11 g ex) 0 0 := by
    intro n24
    induction n24 with
    | zero => intro u11 fr12 fc13 bm14 hm26; exact absurd hm26 (Nat.not_lt_zero _)
    | succ n24 ih25 =>
      intro u11 fr12 fc13 bm14 hm26
      refine J_aload_n (i := 0) (j := 0) dX6_takeWord_5 rfl rfl ?_
      refine J_get (C := RX6) (T := TX6) (Z := 6) (ci := 6) (f := 2) dX6_takeWord_6 inG6 rfl (by decide) k235 wc_30 rfl ?_
      refine J_aload_n (i := 0) (j := 0) dX6_takeWord_9 rfl rfl ?_
      refine J_get (C := RX6) (T := TX6) (Z := 6) (ci := 6) (f := 1) dX6_takeWord_10 inG6 rfl (by decide) k233 wc_30 rfl ?_
      refine J_ci (v := u 30 1) ((fc13 1 (by decide)).trans (ms_i e2 (by decide))) ?_
      refine J_icmp_ge (tgt := 44) dX6_takeWord_13 (by decide) (fun c27 => ?_) (fun c27 => ?_)
      · exact J_vret hq dX6_takeWord_44 rfl wlen (Nat.le_refl _) (Nat.le_refl _) ⟨u11, rfl, rfl, bm14, (((fc13 3 (by decide)).trans (ms_e e2)).trans rfl), (fun c k0_ => ((fr12 c k0_).trans (ms_c e2 k0_))), (fun j k2_ k3_ => ((fc13 j k2_).trans (ms_i e2 k3_)))⟩
      · refine J_aload_n (i := 0) (j := 0) dX6_takeWord_16 rfl rfl ?_
        refine J_get (C := RX6) (T := TX6) (Z := 6) (ci := 6) (f := 0) dX6_takeWord_17 inG6 rfl (by decide) k232 wc_30 rfl ?_
        refine J_cr (v := 2) (by rw [(((fc13 0 (by decide)).trans (ms_i e2 (by decide))).trans hp0)]; rfl) ?_
        refine J_aload_n (i := 0) (j := 0) dX6_takeWord_20 rfl rfl ?_
        refine J_get (C := RX6) (T := TX6) (Z := 6) (ci := 6) (f := 2) dX6_takeWord_21 inG6 rfl (by decide) k235 wc_30 rfl ?_
        refine J_bald dX6_takeWord_24 wc_2 (vin (bd_lt_hi bm14 (i_nle c27) hp1) (by decide)) ?_
        refine J_topi (fun v28 qv28 => ?_)
        refine J_callS (As := [.int v28]) (rest := []) dX6_takeWord_25 (c_Tk_isLetter (d := 0) (u := u11) (g := g) (ex := ex) (sign := v28)  (by decide) ) hq.n k507 k508 k92 k509 np_X6_isLetter (Nat.le_trans (by decide) hd) (by decide) (Nat.le_refl _) (Nat.le_refl _) wlen rfl (Nat.le_of_ble_eq_true rfl) (fun r_ h_ p29 => ?_)
        obtain ⟨t30, rfl, rfl, h31⟩ := p29
        refine J_ifB_eq (tgt := 44) dX6_takeWord_28 (by decide) (fun c32 => ?_) (fun c32 => ?_)
        · exact J_vret hq dX6_takeWord_44 rfl wlen (Nat.le_refl _) (Nat.le_refl _) ⟨u11, rfl, rfl, (bd_w (l := 0) (h := 600) (bd_lt_hi bm14 (i_nle c27) hp1) (by decide)), (((fc13 3 (by decide)).trans (ms_e e2)).trans rfl), (fun c k0_ => ((fr12 c k0_).trans (ms_c e2 k0_))), (fun j k2_ k3_ => ((fc13 j k2_).trans (ms_i e2 k3_)))⟩
        · refine J_aload_n (i := 0) (j := 0) dX6_takeWord_31 rfl rfl ?_
          refine J_dup dX6_takeWord_32 rfl ?_
          refine J_get (C := RX6) (T := TX6) (Z := 6) (ci := 6) (f := 2) dX6_takeWord_33 inG6 rfl (by decide) k235 wc_30 rfl ?_
          refine J_iconst (v := 1) dX6_takeWord_36 (by decide) ?_
          refine J_iadd dX6_takeWord_37 ?_
          obtain ⟨u33, e34⟩ : ∃ z, z = ms u11 30 2 ((u11 30 2) + 1) := ⟨_, rfl⟩
          refine J_put (C := RX6) (T := TX6) (Z := 6) (ci := 6) (f := 2) (ty0 := tyX6) dX6_takeWord_38 inG6 rfl tyX6_ok nmX6 (by decide) k235 rfl rfl wc_30 (Nat.le_of_ble_eq_true rfl) (fun _ _ => ⟨rfl, rfl⟩) (ws e34 wk_30 rfl) ?_
          refine J_goto (tgt := 5) dX6_takeWord_41 (by decide) ?_
          refine J_lv [0] rfl ?_
          exact ih25 u33 (fun c k0_ => ((ms_c e34 k0_).trans (fr12 c k0_))) (fun j k2_ => ((ms_i e34 k2_).trans (fc13 j k2_))) (bd_r (ms_e e34) (bd_w (l := 0) (h := 600) (bd_add (l := 1) (h := 600) (bd_lt_hi bm14 (i_nle c27) hp1) (bd_c (v := 1) (lo := 1) (hi := 1) (by decide)) (by decide)) (by decide))) (mu_up 1 bm14 (ms_e e34) (by decide) (bd_w (l := 1) (h := 600) (bd_r (ms_e e34) (bd_add (l := 1) (h := 600) (bd_lt_hi bm14 (i_nle c27) hp1) (bd_c (v := 1) (lo := 1) (hi := 1) (by decide)) (by decide))) (by decide)) hm26)
  refine J_lv [0] rfl ?_
  exact lp23 _ u1 (fun c k0_ => rfl) (fun j k2_ => rfl) (bd_r (ms_i e2 (by decide)) hp2) (Nat.lt_succ_self _)
set_option maxHeartbeats 4000000 in
set_option maxRecDepth 100000 in
theorem c_Tk_takeNumber {d : Nat} {u : Nat → Nat → Int32} {g : Nat → Nat → Int64} {ex : List MC}  (hd : 1 ≤ d) (hp0 : (u 30 0) = 1) (hp1 : Bd 0 600 (u 30 1)) (hp2 : Bd 0 600 (u 30 2)) (hp3 : Bd 0 600 (u 30 4)) (hp4 : (u 30 2 = u 30 4)) : CT con0 d 0 0 yX6_takeNumber cX6_takeNumber 1 none [.ref 30] (Wd u g ex) (fun r h2 => ∃ (u2 : Nat → Nat → Int32), r = none ∧ h2 = Wd u2 g ex ∧ Bd 0 600 (u2 30 2) ∧ (NV u2) ∧ (∀ c, c ≠ 30 → u2 c = u c) ∧ (∀ j, j ≠ 2 → j ≠ 3 → j ≠ 5 → u2 30 j = u 30 j)) := by
  refine CT_of (by decide) (Nat.le_of_ble_eq_true rfl) (fun x hq => ?_)
  show J x yX6_takeNumber cX6_takeNumber 1 none d 0 0 (Wd u g ex).length 0 [(0, .ref 30)] [] (Wd u g ex) 0 0
  refine J_aload_n (i := 0) (j := 0) dX6_takeNumber_0 rfl rfl ?_
  refine J_iconst (v := 0) dX6_takeNumber_1 (by decide) ?_
  obtain ⟨u1, e2⟩ : ∃ z, z = ms u 30 5 0 := ⟨_, rfl⟩
  refine J_put (C := RX6) (T := TX6) (Z := 6) (ci := 6) (f := 5) (ty0 := tyX6) dX6_takeNumber_2 inG6 rfl tyX6_ok nmX6 (by decide) k240 rfl rfl wc_30 (Nat.le_of_ble_eq_true rfl) (fun _ _ => ⟨rfl, rfl⟩) (ws e2 wk_30 rfl) ?_
  have lp177 : ∀ (n178 : Nat) (u148 : Nat → Nat → Int32), (∀ c, c ≠ 30 → u148 c = u1 c) → (∀ j, j ≠ 2 → j ≠ 5 → u148 30 j = u1 30 j) → Bd 0 600 (u148 30 2) → NVI (u148 30 2) (u 30 4) (u148 30 5) → (600 - (u148 30 2).toInt).toNat < n178 → J x yX6_takeNumber cX6_takeNumber 1 none d 0 0 (Wd u g ex).length 5 [(0, .ref 30)] [] (Wd u148 g ex) 0 0 := by
    intro n178
    induction n178 with
    | zero => intro u148 fr149 fc150 bm151 hI181 hm180; exact absurd hm180 (Nat.not_lt_zero _)
    | succ n178 ih179 =>
      intro u148 fr149 fc150 bm151 hI181 hm180
      refine J_aload_n (i := 0) (j := 0) dX6_takeNumber_5 rfl rfl ?_
      refine J_get (C := RX6) (T := TX6) (Z := 6) (ci := 6) (f := 2) dX6_takeNumber_6 inG6 rfl (by decide) k235 wc_30 rfl ?_
      refine J_aload_n (i := 0) (j := 0) dX6_takeNumber_9 rfl rfl ?_
      refine J_get (C := RX6) (T := TX6) (Z := 6) (ci := 6) (f := 1) dX6_takeNumber_10 inG6 rfl (by decide) k233 wc_30 rfl ?_
      refine J_ci (v := u 30 1) ((fc150 1 (by decide) (by decide)).trans (ms_i e2 (by decide))) ?_
      have jn192 : ∀ (_ : Unit), J x yX6_takeNumber cX6_takeNumber 1 none d 0 0 (Wd u g ex).length 68 [(0, .ref 30)] [] (Wd u148 g ex) 0 0 := by
        intro _
        refine J_aload_n (i := 0) (j := 0) dX6_takeNumber_68 rfl rfl ?_
        refine J_aload_n (i := 0) (j := 0) dX6_takeNumber_69 rfl rfl ?_
        refine J_get (C := RX6) (T := TX6) (Z := 6) (ci := 6) (f := 2) dX6_takeNumber_70 inG6 rfl (by decide) k235 wc_30 rfl ?_
        refine J_aload_n (i := 0) (j := 0) dX6_takeNumber_73 rfl rfl ?_
        refine J_get (C := RX6) (T := TX6) (Z := 6) (ci := 6) (f := 4) dX6_takeNumber_74 inG6 rfl (by decide) k238 wc_30 rfl ?_
        refine J_ci (v := u 30 4) ((fc150 4 (by decide) (by decide)).trans (ms_i e2 (by decide))) ?_
        refine J_isub dX6_takeNumber_77 ?_
        refine J_iconst (v := 3) dX6_takeNumber_78 (by decide) ?_
        refine J_icmp_le (tgt := 86) dX6_takeNumber_79 (by decide) (fun c193 => ?_) (fun c193 => ?_)
        · refine J_iconst (v := 2) dX6_takeNumber_86 (by decide) ?_
          obtain ⟨u194, e195⟩ : ∃ z, z = ms u148 30 3 2 := ⟨_, rfl⟩
          refine J_put (C := RX6) (T := TX6) (Z := 6) (ci := 6) (f := 3) (ty0 := tyX6) dX6_takeNumber_87 inG6 rfl tyX6_ok nmX6 (by decide) k236 rfl rfl wc_30 (Nat.le_of_ble_eq_true rfl) (fun _ _ => ⟨rfl, rfl⟩) (ws e195 wk_30 rfl) ?_
          exact J_vret hq dX6_takeNumber_90 rfl wlen (Nat.le_refl _) (Nat.le_refl _) ⟨u194, rfl, rfl, (bd_r (ms_i e195 (by decide)) bm151), (fun _ => (bd_r (ms_i e195 (by decide)) (nvi_e hI181 bm151 hp3 c193))), (fun c k0_ => ((ms_c e195 k0_).trans ((fr149 c k0_).trans (ms_c e2 k0_)))), (fun j k2_ k3_ k5_ => ((ms_i e195 k3_).trans ((fc150 j k2_ k5_).trans (ms_i e2 k5_))))⟩
        · refine J_iconst (v := 4) dX6_takeNumber_82 (by decide) ?_
          refine J_goto (tgt := 87) dX6_takeNumber_83 (by decide) ?_
          obtain ⟨u196, e197⟩ : ∃ z, z = ms u148 30 3 4 := ⟨_, rfl⟩
          refine J_put (C := RX6) (T := TX6) (Z := 6) (ci := 6) (f := 3) (ty0 := tyX6) dX6_takeNumber_87 inG6 rfl tyX6_ok nmX6 (by decide) k236 rfl rfl wc_30 (Nat.le_of_ble_eq_true rfl) (fun _ _ => ⟨rfl, rfl⟩) (ws e197 wk_30 rfl) ?_
          exact J_vret hq dX6_takeNumber_90 rfl wlen (Nat.le_refl _) (Nat.le_refl _) ⟨u196, rfl, rfl, (bd_r (ms_i e197 (by decide)) bm151), (fun q => absurd ((ms_e e197).symm.trans q) (by decide)), (fun c k0_ => ((ms_c e197 k0_).trans ((fr149 c k0_).trans (ms_c e2 k0_)))), (fun j k2_ k3_ k5_ => ((ms_i e197 k3_).trans ((fc150 j k2_ k5_).trans (ms_i e2 k5_))))⟩
      refine J_icmp_ge (tgt := 68) dX6_takeNumber_13 (by decide) (fun c182 => ?_) (fun c182 => ?_)
      · refine J_lv [0] rfl ?_
        exact jn192 () 
      · refine J_aload_n (i := 0) (j := 0) dX6_takeNumber_16 rfl rfl ?_
        refine J_get (C := RX6) (T := TX6) (Z := 6) (ci := 6) (f := 0) dX6_takeNumber_17 inG6 rfl (by decide) k232 wc_30 rfl ?_
        refine J_cr (v := 2) (by rw [(((fc150 0 (by decide) (by decide)).trans (ms_i e2 (by decide))).trans hp0)]; rfl) ?_
        refine J_aload_n (i := 0) (j := 0) dX6_takeNumber_20 rfl rfl ?_
        refine J_get (C := RX6) (T := TX6) (Z := 6) (ci := 6) (f := 2) dX6_takeNumber_21 inG6 rfl (by decide) k235 wc_30 rfl ?_
        refine J_bald dX6_takeNumber_24 wc_2 (vin (bd_lt_hi bm151 (i_nle c182) hp1) (by decide)) ?_
        refine J_topi (fun v198 qv198 => ?_)
        refine J_callS (As := [.int v198]) (rest := []) dX6_takeNumber_25 (c_Tk_isDigit (d := 0) (u := u148) (g := g) (ex := ex) (sign := v198)  (by decide) ) hq.n k514 k515 k92 k516 np_X6_isDigit (Nat.le_trans (by decide) hd) (by decide) (Nat.le_refl _) (Nat.le_refl _) wlen rfl (Nat.le_of_ble_eq_true rfl) (fun r_ h_ p199 => ?_)
        obtain ⟨t200, rfl, rfl, h201⟩ := p199
        refine J_ifB_eq (tgt := 68) dX6_takeNumber_28 (by decide) (fun c202 => ?_) (fun c202 => ?_)
        · refine J_lv [0] rfl ?_
          exact jn192 () 
        · refine J_aload_n (i := 0) (j := 0) dX6_takeNumber_31 rfl rfl ?_
          refine J_aload_n (i := 0) (j := 0) dX6_takeNumber_32 rfl rfl ?_
          refine J_get (C := RX6) (T := TX6) (Z := 6) (ci := 6) (f := 5) dX6_takeNumber_33 inG6 rfl (by decide) k240 wc_30 rfl ?_
          refine J_bipush (v := 10) dX6_takeNumber_36 (by decide) ?_
          refine J_imul dX6_takeNumber_38 ?_
          refine J_aload_n (i := 0) (j := 0) dX6_takeNumber_39 rfl rfl ?_
          refine J_get (C := RX6) (T := TX6) (Z := 6) (ci := 6) (f := 0) dX6_takeNumber_40 inG6 rfl (by decide) k232 wc_30 rfl ?_
          refine J_cr (v := 2) (by rw [(((fc150 0 (by decide) (by decide)).trans (ms_i e2 (by decide))).trans hp0)]; rfl) ?_
          refine J_aload_n (i := 0) (j := 0) dX6_takeNumber_43 rfl rfl ?_
          refine J_get (C := RX6) (T := TX6) (Z := 6) (ci := 6) (f := 2) dX6_takeNumber_44 inG6 rfl (by decide) k235 wc_30 rfl ?_
          refine J_bald dX6_takeNumber_47 wc_2 (vin (bd_lt_hi bm151 (i_nle c182) hp1) (by decide)) ?_
          refine J_ci (v := v198) qv198.symm ?_
          refine J_bipush (v := 48) dX6_takeNumber_48 (by decide) ?_
          refine J_isub dX6_takeNumber_50 ?_
          refine J_iadd dX6_takeNumber_51 ?_
          obtain ⟨u203, e204⟩ : ∃ z, z = ms u148 30 5 (((u148 30 5) * 10) + (v198 - 48)) := ⟨_, rfl⟩
          refine J_put (C := RX6) (T := TX6) (Z := 6) (ci := 6) (f := 5) (ty0 := tyX6) dX6_takeNumber_52 inG6 rfl tyX6_ok nmX6 (by decide) k240 rfl rfl wc_30 (Nat.le_of_ble_eq_true rfl) (fun _ _ => ⟨rfl, rfl⟩) (ws e204 wk_30 rfl) ?_
          refine J_aload_n (i := 0) (j := 0) dX6_takeNumber_55 rfl rfl ?_
          refine J_dup dX6_takeNumber_56 rfl ?_
          refine J_get (C := RX6) (T := TX6) (Z := 6) (ci := 6) (f := 2) dX6_takeNumber_57 inG6 rfl (by decide) k235 wc_30 rfl ?_
          refine J_ci (v := u148 30 2) (ms_i e204 (by decide)) ?_
          refine J_iconst (v := 1) dX6_takeNumber_60 (by decide) ?_
          refine J_iadd dX6_takeNumber_61 ?_
          obtain ⟨u205, e206⟩ : ∃ z, z = ms u203 30 2 ((u148 30 2) + 1) := ⟨_, rfl⟩
          refine J_put (C := RX6) (T := TX6) (Z := 6) (ci := 6) (f := 2) (ty0 := tyX6) dX6_takeNumber_62 inG6 rfl tyX6_ok nmX6 (by decide) k235 rfl rfl wc_30 (Nat.le_of_ble_eq_true rfl) (fun _ _ => ⟨rfl, rfl⟩) (ws e206 wk_30 rfl) ?_
          refine J_goto (tgt := 5) dX6_takeNumber_65 (by decide) ?_
          refine J_lv [0] rfl ?_
          exact ih179 u205 (fun c k0_ => ((ms_c e206 k0_).trans ((ms_c e204 k0_).trans (fr149 c k0_)))) (fun j k2_ k5_ => ((ms_i e206 k2_).trans ((ms_i e204 k5_).trans (fc150 j k2_ k5_)))) (bd_r (ms_e e206) (bd_w (l := 0) (h := 600) (bd_add (l := 1) (h := 600) (bd_lt_hi bm151 (i_nle c182) hp1) (bd_c (v := 1) (lo := 1) (hi := 1) (by decide)) (by decide)) (by decide))) (nvi_r (ms_e e206) rfl ((ms_i e206 (by decide)).trans (ms_e e204)) (nvi_s hI181 (bd_lt_hi bm151 (i_nle c182) hp1) (h201 c202))) (mu_up 1 bm151 (ms_e e206) (by decide) (bd_w (l := 1) (h := 600) (bd_r (ms_e e206) (bd_add (l := 1) (h := 600) (bd_lt_hi bm151 (i_nle c182) hp1) (bd_c (v := 1) (lo := 1) (hi := 1) (by decide)) (by decide))) (by decide)) hm180)
  refine J_lv [0] rfl ?_
  exact lp177 _ u1 (fun c k0_ => rfl) (fun j k2_ k5_ => rfl) (bd_r (ms_i e2 (by decide)) hp2) (nvi_r (ms_i e2 (by decide)) rfl (ms_e e2) (nvi_0 hp4 rfl)) (Nat.lt_succ_self _)
set_option maxHeartbeats 4000000 in
set_option maxRecDepth 100000 in
theorem c_Tk_advance {d : Nat} {u : Nat → Nat → Int32} {g : Nat → Nat → Int64} {ex : List MC}  (hd : 2 ≤ d) (hp0 : (u 30 0) = 1) (hp1 : Bd 0 600 (u 30 1)) (hp2 : Bd 0 600 (u 30 2)) : CT con0 d 0 0 yX6_advance cX6_advance 1 none [.ref 30] (Wd u g ex) (fun r h2 => ∃ (u2 : Nat → Nat → Int32), r = none ∧ h2 = Wd u2 g ex ∧ Bd 0 600 (u2 30 2) ∧ Bd 0 600 (u2 30 4) ∧ (NV u2) ∧ (∀ c, c ≠ 30 → u2 c = u c) ∧ (∀ j, j ≠ 2 → j ≠ 3 → j ≠ 4 → j ≠ 5 → u2 30 j = u 30 j)) := by
  refine CT_of (by decide) (Nat.le_of_ble_eq_true rfl) (fun x hq => ?_)
  show J x yX6_advance cX6_advance 1 none d 0 0 (Wd u g ex).length 0 [(0, .ref 30)] [] (Wd u g ex) 0 0
  have lp95 : ∀ (n96 : Nat) (u46 : Nat → Nat → Int32), (∀ c, c ≠ 30 → u46 c = u c) → (∀ j, j ≠ 2 → u46 30 j = u 30 j) → Bd 0 600 (u46 30 2) → (600 - (u46 30 2).toInt).toNat < n96 → J x yX6_advance cX6_advance 1 none d 0 0 (Wd u g ex).length 0 [(0, .ref 30)] [] (Wd u46 g ex) 0 0 := by
    intro n96
    induction n96 with
    | zero => intro u46 fr47 fc48 bm49 hm98; exact absurd hm98 (Nat.not_lt_zero _)
    | succ n96 ih97 =>
      intro u46 fr47 fc48 bm49 hm98
      refine J_aload_n (i := 0) (j := 0) dX6_advance_0 rfl rfl ?_
      refine J_get (C := RX6) (T := TX6) (Z := 6) (ci := 6) (f := 2) dX6_advance_1 inG6 rfl (by decide) k235 wc_30 rfl ?_
      refine J_aload_n (i := 0) (j := 0) dX6_advance_4 rfl rfl ?_
      refine J_get (C := RX6) (T := TX6) (Z := 6) (ci := 6) (f := 1) dX6_advance_5 inG6 rfl (by decide) k233 wc_30 rfl ?_
      refine J_ci (v := u 30 1) (fc48 1 (by decide)) ?_
      refine J_icmp_ge (tgt := 39) dX6_advance_8 (by decide) (fun c99 => ?_) (fun c99 => ?_)
      · refine J_aload_n (i := 0) (j := 0) dX6_advance_39 rfl rfl ?_
        refine J_aload_n (i := 0) (j := 0) dX6_advance_40 rfl rfl ?_
        refine J_get (C := RX6) (T := TX6) (Z := 6) (ci := 6) (f := 2) dX6_advance_41 inG6 rfl (by decide) k235 wc_30 rfl ?_
        obtain ⟨u100, e101⟩ : ∃ z, z = ms u46 30 4 (u46 30 2) := ⟨_, rfl⟩
        refine J_put (C := RX6) (T := TX6) (Z := 6) (ci := 6) (f := 4) (ty0 := tyX6) dX6_advance_44 inG6 rfl tyX6_ok nmX6 (by decide) k238 rfl rfl wc_30 (Nat.le_of_ble_eq_true rfl) (fun _ _ => ⟨rfl, rfl⟩) (ws e101 wk_30 rfl) ?_
        refine J_aload_n (i := 0) (j := 0) dX6_advance_47 rfl rfl ?_
        refine J_get (C := RX6) (T := TX6) (Z := 6) (ci := 6) (f := 4) dX6_advance_48 inG6 rfl (by decide) k238 wc_30 rfl ?_
        refine J_ci (v := u46 30 2) (ms_e e101) ?_
        refine J_aload_n (i := 0) (j := 0) dX6_advance_51 rfl rfl ?_
        refine J_get (C := RX6) (T := TX6) (Z := 6) (ci := 6) (f := 1) dX6_advance_52 inG6 rfl (by decide) k233 wc_30 rfl ?_
        refine J_ci (v := u 30 1) ((ms_i e101 (by decide)).trans (fc48 1 (by decide))) ?_
        refine J_icmp_lt (tgt := 66) dX6_advance_55 (by decide) (fun c102 => ?_) (fun c102 => ?_)
        · exact (lt_le_no c102 c99).elim
        · refine J_aload_n (i := 0) (j := 0) dX6_advance_58 rfl rfl ?_
          refine J_iconst (v := 0) dX6_advance_59 (by decide) ?_
          obtain ⟨u103, e104⟩ : ∃ z, z = ms u100 30 3 0 := ⟨_, rfl⟩
          refine J_put (C := RX6) (T := TX6) (Z := 6) (ci := 6) (f := 3) (ty0 := tyX6) dX6_advance_60 inG6 rfl tyX6_ok nmX6 (by decide) k236 rfl rfl wc_30 (Nat.le_of_ble_eq_true rfl) (fun _ _ => ⟨rfl, rfl⟩) (ws e104 wk_30 rfl) ?_
          refine J_goto (tgt := 143) dX6_advance_63 (by decide) ?_
          exact J_vret hq dX6_advance_143 rfl wlen (Nat.le_refl _) (Nat.le_refl _) ⟨u103, rfl, rfl, (bd_r ((ms_i e104 (by decide)).trans (ms_i e101 (by decide))) bm49), (bd_r ((ms_i e104 (by decide)).trans (ms_e e101)) bm49), (fun q => absurd ((ms_e e104).symm.trans q) (by decide)), (fun c k0_ => ((ms_c e104 k0_).trans ((ms_c e101 k0_).trans (fr47 c k0_)))), (fun j k2_ k3_ k4_ k5_ => ((ms_i e104 k3_).trans ((ms_i e101 k4_).trans (fc48 j k2_))))⟩
      · refine J_aload_n (i := 0) (j := 0) dX6_advance_11 rfl rfl ?_
        refine J_get (C := RX6) (T := TX6) (Z := 6) (ci := 6) (f := 0) dX6_advance_12 inG6 rfl (by decide) k232 wc_30 rfl ?_
        refine J_cr (v := 2) (by rw [((fc48 0 (by decide)).trans hp0)]; rfl) ?_
        refine J_aload_n (i := 0) (j := 0) dX6_advance_15 rfl rfl ?_
        refine J_get (C := RX6) (T := TX6) (Z := 6) (ci := 6) (f := 2) dX6_advance_16 inG6 rfl (by decide) k235 wc_30 rfl ?_
        refine J_bald dX6_advance_19 wc_2 (vin (bd_lt_hi bm49 (i_nle c99) hp1) (by decide)) ?_
        refine J_topi (fun v105 qv105 => ?_)
        refine J_callS (As := [.int v105]) (rest := []) dX6_advance_20 (c_Tk_isBlank (d := 0) (u := u46) (g := g) (ex := ex) (sign := v105)  (by decide) ) hq.n k504 k505 k92 k506 np_X6_isBlank (Nat.le_trans (by decide) hd) (by decide) (Nat.le_refl _) (Nat.le_refl _) wlen rfl (Nat.le_of_ble_eq_true rfl) (fun r_ h_ p106 => ?_)
        obtain ⟨t107, rfl, rfl⟩ := p106
        refine J_ifB_eq (tgt := 39) dX6_advance_23 (by decide) (fun c108 => ?_) (fun c108 => ?_)
        · refine J_aload_n (i := 0) (j := 0) dX6_advance_39 rfl rfl ?_
          refine J_aload_n (i := 0) (j := 0) dX6_advance_40 rfl rfl ?_
          refine J_get (C := RX6) (T := TX6) (Z := 6) (ci := 6) (f := 2) dX6_advance_41 inG6 rfl (by decide) k235 wc_30 rfl ?_
          obtain ⟨u109, e110⟩ : ∃ z, z = ms u46 30 4 (u46 30 2) := ⟨_, rfl⟩
          refine J_put (C := RX6) (T := TX6) (Z := 6) (ci := 6) (f := 4) (ty0 := tyX6) dX6_advance_44 inG6 rfl tyX6_ok nmX6 (by decide) k238 rfl rfl wc_30 (Nat.le_of_ble_eq_true rfl) (fun _ _ => ⟨rfl, rfl⟩) (ws e110 wk_30 rfl) ?_
          refine J_aload_n (i := 0) (j := 0) dX6_advance_47 rfl rfl ?_
          refine J_get (C := RX6) (T := TX6) (Z := 6) (ci := 6) (f := 4) dX6_advance_48 inG6 rfl (by decide) k238 wc_30 rfl ?_
          refine J_ci (v := u46 30 2) (ms_e e110) ?_
          refine J_aload_n (i := 0) (j := 0) dX6_advance_51 rfl rfl ?_
          refine J_get (C := RX6) (T := TX6) (Z := 6) (ci := 6) (f := 1) dX6_advance_52 inG6 rfl (by decide) k233 wc_30 rfl ?_
          refine J_ci (v := u 30 1) ((ms_i e110 (by decide)).trans (fc48 1 (by decide))) ?_
          refine J_icmp_lt (tgt := 66) dX6_advance_55 (by decide) (fun c111 => ?_) (fun c111 => ?_)
          · refine J_aload_n (i := 0) (j := 0) dX6_advance_66 rfl rfl ?_
            refine J_get (C := RX6) (T := TX6) (Z := 6) (ci := 6) (f := 0) dX6_advance_67 inG6 rfl (by decide) k232 wc_30 rfl ?_
            refine J_cr (v := 2) (by rw [(((ms_i e110 (by decide)).trans (fc48 0 (by decide))).trans hp0)]; rfl) ?_
            refine J_aload_n (i := 0) (j := 0) dX6_advance_70 rfl rfl ?_
            refine J_get (C := RX6) (T := TX6) (Z := 6) (ci := 6) (f := 4) dX6_advance_71 inG6 rfl (by decide) k238 wc_30 rfl ?_
            refine J_ci (v := u46 30 2) (ms_e e110) ?_
            refine J_bald dX6_advance_74 wc_2 (vin (bd_lt_hi bm49 (i_nle c99) (bd_lt_lo hp1 c111 bm49)) (by decide)) ?_
            refine J_topi (fun v112 qv112 => ?_)
            refine J_callS (As := [.int v112]) (rest := []) dX6_advance_75 (c_Tk_isLetter (d := 0) (u := u109) (g := g) (ex := ex) (sign := v112)  (by decide) ) hq.n k507 k508 k92 k509 np_X6_isLetter (Nat.le_trans (by decide) hd) (by decide) (Nat.le_refl _) (Nat.le_refl _) wlen rfl (Nat.le_of_ble_eq_true rfl) (fun r_ h_ p113 => ?_)
            obtain ⟨t114, rfl, rfl, h115⟩ := p113
            refine J_ifB_eq (tgt := 88) dX6_advance_78 (by decide) (fun c116 => ?_) (fun c116 => ?_)
            · refine J_aload_n (i := 0) (j := 0) dX6_advance_88 rfl rfl ?_
              refine J_get (C := RX6) (T := TX6) (Z := 6) (ci := 6) (f := 0) dX6_advance_89 inG6 rfl (by decide) k232 wc_30 rfl ?_
              refine J_cr (v := 2) (by rw [(((ms_i e110 (by decide)).trans (fc48 0 (by decide))).trans hp0)]; rfl) ?_
              refine J_aload_n (i := 0) (j := 0) dX6_advance_92 rfl rfl ?_
              refine J_get (C := RX6) (T := TX6) (Z := 6) (ci := 6) (f := 4) dX6_advance_93 inG6 rfl (by decide) k238 wc_30 rfl ?_
              refine J_ci (v := u46 30 2) (ms_e e110) ?_
              refine J_bald dX6_advance_96 wc_2 (vin (bd_lt_hi bm49 (i_nle c99) (bd_lt_lo hp1 c111 bm49)) (by decide)) ?_
              refine J_ci (v := v112) qv112.symm ?_
              refine J_callS (As := [.int v112]) (rest := []) dX6_advance_97 (c_Tk_isDigit (d := 0) (u := u109) (g := g) (ex := ex) (sign := v112)  (by decide) ) hq.n k514 k515 k92 k516 np_X6_isDigit (Nat.le_trans (by decide) hd) (by decide) (Nat.le_refl _) (Nat.le_refl _) wlen rfl (Nat.le_of_ble_eq_true rfl) (fun r_ h_ p117 => ?_)
              obtain ⟨t118, rfl, rfl, h119⟩ := p117
              refine J_ifB_eq (tgt := 110) dX6_advance_100 (by decide) (fun c120 => ?_) (fun c120 => ?_)
              · refine J_aload_n (i := 0) (j := 0) dX6_advance_110 rfl rfl ?_
                refine J_aload_n (i := 0) (j := 0) dX6_advance_111 rfl rfl ?_
                refine J_get (C := RX6) (T := TX6) (Z := 6) (ci := 6) (f := 0) dX6_advance_112 inG6 rfl (by decide) k232 wc_30 rfl ?_
                refine J_cr (v := 2) (by rw [(((ms_i e110 (by decide)).trans (fc48 0 (by decide))).trans hp0)]; rfl) ?_
                refine J_aload_n (i := 0) (j := 0) dX6_advance_115 rfl rfl ?_
                refine J_get (C := RX6) (T := TX6) (Z := 6) (ci := 6) (f := 4) dX6_advance_116 inG6 rfl (by decide) k238 wc_30 rfl ?_
                refine J_ci (v := u46 30 2) (ms_e e110) ?_
                refine J_bald dX6_advance_119 wc_2 (vin (bd_lt_hi bm49 (i_nle c99) (bd_lt_lo hp1 c111 bm49)) (by decide)) ?_
                refine J_ci (v := v112) qv112.symm ?_
                refine J_bipush (v := 59) dX6_advance_120 (by decide) ?_
                refine J_icmp_ne (tgt := 129) dX6_advance_122 (by decide) (fun c121 => ?_) (fun c121 => ?_)
                · refine J_iconst (v := 4) dX6_advance_129 (by decide) ?_
                  obtain ⟨u122, e123⟩ : ∃ z, z = ms u109 30 3 4 := ⟨_, rfl⟩
                  refine J_put (C := RX6) (T := TX6) (Z := 6) (ci := 6) (f := 3) (ty0 := tyX6) dX6_advance_130 inG6 rfl tyX6_ok nmX6 (by decide) k236 rfl rfl wc_30 (Nat.le_of_ble_eq_true rfl) (fun _ _ => ⟨rfl, rfl⟩) (ws e123 wk_30 rfl) ?_
                  refine J_aload_n (i := 0) (j := 0) dX6_advance_133 rfl rfl ?_
                  refine J_dup dX6_advance_134 rfl ?_
                  refine J_get (C := RX6) (T := TX6) (Z := 6) (ci := 6) (f := 2) dX6_advance_135 inG6 rfl (by decide) k235 wc_30 rfl ?_
                  refine J_ci (v := u46 30 2) ((ms_i e123 (by decide)).trans (ms_i e110 (by decide))) ?_
                  refine J_iconst (v := 1) dX6_advance_138 (by decide) ?_
                  refine J_iadd dX6_advance_139 ?_
                  obtain ⟨u124, e125⟩ : ∃ z, z = ms u122 30 2 ((u46 30 2) + 1) := ⟨_, rfl⟩
                  refine J_put (C := RX6) (T := TX6) (Z := 6) (ci := 6) (f := 2) (ty0 := tyX6) dX6_advance_140 inG6 rfl tyX6_ok nmX6 (by decide) k235 rfl rfl wc_30 (Nat.le_of_ble_eq_true rfl) (fun _ _ => ⟨rfl, rfl⟩) (ws e125 wk_30 rfl) ?_
                  exact J_vret hq dX6_advance_143 rfl wlen (Nat.le_refl _) (Nat.le_refl _) ⟨u124, rfl, rfl, (bd_r (ms_e e125) (bd_w (l := 0) (h := 600) (bd_add (l := 1) (h := 600) (bd_lt_hi bm49 (i_nle c99) (bd_lt_lo hp1 c111 bm49)) (bd_c (v := 1) (lo := 1) (hi := 1) (by decide)) (by decide)) (by decide))), (bd_r ((ms_i e125 (by decide)).trans ((ms_i e123 (by decide)).trans (ms_e e110))) (bd_w (l := 0) (h := 600) (bd_lt_hi bm49 (i_nle c99) (bd_lt_lo hp1 c111 bm49)) (by decide))), (fun q => absurd (((ms_i e125 (by decide)).trans (ms_e e123)).symm.trans q) (by decide)), (fun c k0_ => ((ms_c e125 k0_).trans ((ms_c e123 k0_).trans ((ms_c e110 k0_).trans (fr47 c k0_))))), (fun j k2_ k3_ k4_ k5_ => ((ms_i e125 k2_).trans ((ms_i e123 k3_).trans ((ms_i e110 k4_).trans (fc48 j k2_)))))⟩
                · refine J_iconst (v := 3) dX6_advance_125 (by decide) ?_
                  refine J_goto (tgt := 130) dX6_advance_126 (by decide) ?_
                  obtain ⟨u126, e127⟩ : ∃ z, z = ms u109 30 3 3 := ⟨_, rfl⟩
                  refine J_put (C := RX6) (T := TX6) (Z := 6) (ci := 6) (f := 3) (ty0 := tyX6) dX6_advance_130 inG6 rfl tyX6_ok nmX6 (by decide) k236 rfl rfl wc_30 (Nat.le_of_ble_eq_true rfl) (fun _ _ => ⟨rfl, rfl⟩) (ws e127 wk_30 rfl) ?_
                  refine J_aload_n (i := 0) (j := 0) dX6_advance_133 rfl rfl ?_
                  refine J_dup dX6_advance_134 rfl ?_
                  refine J_get (C := RX6) (T := TX6) (Z := 6) (ci := 6) (f := 2) dX6_advance_135 inG6 rfl (by decide) k235 wc_30 rfl ?_
                  refine J_ci (v := u46 30 2) ((ms_i e127 (by decide)).trans (ms_i e110 (by decide))) ?_
                  refine J_iconst (v := 1) dX6_advance_138 (by decide) ?_
                  refine J_iadd dX6_advance_139 ?_
                  obtain ⟨u128, e129⟩ : ∃ z, z = ms u126 30 2 ((u46 30 2) + 1) := ⟨_, rfl⟩
                  refine J_put (C := RX6) (T := TX6) (Z := 6) (ci := 6) (f := 2) (ty0 := tyX6) dX6_advance_140 inG6 rfl tyX6_ok nmX6 (by decide) k235 rfl rfl wc_30 (Nat.le_of_ble_eq_true rfl) (fun _ _ => ⟨rfl, rfl⟩) (ws e129 wk_30 rfl) ?_
                  exact J_vret hq dX6_advance_143 rfl wlen (Nat.le_refl _) (Nat.le_refl _) ⟨u128, rfl, rfl, (bd_r (ms_e e129) (bd_w (l := 0) (h := 600) (bd_add (l := 1) (h := 600) (bd_lt_hi bm49 (i_nle c99) (bd_lt_lo hp1 c111 bm49)) (bd_c (v := 1) (lo := 1) (hi := 1) (by decide)) (by decide)) (by decide))), (bd_r ((ms_i e129 (by decide)).trans ((ms_i e127 (by decide)).trans (ms_e e110))) (bd_w (l := 0) (h := 600) (bd_lt_hi bm49 (i_nle c99) (bd_lt_lo hp1 c111 bm49)) (by decide))), (fun q => absurd (((ms_i e129 (by decide)).trans (ms_e e127)).symm.trans q) (by decide)), (fun c k0_ => ((ms_c e129 k0_).trans ((ms_c e127 k0_).trans ((ms_c e110 k0_).trans (fr47 c k0_))))), (fun j k2_ k3_ k4_ k5_ => ((ms_i e129 k2_).trans ((ms_i e127 k3_).trans ((ms_i e110 k4_).trans (fc48 j k2_)))))⟩
              · refine J_aload_n (i := 0) (j := 0) dX6_advance_103 rfl rfl ?_
                refine J_callV (As := []) (rest := []) dX6_advance_104 (c_Tk_takeNumber (d := 1) (u := u109) (g := g) (ex := ex)   (by decide) (((ms_i e110 (by decide)).trans (fc48 0 (by decide))).trans hp0) (bd_r ((ms_i e110 (by decide)).trans (fc48 1 (by decide))) (bd_w (l := 0) (h := 600) (bd_lt_lo hp1 (i_nle c99) (bd_lt_hi bm49 c111 hp1)) (by decide))) (bd_r (ms_i e110 (by decide)) (bd_w (l := 0) (h := 600) (bd_lt_hi bm49 (i_nle c99) (bd_lt_lo hp1 c111 bm49)) (by decide))) (bd_r (ms_e e110) (bd_w (l := 0) (h := 600) (bd_lt_hi bm49 (i_nle c99) (bd_lt_lo hp1 c111 bm49)) (by decide))) ((ms_i e110 (by decide)).trans (ms_e e110).symm)) hq.n k517 k519 k2 wc_30 rfl rfl k92 k520 np_X6_takeNumber (Nat.le_trans (by decide) hd) (by decide) (Nat.le_refl _) (Nat.le_refl _) wlen rfl (Nat.le_of_ble_eq_true rfl) (fun r_ h_ p130 => ?_)
                obtain ⟨u131, rfl, rfl, h132, h133, fr134, fc135⟩ := p130
                refine J_goto (tgt := 143) dX6_advance_107 (by decide) ?_
                exact J_vret hq dX6_advance_143 rfl wlen (Nat.le_refl _) (Nat.le_refl _) ⟨u131, rfl, rfl, h132, (bd_r ((fc135 4 (by decide) (by decide) (by decide)).trans (ms_e e110)) (bd_w (l := 0) (h := 600) (bd_lt_hi bm49 (i_nle c99) (bd_lt_lo hp1 c111 bm49)) (by decide))), h133, (fun c k0_ => ((fr134 c k0_).trans ((ms_c e110 k0_).trans (fr47 c k0_)))), (fun j k2_ k3_ k4_ k5_ => ((fc135 j k2_ k3_ k5_).trans ((ms_i e110 k4_).trans (fc48 j k2_))))⟩
            · refine J_aload_n (i := 0) (j := 0) dX6_advance_81 rfl rfl ?_
              refine J_callV (As := []) (rest := []) dX6_advance_82 (c_Tk_takeWord (d := 1) (u := u109) (g := g) (ex := ex)   (by decide) (((ms_i e110 (by decide)).trans (fc48 0 (by decide))).trans hp0) (bd_r ((ms_i e110 (by decide)).trans (fc48 1 (by decide))) (bd_w (l := 0) (h := 600) (bd_lt_lo hp1 (i_nle c99) (bd_lt_hi bm49 c111 hp1)) (by decide))) (bd_r (ms_i e110 (by decide)) (bd_w (l := 0) (h := 600) (bd_lt_hi bm49 (i_nle c99) (bd_lt_lo hp1 c111 bm49)) (by decide)))) hq.n k510 k512 k1 wc_30 rfl rfl k92 k513 np_X6_takeWord (Nat.le_trans (by decide) hd) (by decide) (Nat.le_refl _) (Nat.le_refl _) wlen rfl (Nat.le_of_ble_eq_true rfl) (fun r_ h_ p136 => ?_)
              obtain ⟨u137, rfl, rfl, h138, h139, fr140, fc141⟩ := p136
              refine J_goto (tgt := 143) dX6_advance_85 (by decide) ?_
              exact J_vret hq dX6_advance_143 rfl wlen (Nat.le_refl _) (Nat.le_refl _) ⟨u137, rfl, rfl, h138, (bd_r ((fc141 4 (by decide) (by decide)).trans (ms_e e110)) (bd_w (l := 0) (h := 600) (bd_lt_hi bm49 (i_nle c99) (bd_lt_lo hp1 c111 bm49)) (by decide))), (fun q => absurd (h139.symm.trans q) (by decide)), (fun c k0_ => ((fr140 c k0_).trans ((ms_c e110 k0_).trans (fr47 c k0_)))), (fun j k2_ k3_ k4_ k5_ => ((fc141 j k2_ k3_).trans ((ms_i e110 k4_).trans (fc48 j k2_))))⟩
          · exact (lt_le_no (i_nle c99) (i_nlt c111)).elim
        · refine J_aload_n (i := 0) (j := 0) dX6_advance_26 rfl rfl ?_
          refine J_dup dX6_advance_27 rfl ?_
          refine J_get (C := RX6) (T := TX6) (Z := 6) (ci := 6) (f := 2) dX6_advance_28 inG6 rfl (by decide) k235 wc_30 rfl ?_
          refine J_iconst (v := 1) dX6_advance_31 (by decide) ?_
          refine J_iadd dX6_advance_32 ?_
          obtain ⟨u142, e143⟩ : ∃ z, z = ms u46 30 2 ((u46 30 2) + 1) := ⟨_, rfl⟩
          refine J_put (C := RX6) (T := TX6) (Z := 6) (ci := 6) (f := 2) (ty0 := tyX6) dX6_advance_33 inG6 rfl tyX6_ok nmX6 (by decide) k235 rfl rfl wc_30 (Nat.le_of_ble_eq_true rfl) (fun _ _ => ⟨rfl, rfl⟩) (ws e143 wk_30 rfl) ?_
          refine J_goto (tgt := 0) dX6_advance_36 (by decide) ?_
          refine J_lv [0] rfl ?_
          exact ih97 u142 (fun c k0_ => ((ms_c e143 k0_).trans (fr47 c k0_))) (fun j k2_ => ((ms_i e143 k2_).trans (fc48 j k2_))) (bd_r (ms_e e143) (bd_w (l := 0) (h := 600) (bd_add (l := 1) (h := 600) (bd_lt_hi bm49 (i_nle c99) hp1) (bd_c (v := 1) (lo := 1) (hi := 1) (by decide)) (by decide)) (by decide))) (mu_up 1 bm49 (ms_e e143) (by decide) (bd_w (l := 1) (h := 600) (bd_r (ms_e e143) (bd_add (l := 1) (h := 600) (bd_lt_hi bm49 (i_nle c99) hp1) (bd_c (v := 1) (lo := 1) (hi := 1) (by decide)) (by decide))) (by decide)) hm98)
  refine J_lv [0] rfl ?_
  exact lp95 _ u (fun c k0_ => rfl) (fun j k2_ => rfl) hp2 (Nat.lt_succ_self _)
set_option maxHeartbeats 4000000 in
set_option maxRecDepth 100000 in
theorem c_St_coder {d : Nat} {u : Nat → Nat → Int32} {g : Nat → Nat → Int64} {ex : List MC} {i : Nat} (hd : 0 ≤ d) (hi_i : i < 18) : CT con0 d 0 0 yJ0_coder_7d493 cJ0_coder_7d493 1 (some .byte) [.retAddr (10 + i)] (Wd u g ex) (fun r h2 => r = some (.int ((0 : Int32))) ∧ h2 = Wd u g ex) := by
  refine CT_of (by decide) (Nat.le_of_ble_eq_true rfl) (fun x hq => ?_)
  show J x yJ0_coder_7d493 cJ0_coder_7d493 1 (some .byte) d 0 0 (Wd u g ex).length 0 [(0, .retAddr (10 + i))] [] (Wd u g ex) 0 0
  refine J_getsC dJ0_coder_7d493_0 k561 ?_
  refine J_if_eq (tgt := 13) dJ0_coder_7d493_3 (by decide) (fun q => absurd q (by decide)) (fun _ => ?_)
  refine J_aload_nC (i := 0) (j := 0) dJ0_coder_7d493_6 rfl rfl ?_
  refine J_scod (i := i) dJ0_coder_7d493_7 hi_i k1814 ?_
  refine J_goto (tgt := 14) dJ0_coder_7d493_10 (by decide) ?_
  exact J_bret hq dJ0_coder_7d493_14 rfl rfl wlen (Nat.le_refl _) (Nat.le_refl _) ⟨(congrArg (fun z => some (Value.int z)) rfl), rfl⟩
set_option maxHeartbeats 4000000 in
set_option maxRecDepth 100000 in
theorem c_St_isLatin1 {d : Nat} {u : Nat → Nat → Int32} {g : Nat → Nat → Int64} {ex : List MC} {i : Nat} (hd : 0 ≤ d) (hi_i : i < 18) : CT con0 d 0 0 yJ0_isLatin1_aae02 cJ0_isLatin1_aae02 1 (some .boolean) [.retAddr (10 + i)] (Wd u g ex) (fun r h2 => r = some (.int ((1 : Int32))) ∧ h2 = Wd u g ex) := by
  refine CT_of (by decide) (Nat.le_of_ble_eq_true rfl) (fun x hq => ?_)
  show J x yJ0_isLatin1_aae02 cJ0_isLatin1_aae02 1 (some .boolean) d 0 0 (Wd u g ex).length 0 [(0, .retAddr (10 + i))] [] (Wd u g ex) 0 0
  refine J_getsC dJ0_isLatin1_aae02_0 k561 ?_
  refine J_if_eq (tgt := 17) dJ0_isLatin1_aae02_3 (by decide) (fun q => absurd q (by decide)) (fun _ => ?_)
  refine J_aload_nC (i := 0) (j := 0) dJ0_isLatin1_aae02_6 rfl rfl ?_
  refine J_scod (i := i) dJ0_isLatin1_aae02_7 hi_i k1814 ?_
  refine J_if_ne (tgt := 17) dJ0_isLatin1_aae02_10 (by decide) (fun q => absurd (by decide) q) (fun _ => ?_)
  refine J_iconst (v := 1) dJ0_isLatin1_aae02_13 (by decide) ?_
  refine J_goto (tgt := 18) dJ0_isLatin1_aae02_14 (by decide) ?_
  exact J_zret hq dJ0_isLatin1_aae02_18 rfl rfl wlen (Nat.le_refl _) (Nat.le_refl _) ⟨(congrArg (fun z => some (Value.int z)) rfl), rfl⟩
set_option maxHeartbeats 4000000 in
set_option maxRecDepth 100000 in
theorem c_St_length {d : Nat} {u : Nat → Nat → Int32} {g : Nat → Nat → Int64} {ex : List MC} {i : Nat} (hd : 1 ≤ d) (hi_i : i < 18) : CT con0 d 0 0 yJ0_length_8abf5 cJ0_length_8abf5 1 (some .int) [.retAddr (10 + i)] (Wd u g ex) (fun r h2 => r = some (.int (Int32.ofNat (sLn.getD i 0))) ∧ h2 = Wd u g ex) := by
  refine CT_of (by decide) (Nat.le_of_ble_eq_true rfl) (fun x hq => ?_)
  show J x yJ0_length_8abf5 cJ0_length_8abf5 1 (some .int) d 0 0 (Wd u g ex).length 0 [(0, .retAddr (10 + i))] [] (Wd u g ex) 0 0
  refine J_aload_nC (i := 0) (j := 0) dJ0_length_8abf5_0 rfl rfl ?_
  refine J_sval (i := i) dJ0_length_8abf5_1 hi_i k1813 ?_
  refine J_sbln (i := i) dJ0_length_8abf5_4 hi_i ?_
  refine J_aload_nC (i := 0) (j := 0) dJ0_length_8abf5_5 rfl rfl ?_
  refine J_callVC (i := i) (As := []) (rest := [.int (Int32.ofNat (sLn.getD i 0))]) dJ0_length_8abf5_6 (c_St_coder (d := 0) (u := u) (g := g) (ex := ex)  (i := i)  (by decide) hi_i) hq.n k557 k558 k559 hi_i rfl k100 k560 np_J0_coder_7d493 (Nat.le_trans (by decide) hd) (by decide) (Nat.le_refl _) (Nat.le_refl _) wlen rfl (Nat.le_of_ble_eq_true rfl) (fun r_ h_ p1 => ?_)
  obtain ⟨rfl, rfl⟩ := p1
  refine J_ishr dJ0_length_8abf5_9 ?_
  exact J_iret hq dJ0_length_8abf5_10 rfl wlen (Nat.le_refl _) (Nat.le_refl _) ⟨(congrArg (fun z => some (Value.int z)) (slen_sh i hi_i)), rfl⟩
set_option maxHeartbeats 4000000 in
set_option maxRecDepth 100000 in
theorem c_Pr_checkIndexn {d : Nat} {u : Nat → Nat → Int32} {g : Nat → Nat → Int64} {ex : List MC} {index : Int32} {length : Int32} (hd : 0 ≤ d) (hp0 : (0 ≤ index)) (hp1 : (index < length)) : CT con0 d 0 0 yJ3_checkIndex_8e157 cJ3_checkIndex_8e157 3 (some .int) [.int index, .int length, .null] (Wd u g ex) (fun r h2 => ∃ (z : Int32), r = some (.int z) ∧ h2 = Wd u g ex) := by
  refine CT_of (by decide) (Nat.le_of_ble_eq_true rfl) (fun x hq => ?_)
  show J x yJ3_checkIndex_8e157 cJ3_checkIndex_8e157 3 (some .int) d 0 0 (Wd u g ex).length 0 [(0, .int index), (1, .int length), (2, .null)] [] (Wd u g ex) 0 0
  refine J_iload_n (i := 0) (j := 0) dJ3_checkIndex_8e157_0 rfl rfl ?_
  refine J_if_lt (tgt := 9) dJ3_checkIndex_8e157_1 (by decide) (fun c1 => ?_) (fun c1 => ?_)
  · exact (bd_no (bd_lt_hi (bd_lt_hi (bd_le_lo (bd_any index) hp0 (bd_c (v := 0) (lo := 0) (hi := 0) (by decide))) hp1 (bd_any length)) c1 (bd_c (v := 0) (lo := 0) (hi := 0) (by decide))) (by decide)).elim
  · refine J_iload_n (i := 0) (j := 0) dJ3_checkIndex_8e157_4 rfl rfl ?_
    refine J_iload_n (i := 1) (j := 1) dJ3_checkIndex_8e157_5 rfl rfl ?_
    refine J_icmp_lt (tgt := 16) dJ3_checkIndex_8e157_6 (by decide) (fun c2 => ?_) (fun c2 => ?_)
    · refine J_iload_n (i := 0) (j := 0) dJ3_checkIndex_8e157_16 rfl rfl ?_
      exact J_iret hq dJ3_checkIndex_8e157_17 rfl wlen (Nat.le_refl _) (Nat.le_refl _) ⟨index, rfl, rfl⟩
    · exact (lt_le_no hp1 (i_nlt c2)).elim
set_option maxHeartbeats 4000000 in
set_option maxRecDepth 100000 in
theorem c_Pr_checkIndexq {d : Nat} {u : Nat → Nat → Int32} {g : Nat → Nat → Int64} {ex : List MC} {index : Int32} {length : Int32} (hd : 0 ≤ d) (hp0 : (0 ≤ index)) (hp1 : (index < length)) : CT con0 d 0 0 yJ3_checkIndex_8e157 cJ3_checkIndex_8e157 3 (some .int) [.int index, .int length, .retAddr 60] (Wd u g ex) (fun r h2 => ∃ (z : Int32), r = some (.int z) ∧ h2 = Wd u g ex) := by
  refine CT_of (by decide) (Nat.le_of_ble_eq_true rfl) (fun x hq => ?_)
  show J x yJ3_checkIndex_8e157 cJ3_checkIndex_8e157 3 (some .int) d 0 0 (Wd u g ex).length 0 [(0, .int index), (1, .int length), (2, .retAddr 60)] [] (Wd u g ex) 0 0
  refine J_iload_n (i := 0) (j := 0) dJ3_checkIndex_8e157_0 rfl rfl ?_
  refine J_if_lt (tgt := 9) dJ3_checkIndex_8e157_1 (by decide) (fun c1 => ?_) (fun c1 => ?_)
  · exact (bd_no (bd_lt_hi (bd_lt_hi (bd_le_lo (bd_any index) hp0 (bd_c (v := 0) (lo := 0) (hi := 0) (by decide))) hp1 (bd_any length)) c1 (bd_c (v := 0) (lo := 0) (hi := 0) (by decide))) (by decide)).elim
  · refine J_iload_n (i := 0) (j := 0) dJ3_checkIndex_8e157_4 rfl rfl ?_
    refine J_iload_n (i := 1) (j := 1) dJ3_checkIndex_8e157_5 rfl rfl ?_
    refine J_icmp_lt (tgt := 16) dJ3_checkIndex_8e157_6 (by decide) (fun c2 => ?_) (fun c2 => ?_)
    · refine J_iload_n (i := 0) (j := 0) dJ3_checkIndex_8e157_16 rfl rfl ?_
      exact J_iret hq dJ3_checkIndex_8e157_17 rfl wlen (Nat.le_refl _) (Nat.le_refl _) ⟨index, rfl, rfl⟩
    · exact (lt_le_no hp1 (i_nlt c2)).elim
set_option maxHeartbeats 4000000 in
set_option maxRecDepth 100000 in
theorem c_St_checkIndex {d : Nat} {u : Nat → Nat → Int32} {g : Nat → Nat → Int64} {ex : List MC} {index : Int32} {length : Int32} (hd : 1 ≤ d) (hp0 : (0 ≤ index)) (hp1 : (index < length)) : CT con0 d 0 0 yJ0_checkIndex_df160 cJ0_checkIndex_df160 2 none [.int index, .int length] (Wd u g ex) (fun r h2 => r = none ∧ h2 = Wd u g ex) := by
  refine CT_of (by decide) (Nat.le_of_ble_eq_true rfl) (fun x hq => ?_)
  show J x yJ0_checkIndex_df160 cJ0_checkIndex_df160 2 none d 0 0 (Wd u g ex).length 0 [(0, .int index), (1, .int length)] [] (Wd u g ex) 0 0
  refine J_iload_n (i := 0) (j := 0) dJ0_checkIndex_df160_0 rfl rfl ?_
  refine J_iload_n (i := 1) (j := 1) dJ0_checkIndex_df160_1 rfl rfl ?_
  refine J_getsQ dJ0_checkIndex_df160_2 k577 ?_ ?_
  · refine J_callS (As := [.int index, .int length, .null]) (rest := []) dJ0_checkIndex_df160_5 (c_Pr_checkIndexn (d := 0) (u := u) (g := g) (ex := ex) (index := index) (length := length)  (by decide) hp0 hp1) hq.n k579 k580 k102 k581 np_J3_checkIndex_8e157 (Nat.le_trans (by decide) hd) (by decide) (Nat.le_refl _) (Nat.le_refl _) wlen rfl (Nat.le_of_ble_eq_true rfl) (fun r_ h_ p1 => ?_)
    obtain ⟨v2, rfl, rfl⟩ := p1
    refine J_pop dJ0_checkIndex_df160_8 rfl ?_
    exact J_vret hq dJ0_checkIndex_df160_9 rfl wlen (Nat.le_refl _) (Nat.le_refl _) ⟨rfl, rfl⟩
  · refine J_callS (As := [.int index, .int length, .retAddr 60]) (rest := []) dJ0_checkIndex_df160_5 (c_Pr_checkIndexq (d := 0) (u := u) (g := g) (ex := ex) (index := index) (length := length)  (by decide) hp0 hp1) hq.n k579 k580 k102 k581 np_J3_checkIndex_8e157 (Nat.le_trans (by decide) hd) (by decide) (Nat.le_refl _) (Nat.le_refl _) wlen rfl (Nat.le_of_ble_eq_true rfl) (fun r_ h_ p3 => ?_)
    obtain ⟨v4, rfl, rfl⟩ := p3
    refine J_pop dJ0_checkIndex_df160_8 rfl ?_
    exact J_vret hq dJ0_checkIndex_df160_9 rfl wlen (Nat.le_refl _) (Nat.le_refl _) ⟨rfl, rfl⟩
set_option maxHeartbeats 4000000 in
set_option maxRecDepth 100000 in
theorem c_St_charAtL {d : Nat} {u : Nat → Nat → Int32} {g : Nat → Nat → Int64} {ex : List MC} {i : Nat} {k : Int32} (hd : 2 ≤ d) (hi_i : i < 18) (hp0 : (vp_in k (sLn.getD i 0))) : CT con0 d 0 0 yJ1_charAt_3b067 cJ1_charAt_3b067 2 (some .char) [.retAddr (40 + i), .int k] (Wd u g ex) (fun r h2 => ∃ (z : Int32), r = some (.int z) ∧ h2 = Wd u g ex ∧ (narrow .char (.int z) = .int z)) := by
  refine CT_of (by decide) (Nat.le_of_ble_eq_true rfl) (fun x hq => ?_)
  show J x yJ1_charAt_3b067 cJ1_charAt_3b067 2 (some .char) d 0 0 (Wd u g ex).length 0 [(0, .retAddr (40 + i)), (1, .int k)] [] (Wd u g ex) 0 0
  refine J_iload_n (i := 1) (j := 1) dJ1_charAt_3b067_0 rfl rfl ?_
  refine J_aload_nC (i := 0) (j := 0) dJ1_charAt_3b067_1 rfl rfl ?_
  refine J_sbln (i := i) dJ1_charAt_3b067_2 hi_i ?_
  refine J_callS (As := [.int k, .int (Int32.ofNat (sLn.getD i 0))]) (rest := []) dJ1_charAt_3b067_3 (c_St_checkIndex (d := 1) (u := u) (g := g) (ex := ex) (index := k) (length := (Int32.ofNat (sLn.getD i 0)))  (by decide) (vin_sl hp0).1 (vin_sl hp0).2) hq.n k574 k575 k100 k576 np_J0_checkIndex_df160 (Nat.le_trans (by decide) hd) (by decide) (Nat.le_refl _) (Nat.le_refl _) wlen rfl (Nat.le_of_ble_eq_true rfl) (fun r_ h_ p1 => ?_)
  obtain ⟨rfl, rfl⟩ := p1
  refine J_aload_nC (i := 0) (j := 0) dJ1_charAt_3b067_6 rfl rfl ?_
  refine J_iload_n (i := 1) (j := 1) dJ1_charAt_3b067_7 rfl rfl ?_
  refine J_sbld (i := i) dJ1_charAt_3b067_8 hi_i hp0 ?_
  refine J_topi (fun v2 _ => ?_)
  refine J_sipush (v := 255) dJ1_charAt_3b067_9 (by decide) ?_
  refine J_iand dJ1_charAt_3b067_12 ?_
  obtain ⟨v3, qv3⟩ : ∃ z : Int32, z = ((v2 &&& 255).toUInt32 % 65536).toInt32 := ⟨_, rfl⟩
  refine J_i2c dJ1_charAt_3b067_13 qv3.symm ?_
  exact J_cret hq dJ1_charAt_3b067_14 rfl (nar_c qv3) wlen (Nat.le_refl _) (Nat.le_refl _) ⟨v3, rfl, rfl, (nar_c qv3)⟩
set_option maxHeartbeats 4000000 in
set_option maxRecDepth 100000 in
theorem c_St_charAt {d : Nat} {u : Nat → Nat → Int32} {g : Nat → Nat → Int64} {ex : List MC} {i : Nat} {k : Int32} (hd : 3 ≤ d) (hi_i : i < 18) (hp0 : (vp_in k (sLn.getD i 0))) : CT con0 d 0 0 yJ0_charAt_5068e cJ0_charAt_5068e 2 (some .char) [.retAddr (10 + i), .int k] (Wd u g ex) (fun r h2 => ∃ (z : Int32), r = some (.int z) ∧ h2 = Wd u g ex) := by
  refine CT_of (by decide) (Nat.le_of_ble_eq_true rfl) (fun x hq => ?_)
  show J x yJ0_charAt_5068e cJ0_charAt_5068e 2 (some .char) d 0 0 (Wd u g ex).length 0 [(0, .retAddr (10 + i)), (1, .int k)] [] (Wd u g ex) 0 0
  refine J_aload_nC (i := 0) (j := 0) dJ0_charAt_5068e_0 rfl rfl ?_
  refine J_callVC (i := i) (As := []) (rest := []) dJ0_charAt_5068e_1 (c_St_isLatin1 (d := 0) (u := u) (g := g) (ex := ex)  (i := i)  (by decide) hi_i) hq.n k567 k568 k569 hi_i rfl k100 k570 np_J0_isLatin1_aae02 (Nat.le_trans (by decide) hd) (by decide) (Nat.le_refl _) (Nat.le_refl _) wlen rfl (Nat.le_of_ble_eq_true rfl) (fun r_ h_ p1 => ?_)
  obtain ⟨rfl, rfl⟩ := p1
  refine J_if_eq (tgt := 16) dJ0_charAt_5068e_4 (by decide) (fun q => absurd q (by decide)) (fun _ => ?_)
  refine J_aload_nC (i := 0) (j := 0) dJ0_charAt_5068e_7 rfl rfl ?_
  refine J_sval (i := i) dJ0_charAt_5068e_8 hi_i k1813 ?_
  refine J_iload_n (i := 1) (j := 1) dJ0_charAt_5068e_11 rfl rfl ?_
  refine J_callS (As := [.retAddr (40 + i), .int k]) (rest := []) dJ0_charAt_5068e_12 (c_St_charAtL (d := 2) (u := u) (g := g) (ex := ex) (k := k) (i := i)  (by decide) hi_i (sl_vin (bd_lt_hi (bd_le_lo (bd_any k) (vin_sl hp0).1 (bd_c (v := 0) (lo := 0) (hi := 0) (by decide))) (vin_sl hp0).2 (sln_b i)) (by decide) (vin_sl hp0).2)) hq.n k571 k572 k101 k573 np_J1_charAt_3b067 (Nat.le_trans (by decide) hd) (by decide) (Nat.le_refl _) (Nat.le_refl _) wlen rfl (Nat.le_of_ble_eq_true rfl) (fun r_ h_ p2 => ?_)
  obtain ⟨v3, rfl, rfl, h4⟩ := p2
  exact J_cret hq dJ0_charAt_5068e_15 rfl h4 wlen (Nat.le_refl _) (Nat.le_refl _) ⟨v3, rfl, rfl⟩
