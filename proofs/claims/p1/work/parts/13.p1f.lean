/-! text, on a fresh object -/
def TV (s a : Int32) : Int32 := if (s = 0 ∨ s = 1) ∧ a = -1 then 0 else -2
theorem tv0 {s a : Int32} (h0 : ¬ s = 0) (h1 : ¬ s = 1) : TV s a = -2 := by simp [TV, h0, h1]
theorem tv1 {s a : Int32} (h : ¬ a = -1) : TV s a = -2 := by simp [TV, h]
theorem k470 : Cond.methodLink RX10 85 yX7_numberFor ∈ gt := gt_in 470 (by decide +kernel) (by decide +kernel)
theorem k471 : Cond.instanceMethod yX7_numberFor ∈ gt := gt_in 471 (by decide +kernel) (by decide +kernel)
theorem k472 : Cond.selects RX7 yX7_numberFor yX7_numberFor ∈ gt := gt_in 472 (by decide +kernel) (by decide +kernel)
theorem k473 : Cond.code yX7_numberFor cX7_numberFor 5 (some .int) ∈ gt := gt_in 473 (by decide +kernel) (by decide +kernel)
theorem np_X7_numberFor : yX7_numberFor.cls ≠ "java/lang/invoke/MethodHandle" ∧ yX7_numberFor.cls ≠ "java/lang/invoke/VarHandle" ∧ (parseMethodDescriptor yX7_numberFor.desc).map (fun d => d.parameters.length) = some 2 := by decide +kernel
theorem k187 : Cond.fieldLinkNest RX10 89 "PondStair$Told" "tape" "[B" "PondStair" ∈ nt := nt_in 187 (by decide +kernel) (by decide +kernel)
theorem k482 : Cond.methodLink RX1 31 yJ7_fill_53178 ∈ gt := gt_in 482 (by decide +kernel) (by decide +kernel)
theorem k483 : Cond.static yJ7_fill_53178 ∈ gt := gt_in 483 (by decide +kernel) (by decide +kernel)
theorem k98 : Cond.initialized RJ7 ∈ gt := gt_in 98 (by decide +kernel) (by decide +kernel)
theorem k484 : Cond.code yJ7_fill_53178 cJ7_fill_53178 4 none ∈ gt := gt_in 484 (by decide +kernel) (by decide +kernel)
theorem np_J7_fill_53178 : yJ7_fill_53178.cls ≠ "java/lang/invoke/MethodHandle" ∧ yJ7_fill_53178.cls ≠ "java/lang/invoke/VarHandle" ∧ (parseMethodDescriptor yJ7_fill_53178.desc).map (fun d => d.parameters.length) = some 2 := by decide +kernel
theorem k478 : Cond.methodLink RX3 46 yX1_clear ∈ gt := gt_in 478 (by decide +kernel) (by decide +kernel)
theorem k479 : Cond.instanceMethod yX1_clear ∈ gt := gt_in 479 (by decide +kernel) (by decide +kernel)
theorem k480 : Cond.selects RX1 yX1_clear yX1_clear ∈ gt := gt_in 480 (by decide +kernel) (by decide +kernel)
theorem k481 : Cond.code yX1_clear cX1_clear 1 none ∈ gt := gt_in 481 (by decide +kernel) (by decide +kernel)
theorem np_X1_clear : yX1_clear.cls ≠ "java/lang/invoke/MethodHandle" ∧ yX1_clear.cls ≠ "java/lang/invoke/VarHandle" ∧ (parseMethodDescriptor yX1_clear.desc).map (fun d => d.parameters.length) = some 0 := by decide +kernel
theorem k485 : Cond.methodLink RX3 49 yX8_clear ∈ gt := gt_in 485 (by decide +kernel) (by decide +kernel)
theorem k486 : Cond.instanceMethod yX8_clear ∈ gt := gt_in 486 (by decide +kernel) (by decide +kernel)
theorem k487 : Cond.selects RX8 yX8_clear yX8_clear ∈ gt := gt_in 487 (by decide +kernel) (by decide +kernel)
theorem k488 : Cond.code yX8_clear cX8_clear 1 none ∈ gt := gt_in 488 (by decide +kernel) (by decide +kernel)
theorem np_X8_clear : yX8_clear.cls ≠ "java/lang/invoke/MethodHandle" ∧ yX8_clear.cls ≠ "java/lang/invoke/VarHandle" ∧ (parseMethodDescriptor yX8_clear.desc).map (fun d => d.parameters.length) = some 0 := by decide +kernel
theorem k493 : Cond.methodLink RX6 29 Lib.Math.min.name ∈ gt := gt_in 493 (by decide +kernel) (by decide +kernel)
theorem k494 : Cond.static Lib.Math.min.name ∈ gt := gt_in 494 (by decide +kernel) (by decide +kernel)
theorem k99 : Cond.initialized RJ9 ∈ gt := gt_in 99 (by decide +kernel) (by decide +kernel)
theorem k495 : Cond.code Lib.Math.min.name Lib.Math.min.code 2 (some .int) ∈ gt := gt_in 495 (by decide +kernel) (by decide +kernel)
theorem k489 : Cond.methodLink RX3 50 yX6_begin ∈ gt := gt_in 489 (by decide +kernel) (by decide +kernel)
theorem k490 : Cond.instanceMethod yX6_begin ∈ gt := gt_in 490 (by decide +kernel) (by decide +kernel)
theorem k491 : Cond.selects RX6 yX6_begin yX6_begin ∈ gt := gt_in 491 (by decide +kernel) (by decide +kernel)
theorem k492 : Cond.code yX6_begin cX6_begin 3 none ∈ gt := gt_in 492 (by decide +kernel) (by decide +kernel)
theorem np_X6_begin : yX6_begin.cls ≠ "java/lang/invoke/MethodHandle" ∧ yX6_begin.cls ≠ "java/lang/invoke/VarHandle" ∧ (parseMethodDescriptor yX6_begin.desc).map (fun d => d.parameters.length) = some 2 := by decide +kernel
theorem k500 : Cond.methodLink RX3 79 yX6_advance ∈ gt := gt_in 500 (by decide +kernel) (by decide +kernel)
theorem k501 : Cond.instanceMethod yX6_advance ∈ gt := gt_in 501 (by decide +kernel) (by decide +kernel)
theorem k502 : Cond.selects RX6 yX6_advance yX6_advance ∈ gt := gt_in 502 (by decide +kernel) (by decide +kernel)
theorem k503 : Cond.code yX6_advance cX6_advance 1 none ∈ gt := gt_in 503 (by decide +kernel) (by decide +kernel)
theorem np_X6_advance : yX6_advance.cls ≠ "java/lang/invoke/MethodHandle" ∧ yX6_advance.cls ≠ "java/lang/invoke/VarHandle" ∧ (parseMethodDescriptor yX6_advance.desc).map (fun d => d.parameters.length) = some 0 := by decide +kernel
theorem k237 : Cond.fieldLinkNest RX3 82 "PondStair$Tokens" "kind" "I" "PondStair" ∈ nt := nt_in 237 (by decide +kernel) (by decide +kernel)
theorem k496 : Cond.methodLink RX3 54 yX3_readLine ∈ gt := gt_in 496 (by decide +kernel) (by decide +kernel)
theorem k498 : Cond.instanceMethod yX3_readLine ∈ gt := gt_in 498 (by decide +kernel) (by decide +kernel)
theorem k0 : Cond.selects RX3 yX3_readLine yX3_readLine ∈ gt := gt_in 0 (by decide +kernel) (by decide +kernel)
theorem k499 : Cond.code yX3_readLine cX3_readLine 6 (some .boolean) ∈ gt := gt_in 499 (by decide +kernel) (by decide +kernel)
theorem np_X3_readLine : yX3_readLine.cls ≠ "java/lang/invoke/MethodHandle" ∧ yX3_readLine.cls ≠ "java/lang/invoke/VarHandle" ∧ (parseMethodDescriptor yX3_readLine.desc).map (fun d => d.parameters.length) = some 1 := by decide +kernel
theorem k140 : Cond.fieldLinkNest RX3 61 "PondStair$Hill" "rains" "I" "PondStair" ∈ nt := nt_in 140 (by decide +kernel) (by decide +kernel)
theorem k653 : Cond.methodLink RX3 64 yX1_addRain ∈ gt := gt_in 653 (by decide +kernel) (by decide +kernel)
theorem k654 : Cond.instanceMethod yX1_addRain ∈ gt := gt_in 654 (by decide +kernel) (by decide +kernel)
theorem k655 : Cond.selects RX1 yX1_addRain yX1_addRain ∈ gt := gt_in 655 (by decide +kernel) (by decide +kernel)
theorem k656 : Cond.code yX1_addRain cX1_addRain 3 (some .boolean) ∈ gt := gt_in 656 (by decide +kernel) (by decide +kernel)
theorem np_X1_addRain : yX1_addRain.cls ≠ "java/lang/invoke/MethodHandle" ∧ yX1_addRain.cls ≠ "java/lang/invoke/VarHandle" ∧ (parseMethodDescriptor yX1_addRain.desc).map (fun d => d.parameters.length) = some 2 := by decide +kernel
theorem k664 : Cond.methodLink RX3 58 yX3_closeRains ∈ gt := gt_in 664 (by decide +kernel) (by decide +kernel)
theorem k666 : Cond.instanceMethod yX3_closeRains ∈ gt := gt_in 666 (by decide +kernel) (by decide +kernel)
theorem k11 : Cond.selects RX3 yX3_closeRains yX3_closeRains ∈ gt := gt_in 11 (by decide +kernel) (by decide +kernel)
theorem k667 : Cond.code yX3_closeRains cX3_closeRains 1 none ∈ gt := gt_in 667 (by decide +kernel) (by decide +kernel)
theorem np_X3_closeRains : yX3_closeRains.cls ≠ "java/lang/invoke/MethodHandle" ∧ yX3_closeRains.cls ≠ "java/lang/invoke/VarHandle" ∧ (parseMethodDescriptor yX3_closeRains.desc).map (fun d => d.parameters.length) = some 0 := by decide +kernel
theorem k474 : Cond.methodLink RX10 93 yX3_read ∈ gt := gt_in 474 (by decide +kernel) (by decide +kernel)
theorem k475 : Cond.instanceMethod yX3_read ∈ gt := gt_in 475 (by decide +kernel) (by decide +kernel)
theorem k476 : Cond.selects RX3 yX3_read yX3_read ∈ gt := gt_in 476 (by decide +kernel) (by decide +kernel)
theorem k477 : Cond.code yX3_read cX3_read 6 none ∈ gt := gt_in 477 (by decide +kernel) (by decide +kernel)
theorem np_X3_read : yX3_read.cls ≠ "java/lang/invoke/MethodHandle" ∧ yX3_read.cls ≠ "java/lang/invoke/VarHandle" ∧ (parseMethodDescriptor yX3_read.desc).map (fun d => d.parameters.length) = some 3 := by decide +kernel
theorem k268 : Cond.fieldLinkNest RX10 97 "PondStair$Reader" "fault" "I" "PondStair" ∈ nt := nt_in 268 (by decide +kernel) (by decide +kernel)
theorem k270 : Cond.fieldLinkNest RX10 98 "PondStair$Reader" "place" "I" "PondStair" ∈ nt := nt_in 270 (by decide +kernel) (by decide +kernel)
theorem k262 : Cond.fieldLinkNest RX7 45 "PondStair$Reader" "hill" "LPondStair$Hill;" "PondStair" ∈ nt := nt_in 262 (by decide +kernel) (by decide +kernel)
theorem k687 : Cond.methodLink RX7 54 Lib.Math.max.name ∈ gt := gt_in 687 (by decide +kernel) (by decide +kernel)
theorem k688 : Cond.static Lib.Math.max.name ∈ gt := gt_in 688 (by decide +kernel) (by decide +kernel)
theorem k689 : Cond.code Lib.Math.max.name Lib.Math.max.code 2 (some .int) ∈ gt := gt_in 689 (by decide +kernel) (by decide +kernel)
theorem k676 : Cond.methodLink RX10 99 yX7_keep ∈ gt := gt_in 676 (by decide +kernel) (by decide +kernel)
theorem k677 : Cond.instanceMethod yX7_keep ∈ gt := gt_in 677 (by decide +kernel) (by decide +kernel)
theorem k678 : Cond.selects RX7 yX7_keep yX7_keep ∈ gt := gt_in 678 (by decide +kernel) (by decide +kernel)
theorem k679 : Cond.code yX7_keep cX7_keep 4 none ∈ gt := gt_in 679 (by decide +kernel) (by decide +kernel)
theorem np_X7_keep : yX7_keep.cls ≠ "java/lang/invoke/MethodHandle" ∧ yX7_keep.cls ≠ "java/lang/invoke/VarHandle" ∧ (parseMethodDescriptor yX7_keep.desc).map (fun d => d.parameters.length) = some 3 := by decide +kernel
theorem k264 : Cond.fieldLinkNest RX7 60 "PondStair$Reader" "works" "LPondStair$Works;" "PondStair" ∈ nt := nt_in 264 (by decide +kernel) (by decide +kernel)
theorem dJ7_fill_53178_0 : decode cJ7_fill_53178 0 = .ok (.iconst 0, 1) := by decide +kernel
theorem dJ7_fill_53178_1 : decode cJ7_fill_53178 1 = .ok (.istore_n 2, 1) := by decide +kernel
theorem dJ7_fill_53178_2 : decode cJ7_fill_53178 2 = .ok (.aload_n 0, 1) := by decide +kernel
theorem dJ7_fill_53178_3 : decode cJ7_fill_53178 3 = .ok (.arraylength, 1) := by decide +kernel
theorem dJ7_fill_53178_4 : decode cJ7_fill_53178 4 = .ok (.istore_n 3, 1) := by decide +kernel
theorem dJ7_fill_53178_5 : decode cJ7_fill_53178 5 = .ok (.iload_n 2, 1) := by decide +kernel
theorem dJ7_fill_53178_6 : decode cJ7_fill_53178 6 = .ok (.iload_n 3, 1) := by decide +kernel
theorem dJ7_fill_53178_7 : decode cJ7_fill_53178 7 = .ok (.if_icmp .ge 13, 3) := by decide +kernel
theorem dJ7_fill_53178_10 : decode cJ7_fill_53178 10 = .ok (.aload_n 0, 1) := by decide +kernel
theorem dJ7_fill_53178_11 : decode cJ7_fill_53178 11 = .ok (.iload_n 2, 1) := by decide +kernel
theorem dJ7_fill_53178_12 : decode cJ7_fill_53178 12 = .ok (.iload_n 1, 1) := by decide +kernel
theorem dJ7_fill_53178_13 : decode cJ7_fill_53178 13 = .ok (.iastore, 1) := by decide +kernel
theorem dJ7_fill_53178_14 : decode cJ7_fill_53178 14 = .ok (.iinc 2 1, 3) := by decide +kernel
theorem dJ7_fill_53178_17 : decode cJ7_fill_53178 17 = .ok (.goto (-12), 3) := by decide +kernel
theorem dJ7_fill_53178_20 : decode cJ7_fill_53178 20 = .ok (.return_, 1) := by decide +kernel
theorem dX10_text_0 : decode cX10_text 0 = .ok (.aload_n 0, 1) := by decide +kernel
theorem dX10_text_1 : decode cX10_text 1 = .ok (.getfield 10, 3) := by decide +kernel
theorem dX10_text_4 : decode cX10_text 4 = .ok (.getfield 71, 3) := by decide +kernel
theorem dX10_text_7 : decode cX10_text 7 = .ok (.istore_n 3, 1) := by decide +kernel
theorem dX10_text_8 : decode cX10_text 8 = .ok (.aload_n 0, 1) := by decide +kernel
theorem dX10_text_9 : decode cX10_text 9 = .ok (.getfield 10, 3) := by decide +kernel
theorem dX10_text_12 : decode cX10_text 12 = .ok (.iconst 0, 1) := by decide +kernel
theorem dX10_text_13 : decode cX10_text 13 = .ok (.putfield 71, 3) := by decide +kernel
theorem dX10_text_16 : decode cX10_text 16 = .ok (.aload_n 0, 1) := by decide +kernel
theorem dX10_text_17 : decode cX10_text 17 = .ok (.getfield 10, 3) := by decide +kernel
theorem dX10_text_20 : decode cX10_text 20 = .ok (.iconst 0, 1) := by decide +kernel
theorem dX10_text_21 : decode cX10_text 21 = .ok (.putfield 79, 3) := by decide +kernel
theorem dX10_text_24 : decode cX10_text 24 = .ok (.aload_n 0, 1) := by decide +kernel
theorem dX10_text_25 : decode cX10_text 25 = .ok (.getfield 10, 3) := by decide +kernel
theorem dX10_text_28 : decode cX10_text 28 = .ok (.iconst (-1), 1) := by decide +kernel
theorem dX10_text_29 : decode cX10_text 29 = .ok (.putfield 82, 3) := by decide +kernel
theorem dX10_text_32 : decode cX10_text 32 = .ok (.aload_n 0, 1) := by decide +kernel
theorem dX10_text_33 : decode cX10_text 33 = .ok (.getfield 10, 3) := by decide +kernel
theorem dX10_text_36 : decode cX10_text 36 = .ok (.iload_n 1, 1) := by decide +kernel
theorem dX10_text_37 : decode cX10_text 37 = .ok (.iload_n 2, 1) := by decide +kernel
theorem dX10_text_38 : decode cX10_text 38 = .ok (.invokevirtual 85, 3) := by decide +kernel
theorem dX10_text_41 : decode cX10_text 41 = .ok (.istore 4, 2) := by decide +kernel
theorem dX10_text_43 : decode cX10_text 43 = .ok (.iload 4, 2) := by decide +kernel
theorem dX10_text_45 : decode cX10_text 45 = .ok (.iconst (-1), 1) := by decide +kernel
theorem dX10_text_46 : decode cX10_text 46 = .ok (.if_icmp .ne 6, 3) := by decide +kernel
theorem dX10_text_49 : decode cX10_text 49 = .ok (.bipush (-2), 2) := by decide +kernel
theorem dX10_text_51 : decode cX10_text 51 = .ok (.ireturn, 1) := by decide +kernel
theorem dX10_text_52 : decode cX10_text 52 = .ok (.aload_n 0, 1) := by decide +kernel
theorem dX10_text_53 : decode cX10_text 53 = .ok (.getfield 27, 3) := by decide +kernel
theorem dX10_text_56 : decode cX10_text 56 = .ok (.aload_n 0, 1) := by decide +kernel
theorem dX10_text_57 : decode cX10_text 57 = .ok (.getfield 10, 3) := by decide +kernel
theorem dX10_text_60 : decode cX10_text 60 = .ok (.getfield 89, 3) := by decide +kernel
theorem dX10_text_63 : decode cX10_text 63 = .ok (.iload_n 3, 1) := by decide +kernel
theorem dX10_text_64 : decode cX10_text 64 = .ok (.iload_n 1, 1) := by decide +kernel
theorem dX10_text_65 : decode cX10_text 65 = .ok (.invokevirtual 93, 3) := by decide +kernel
theorem dX10_text_68 : decode cX10_text 68 = .ok (.aload_n 0, 1) := by decide +kernel
theorem dX10_text_69 : decode cX10_text 69 = .ok (.getfield 10, 3) := by decide +kernel
theorem dX10_text_72 : decode cX10_text 72 = .ok (.aload_n 0, 1) := by decide +kernel
theorem dX10_text_73 : decode cX10_text 73 = .ok (.getfield 27, 3) := by decide +kernel
theorem dX10_text_76 : decode cX10_text 76 = .ok (.getfield 97, 3) := by decide +kernel
theorem dX10_text_79 : decode cX10_text 79 = .ok (.putfield 79, 3) := by decide +kernel
theorem dX10_text_82 : decode cX10_text 82 = .ok (.aload_n 0, 1) := by decide +kernel
theorem dX10_text_83 : decode cX10_text 83 = .ok (.getfield 10, 3) := by decide +kernel
theorem dX10_text_86 : decode cX10_text 86 = .ok (.aload_n 0, 1) := by decide +kernel
theorem dX10_text_87 : decode cX10_text 87 = .ok (.getfield 27, 3) := by decide +kernel
theorem dX10_text_90 : decode cX10_text 90 = .ok (.getfield 98, 3) := by decide +kernel
theorem dX10_text_93 : decode cX10_text 93 = .ok (.putfield 82, 3) := by decide +kernel
theorem dX10_text_96 : decode cX10_text 96 = .ok (.aload_n 0, 1) := by decide +kernel
theorem dX10_text_97 : decode cX10_text 97 = .ok (.getfield 27, 3) := by decide +kernel
theorem dX10_text_100 : decode cX10_text 100 = .ok (.getfield 97, 3) := by decide +kernel
theorem dX10_text_103 : decode cX10_text 103 = .ok (.ifCond .eq 5, 3) := by decide +kernel
theorem dX10_text_108 : decode cX10_text 108 = .ok (.aload_n 0, 1) := by decide +kernel
theorem dX10_text_109 : decode cX10_text 109 = .ok (.getfield 10, 3) := by decide +kernel
theorem dX10_text_112 : decode cX10_text 112 = .ok (.iload_n 1, 1) := by decide +kernel
theorem dX10_text_113 : decode cX10_text 113 = .ok (.iload 4, 2) := by decide +kernel
theorem dX10_text_115 : decode cX10_text 115 = .ok (.aload_n 0, 1) := by decide +kernel
theorem dX10_text_116 : decode cX10_text 116 = .ok (.getfield 27, 3) := by decide +kernel
theorem dX10_text_119 : decode cX10_text 119 = .ok (.invokevirtual 99, 3) := by decide +kernel
theorem dX10_text_122 : decode cX10_text 122 = .ok (.iload 4, 2) := by decide +kernel
theorem dX10_text_124 : decode cX10_text 124 = .ok (.ireturn, 1) := by decide +kernel
theorem dX1_addRain_0 : decode cX1_addRain 0 = .ok (.aload_n 0, 1) := by decide +kernel
theorem dX1_addRain_1 : decode cX1_addRain 1 = .ok (.getfield 19, 3) := by decide +kernel
theorem dX1_addRain_4 : decode cX1_addRain 4 = .ok (.iconst 4, 1) := by decide +kernel
theorem dX1_addRain_5 : decode cX1_addRain 5 = .ok (.if_icmp .lt 5, 3) := by decide +kernel
theorem dX1_addRain_10 : decode cX1_addRain 10 = .ok (.aload_n 0, 1) := by decide +kernel
theorem dX1_addRain_11 : decode cX1_addRain 11 = .ok (.getfield 22, 3) := by decide +kernel
theorem dX1_addRain_14 : decode cX1_addRain 14 = .ok (.aload_n 0, 1) := by decide +kernel
theorem dX1_addRain_15 : decode cX1_addRain 15 = .ok (.getfield 19, 3) := by decide +kernel
theorem dX1_addRain_18 : decode cX1_addRain 18 = .ok (.iload_n 1, 1) := by decide +kernel
theorem dX1_addRain_19 : decode cX1_addRain 19 = .ok (.iastore, 1) := by decide +kernel
theorem dX1_addRain_20 : decode cX1_addRain 20 = .ok (.aload_n 0, 1) := by decide +kernel
theorem dX1_addRain_21 : decode cX1_addRain 21 = .ok (.getfield 25, 3) := by decide +kernel
theorem dX1_addRain_24 : decode cX1_addRain 24 = .ok (.aload_n 0, 1) := by decide +kernel
theorem dX1_addRain_25 : decode cX1_addRain 25 = .ok (.getfield 19, 3) := by decide +kernel
theorem dX1_addRain_28 : decode cX1_addRain 28 = .ok (.iload_n 2, 1) := by decide +kernel
theorem dX1_addRain_29 : decode cX1_addRain 29 = .ok (.iastore, 1) := by decide +kernel
theorem dX1_addRain_30 : decode cX1_addRain 30 = .ok (.aload_n 0, 1) := by decide +kernel
theorem dX1_addRain_31 : decode cX1_addRain 31 = .ok (.dup, 1) := by decide +kernel
theorem dX1_addRain_32 : decode cX1_addRain 32 = .ok (.getfield 19, 3) := by decide +kernel
theorem dX1_addRain_35 : decode cX1_addRain 35 = .ok (.iconst 1, 1) := by decide +kernel
theorem dX1_addRain_36 : decode cX1_addRain 36 = .ok (.iadd, 1) := by decide +kernel
theorem dX1_addRain_37 : decode cX1_addRain 37 = .ok (.putfield 19, 3) := by decide +kernel
theorem dX1_addRain_40 : decode cX1_addRain 40 = .ok (.iconst 1, 1) := by decide +kernel
theorem dX1_addRain_41 : decode cX1_addRain 41 = .ok (.ireturn, 1) := by decide +kernel
theorem dX1_clear_0 : decode cX1_clear 0 = .ok (.aload_n 0, 1) := by decide +kernel
theorem dX1_clear_1 : decode cX1_clear 1 = .ok (.iconst 0, 1) := by decide +kernel
theorem dX1_clear_2 : decode cX1_clear 2 = .ok (.putfield 9, 3) := by decide +kernel
theorem dX1_clear_5 : decode cX1_clear 5 = .ok (.aload_n 0, 1) := by decide +kernel
theorem dX1_clear_6 : decode cX1_clear 6 = .ok (.iconst 0, 1) := by decide +kernel
theorem dX1_clear_7 : decode cX1_clear 7 = .ok (.putfield 19, 3) := by decide +kernel
theorem dX1_clear_10 : decode cX1_clear 10 = .ok (.aload_n 0, 1) := by decide +kernel
theorem dX1_clear_11 : decode cX1_clear 11 = .ok (.getfield 28, 3) := by decide +kernel
theorem dX1_clear_14 : decode cX1_clear 14 = .ok (.iconst 1, 1) := by decide +kernel
theorem dX1_clear_15 : decode cX1_clear 15 = .ok (.invokestatic 31, 3) := by decide +kernel
theorem dX1_clear_18 : decode cX1_clear 18 = .ok (.return_, 1) := by decide +kernel
theorem dX3_closeRains_0 : decode cX3_closeRains 0 = .ok (.aload_n 0, 1) := by decide +kernel
theorem dX3_closeRains_1 : decode cX3_closeRains 1 = .ok (.getfield 21, 3) := by decide +kernel
theorem dX3_closeRains_4 : decode cX3_closeRains 4 = .ok (.getfield 61, 3) := by decide +kernel
theorem dX3_closeRains_7 : decode cX3_closeRains 7 = .ok (.ifCond .ne 17, 3) := by decide +kernel
theorem dX3_closeRains_10 : decode cX3_closeRains 10 = .ok (.aload_n 0, 1) := by decide +kernel
theorem dX3_closeRains_11 : decode cX3_closeRains 11 = .ok (.getfield 21, 3) := by decide +kernel
theorem dX3_closeRains_14 : decode cX3_closeRains 14 = .ok (.iconst 0, 1) := by decide +kernel
theorem dX3_closeRains_15 : decode cX3_closeRains 15 = .ok (.bipush 100, 2) := by decide +kernel
theorem dX3_closeRains_17 : decode cX3_closeRains 17 = .ok (.invokevirtual 64, 3) := by decide +kernel
theorem dX3_closeRains_20 : decode cX3_closeRains 20 = .ok (.pop, 1) := by decide +kernel
theorem dX3_closeRains_21 : decode cX3_closeRains 21 = .ok (.goto 27, 3) := by decide +kernel
theorem dX3_closeRains_48 : decode cX3_closeRains 48 = .ok (.return_, 1) := by decide +kernel
theorem dX3_read_0 : decode cX3_read 0 = .ok (.aload_n 0, 1) := by decide +kernel
theorem dX3_read_1 : decode cX3_read 1 = .ok (.iconst 0, 1) := by decide +kernel
theorem dX3_read_2 : decode cX3_read 2 = .ok (.putfield 39, 3) := by decide +kernel
theorem dX3_read_5 : decode cX3_read 5 = .ok (.aload_n 0, 1) := by decide +kernel
theorem dX3_read_6 : decode cX3_read 6 = .ok (.iconst (-1), 1) := by decide +kernel
theorem dX3_read_7 : decode cX3_read 7 = .ok (.putfield 43, 3) := by decide +kernel
theorem dX3_read_10 : decode cX3_read 10 = .ok (.aload_n 0, 1) := by decide +kernel
theorem dX3_read_11 : decode cX3_read 11 = .ok (.getfield 21, 3) := by decide +kernel
theorem dX3_read_14 : decode cX3_read 14 = .ok (.invokevirtual 46, 3) := by decide +kernel
theorem dX3_read_17 : decode cX3_read 17 = .ok (.aload_n 0, 1) := by decide +kernel
theorem dX3_read_18 : decode cX3_read 18 = .ok (.getfield 28, 3) := by decide +kernel
theorem dX3_read_21 : decode cX3_read 21 = .ok (.invokevirtual 49, 3) := by decide +kernel
theorem dX3_read_24 : decode cX3_read 24 = .ok (.aload_n 0, 1) := by decide +kernel
theorem dX3_read_25 : decode cX3_read 25 = .ok (.getfield 12, 3) := by decide +kernel
theorem dX3_read_28 : decode cX3_read 28 = .ok (.aload_n 1, 1) := by decide +kernel
theorem dX3_read_29 : decode cX3_read 29 = .ok (.iload_n 2, 1) := by decide +kernel
theorem dX3_read_30 : decode cX3_read 30 = .ok (.invokevirtual 50, 3) := by decide +kernel
theorem dX3_read_33 : decode cX3_read 33 = .ok (.iconst 1, 1) := by decide +kernel
theorem dX3_read_34 : decode cX3_read 34 = .ok (.istore 4, 2) := by decide +kernel
theorem dX3_read_36 : decode cX3_read 36 = .ok (.iconst 0, 1) := by decide +kernel
theorem dX3_read_37 : decode cX3_read 37 = .ok (.istore 5, 2) := by decide +kernel
theorem dX3_read_39 : decode cX3_read 39 = .ok (.iload 5, 2) := by decide +kernel
theorem dX3_read_41 : decode cX3_read 41 = .ok (.sipush 600, 3) := by decide +kernel
theorem dX3_read_44 : decode cX3_read 44 = .ok (.if_icmp .gt 21, 3) := by decide +kernel
theorem dX3_read_47 : decode cX3_read 47 = .ok (.iload 4, 2) := by decide +kernel
theorem dX3_read_49 : decode cX3_read 49 = .ok (.ifCond .eq 16, 3) := by decide +kernel
theorem dX3_read_52 : decode cX3_read 52 = .ok (.aload_n 0, 1) := by decide +kernel
theorem dX3_read_53 : decode cX3_read 53 = .ok (.iload_n 3, 1) := by decide +kernel
theorem dX3_read_54 : decode cX3_read 54 = .ok (.invokevirtual 54, 3) := by decide +kernel
theorem dX3_read_57 : decode cX3_read 57 = .ok (.istore 4, 2) := by decide +kernel
theorem dX3_read_59 : decode cX3_read 59 = .ok (.iinc 5 1, 3) := by decide +kernel
theorem dX3_read_62 : decode cX3_read 62 = .ok (.goto (-23), 3) := by decide +kernel
theorem dX3_read_65 : decode cX3_read 65 = .ok (.iload_n 3, 1) := by decide +kernel
theorem dX3_read_66 : decode cX3_read 66 = .ok (.ifCond .ne 14, 3) := by decide +kernel
theorem dX3_read_69 : decode cX3_read 69 = .ok (.aload_n 0, 1) := by decide +kernel
theorem dX3_read_70 : decode cX3_read 70 = .ok (.getfield 39, 3) := by decide +kernel
theorem dX3_read_73 : decode cX3_read 73 = .ok (.ifCond .ne 7, 3) := by decide +kernel
theorem dX3_read_76 : decode cX3_read 76 = .ok (.aload_n 0, 1) := by decide +kernel
theorem dX3_read_77 : decode cX3_read 77 = .ok (.invokevirtual 58, 3) := by decide +kernel
theorem dX3_read_80 : decode cX3_read 80 = .ok (.return_, 1) := by decide +kernel
theorem dX3_readLine_0 : decode cX3_readLine 0 = .ok (.aload_n 0, 1) := by decide +kernel
theorem dX3_readLine_1 : decode cX3_readLine 1 = .ok (.getfield 12, 3) := by decide +kernel
theorem dX3_readLine_4 : decode cX3_readLine 4 = .ok (.invokevirtual 79, 3) := by decide +kernel
theorem dX3_readLine_7 : decode cX3_readLine 7 = .ok (.aload_n 0, 1) := by decide +kernel
theorem dX3_readLine_8 : decode cX3_readLine 8 = .ok (.getfield 12, 3) := by decide +kernel
theorem dX3_readLine_11 : decode cX3_readLine 11 = .ok (.getfield 82, 3) := by decide +kernel
theorem dX3_readLine_14 : decode cX3_readLine 14 = .ok (.ifCond .ne 5, 3) := by decide +kernel
theorem dX3_readLine_17 : decode cX3_readLine 17 = .ok (.iconst 0, 1) := by decide +kernel
theorem dX3_readLine_18 : decode cX3_readLine 18 = .ok (.ireturn, 1) := by decide +kernel
theorem dX6_advance_0 : decode cX6_advance 0 = .ok (.aload_n 0, 1) := by decide +kernel
theorem dX6_advance_1 : decode cX6_advance 1 = .ok (.getfield 17, 3) := by decide +kernel
theorem dX6_advance_4 : decode cX6_advance 4 = .ok (.aload_n 0, 1) := by decide +kernel
theorem dX6_advance_5 : decode cX6_advance 5 = .ok (.getfield 13, 3) := by decide +kernel
theorem dX6_advance_8 : decode cX6_advance 8 = .ok (.if_icmp .ge 31, 3) := by decide +kernel
theorem dX6_advance_39 : decode cX6_advance 39 = .ok (.aload_n 0, 1) := by decide +kernel
theorem dX6_advance_40 : decode cX6_advance 40 = .ok (.aload_n 0, 1) := by decide +kernel
theorem dX6_advance_41 : decode cX6_advance 41 = .ok (.getfield 17, 3) := by decide +kernel
theorem dX6_advance_44 : decode cX6_advance 44 = .ok (.putfield 23, 3) := by decide +kernel
theorem dX6_advance_47 : decode cX6_advance 47 = .ok (.aload_n 0, 1) := by decide +kernel
theorem dX6_advance_48 : decode cX6_advance 48 = .ok (.getfield 23, 3) := by decide +kernel
theorem dX6_advance_51 : decode cX6_advance 51 = .ok (.aload_n 0, 1) := by decide +kernel
theorem dX6_advance_52 : decode cX6_advance 52 = .ok (.getfield 13, 3) := by decide +kernel
theorem dX6_advance_55 : decode cX6_advance 55 = .ok (.if_icmp .lt 11, 3) := by decide +kernel
theorem dX6_advance_58 : decode cX6_advance 58 = .ok (.aload_n 0, 1) := by decide +kernel
theorem dX6_advance_59 : decode cX6_advance 59 = .ok (.iconst 0, 1) := by decide +kernel
theorem dX6_advance_60 : decode cX6_advance 60 = .ok (.putfield 20, 3) := by decide +kernel
theorem dX6_advance_63 : decode cX6_advance 63 = .ok (.goto 80, 3) := by decide +kernel
theorem dX6_advance_143 : decode cX6_advance 143 = .ok (.return_, 1) := by decide +kernel
theorem dX6_begin_0 : decode cX6_begin 0 = .ok (.aload_n 0, 1) := by decide +kernel
theorem dX6_begin_1 : decode cX6_begin 1 = .ok (.aload_n 1, 1) := by decide +kernel
theorem dX6_begin_2 : decode cX6_begin 2 = .ok (.putfield 7, 3) := by decide +kernel
theorem dX6_begin_5 : decode cX6_begin 5 = .ok (.aload_n 0, 1) := by decide +kernel
theorem dX6_begin_6 : decode cX6_begin 6 = .ok (.iload_n 2, 1) := by decide +kernel
theorem dX6_begin_7 : decode cX6_begin 7 = .ok (.aload_n 1, 1) := by decide +kernel
theorem dX6_begin_8 : decode cX6_begin 8 = .ok (.arraylength, 1) := by decide +kernel
theorem dX6_begin_9 : decode cX6_begin 9 = .ok (.invokestatic 29, 3) := by decide +kernel
theorem dX6_begin_12 : decode cX6_begin 12 = .ok (.putfield 13, 3) := by decide +kernel
theorem dX6_begin_15 : decode cX6_begin 15 = .ok (.aload_n 0, 1) := by decide +kernel
theorem dX6_begin_16 : decode cX6_begin 16 = .ok (.iconst 0, 1) := by decide +kernel
theorem dX6_begin_17 : decode cX6_begin 17 = .ok (.putfield 17, 3) := by decide +kernel
theorem dX6_begin_20 : decode cX6_begin 20 = .ok (.return_, 1) := by decide +kernel
theorem dX7_keep_0 : decode cX7_keep 0 = .ok (.iload_n 1, 1) := by decide +kernel
theorem dX7_keep_1 : decode cX7_keep 1 = .ok (.ifCond .ne 33, 3) := by decide +kernel
theorem dX7_keep_4 : decode cX7_keep 4 = .ok (.aload_n 0, 1) := by decide +kernel
theorem dX7_keep_5 : decode cX7_keep 5 = .ok (.getfield 27, 3) := by decide +kernel
theorem dX7_keep_8 : decode cX7_keep 8 = .ok (.iload_n 2, 1) := by decide +kernel
theorem dX7_keep_9 : decode cX7_keep 9 = .ok (.aaload, 1) := by decide +kernel
theorem dX7_keep_10 : decode cX7_keep 10 = .ok (.aload_n 3, 1) := by decide +kernel
theorem dX7_keep_11 : decode cX7_keep 11 = .ok (.getfield 45, 3) := by decide +kernel
theorem dX7_keep_14 : decode cX7_keep 14 = .ok (.invokevirtual 50, 3) := by decide +kernel
theorem dX7_keep_17 : decode cX7_keep 17 = .ok (.aload_n 0, 1) := by decide +kernel
theorem dX7_keep_18 : decode cX7_keep 18 = .ok (.aload_n 0, 1) := by decide +kernel
theorem dX7_keep_19 : decode cX7_keep 19 = .ok (.getfield 31, 3) := by decide +kernel
theorem dX7_keep_22 : decode cX7_keep 22 = .ok (.iload_n 2, 1) := by decide +kernel
theorem dX7_keep_23 : decode cX7_keep 23 = .ok (.iconst 1, 1) := by decide +kernel
theorem dX7_keep_24 : decode cX7_keep 24 = .ok (.iadd, 1) := by decide +kernel
theorem dX7_keep_25 : decode cX7_keep 25 = .ok (.invokestatic 54, 3) := by decide +kernel
theorem dX7_keep_28 : decode cX7_keep 28 = .ok (.putfield 31, 3) := by decide +kernel
theorem dX7_keep_31 : decode cX7_keep 31 = .ok (.goto 30, 3) := by decide +kernel
theorem dX7_keep_34 : decode cX7_keep 34 = .ok (.aload_n 0, 1) := by decide +kernel
theorem dX7_keep_35 : decode cX7_keep 35 = .ok (.getfield 36, 3) := by decide +kernel
theorem dX7_keep_38 : decode cX7_keep 38 = .ok (.iload_n 2, 1) := by decide +kernel
theorem dX7_keep_39 : decode cX7_keep 39 = .ok (.aaload, 1) := by decide +kernel
theorem dX7_keep_40 : decode cX7_keep 40 = .ok (.aload_n 3, 1) := by decide +kernel
theorem dX7_keep_41 : decode cX7_keep 41 = .ok (.getfield 60, 3) := by decide +kernel
theorem dX7_keep_44 : decode cX7_keep 44 = .ok (.invokevirtual 63, 3) := by decide +kernel
theorem dX7_keep_47 : decode cX7_keep 47 = .ok (.aload_n 0, 1) := by decide +kernel
theorem dX7_keep_48 : decode cX7_keep 48 = .ok (.aload_n 0, 1) := by decide +kernel
theorem dX7_keep_49 : decode cX7_keep 49 = .ok (.getfield 40, 3) := by decide +kernel
theorem dX7_keep_52 : decode cX7_keep 52 = .ok (.iload_n 2, 1) := by decide +kernel
theorem dX7_keep_53 : decode cX7_keep 53 = .ok (.iconst 1, 1) := by decide +kernel
theorem dX7_keep_54 : decode cX7_keep 54 = .ok (.iadd, 1) := by decide +kernel
theorem dX7_keep_55 : decode cX7_keep 55 = .ok (.invokestatic 54, 3) := by decide +kernel
theorem dX7_keep_58 : decode cX7_keep 58 = .ok (.putfield 40, 3) := by decide +kernel
theorem dX7_keep_61 : decode cX7_keep 61 = .ok (.return_, 1) := by decide +kernel
theorem dX7_numberFor_0 : decode cX7_numberFor 0 = .ok (.iload_n 1, 1) := by decide +kernel
theorem dX7_numberFor_1 : decode cX7_numberFor 1 = .ok (.ifCond .eq 10, 3) := by decide +kernel
theorem dX7_numberFor_4 : decode cX7_numberFor 4 = .ok (.iload_n 1, 1) := by decide +kernel
theorem dX7_numberFor_5 : decode cX7_numberFor 5 = .ok (.iconst 1, 1) := by decide +kernel
theorem dX7_numberFor_6 : decode cX7_numberFor 6 = .ok (.if_icmp .eq 5, 3) := by decide +kernel
theorem dX7_numberFor_9 : decode cX7_numberFor 9 = .ok (.iconst (-1), 1) := by decide +kernel
theorem dX7_numberFor_10 : decode cX7_numberFor 10 = .ok (.ireturn, 1) := by decide +kernel
theorem dX7_numberFor_11 : decode cX7_numberFor 11 = .ok (.iload_n 1, 1) := by decide +kernel
theorem dX7_numberFor_12 : decode cX7_numberFor 12 = .ok (.ifCond .ne 10, 3) := by decide +kernel
theorem dX7_numberFor_15 : decode cX7_numberFor 15 = .ok (.aload_n 0, 1) := by decide +kernel
theorem dX7_numberFor_16 : decode cX7_numberFor 16 = .ok (.getfield 31, 3) := by decide +kernel
theorem dX7_numberFor_19 : decode cX7_numberFor 19 = .ok (.goto 7, 3) := by decide +kernel
theorem dX7_numberFor_22 : decode cX7_numberFor 22 = .ok (.aload_n 0, 1) := by decide +kernel
theorem dX7_numberFor_23 : decode cX7_numberFor 23 = .ok (.getfield 40, 3) := by decide +kernel
theorem dX7_numberFor_26 : decode cX7_numberFor 26 = .ok (.istore_n 3, 1) := by decide +kernel
theorem dX7_numberFor_27 : decode cX7_numberFor 27 = .ok (.iload_n 1, 1) := by decide +kernel
theorem dX7_numberFor_28 : decode cX7_numberFor 28 = .ok (.ifCond .ne 7, 3) := by decide +kernel
theorem dX7_numberFor_31 : decode cX7_numberFor 31 = .ok (.iconst 2, 1) := by decide +kernel
theorem dX7_numberFor_32 : decode cX7_numberFor 32 = .ok (.goto 4, 3) := by decide +kernel
theorem dX7_numberFor_35 : decode cX7_numberFor 35 = .ok (.iconst 3, 1) := by decide +kernel
theorem dX7_numberFor_36 : decode cX7_numberFor 36 = .ok (.istore 4, 2) := by decide +kernel
theorem dX7_numberFor_38 : decode cX7_numberFor 38 = .ok (.iload_n 2, 1) := by decide +kernel
theorem dX7_numberFor_39 : decode cX7_numberFor 39 = .ok (.iconst (-1), 1) := by decide +kernel
theorem dX7_numberFor_40 : decode cX7_numberFor 40 = .ok (.if_icmp .ne 15, 3) := by decide +kernel
theorem dX7_numberFor_43 : decode cX7_numberFor 43 = .ok (.iload_n 3, 1) := by decide +kernel
theorem dX7_numberFor_44 : decode cX7_numberFor 44 = .ok (.iload 4, 2) := by decide +kernel
theorem dX7_numberFor_46 : decode cX7_numberFor 46 = .ok (.if_icmp .ge 7, 3) := by decide +kernel
theorem dX7_numberFor_49 : decode cX7_numberFor 49 = .ok (.iload_n 3, 1) := by decide +kernel
theorem dX7_numberFor_50 : decode cX7_numberFor 50 = .ok (.goto 4, 3) := by decide +kernel
theorem dX7_numberFor_54 : decode cX7_numberFor 54 = .ok (.ireturn, 1) := by decide +kernel
theorem dX7_numberFor_55 : decode cX7_numberFor 55 = .ok (.iload_n 2, 1) := by decide +kernel
theorem dX7_numberFor_56 : decode cX7_numberFor 56 = .ok (.ifCond .lt 12, 3) := by decide +kernel
theorem dX7_numberFor_59 : decode cX7_numberFor 59 = .ok (.iload_n 2, 1) := by decide +kernel
theorem dX7_numberFor_60 : decode cX7_numberFor 60 = .ok (.iload_n 3, 1) := by decide +kernel
theorem dX7_numberFor_61 : decode cX7_numberFor 61 = .ok (.if_icmp .ge 7, 3) := by decide +kernel
theorem dX7_numberFor_68 : decode cX7_numberFor 68 = .ok (.iconst (-1), 1) := by decide +kernel
theorem dX7_numberFor_69 : decode cX7_numberFor 69 = .ok (.ireturn, 1) := by decide +kernel
theorem dX8_clear_0 : decode cX8_clear 0 = .ok (.aload_n 0, 1) := by decide +kernel
theorem dX8_clear_1 : decode cX8_clear 1 = .ok (.iconst 0, 1) := by decide +kernel
theorem dX8_clear_2 : decode cX8_clear 2 = .ok (.putfield 9, 3) := by decide +kernel
theorem dX8_clear_5 : decode cX8_clear 5 = .ok (.return_, 1) := by decide +kernel
set_option maxHeartbeats 4000000 in
set_option maxRecDepth 100000 in
theorem c_X7_numberFor_o {d : Nat} {h : List MC} {s a : Int32} (hd : 0 ≤ d) (g1 : h[1]? = some (.inr (7, [.ref 2, .int 0, .int 0, .int (-1), .ref 3, .int 0, .ref 4, .int 0]))) (h0 : ¬ s = 0) (h1 : ¬ s = 1) : CT con0 d 0 0 yX7_numberFor cX7_numberFor 5 (some .int) [.ref 1, .int s, .int a] h (fun r h2 => r = some (.int (-1)) ∧ h2 = h) := by
  refine CT_of (by decide) (Nat.le_of_ble_eq_true rfl) (fun x hq => ?_)
  show J x yX7_numberFor cX7_numberFor 5 (some .int) d 0 0 h.length 0 [(0, .ref 1), (1, .int s), (2, .int a)] [] h 0 0
  refine J_iload_n (i := 1) (j := 1) dX7_numberFor_0 rfl rfl ?_
  refine J_if_eq (tgt := 11) dX7_numberFor_1 (by decide) (fun c_1 => ?_) (fun c_1 => ?_)
  · exact absurd c_1 h0
  · refine J_iload_n (i := 1) (j := 1) dX7_numberFor_4 rfl rfl ?_
    refine J_iconst (v := 1) dX7_numberFor_5 (by decide) ?_
    refine J_icmp_eq (tgt := 11) dX7_numberFor_6 (by decide) (fun c_2 => ?_) (fun c_2 => ?_)
    · exact absurd c_2 h1
    · refine J_iconst (v := (-1)) dX7_numberFor_9 (by decide) ?_
      exact J_iret hq dX7_numberFor_10 rfl (hkz rfl) (Nat.le_refl _) (Nat.le_refl _) ⟨rfl, rfl⟩
set_option maxHeartbeats 4000000 in
set_option maxRecDepth 100000 in
theorem c_X7_numberFor_0 {d : Nat} {h : List MC} {a : Int32} (hd : 0 ≤ d) (g1 : h[1]? = some (.inr (7, [.ref 2, .int 0, .int 0, .int (-1), .ref 3, .int 0, .ref 4, .int 0]))) (ha : ¬ a = -1) : CT con0 d 0 0 yX7_numberFor cX7_numberFor 5 (some .int) [.ref 1, .int 0, .int a] h (fun r h2 => r = some (.int (-1)) ∧ h2 = h) := by
  refine CT_of (by decide) (Nat.le_of_ble_eq_true rfl) (fun x hq => ?_)
  show J x yX7_numberFor cX7_numberFor 5 (some .int) d 0 0 h.length 0 [(0, .ref 1), (1, .int 0), (2, .int a)] [] h 0 0
  refine J_iload_n (i := 1) (j := 1) dX7_numberFor_0 rfl rfl ?_
  refine J_if_eq (tgt := 11) dX7_numberFor_1 (by decide) (fun _ => ?_) (fun q => absurd (by decide) q)
  refine J_iload_n (i := 1) (j := 1) dX7_numberFor_11 rfl rfl ?_
  refine J_if_ne (tgt := 22) dX7_numberFor_12 (by decide) (fun q => absurd (by decide) q) (fun _ => ?_)
  refine J_aload_n (i := 0) (j := 0) dX7_numberFor_15 rfl rfl ?_
  refine J_get (C := RX7) (T := TX7) (Z := 8) (ci := 7) (f := 5) dX7_numberFor_16 inG7 rfl (by decide) k196 g1 rfl ?_
  refine J_goto (tgt := 26) dX7_numberFor_19 (by decide) ?_
  refine J_istore_n (i := 3) (lw := [(3, .int 0), (0, .ref 1), (1, .int 0), (2, .int a)]) dX7_numberFor_26 rfl (by decide) rfl ?_
  refine J_iload_n (i := 1) (j := 2) dX7_numberFor_27 rfl rfl ?_
  refine J_if_ne (tgt := 35) dX7_numberFor_28 (by decide) (fun q => absurd (by decide) q) (fun _ => ?_)
  refine J_iconst (v := 2) dX7_numberFor_31 (by decide) ?_
  refine J_goto (tgt := 36) dX7_numberFor_32 (by decide) ?_
  refine J_istore (i := 4) (lw := [(4, .int 2), (3, .int 0), (0, .ref 1), (1, .int 0), (2, .int a)]) dX7_numberFor_36 (by decide) rfl ?_
  refine J_iload_n (i := 2) (j := 4) dX7_numberFor_38 rfl rfl ?_
  refine J_iconst (v := (-1)) dX7_numberFor_39 (by decide) ?_
  refine J_icmp_ne (tgt := 55) dX7_numberFor_40 (by decide) (fun c_1 => ?_) (fun c_1 => ?_)
  · refine J_iload_n (i := 2) (j := 4) dX7_numberFor_55 rfl rfl ?_
    refine J_if_lt (tgt := 68) dX7_numberFor_56 (by decide) (fun c_2 => ?_) (fun c_2 => ?_)
    · refine J_iconst (v := (-1)) dX7_numberFor_68 (by decide) ?_
      exact J_iret hq dX7_numberFor_69 rfl (hkz rfl) (Nat.le_refl _) (Nat.le_refl _) ⟨rfl, rfl⟩
    · refine J_iload_n (i := 2) (j := 4) dX7_numberFor_59 rfl rfl ?_
      refine J_iload_n (i := 3) (j := 1) dX7_numberFor_60 rfl rfl ?_
      refine J_icmp_ge (tgt := 68) dX7_numberFor_61 (by decide) (fun c_3 => ?_) (fun c_3 => ?_)
      · refine J_iconst (v := (-1)) dX7_numberFor_68 (by decide) ?_
        exact J_iret hq dX7_numberFor_69 rfl (hkz rfl) (Nat.le_refl _) (Nat.le_refl _) ⟨rfl, rfl⟩
      · exact absurd (i_nlt c_2) c_3
  · exact absurd c_1 ha
set_option maxHeartbeats 4000000 in
set_option maxRecDepth 100000 in
theorem c_X7_numberFor_1 {d : Nat} {h : List MC} {a : Int32} (hd : 0 ≤ d) (g1 : h[1]? = some (.inr (7, [.ref 2, .int 0, .int 0, .int (-1), .ref 3, .int 0, .ref 4, .int 0]))) (ha : ¬ a = -1) : CT con0 d 0 0 yX7_numberFor cX7_numberFor 5 (some .int) [.ref 1, .int 1, .int a] h (fun r h2 => r = some (.int (-1)) ∧ h2 = h) := by
  refine CT_of (by decide) (Nat.le_of_ble_eq_true rfl) (fun x hq => ?_)
  show J x yX7_numberFor cX7_numberFor 5 (some .int) d 0 0 h.length 0 [(0, .ref 1), (1, .int 1), (2, .int a)] [] h 0 0
  refine J_iload_n (i := 1) (j := 1) dX7_numberFor_0 rfl rfl ?_
  refine J_if_eq (tgt := 11) dX7_numberFor_1 (by decide) (fun q => absurd q (by decide)) (fun _ => ?_)
  refine J_iload_n (i := 1) (j := 1) dX7_numberFor_4 rfl rfl ?_
  refine J_iconst (v := 1) dX7_numberFor_5 (by decide) ?_
  refine J_icmp_eq (tgt := 11) dX7_numberFor_6 (by decide) (fun _ => ?_) (fun q => absurd (by decide) q)
  refine J_iload_n (i := 1) (j := 1) dX7_numberFor_11 rfl rfl ?_
  refine J_if_ne (tgt := 22) dX7_numberFor_12 (by decide) (fun _ => ?_) (fun q => absurd q (by decide))
  refine J_aload_n (i := 0) (j := 0) dX7_numberFor_22 rfl rfl ?_
  refine J_get (C := RX7) (T := TX7) (Z := 8) (ci := 7) (f := 7) dX7_numberFor_23 inG7 rfl (by decide) k200 g1 rfl ?_
  refine J_istore_n (i := 3) (lw := [(3, .int 0), (0, .ref 1), (1, .int 1), (2, .int a)]) dX7_numberFor_26 rfl (by decide) rfl ?_
  refine J_iload_n (i := 1) (j := 2) dX7_numberFor_27 rfl rfl ?_
  refine J_if_ne (tgt := 35) dX7_numberFor_28 (by decide) (fun _ => ?_) (fun q => absurd q (by decide))
  refine J_iconst (v := 3) dX7_numberFor_35 (by decide) ?_
  refine J_istore (i := 4) (lw := [(4, .int 3), (3, .int 0), (0, .ref 1), (1, .int 1), (2, .int a)]) dX7_numberFor_36 (by decide) rfl ?_
  refine J_iload_n (i := 2) (j := 4) dX7_numberFor_38 rfl rfl ?_
  refine J_iconst (v := (-1)) dX7_numberFor_39 (by decide) ?_
  refine J_icmp_ne (tgt := 55) dX7_numberFor_40 (by decide) (fun c_1 => ?_) (fun c_1 => ?_)
  · refine J_iload_n (i := 2) (j := 4) dX7_numberFor_55 rfl rfl ?_
    refine J_if_lt (tgt := 68) dX7_numberFor_56 (by decide) (fun c_2 => ?_) (fun c_2 => ?_)
    · refine J_iconst (v := (-1)) dX7_numberFor_68 (by decide) ?_
      exact J_iret hq dX7_numberFor_69 rfl (hkz rfl) (Nat.le_refl _) (Nat.le_refl _) ⟨rfl, rfl⟩
    · refine J_iload_n (i := 2) (j := 4) dX7_numberFor_59 rfl rfl ?_
      refine J_iload_n (i := 3) (j := 1) dX7_numberFor_60 rfl rfl ?_
      refine J_icmp_ge (tgt := 68) dX7_numberFor_61 (by decide) (fun c_3 => ?_) (fun c_3 => ?_)
      · refine J_iconst (v := (-1)) dX7_numberFor_68 (by decide) ?_
        exact J_iret hq dX7_numberFor_69 rfl (hkz rfl) (Nat.le_refl _) (Nat.le_refl _) ⟨rfl, rfl⟩
      · exact absurd (i_nlt c_2) c_3
  · exact absurd c_1 ha
set_option maxHeartbeats 4000000 in
set_option maxRecDepth 100000 in
theorem c_X7_numberFor_s1 {d : Nat} {h : List MC}  (hd : 0 ≤ d) (g1 : h[1]? = some (.inr (7, [.ref 2, .int 0, .int 0, .int (-1), .ref 3, .int 0, .ref 4, .int 0]))) : CT con0 d 0 0 yX7_numberFor cX7_numberFor 5 (some .int) [.ref 1, .int 0, .int (-1)] h (fun r h2 => r = some (.int 0) ∧ h2.length = h.length ∧ ∀ j : Nat, h2[j]? = h[j]?) := by
  refine CT_of (by decide) (Nat.le_of_ble_eq_true rfl) (fun x hq => ?_)
  show J x yX7_numberFor cX7_numberFor 5 (some .int) d 0 0 h.length 0 [(0, .ref 1), (1, .int 0), (2, .int (-1))] [] h 0 0
  refine J_iload_n (i := 1) (j := 1) dX7_numberFor_0 rfl rfl ?_
  refine J_if_eq (tgt := 11) dX7_numberFor_1 (by decide) (fun _ => ?_) (fun q => absurd (by decide) q)
  refine J_iload_n (i := 1) (j := 1) dX7_numberFor_11 rfl rfl ?_
  refine J_if_ne (tgt := 22) dX7_numberFor_12 (by decide) (fun q => absurd (by decide) q) (fun _ => ?_)
  refine J_aload_n (i := 0) (j := 0) dX7_numberFor_15 rfl rfl ?_
  refine J_get (C := RX7) (T := TX7) (Z := 8) (ci := 7) (f := 5) dX7_numberFor_16 inG7 rfl (by decide) k196 g1 rfl ?_
  refine J_goto (tgt := 26) dX7_numberFor_19 (by decide) ?_
  refine J_istore_n (i := 3) (lw := [(3, .int 0), (0, .ref 1), (1, .int 0), (2, .int (-1))]) dX7_numberFor_26 rfl (by decide) rfl ?_
  refine J_iload_n (i := 1) (j := 2) dX7_numberFor_27 rfl rfl ?_
  refine J_if_ne (tgt := 35) dX7_numberFor_28 (by decide) (fun q => absurd (by decide) q) (fun _ => ?_)
  refine J_iconst (v := 2) dX7_numberFor_31 (by decide) ?_
  refine J_goto (tgt := 36) dX7_numberFor_32 (by decide) ?_
  refine J_istore (i := 4) (lw := [(4, .int 2), (3, .int 0), (0, .ref 1), (1, .int 0), (2, .int (-1))]) dX7_numberFor_36 (by decide) rfl ?_
  refine J_iload_n (i := 2) (j := 4) dX7_numberFor_38 rfl rfl ?_
  refine J_iconst (v := (-1)) dX7_numberFor_39 (by decide) ?_
  refine J_icmp_ne (tgt := 55) dX7_numberFor_40 (by decide) (fun q => absurd (by decide) q) (fun _ => ?_)
  refine J_iload_n (i := 3) (j := 1) dX7_numberFor_43 rfl rfl ?_
  refine J_iload (i := 4) (j := 0) dX7_numberFor_44 rfl ?_
  refine J_icmp_ge (tgt := 53) dX7_numberFor_46 (by decide) (fun q => absurd q (by decide)) (fun _ => ?_)
  refine J_iload_n (i := 3) (j := 1) dX7_numberFor_49 rfl rfl ?_
  refine J_goto (tgt := 54) dX7_numberFor_50 (by decide) ?_
  exact J_iret hq dX7_numberFor_54 rfl (hkz rfl) (Nat.le_refl _) (Nat.le_refl _) ⟨rfl, rfl, fun j  => rfl⟩
set_option maxHeartbeats 4000000 in
set_option maxRecDepth 100000 in
theorem c_J7_fill_53178_s1 {d : Nat} {h : List MC}  (hd : 0 ≤ d) (g36 : h[36]? = some (.inl (1, 3, .inl (fun _ => 0)))) : CT con0 d 0 0 yJ7_fill_53178 cJ7_fill_53178 4 none [.ref 36, .int 1] h (fun r h2 => r = none ∧ h2.length = h.length ∧ h2[36]? = some (.inl (1, 3, .inl (upd (upd (upd (fun _ => 0) ((0 : Int32).toNatClampNeg) 1) ((1 : Int32).toNatClampNeg) 1) ((2 : Int32).toNatClampNeg) 1))) ∧ ∀ j : Nat, j ≠ 36 → h2[j]? = h[j]?) := by
  refine CT_of (by decide) (Nat.le_of_ble_eq_true rfl) (fun x hq => ?_)
  show J x yJ7_fill_53178 cJ7_fill_53178 4 none d 0 0 h.length 0 [(0, .ref 36), (1, .int 1)] [] h 0 0
  refine J_iconst (v := 0) dJ7_fill_53178_0 (by decide) ?_
  refine J_istore_n (i := 2) (lw := [(2, .int 0), (0, .ref 36), (1, .int 1)]) dJ7_fill_53178_1 rfl (by decide) rfl ?_
  refine J_aload_n (i := 0) (j := 1) dJ7_fill_53178_2 rfl rfl ?_
  refine J_alen dJ7_fill_53178_3 g36 (fun _ => rfl) ?_
  refine J_ci (v := 3) (by decide) ?_
  refine J_istore_n (i := 3) (lw := [(3, .int 3), (2, .int 0), (0, .ref 36), (1, .int 1)]) dJ7_fill_53178_4 rfl (by decide) rfl ?_
  refine J_iload_n (i := 2) (j := 1) dJ7_fill_53178_5 rfl rfl ?_
  refine J_iload_n (i := 3) (j := 0) dJ7_fill_53178_6 rfl rfl ?_
  refine J_icmp_ge (tgt := 20) dJ7_fill_53178_7 (by decide) (fun q => absurd q (by decide)) (fun _ => ?_)
  refine J_aload_n (i := 0) (j := 2) dJ7_fill_53178_10 rfl rfl ?_
  refine J_iload_n (i := 2) (j := 1) dJ7_fill_53178_11 rfl rfl ?_
  refine J_iload_n (i := 1) (j := 3) dJ7_fill_53178_12 rfl rfl ?_
  obtain ⟨h_1, e_2⟩ : ∃ z, z = h.set 36 (.inl (1, 3, .inl (upd (fun _ => 0) ((0 : Int32).toNatClampNeg) 1))) := ⟨_, rfl⟩
  refine J_iast dJ7_fill_53178_13 g36 (vp_c (by decide)) e_2.symm ?_
  have f_3 := a_set e_2 g36
  have l_4 := l_set e_2 rfl
  refine J_iinc (i := 2) (j := 1) (v := 1) (lw := [(2, .int 1), (3, .int 3), (0, .ref 36), (1, .int 1)]) dJ7_fill_53178_14 rfl (by decide) (by decide) rfl ?_
  refine J_goto (tgt := 5) dJ7_fill_53178_17 (by decide) ?_
  refine J_iload_n (i := 2) (j := 0) dJ7_fill_53178_5 rfl rfl ?_
  refine J_iload_n (i := 3) (j := 1) dJ7_fill_53178_6 rfl rfl ?_
  refine J_icmp_ge (tgt := 20) dJ7_fill_53178_7 (by decide) (fun q => absurd q (by decide)) (fun _ => ?_)
  refine J_aload_n (i := 0) (j := 2) dJ7_fill_53178_10 rfl rfl ?_
  refine J_iload_n (i := 2) (j := 0) dJ7_fill_53178_11 rfl rfl ?_
  refine J_iload_n (i := 1) (j := 3) dJ7_fill_53178_12 rfl rfl ?_
  obtain ⟨h_5, e_6⟩ : ∃ z, z = h_1.set 36 (.inl (1, 3, .inl (upd (upd (fun _ => 0) ((0 : Int32).toNatClampNeg) 1) ((1 : Int32).toNatClampNeg) 1))) := ⟨_, rfl⟩
  refine J_iast dJ7_fill_53178_13 f_3 (vp_c (by decide)) e_6.symm ?_
  have f_7 := a_set e_6 f_3
  have l_8 := l_set e_6 l_4
  refine J_iinc (i := 2) (j := 0) (v := 2) (lw := [(2, .int 2), (3, .int 3), (0, .ref 36), (1, .int 1)]) dJ7_fill_53178_14 rfl (by decide) (by decide) rfl ?_
  refine J_goto (tgt := 5) dJ7_fill_53178_17 (by decide) ?_
  refine J_iload_n (i := 2) (j := 0) dJ7_fill_53178_5 rfl rfl ?_
  refine J_iload_n (i := 3) (j := 1) dJ7_fill_53178_6 rfl rfl ?_
  refine J_icmp_ge (tgt := 20) dJ7_fill_53178_7 (by decide) (fun q => absurd q (by decide)) (fun _ => ?_)
  refine J_aload_n (i := 0) (j := 2) dJ7_fill_53178_10 rfl rfl ?_
  refine J_iload_n (i := 2) (j := 0) dJ7_fill_53178_11 rfl rfl ?_
  refine J_iload_n (i := 1) (j := 3) dJ7_fill_53178_12 rfl rfl ?_
  obtain ⟨h_9, e_10⟩ : ∃ z, z = h_5.set 36 (.inl (1, 3, .inl (upd (upd (upd (fun _ => 0) ((0 : Int32).toNatClampNeg) 1) ((1 : Int32).toNatClampNeg) 1) ((2 : Int32).toNatClampNeg) 1))) := ⟨_, rfl⟩
  refine J_iast dJ7_fill_53178_13 f_7 (vp_c (by decide)) e_10.symm ?_
  have f_11 := a_set e_10 f_7
  have l_12 := l_set e_10 l_8
  refine J_iinc (i := 2) (j := 0) (v := 3) (lw := [(2, .int 3), (3, .int 3), (0, .ref 36), (1, .int 1)]) dJ7_fill_53178_14 rfl (by decide) (by decide) rfl ?_
  refine J_goto (tgt := 5) dJ7_fill_53178_17 (by decide) ?_
  refine J_iload_n (i := 2) (j := 0) dJ7_fill_53178_5 rfl rfl ?_
  refine J_iload_n (i := 3) (j := 1) dJ7_fill_53178_6 rfl rfl ?_
  refine J_icmp_ge (tgt := 20) dJ7_fill_53178_7 (by decide) (fun _ => ?_) (fun q => absurd (by decide) q)
  exact J_vret hq dJ7_fill_53178_20 rfl (hkz l_12) (Nat.le_refl _) (Nat.le_refl _) ⟨rfl, l_12, f_11, fun j q36 => (((s_ne e_10 q36)).trans (s_ne e_6 q36)).trans (s_ne e_2 q36)⟩
set_option maxHeartbeats 4000000 in
set_option maxRecDepth 100000 in
theorem c_X1_clear_s1 {d : Nat} {h : List MC}  (hd : 1 ≤ d) (g32 : h[32]? = some (.inr (1, [.int 0, .ref 33, .int 0, .ref 34, .ref 35, .ref 36]))) (g36 : h[36]? = some (.inl (1, 3, .inl (fun _ => 0)))) : CT con0 d 0 0 yX1_clear cX1_clear 1 none [.ref 32] h (fun r h2 => r = none ∧ h2.length = h.length ∧ h2[32]? = some (.inr (1, [.int 0, .ref 33, .int 0, .ref 34, .ref 35, .ref 36])) ∧ h2[36]? = some (.inl (1, 3, .inl (upd (upd (upd (fun _ => 0) ((0 : Int32).toNatClampNeg) 1) ((1 : Int32).toNatClampNeg) 1) ((2 : Int32).toNatClampNeg) 1))) ∧ ∀ j : Nat, j ≠ 32 → j ≠ 36 → h2[j]? = h[j]?) := by
  refine CT_of (by decide) (Nat.le_of_ble_eq_true rfl) (fun x hq => ?_)
  show J x yX1_clear cX1_clear 1 none d 0 0 h.length 0 [(0, .ref 32)] [] h 0 0
  refine J_aload_n (i := 0) (j := 0) dX1_clear_0 rfl rfl ?_
  refine J_iconst (v := 0) dX1_clear_1 (by decide) ?_
  obtain ⟨h_1, e_2⟩ : ∃ z, z = h.set 32 (.inr (1, [.int 0, .ref 33, .int 0, .ref 34, .ref 35, .ref 36])) := ⟨_, rfl⟩
  refine J_put (C := RX1) (T := TX1) (Z := 6) (ci := 1) (f := 0) (ty0 := tyX1) dX1_clear_2 inG1 rfl tyX1_ok nmX1 (by decide) k130 rfl rfl g32 (Nat.le_of_ble_eq_true rfl) (fun _ _ => ⟨rfl, rfl⟩) e_2.symm ?_
  have f_3 := a_set e_2 g32
  have l_4 := l_set e_2 rfl
  refine J_aload_n (i := 0) (j := 0) dX1_clear_5 rfl rfl ?_
  refine J_iconst (v := 0) dX1_clear_6 (by decide) ?_
  obtain ⟨h_5, e_6⟩ : ∃ z, z = h_1.set 32 (.inr (1, [.int 0, .ref 33, .int 0, .ref 34, .ref 35, .ref 36])) := ⟨_, rfl⟩
  refine J_put (C := RX1) (T := TX1) (Z := 6) (ci := 1) (f := 2) (ty0 := tyX1) dX1_clear_7 inG1 rfl tyX1_ok nmX1 (by decide) k138 rfl rfl f_3 (Nat.le_of_ble_eq_true rfl) (fun _ _ => ⟨rfl, rfl⟩) e_6.symm ?_
  have f_7 := a_set e_6 f_3
  have l_8 := l_set e_6 l_4
  refine J_aload_n (i := 0) (j := 0) dX1_clear_10 rfl rfl ?_
  refine J_get (C := RX1) (T := TX1) (Z := 6) (ci := 1) (f := 5) dX1_clear_11 inG1 rfl (by decide) k145 f_7 rfl ?_
  refine J_iconst (v := 1) dX1_clear_14 (by decide) ?_
  have f_9 : h_1[36]? = some (.inl (1, 3, .inl (fun _ => 0))) := (s_ne e_2 (by decide)).trans g36
  have f_10 : h_5[36]? = some (.inl (1, 3, .inl (fun _ => 0))) := (s_ne e_6 (by decide)).trans f_9
  refine J_callS (As := [.ref 36, .int 1]) (rest := []) dX1_clear_15 (c_J7_fill_53178_s1 (d := 0) (h := h_5) (by decide) f_10) hq.n k482 k483 k98 k484 np_J7_fill_53178 (Nat.le_trans (by decide) hd) (by decide) (Nat.le_refl _) (Nat.le_refl _) (hkz l_8) rfl (Nat.le_of_ble_eq_true rfl) (fun r_11 h_12 p_13 => ?_)
  obtain ⟨rfl, l_14, f_15, r_16⟩ := p_13
  have l_17 := l_14.trans l_8
  have f_18 : h_12[32]? = some (.inr (1, [.int 0, .ref 33, .int 0, .ref 34, .ref 35, .ref 36])) := (r_16 32 (by decide)).trans f_7
  exact J_vret hq dX1_clear_18 rfl (hkz l_17) (Nat.le_refl _) (Nat.le_refl _) ⟨rfl, l_17, f_18, f_15, fun j q32 q36 => (((r_16 j q36)).trans (s_ne e_6 q32)).trans (s_ne e_2 q32)⟩
set_option maxHeartbeats 4000000 in
set_option maxRecDepth 100000 in
theorem c_X8_clear_s1 {d : Nat} {h : List MC}  (hd : 0 ≤ d) (g37 : h[37]? = some (.inr (8, [.int 0, .ref 38, .ref 39, .ref 40]))) : CT con0 d 0 0 yX8_clear cX8_clear 1 none [.ref 37] h (fun r h2 => r = none ∧ h2.length = h.length ∧ h2[37]? = some (.inr (8, [.int 0, .ref 38, .ref 39, .ref 40])) ∧ ∀ j : Nat, j ≠ 37 → h2[j]? = h[j]?) := by
  refine CT_of (by decide) (Nat.le_of_ble_eq_true rfl) (fun x hq => ?_)
  show J x yX8_clear cX8_clear 1 none d 0 0 h.length 0 [(0, .ref 37)] [] h 0 0
  refine J_aload_n (i := 0) (j := 0) dX8_clear_0 rfl rfl ?_
  refine J_iconst (v := 0) dX8_clear_1 (by decide) ?_
  obtain ⟨h_1, e_2⟩ : ∃ z, z = h.set 37 (.inr (8, [.int 0, .ref 38, .ref 39, .ref 40])) := ⟨_, rfl⟩
  refine J_put (C := RX8) (T := TX8) (Z := 4) (ci := 8) (f := 0) (ty0 := tyX8) dX8_clear_2 inG8 rfl tyX8_ok nmX8 (by decide) k168 rfl rfl g37 (Nat.le_of_ble_eq_true rfl) (fun _ _ => ⟨rfl, rfl⟩) e_2.symm ?_
  have f_3 := a_set e_2 g37
  have l_4 := l_set e_2 rfl
  exact J_vret hq dX8_clear_5 rfl (hkz l_4) (Nat.le_refl _) (Nat.le_refl _) ⟨rfl, l_4, f_3, fun j q37 => (s_ne e_2 q37)⟩
set_option maxHeartbeats 4000000 in
set_option maxRecDepth 100000 in
theorem c_X6_begin_s1 {d : Nat} {h : List MC}  (hd : 1 ≤ d) (g30 : h[30]? = some (.inr (6, [.ref 31, .int 0, .int 0, .int 0, .int 0, .int 0]))) (g2 : h[2]? = some (.inl (0, 600, .inl (fun _ => 0)))) : CT con0 d 0 0 yX6_begin cX6_begin 3 none [.ref 30, .ref 2, .int 0] h (fun r h2 => r = none ∧ h2.length = h.length ∧ h2[30]? = some (.inr (6, [.ref 2, .int 0, .int 0, .int 0, .int 0, .int 0])) ∧ ∀ j : Nat, j ≠ 30 → h2[j]? = h[j]?) := by
  refine CT_of (by decide) (Nat.le_of_ble_eq_true rfl) (fun x hq => ?_)
  show J x yX6_begin cX6_begin 3 none d 0 0 h.length 0 [(0, .ref 30), (1, .ref 2), (2, .int 0)] [] h 0 0
  refine J_aload_n (i := 0) (j := 0) dX6_begin_0 rfl rfl ?_
  refine J_aload_n (i := 1) (j := 1) dX6_begin_1 rfl rfl ?_
  obtain ⟨h_1, e_2⟩ : ∃ z, z = h.set 30 (.inr (6, [.ref 2, .int 0, .int 0, .int 0, .int 0, .int 0])) := ⟨_, rfl⟩
  refine J_put (C := RX6) (T := TX6) (Z := 6) (ci := 6) (f := 0) (ty0 := tyX6) dX6_begin_2 inG6 rfl tyX6_ok nmX6 (by decide) k232 rfl rfl g30 (Nat.le_of_ble_eq_true rfl) (fun _ _ => ⟨rfl, rfl⟩) e_2.symm ?_
  have f_3 := a_set e_2 g30
  have l_4 := l_set e_2 rfl
  refine J_aload_n (i := 0) (j := 0) dX6_begin_5 rfl rfl ?_
  refine J_iload_n (i := 2) (j := 2) dX6_begin_6 rfl rfl ?_
  refine J_aload_n (i := 1) (j := 1) dX6_begin_7 rfl rfl ?_
  have f_5 : h_1[2]? = some (.inl (0, 600, .inl (fun _ => 0))) := (s_ne e_2 (by decide)).trans g2
  refine J_alen dX6_begin_8 f_5 (fun _ => rfl) ?_
  refine J_ci (v := 600) (by decide) ?_
  refine J_mmin dX6_begin_9 k493 k494 k99 k495 (Nat.le_trans (by decide) hd) (Nat.le_of_ble_eq_true rfl) (Nat.zero_le _) (Nat.zero_le _) ?_
  refine J_ci (v := 0) (by decide) ?_
  obtain ⟨h_6, e_7⟩ : ∃ z, z = h_1.set 30 (.inr (6, [.ref 2, .int 0, .int 0, .int 0, .int 0, .int 0])) := ⟨_, rfl⟩
  refine J_put (C := RX6) (T := TX6) (Z := 6) (ci := 6) (f := 1) (ty0 := tyX6) dX6_begin_12 inG6 rfl tyX6_ok nmX6 (by decide) k233 rfl rfl f_3 (Nat.le_of_ble_eq_true rfl) (fun _ _ => ⟨rfl, rfl⟩) e_7.symm ?_
  have f_8 := a_set e_7 f_3
  have l_9 := l_set e_7 l_4
  refine J_aload_n (i := 0) (j := 0) dX6_begin_15 rfl rfl ?_
  refine J_iconst (v := 0) dX6_begin_16 (by decide) ?_
  obtain ⟨h_10, e_11⟩ : ∃ z, z = h_6.set 30 (.inr (6, [.ref 2, .int 0, .int 0, .int 0, .int 0, .int 0])) := ⟨_, rfl⟩
  refine J_put (C := RX6) (T := TX6) (Z := 6) (ci := 6) (f := 2) (ty0 := tyX6) dX6_begin_17 inG6 rfl tyX6_ok nmX6 (by decide) k235 rfl rfl f_8 (Nat.le_of_ble_eq_true rfl) (fun _ _ => ⟨rfl, rfl⟩) e_11.symm ?_
  have f_12 := a_set e_11 f_8
  have l_13 := l_set e_11 l_9
  exact J_vret hq dX6_begin_20 rfl (hkz l_13) (Nat.le_refl _) (Nat.le_refl _) ⟨rfl, l_13, f_12, fun j q30 => (((s_ne e_11 q30)).trans (s_ne e_7 q30)).trans (s_ne e_2 q30)⟩
set_option maxHeartbeats 4000000 in
set_option maxRecDepth 100000 in
theorem c_X6_advance_s1 {d : Nat} {h : List MC}  (hd : 0 ≤ d) (g30 : h[30]? = some (.inr (6, [.ref 2, .int 0, .int 0, .int 0, .int 0, .int 0]))) : CT con0 d 0 0 yX6_advance cX6_advance 1 none [.ref 30] h (fun r h2 => r = none ∧ h2.length = h.length ∧ h2[30]? = some (.inr (6, [.ref 2, .int 0, .int 0, .int 0, .int 0, .int 0])) ∧ ∀ j : Nat, j ≠ 30 → h2[j]? = h[j]?) := by
  refine CT_of (by decide) (Nat.le_of_ble_eq_true rfl) (fun x hq => ?_)
  show J x yX6_advance cX6_advance 1 none d 0 0 h.length 0 [(0, .ref 30)] [] h 0 0
  refine J_aload_n (i := 0) (j := 0) dX6_advance_0 rfl rfl ?_
  refine J_get (C := RX6) (T := TX6) (Z := 6) (ci := 6) (f := 2) dX6_advance_1 inG6 rfl (by decide) k235 g30 rfl ?_
  refine J_aload_n (i := 0) (j := 0) dX6_advance_4 rfl rfl ?_
  refine J_get (C := RX6) (T := TX6) (Z := 6) (ci := 6) (f := 1) dX6_advance_5 inG6 rfl (by decide) k233 g30 rfl ?_
  refine J_icmp_ge (tgt := 39) dX6_advance_8 (by decide) (fun _ => ?_) (fun q => absurd (by decide) q)
  refine J_aload_n (i := 0) (j := 0) dX6_advance_39 rfl rfl ?_
  refine J_aload_n (i := 0) (j := 0) dX6_advance_40 rfl rfl ?_
  refine J_get (C := RX6) (T := TX6) (Z := 6) (ci := 6) (f := 2) dX6_advance_41 inG6 rfl (by decide) k235 g30 rfl ?_
  obtain ⟨h_1, e_2⟩ : ∃ z, z = h.set 30 (.inr (6, [.ref 2, .int 0, .int 0, .int 0, .int 0, .int 0])) := ⟨_, rfl⟩
  refine J_put (C := RX6) (T := TX6) (Z := 6) (ci := 6) (f := 4) (ty0 := tyX6) dX6_advance_44 inG6 rfl tyX6_ok nmX6 (by decide) k238 rfl rfl g30 (Nat.le_of_ble_eq_true rfl) (fun _ _ => ⟨rfl, rfl⟩) e_2.symm ?_
  have f_3 := a_set e_2 g30
  have l_4 := l_set e_2 rfl
  refine J_aload_n (i := 0) (j := 0) dX6_advance_47 rfl rfl ?_
  refine J_get (C := RX6) (T := TX6) (Z := 6) (ci := 6) (f := 4) dX6_advance_48 inG6 rfl (by decide) k238 f_3 rfl ?_
  refine J_aload_n (i := 0) (j := 0) dX6_advance_51 rfl rfl ?_
  refine J_get (C := RX6) (T := TX6) (Z := 6) (ci := 6) (f := 1) dX6_advance_52 inG6 rfl (by decide) k233 f_3 rfl ?_
  refine J_icmp_lt (tgt := 66) dX6_advance_55 (by decide) (fun q => absurd q (by decide)) (fun _ => ?_)
  refine J_aload_n (i := 0) (j := 0) dX6_advance_58 rfl rfl ?_
  refine J_iconst (v := 0) dX6_advance_59 (by decide) ?_
  obtain ⟨h_5, e_6⟩ : ∃ z, z = h_1.set 30 (.inr (6, [.ref 2, .int 0, .int 0, .int 0, .int 0, .int 0])) := ⟨_, rfl⟩
  refine J_put (C := RX6) (T := TX6) (Z := 6) (ci := 6) (f := 3) (ty0 := tyX6) dX6_advance_60 inG6 rfl tyX6_ok nmX6 (by decide) k236 rfl rfl f_3 (Nat.le_of_ble_eq_true rfl) (fun _ _ => ⟨rfl, rfl⟩) e_6.symm ?_
  have f_7 := a_set e_6 f_3
  have l_8 := l_set e_6 l_4
  refine J_goto (tgt := 143) dX6_advance_63 (by decide) ?_
  exact J_vret hq dX6_advance_143 rfl (hkz l_8) (Nat.le_refl _) (Nat.le_refl _) ⟨rfl, l_8, f_7, fun j q30 => ((s_ne e_6 q30)).trans (s_ne e_2 q30)⟩
set_option maxHeartbeats 4000000 in
set_option maxRecDepth 100000 in
theorem c_X3_readLine_s1 {d : Nat} {h : List MC}  (hd : 1 ≤ d) (g29 : h[29]? = some (.inr (3, [.ref 30, .ref 32, .ref 37, .ref 41, .ref 42, .int 0, .int (-1)]))) (g30 : h[30]? = some (.inr (6, [.ref 2, .int 0, .int 0, .int 0, .int 0, .int 0]))) : CT con0 d 0 0 yX3_readLine cX3_readLine 6 (some .boolean) [.ref 29, .int 0] h (fun r h2 => r = some (.int 0) ∧ h2.length = h.length ∧ h2[30]? = some (.inr (6, [.ref 2, .int 0, .int 0, .int 0, .int 0, .int 0])) ∧ ∀ j : Nat, j ≠ 30 → h2[j]? = h[j]?) := by
  refine CT_of (by decide) (Nat.le_of_ble_eq_true rfl) (fun x hq => ?_)
  show J x yX3_readLine cX3_readLine 6 (some .boolean) d 0 0 h.length 0 [(0, .ref 29), (1, .int 0)] [] h 0 0
  refine J_aload_n (i := 0) (j := 0) dX3_readLine_0 rfl rfl ?_
  refine J_get (C := RX3) (T := TX3) (Z := 7) (ci := 3) (f := 0) dX3_readLine_1 inG3 rfl (by decide) k260 g29 rfl ?_
  refine J_callV (As := []) (rest := []) dX3_readLine_4 (c_X6_advance_s1 (d := 0) (h := h) (by decide) g30) hq.n k500 k501 k502 g30 rfl rfl k92 k503 np_X6_advance (Nat.le_trans (by decide) hd) (by decide) (Nat.le_refl _) (Nat.le_refl _) (hkz rfl) rfl (Nat.le_of_ble_eq_true rfl) (fun r_1 h_2 p_3 => ?_)
  obtain ⟨rfl, l_4, f_5, r_6⟩ := p_3
  have l_7 := l_4.trans rfl
  refine J_aload_n (i := 0) (j := 0) dX3_readLine_7 rfl rfl ?_
  have f_8 : h_2[29]? = some (.inr (3, [.ref 30, .ref 32, .ref 37, .ref 41, .ref 42, .int 0, .int (-1)])) := (r_6 29 (by decide)).trans g29
  refine J_get (C := RX3) (T := TX3) (Z := 7) (ci := 3) (f := 0) dX3_readLine_8 inG3 rfl (by decide) k260 f_8 rfl ?_
  refine J_getN (C := RX6) (T := TX6) (Z := 6) (ci := 6) (f := 3) dX3_readLine_11 inG6 rfl (by decide) k237 f_5 rfl ?_
  refine J_if_ne (tgt := 19) dX3_readLine_14 (by decide) (fun q => absurd (by decide) q) (fun _ => ?_)
  refine J_iconst (v := 0) dX3_readLine_17 (by decide) ?_
  exact J_zret hq dX3_readLine_18 rfl rfl (hkz l_7) (Nat.le_refl _) (Nat.le_refl _) ⟨rfl, l_7, f_5, fun j q30 => (r_6 j q30)⟩
set_option maxHeartbeats 4000000 in
set_option maxRecDepth 100000 in
theorem c_X1_addRain_s1 {d : Nat} {h : List MC}  (hd : 0 ≤ d) (g32 : h[32]? = some (.inr (1, [.int 0, .ref 33, .int 0, .ref 34, .ref 35, .ref 36]))) (g34 : h[34]? = some (.inl (1, 4, .inl (fun _ => 0)))) (g35 : h[35]? = some (.inl (1, 4, .inl (fun _ => 0)))) : CT con0 d 0 0 yX1_addRain cX1_addRain 3 (some .boolean) [.ref 32, .int 0, .int 100] h (fun r h2 => r = some (.int 1) ∧ h2.length = h.length ∧ h2[34]? = some (.inl (1, 4, .inl (upd (fun _ => 0) ((0 : Int32).toNatClampNeg) 0))) ∧ h2[35]? = some (.inl (1, 4, .inl (upd (fun _ => 0) ((0 : Int32).toNatClampNeg) 100))) ∧ h2[32]? = some (.inr (1, [.int 0, .ref 33, .int 1, .ref 34, .ref 35, .ref 36])) ∧ ∀ j : Nat, j ≠ 34 → j ≠ 35 → j ≠ 32 → h2[j]? = h[j]?) := by
  refine CT_of (by decide) (Nat.le_of_ble_eq_true rfl) (fun x hq => ?_)
  show J x yX1_addRain cX1_addRain 3 (some .boolean) d 0 0 h.length 0 [(0, .ref 32), (1, .int 0), (2, .int 100)] [] h 0 0
  refine J_aload_n (i := 0) (j := 0) dX1_addRain_0 rfl rfl ?_
  refine J_get (C := RX1) (T := TX1) (Z := 6) (ci := 1) (f := 2) dX1_addRain_1 inG1 rfl (by decide) k138 g32 rfl ?_
  refine J_iconst (v := 4) dX1_addRain_4 (by decide) ?_
  refine J_icmp_lt (tgt := 10) dX1_addRain_5 (by decide) (fun _ => ?_) (fun q => absurd (by decide) q)
  refine J_aload_n (i := 0) (j := 0) dX1_addRain_10 rfl rfl ?_
  refine J_get (C := RX1) (T := TX1) (Z := 6) (ci := 1) (f := 3) dX1_addRain_11 inG1 rfl (by decide) k143 g32 rfl ?_
  refine J_aload_n (i := 0) (j := 0) dX1_addRain_14 rfl rfl ?_
  refine J_get (C := RX1) (T := TX1) (Z := 6) (ci := 1) (f := 2) dX1_addRain_15 inG1 rfl (by decide) k138 g32 rfl ?_
  refine J_iload_n (i := 1) (j := 1) dX1_addRain_18 rfl rfl ?_
  obtain ⟨h_1, e_2⟩ : ∃ z, z = h.set 34 (.inl (1, 4, .inl (upd (fun _ => 0) ((0 : Int32).toNatClampNeg) 0))) := ⟨_, rfl⟩
  refine J_iast dX1_addRain_19 g34 (vp_c (by decide)) e_2.symm ?_
  have f_3 := a_set e_2 g34
  have l_4 := l_set e_2 rfl
  refine J_aload_n (i := 0) (j := 0) dX1_addRain_20 rfl rfl ?_
  have f_5 : h_1[32]? = some (.inr (1, [.int 0, .ref 33, .int 0, .ref 34, .ref 35, .ref 36])) := (s_ne e_2 (by decide)).trans g32
  refine J_get (C := RX1) (T := TX1) (Z := 6) (ci := 1) (f := 4) dX1_addRain_21 inG1 rfl (by decide) k144 f_5 rfl ?_
  refine J_aload_n (i := 0) (j := 0) dX1_addRain_24 rfl rfl ?_
  refine J_get (C := RX1) (T := TX1) (Z := 6) (ci := 1) (f := 2) dX1_addRain_25 inG1 rfl (by decide) k138 f_5 rfl ?_
  refine J_iload_n (i := 2) (j := 2) dX1_addRain_28 rfl rfl ?_
  have f_6 : h_1[35]? = some (.inl (1, 4, .inl (fun _ => 0))) := (s_ne e_2 (by decide)).trans g35
  obtain ⟨h_7, e_8⟩ : ∃ z, z = h_1.set 35 (.inl (1, 4, .inl (upd (fun _ => 0) ((0 : Int32).toNatClampNeg) 100))) := ⟨_, rfl⟩
  refine J_iast dX1_addRain_29 f_6 (vp_c (by decide)) e_8.symm ?_
  have f_9 := a_set e_8 f_6
  have l_10 := l_set e_8 l_4
  refine J_aload_n (i := 0) (j := 0) dX1_addRain_30 rfl rfl ?_
  refine J_dup dX1_addRain_31 rfl ?_
  have f_11 : h_7[32]? = some (.inr (1, [.int 0, .ref 33, .int 0, .ref 34, .ref 35, .ref 36])) := (s_ne e_8 (by decide)).trans f_5
  refine J_get (C := RX1) (T := TX1) (Z := 6) (ci := 1) (f := 2) dX1_addRain_32 inG1 rfl (by decide) k138 f_11 rfl ?_
  refine J_iconst (v := 1) dX1_addRain_35 (by decide) ?_
  refine J_iadd dX1_addRain_36 ?_
  refine J_ci (v := 1) (by decide) ?_
  obtain ⟨h_12, e_13⟩ : ∃ z, z = h_7.set 32 (.inr (1, [.int 0, .ref 33, .int 1, .ref 34, .ref 35, .ref 36])) := ⟨_, rfl⟩
  refine J_put (C := RX1) (T := TX1) (Z := 6) (ci := 1) (f := 2) (ty0 := tyX1) dX1_addRain_37 inG1 rfl tyX1_ok nmX1 (by decide) k138 rfl rfl f_11 (Nat.le_of_ble_eq_true rfl) (fun _ _ => ⟨rfl, rfl⟩) e_13.symm ?_
  have f_14 := a_set e_13 f_11
  have l_15 := l_set e_13 l_10
  refine J_iconst (v := 1) dX1_addRain_40 (by decide) ?_
  have f_16 : h_7[34]? = some (.inl (1, 4, .inl (upd (fun _ => 0) ((0 : Int32).toNatClampNeg) 0))) := (s_ne e_8 (by decide)).trans f_3
  have f_17 : h_12[34]? = some (.inl (1, 4, .inl (upd (fun _ => 0) ((0 : Int32).toNatClampNeg) 0))) := (s_ne e_13 (by decide)).trans f_16
  have f_18 : h_12[35]? = some (.inl (1, 4, .inl (upd (fun _ => 0) ((0 : Int32).toNatClampNeg) 100))) := (s_ne e_13 (by decide)).trans f_9
  exact J_zret hq dX1_addRain_41 rfl rfl (hkz l_15) (Nat.le_refl _) (Nat.le_refl _) ⟨rfl, l_15, f_17, f_18, f_14, fun j q34 q35 q32 => (((s_ne e_13 q32)).trans (s_ne e_8 q35)).trans (s_ne e_2 q34)⟩
set_option maxHeartbeats 4000000 in
set_option maxRecDepth 100000 in
theorem c_X3_closeRains_s1 {d : Nat} {h : List MC}  (hd : 1 ≤ d) (g29 : h[29]? = some (.inr (3, [.ref 30, .ref 32, .ref 37, .ref 41, .ref 42, .int 0, .int (-1)]))) (g32 : h[32]? = some (.inr (1, [.int 0, .ref 33, .int 0, .ref 34, .ref 35, .ref 36]))) (g34 : h[34]? = some (.inl (1, 4, .inl (fun _ => 0)))) (g35 : h[35]? = some (.inl (1, 4, .inl (fun _ => 0)))) : CT con0 d 0 0 yX3_closeRains cX3_closeRains 1 none [.ref 29] h (fun r h2 => r = none ∧ h2.length = h.length ∧ h2[34]? = some (.inl (1, 4, .inl (upd (fun _ => 0) ((0 : Int32).toNatClampNeg) 0))) ∧ h2[35]? = some (.inl (1, 4, .inl (upd (fun _ => 0) ((0 : Int32).toNatClampNeg) 100))) ∧ h2[32]? = some (.inr (1, [.int 0, .ref 33, .int 1, .ref 34, .ref 35, .ref 36])) ∧ ∀ j : Nat, j ≠ 34 → j ≠ 35 → j ≠ 32 → h2[j]? = h[j]?) := by
  refine CT_of (by decide) (Nat.le_of_ble_eq_true rfl) (fun x hq => ?_)
  show J x yX3_closeRains cX3_closeRains 1 none d 0 0 h.length 0 [(0, .ref 29)] [] h 0 0
  refine J_aload_n (i := 0) (j := 0) dX3_closeRains_0 rfl rfl ?_
  refine J_get (C := RX3) (T := TX3) (Z := 7) (ci := 3) (f := 1) dX3_closeRains_1 inG3 rfl (by decide) k261 g29 rfl ?_
  refine J_getN (C := RX1) (T := TX1) (Z := 6) (ci := 1) (f := 2) dX3_closeRains_4 inG1 rfl (by decide) k140 g32 rfl ?_
  refine J_if_ne (tgt := 24) dX3_closeRains_7 (by decide) (fun q => absurd (by decide) q) (fun _ => ?_)
  refine J_aload_n (i := 0) (j := 0) dX3_closeRains_10 rfl rfl ?_
  refine J_get (C := RX3) (T := TX3) (Z := 7) (ci := 3) (f := 1) dX3_closeRains_11 inG3 rfl (by decide) k261 g29 rfl ?_
  refine J_iconst (v := 0) dX3_closeRains_14 (by decide) ?_
  refine J_bipush (v := 100) dX3_closeRains_15 (by decide) ?_
  refine J_callV (As := [.int 0, .int 100]) (rest := []) dX3_closeRains_17 (c_X1_addRain_s1 (d := 0) (h := h) (by decide) g32 g34 g35) hq.n k653 k654 k655 g32 rfl rfl k89 k656 np_X1_addRain (Nat.le_trans (by decide) hd) (by decide) (Nat.le_refl _) (Nat.le_refl _) (hkz rfl) rfl (Nat.le_of_ble_eq_true rfl) (fun r_1 h_2 p_3 => ?_)
  obtain ⟨rfl, l_4, f_5, f_6, f_7, r_8⟩ := p_3
  have l_9 := l_4.trans rfl
  refine J_pop dX3_closeRains_20 rfl ?_
  refine J_goto (tgt := 48) dX3_closeRains_21 (by decide) ?_
  exact J_vret hq dX3_closeRains_48 rfl (hkz l_9) (Nat.le_refl _) (Nat.le_refl _) ⟨rfl, l_9, f_5, f_6, f_7, fun j q34 q35 q32 => (r_8 j q34 q35 q32)⟩
set_option maxHeartbeats 4000000 in
set_option maxRecDepth 100000 in
theorem c_X3_read_s1 {d : Nat} {h : List MC}  (hd : 2 ≤ d) (g29 : h[29]? = some (.inr (3, [.ref 30, .ref 32, .ref 37, .ref 41, .ref 42, .int 0, .int (-1)]))) (g32 : h[32]? = some (.inr (1, [.int 0, .ref 33, .int 0, .ref 34, .ref 35, .ref 36]))) (g36 : h[36]? = some (.inl (1, 3, .inl (fun _ => 0)))) (g37 : h[37]? = some (.inr (8, [.int 0, .ref 38, .ref 39, .ref 40]))) (g30 : h[30]? = some (.inr (6, [.ref 31, .int 0, .int 0, .int 0, .int 0, .int 0]))) (g2 : h[2]? = some (.inl (0, 600, .inl (fun _ => 0)))) (g34 : h[34]? = some (.inl (1, 4, .inl (fun _ => 0)))) (g35 : h[35]? = some (.inl (1, 4, .inl (fun _ => 0)))) : CT con0 d 0 0 yX3_read cX3_read 6 none [.ref 29, .ref 2, .int 0, .int 0] h (fun r h2 => r = none ∧ h2.length = h.length ∧ h2[29]? = some (.inr (3, [.ref 30, .ref 32, .ref 37, .ref 41, .ref 42, .int 0, .int (-1)])) ∧ h2[32]? = some (.inr (1, [.int 0, .ref 33, .int 1, .ref 34, .ref 35, .ref 36])) ∧ h2[36]? = some (.inl (1, 3, .inl (upd (upd (upd (fun _ => 0) ((0 : Int32).toNatClampNeg) 1) ((1 : Int32).toNatClampNeg) 1) ((2 : Int32).toNatClampNeg) 1))) ∧ h2[37]? = some (.inr (8, [.int 0, .ref 38, .ref 39, .ref 40])) ∧ h2[30]? = some (.inr (6, [.ref 2, .int 0, .int 0, .int 0, .int 0, .int 0])) ∧ h2[34]? = some (.inl (1, 4, .inl (upd (fun _ => 0) ((0 : Int32).toNatClampNeg) 0))) ∧ h2[35]? = some (.inl (1, 4, .inl (upd (fun _ => 0) ((0 : Int32).toNatClampNeg) 100))) ∧ ∀ j : Nat, j ≠ 29 → j ≠ 32 → j ≠ 36 → j ≠ 37 → j ≠ 30 → j ≠ 34 → j ≠ 35 → h2[j]? = h[j]?) := by
  refine CT_of (by decide) (Nat.le_of_ble_eq_true rfl) (fun x hq => ?_)
  show J x yX3_read cX3_read 6 none d 0 0 h.length 0 [(0, .ref 29), (1, .ref 2), (2, .int 0), (3, .int 0)] [] h 0 0
  refine J_aload_n (i := 0) (j := 0) dX3_read_0 rfl rfl ?_
  refine J_iconst (v := 0) dX3_read_1 (by decide) ?_
  obtain ⟨h_1, e_2⟩ : ∃ z, z = h.set 29 (.inr (3, [.ref 30, .ref 32, .ref 37, .ref 41, .ref 42, .int 0, .int (-1)])) := ⟨_, rfl⟩
  refine J_put (C := RX3) (T := TX3) (Z := 7) (ci := 3) (f := 5) (ty0 := tyX3) dX3_read_2 inG3 rfl tyX3_ok nmX3 (by decide) k267 rfl rfl g29 (Nat.le_of_ble_eq_true rfl) (fun _ _ => ⟨rfl, rfl⟩) e_2.symm ?_
  have f_3 := a_set e_2 g29
  have l_4 := l_set e_2 rfl
  refine J_aload_n (i := 0) (j := 0) dX3_read_5 rfl rfl ?_
  refine J_iconst (v := (-1)) dX3_read_6 (by decide) ?_
  obtain ⟨h_5, e_6⟩ : ∃ z, z = h_1.set 29 (.inr (3, [.ref 30, .ref 32, .ref 37, .ref 41, .ref 42, .int 0, .int (-1)])) := ⟨_, rfl⟩
  refine J_put (C := RX3) (T := TX3) (Z := 7) (ci := 3) (f := 6) (ty0 := tyX3) dX3_read_7 inG3 rfl tyX3_ok nmX3 (by decide) k269 rfl rfl f_3 (Nat.le_of_ble_eq_true rfl) (fun _ _ => ⟨rfl, rfl⟩) e_6.symm ?_
  have f_7 := a_set e_6 f_3
  have l_8 := l_set e_6 l_4
  refine J_aload_n (i := 0) (j := 0) dX3_read_10 rfl rfl ?_
  refine J_get (C := RX3) (T := TX3) (Z := 7) (ci := 3) (f := 1) dX3_read_11 inG3 rfl (by decide) k261 f_7 rfl ?_
  have f_9 : h_1[32]? = some (.inr (1, [.int 0, .ref 33, .int 0, .ref 34, .ref 35, .ref 36])) := (s_ne e_2 (by decide)).trans g32
  have f_10 : h_5[32]? = some (.inr (1, [.int 0, .ref 33, .int 0, .ref 34, .ref 35, .ref 36])) := (s_ne e_6 (by decide)).trans f_9
  have f_11 : h_1[36]? = some (.inl (1, 3, .inl (fun _ => 0))) := (s_ne e_2 (by decide)).trans g36
  have f_12 : h_5[36]? = some (.inl (1, 3, .inl (fun _ => 0))) := (s_ne e_6 (by decide)).trans f_11
  refine J_callV (As := []) (rest := []) dX3_read_14 (c_X1_clear_s1 (d := 1) (h := h_5) (by decide) f_10 f_12) hq.n k478 k479 k480 f_10 rfl rfl k89 k481 np_X1_clear (Nat.le_trans (by decide) hd) (by decide) (Nat.le_refl _) (Nat.le_refl _) (hkz l_8) rfl (Nat.le_of_ble_eq_true rfl) (fun r_13 h_14 p_15 => ?_)
  obtain ⟨rfl, l_16, f_17, f_18, r_19⟩ := p_15
  have l_20 := l_16.trans l_8
  refine J_aload_n (i := 0) (j := 0) dX3_read_17 rfl rfl ?_
  have f_21 : h_14[29]? = some (.inr (3, [.ref 30, .ref 32, .ref 37, .ref 41, .ref 42, .int 0, .int (-1)])) := (r_19 29 (by decide) (by decide)).trans f_7
  refine J_get (C := RX3) (T := TX3) (Z := 7) (ci := 3) (f := 2) dX3_read_18 inG3 rfl (by decide) k263 f_21 rfl ?_
  have f_22 : h_1[37]? = some (.inr (8, [.int 0, .ref 38, .ref 39, .ref 40])) := (s_ne e_2 (by decide)).trans g37
  have f_23 : h_5[37]? = some (.inr (8, [.int 0, .ref 38, .ref 39, .ref 40])) := (s_ne e_6 (by decide)).trans f_22
  have f_24 : h_14[37]? = some (.inr (8, [.int 0, .ref 38, .ref 39, .ref 40])) := (r_19 37 (by decide) (by decide)).trans f_23
  refine J_callV (As := []) (rest := []) dX3_read_21 (c_X8_clear_s1 (d := 0) (h := h_14) (by decide) f_24) hq.n k485 k486 k487 f_24 rfl rfl k90 k488 np_X8_clear (Nat.le_trans (by decide) hd) (by decide) (Nat.le_refl _) (Nat.le_refl _) (hkz l_20) rfl (Nat.le_of_ble_eq_true rfl) (fun r_25 h_26 p_27 => ?_)
  obtain ⟨rfl, l_28, f_29, r_30⟩ := p_27
  have l_31 := l_28.trans l_20
  refine J_aload_n (i := 0) (j := 0) dX3_read_24 rfl rfl ?_
  have f_32 : h_26[29]? = some (.inr (3, [.ref 30, .ref 32, .ref 37, .ref 41, .ref 42, .int 0, .int (-1)])) := (r_30 29 (by decide)).trans f_21
  refine J_get (C := RX3) (T := TX3) (Z := 7) (ci := 3) (f := 0) dX3_read_25 inG3 rfl (by decide) k260 f_32 rfl ?_
  refine J_aload_n (i := 1) (j := 1) dX3_read_28 rfl rfl ?_
  refine J_iload_n (i := 2) (j := 2) dX3_read_29 rfl rfl ?_
  have f_33 : h_1[30]? = some (.inr (6, [.ref 31, .int 0, .int 0, .int 0, .int 0, .int 0])) := (s_ne e_2 (by decide)).trans g30
  have f_34 : h_5[30]? = some (.inr (6, [.ref 31, .int 0, .int 0, .int 0, .int 0, .int 0])) := (s_ne e_6 (by decide)).trans f_33
  have f_35 : h_14[30]? = some (.inr (6, [.ref 31, .int 0, .int 0, .int 0, .int 0, .int 0])) := (r_19 30 (by decide) (by decide)).trans f_34
  have f_36 : h_26[30]? = some (.inr (6, [.ref 31, .int 0, .int 0, .int 0, .int 0, .int 0])) := (r_30 30 (by decide)).trans f_35
  have f_37 : h_1[2]? = some (.inl (0, 600, .inl (fun _ => 0))) := (s_ne e_2 (by decide)).trans g2
  have f_38 : h_5[2]? = some (.inl (0, 600, .inl (fun _ => 0))) := (s_ne e_6 (by decide)).trans f_37
  have f_39 : h_14[2]? = some (.inl (0, 600, .inl (fun _ => 0))) := (r_19 2 (by decide) (by decide)).trans f_38
  have f_40 : h_26[2]? = some (.inl (0, 600, .inl (fun _ => 0))) := (r_30 2 (by decide)).trans f_39
  refine J_callV (As := [.ref 2, .int 0]) (rest := []) dX3_read_30 (c_X6_begin_s1 (d := 1) (h := h_26) (by decide) f_36 f_40) hq.n k489 k490 k491 f_36 rfl rfl k92 k492 np_X6_begin (Nat.le_trans (by decide) hd) (by decide) (Nat.le_refl _) (Nat.le_refl _) (hkz l_31) rfl (Nat.le_of_ble_eq_true rfl) (fun r_41 h_42 p_43 => ?_)
  obtain ⟨rfl, l_44, f_45, r_46⟩ := p_43
  have l_47 := l_44.trans l_31
  refine J_iconst (v := 1) dX3_read_33 (by decide) ?_
  refine J_istore (i := 4) (lw := [(4, .int 1), (0, .ref 29), (1, .ref 2), (2, .int 0), (3, .int 0)]) dX3_read_34 (by decide) rfl ?_
  refine J_iconst (v := 0) dX3_read_36 (by decide) ?_
  refine J_istore (i := 5) (lw := [(5, .int 0), (4, .int 1), (0, .ref 29), (1, .ref 2), (2, .int 0), (3, .int 0)]) dX3_read_37 (by decide) rfl ?_
  refine J_iload (i := 5) (j := 0) dX3_read_39 rfl ?_
  refine J_sipush (v := 600) dX3_read_41 (by decide) ?_
  refine J_icmp_gt (tgt := 65) dX3_read_44 (by decide) (fun q => absurd q (by decide)) (fun _ => ?_)
  refine J_iload (i := 4) (j := 1) dX3_read_47 rfl ?_
  refine J_if_eq (tgt := 65) dX3_read_49 (by decide) (fun q => absurd q (by decide)) (fun _ => ?_)
  refine J_aload_n (i := 0) (j := 2) dX3_read_52 rfl rfl ?_
  refine J_iload_n (i := 3) (j := 5) dX3_read_53 rfl rfl ?_
  have f_48 : h_42[29]? = some (.inr (3, [.ref 30, .ref 32, .ref 37, .ref 41, .ref 42, .int 0, .int (-1)])) := (r_46 29 (by decide)).trans f_32
  refine J_callV (As := [.int 0]) (rest := []) dX3_read_54 (c_X3_readLine_s1 (d := 1) (h := h_42) (by decide) f_48 f_45) hq.n k496 k498 k0 f_48 rfl rfl k91 k499 np_X3_readLine (Nat.le_trans (by decide) hd) (by decide) (Nat.le_refl _) (Nat.le_refl _) (hkz l_47) rfl (Nat.le_of_ble_eq_true rfl) (fun r_49 h_50 p_51 => ?_)
  obtain ⟨rfl, l_52, f_53, r_54⟩ := p_51
  have l_55 := l_52.trans l_47
  refine J_istore (i := 4) (lw := [(4, .int 0), (5, .int 0), (0, .ref 29), (1, .ref 2), (2, .int 0), (3, .int 0)]) dX3_read_57 (by decide) rfl ?_
  refine J_iinc (i := 5) (j := 1) (v := 1) (lw := [(5, .int 1), (4, .int 0), (0, .ref 29), (1, .ref 2), (2, .int 0), (3, .int 0)]) dX3_read_59 rfl (by decide) (by decide) rfl ?_
  refine J_goto (tgt := 39) dX3_read_62 (by decide) ?_
  refine J_iload (i := 5) (j := 0) dX3_read_39 rfl ?_
  refine J_sipush (v := 600) dX3_read_41 (by decide) ?_
  refine J_icmp_gt (tgt := 65) dX3_read_44 (by decide) (fun q => absurd q (by decide)) (fun _ => ?_)
  refine J_iload (i := 4) (j := 1) dX3_read_47 rfl ?_
  refine J_if_eq (tgt := 65) dX3_read_49 (by decide) (fun _ => ?_) (fun q => absurd (by decide) q)
  refine J_iload_n (i := 3) (j := 5) dX3_read_65 rfl rfl ?_
  refine J_if_ne (tgt := 80) dX3_read_66 (by decide) (fun q => absurd (by decide) q) (fun _ => ?_)
  refine J_aload_n (i := 0) (j := 2) dX3_read_69 rfl rfl ?_
  have f_56 : h_50[29]? = some (.inr (3, [.ref 30, .ref 32, .ref 37, .ref 41, .ref 42, .int 0, .int (-1)])) := (r_54 29 (by decide)).trans f_48
  refine J_get (C := RX3) (T := TX3) (Z := 7) (ci := 3) (f := 5) dX3_read_70 inG3 rfl (by decide) k267 f_56 rfl ?_
  refine J_if_ne (tgt := 80) dX3_read_73 (by decide) (fun q => absurd (by decide) q) (fun _ => ?_)
  refine J_aload_n (i := 0) (j := 2) dX3_read_76 rfl rfl ?_
  have f_57 : h_26[32]? = some (.inr (1, [.int 0, .ref 33, .int 0, .ref 34, .ref 35, .ref 36])) := (r_30 32 (by decide)).trans f_17
  have f_58 : h_42[32]? = some (.inr (1, [.int 0, .ref 33, .int 0, .ref 34, .ref 35, .ref 36])) := (r_46 32 (by decide)).trans f_57
  have f_59 : h_50[32]? = some (.inr (1, [.int 0, .ref 33, .int 0, .ref 34, .ref 35, .ref 36])) := (r_54 32 (by decide)).trans f_58
  have f_60 : h_1[34]? = some (.inl (1, 4, .inl (fun _ => 0))) := (s_ne e_2 (by decide)).trans g34
  have f_61 : h_5[34]? = some (.inl (1, 4, .inl (fun _ => 0))) := (s_ne e_6 (by decide)).trans f_60
  have f_62 : h_14[34]? = some (.inl (1, 4, .inl (fun _ => 0))) := (r_19 34 (by decide) (by decide)).trans f_61
  have f_63 : h_26[34]? = some (.inl (1, 4, .inl (fun _ => 0))) := (r_30 34 (by decide)).trans f_62
  have f_64 : h_42[34]? = some (.inl (1, 4, .inl (fun _ => 0))) := (r_46 34 (by decide)).trans f_63
  have f_65 : h_50[34]? = some (.inl (1, 4, .inl (fun _ => 0))) := (r_54 34 (by decide)).trans f_64
  have f_66 : h_1[35]? = some (.inl (1, 4, .inl (fun _ => 0))) := (s_ne e_2 (by decide)).trans g35
  have f_67 : h_5[35]? = some (.inl (1, 4, .inl (fun _ => 0))) := (s_ne e_6 (by decide)).trans f_66
  have f_68 : h_14[35]? = some (.inl (1, 4, .inl (fun _ => 0))) := (r_19 35 (by decide) (by decide)).trans f_67
  have f_69 : h_26[35]? = some (.inl (1, 4, .inl (fun _ => 0))) := (r_30 35 (by decide)).trans f_68
  have f_70 : h_42[35]? = some (.inl (1, 4, .inl (fun _ => 0))) := (r_46 35 (by decide)).trans f_69
  have f_71 : h_50[35]? = some (.inl (1, 4, .inl (fun _ => 0))) := (r_54 35 (by decide)).trans f_70
  refine J_callV (As := []) (rest := []) dX3_read_77 (c_X3_closeRains_s1 (d := 1) (h := h_50) (by decide) f_56 f_59 f_65 f_71) hq.n k664 k666 k11 f_56 rfl rfl k91 k667 np_X3_closeRains (Nat.le_trans (by decide) hd) (by decide) (Nat.le_refl _) (Nat.le_refl _) (hkz l_55) rfl (Nat.le_of_ble_eq_true rfl) (fun r_72 h_73 p_74 => ?_)
  obtain ⟨rfl, l_75, f_76, f_77, f_78, r_79⟩ := p_74
  have l_80 := l_75.trans l_55
  have f_81 : h_73[29]? = some (.inr (3, [.ref 30, .ref 32, .ref 37, .ref 41, .ref 42, .int 0, .int (-1)])) := (r_79 29 (by decide) (by decide) (by decide)).trans f_56
  have f_82 : h_26[36]? = some (.inl (1, 3, .inl (upd (upd (upd (fun _ => 0) ((0 : Int32).toNatClampNeg) 1) ((1 : Int32).toNatClampNeg) 1) ((2 : Int32).toNatClampNeg) 1))) := (r_30 36 (by decide)).trans f_18
  have f_83 : h_42[36]? = some (.inl (1, 3, .inl (upd (upd (upd (fun _ => 0) ((0 : Int32).toNatClampNeg) 1) ((1 : Int32).toNatClampNeg) 1) ((2 : Int32).toNatClampNeg) 1))) := (r_46 36 (by decide)).trans f_82
  have f_84 : h_50[36]? = some (.inl (1, 3, .inl (upd (upd (upd (fun _ => 0) ((0 : Int32).toNatClampNeg) 1) ((1 : Int32).toNatClampNeg) 1) ((2 : Int32).toNatClampNeg) 1))) := (r_54 36 (by decide)).trans f_83
  have f_85 : h_73[36]? = some (.inl (1, 3, .inl (upd (upd (upd (fun _ => 0) ((0 : Int32).toNatClampNeg) 1) ((1 : Int32).toNatClampNeg) 1) ((2 : Int32).toNatClampNeg) 1))) := (r_79 36 (by decide) (by decide) (by decide)).trans f_84
  have f_86 : h_42[37]? = some (.inr (8, [.int 0, .ref 38, .ref 39, .ref 40])) := (r_46 37 (by decide)).trans f_29
  have f_87 : h_50[37]? = some (.inr (8, [.int 0, .ref 38, .ref 39, .ref 40])) := (r_54 37 (by decide)).trans f_86
  have f_88 : h_73[37]? = some (.inr (8, [.int 0, .ref 38, .ref 39, .ref 40])) := (r_79 37 (by decide) (by decide) (by decide)).trans f_87
  have f_89 : h_73[30]? = some (.inr (6, [.ref 2, .int 0, .int 0, .int 0, .int 0, .int 0])) := (r_79 30 (by decide) (by decide) (by decide)).trans f_53
  exact J_vret hq dX3_read_80 rfl (hkz l_80) (Nat.le_refl _) (Nat.le_refl _) ⟨rfl, l_80, f_81, f_78, f_85, f_88, f_89, f_76, f_77, fun j q29 q32 q36 q37 q30 q34 q35 => (((((((r_79 j q34 q35 q32)).trans (r_54 j q30)).trans (r_46 j q30)).trans (r_30 j q37)).trans (r_19 j q32 q36)).trans (s_ne e_6 q29)).trans (s_ne e_2 q29)⟩
set_option maxHeartbeats 4000000 in
set_option maxRecDepth 100000 in
theorem c_X1_copy_s1 {d : Nat} {h : List MC}  (hd : 1 ≤ d) (g32 : h[32]? = some (.inr (1, [.int 0, .ref 33, .int 1, .ref 34, .ref 35, .ref 36]))) (g5 : h[5]? = some (.inr (1, [.int 0, .ref 6, .int 0, .ref 7, .ref 8, .ref 9]))) (g6 : h[6]? = some (.inl (1, 144, .inl (fun _ => 0)))) (g33 : h[33]? = some (.inl (1, 144, .inl (fun _ => 0)))) (g34 : h[34]? = some (.inl (1, 4, .inl (upd (fun _ => 0) ((0 : Int32).toNatClampNeg) 0)))) (g7 : h[7]? = some (.inl (1, 4, .inl (fun _ => 0)))) (g35 : h[35]? = some (.inl (1, 4, .inl (upd (fun _ => 0) ((0 : Int32).toNatClampNeg) 100)))) (g8 : h[8]? = some (.inl (1, 4, .inl (fun _ => 0)))) (g9 : h[9]? = some (.inl (1, 3, .inl (fun _ => 0)))) (g36 : h[36]? = some (.inl (1, 3, .inl (upd (upd (upd (fun _ => 0) ((0 : Int32).toNatClampNeg) 1) ((1 : Int32).toNatClampNeg) 1) ((2 : Int32).toNatClampNeg) 1)))) : CT con0 d 0 0 yX1_copy cX1_copy 2 none [.ref 5, .ref 32] h (fun r h2 => r = none ∧ h2.length = h.length ∧ h2[5]? = some (.inr (1, [.int 0, .ref 6, .int 1, .ref 7, .ref 8, .ref 9])) ∧ h2[6]? = some (.inl (1, 144, .inl (va_cpy (fun _ => 0) (fun _ => 0) (0 : Int32).toNatClampNeg (0 : Int32).toNatClampNeg (144 : Int32).toNatClampNeg))) ∧ h2[7]? = some (.inl (1, 4, .inl (va_cpy (upd (fun _ => 0) ((0 : Int32).toNatClampNeg) 0) (fun _ => 0) (0 : Int32).toNatClampNeg (0 : Int32).toNatClampNeg (4 : Int32).toNatClampNeg))) ∧ h2[8]? = some (.inl (1, 4, .inl (va_cpy (upd (fun _ => 0) ((0 : Int32).toNatClampNeg) 100) (fun _ => 0) (0 : Int32).toNatClampNeg (0 : Int32).toNatClampNeg (4 : Int32).toNatClampNeg))) ∧ h2[9]? = some (.inl (1, 3, .inl (va_cpy (upd (upd (upd (fun _ => 0) ((0 : Int32).toNatClampNeg) 1) ((1 : Int32).toNatClampNeg) 1) ((2 : Int32).toNatClampNeg) 1) (fun _ => 0) (0 : Int32).toNatClampNeg (0 : Int32).toNatClampNeg (3 : Int32).toNatClampNeg))) ∧ ∀ j : Nat, j ≠ 5 → j ≠ 6 → j ≠ 7 → j ≠ 8 → j ≠ 9 → h2[j]? = h[j]?) := by
  refine CT_of (by decide) (Nat.le_of_ble_eq_true rfl) (fun x hq => ?_)
  show J x yX1_copy cX1_copy 2 none d 0 0 h.length 0 [(0, .ref 5), (1, .ref 32)] [] h 0 0
  refine J_aload_n (i := 0) (j := 0) dX1_copy_0 rfl rfl ?_
  refine J_aload_n (i := 1) (j := 1) dX1_copy_1 rfl rfl ?_
  refine J_get (C := RX1) (T := TX1) (Z := 6) (ci := 1) (f := 0) dX1_copy_2 inG1 rfl (by decide) k130 g32 rfl ?_
  obtain ⟨h_1, e_2⟩ : ∃ z, z = h.set 5 (.inr (1, [.int 0, .ref 6, .int 0, .ref 7, .ref 8, .ref 9])) := ⟨_, rfl⟩
  refine J_put (C := RX1) (T := TX1) (Z := 6) (ci := 1) (f := 0) (ty0 := tyX1) dX1_copy_5 inG1 rfl tyX1_ok nmX1 (by decide) k130 rfl rfl g5 (Nat.le_of_ble_eq_true rfl) (fun _ _ => ⟨rfl, rfl⟩) e_2.symm ?_
  have f_3 := a_set e_2 g5
  have l_4 := l_set e_2 rfl
  refine J_aload_n (i := 0) (j := 0) dX1_copy_8 rfl rfl ?_
  refine J_aload_n (i := 1) (j := 1) dX1_copy_9 rfl rfl ?_
  have f_5 : h_1[32]? = some (.inr (1, [.int 0, .ref 33, .int 1, .ref 34, .ref 35, .ref 36])) := (s_ne e_2 (by decide)).trans g32
  refine J_get (C := RX1) (T := TX1) (Z := 6) (ci := 1) (f := 2) dX1_copy_10 inG1 rfl (by decide) k138 f_5 rfl ?_
  obtain ⟨h_6, e_7⟩ : ∃ z, z = h_1.set 5 (.inr (1, [.int 0, .ref 6, .int 1, .ref 7, .ref 8, .ref 9])) := ⟨_, rfl⟩
  refine J_put (C := RX1) (T := TX1) (Z := 6) (ci := 1) (f := 2) (ty0 := tyX1) dX1_copy_13 inG1 rfl tyX1_ok nmX1 (by decide) k138 rfl rfl f_3 (Nat.le_of_ble_eq_true rfl) (fun _ _ => ⟨rfl, rfl⟩) e_7.symm ?_
  have f_8 := a_set e_7 f_3
  have l_9 := l_set e_7 l_4
  refine J_aload_n (i := 1) (j := 1) dX1_copy_16 rfl rfl ?_
  have f_10 : h_6[32]? = some (.inr (1, [.int 0, .ref 33, .int 1, .ref 34, .ref 35, .ref 36])) := (s_ne e_7 (by decide)).trans f_5
  refine J_get (C := RX1) (T := TX1) (Z := 6) (ci := 1) (f := 1) dX1_copy_17 inG1 rfl (by decide) k137 f_10 rfl ?_
  refine J_iconst (v := 0) dX1_copy_20 (by decide) ?_
  refine J_aload_n (i := 0) (j := 0) dX1_copy_21 rfl rfl ?_
  refine J_get (C := RX1) (T := TX1) (Z := 6) (ci := 1) (f := 1) dX1_copy_22 inG1 rfl (by decide) k137 f_8 rfl ?_
  refine J_iconst (v := 0) dX1_copy_25 (by decide) ?_
  refine J_aload_n (i := 0) (j := 0) dX1_copy_26 rfl rfl ?_
  refine J_get (C := RX1) (T := TX1) (Z := 6) (ci := 1) (f := 1) dX1_copy_27 inG1 rfl (by decide) k137 f_8 rfl ?_
  have f_11 : h_1[6]? = some (.inl (1, 144, .inl (fun _ => 0))) := (s_ne e_2 (by decide)).trans g6
  have f_12 : h_6[6]? = some (.inl (1, 144, .inl (fun _ => 0))) := (s_ne e_7 (by decide)).trans f_11
  refine J_alen dX1_copy_30 f_12 (fun _ => rfl) ?_
  refine J_ci (v := 144) (by decide) ?_
  have f_13 : h_1[33]? = some (.inl (1, 144, .inl (fun _ => 0))) := (s_ne e_2 (by decide)).trans g33
  have f_14 : h_6[33]? = some (.inl (1, 144, .inl (fun _ => 0))) := (s_ne e_7 (by decide)).trans f_13
  obtain ⟨h_15, e_16⟩ : ∃ z, z = h_6.set 6 (.inl (1, 144, .inl (va_cpy (fun _ => 0) (fun _ => 0) (0 : Int32).toNatClampNeg (0 : Int32).toNatClampNeg (144 : Int32).toNatClampNeg))) := ⟨_, rfl⟩
  refine J_copyi (sp := 0) (dp := 0) (nn := 144) dX1_copy_31 k684 k686 k685 k104 f_14 f_12 (by decide) (by decide) (by decide) (by decide) (by decide) (Nat.le_trans (by decide) hd) (Nat.le_of_ble_eq_true rfl) e_16.symm ?_
  have f_17 := a_set e_16 f_12
  have l_18 := l_set e_16 l_9
  refine J_aload_n (i := 1) (j := 1) dX1_copy_34 rfl rfl ?_
  have f_19 : h_15[32]? = some (.inr (1, [.int 0, .ref 33, .int 1, .ref 34, .ref 35, .ref 36])) := (s_ne e_16 (by decide)).trans f_10
  refine J_get (C := RX1) (T := TX1) (Z := 6) (ci := 1) (f := 3) dX1_copy_35 inG1 rfl (by decide) k143 f_19 rfl ?_
  refine J_iconst (v := 0) dX1_copy_38 (by decide) ?_
  refine J_aload_n (i := 0) (j := 0) dX1_copy_39 rfl rfl ?_
  have f_20 : h_15[5]? = some (.inr (1, [.int 0, .ref 6, .int 1, .ref 7, .ref 8, .ref 9])) := (s_ne e_16 (by decide)).trans f_8
  refine J_get (C := RX1) (T := TX1) (Z := 6) (ci := 1) (f := 3) dX1_copy_40 inG1 rfl (by decide) k143 f_20 rfl ?_
  refine J_iconst (v := 0) dX1_copy_43 (by decide) ?_
  refine J_iconst (v := 4) dX1_copy_44 (by decide) ?_
  have f_21 : h_1[34]? = some (.inl (1, 4, .inl (upd (fun _ => 0) ((0 : Int32).toNatClampNeg) 0))) := (s_ne e_2 (by decide)).trans g34
  have f_22 : h_6[34]? = some (.inl (1, 4, .inl (upd (fun _ => 0) ((0 : Int32).toNatClampNeg) 0))) := (s_ne e_7 (by decide)).trans f_21
  have f_23 : h_15[34]? = some (.inl (1, 4, .inl (upd (fun _ => 0) ((0 : Int32).toNatClampNeg) 0))) := (s_ne e_16 (by decide)).trans f_22
  have f_24 : h_1[7]? = some (.inl (1, 4, .inl (fun _ => 0))) := (s_ne e_2 (by decide)).trans g7
  have f_25 : h_6[7]? = some (.inl (1, 4, .inl (fun _ => 0))) := (s_ne e_7 (by decide)).trans f_24
  have f_26 : h_15[7]? = some (.inl (1, 4, .inl (fun _ => 0))) := (s_ne e_16 (by decide)).trans f_25
  obtain ⟨h_27, e_28⟩ : ∃ z, z = h_15.set 7 (.inl (1, 4, .inl (va_cpy (upd (fun _ => 0) ((0 : Int32).toNatClampNeg) 0) (fun _ => 0) (0 : Int32).toNatClampNeg (0 : Int32).toNatClampNeg (4 : Int32).toNatClampNeg))) := ⟨_, rfl⟩
  refine J_copyi (sp := 0) (dp := 0) (nn := 4) dX1_copy_45 k684 k686 k685 k104 f_23 f_26 (by decide) (by decide) (by decide) (by decide) (by decide) (Nat.le_trans (by decide) hd) (Nat.le_of_ble_eq_true rfl) e_28.symm ?_
  have f_29 := a_set e_28 f_26
  have l_30 := l_set e_28 l_18
  refine J_aload_n (i := 1) (j := 1) dX1_copy_48 rfl rfl ?_
  have f_31 : h_27[32]? = some (.inr (1, [.int 0, .ref 33, .int 1, .ref 34, .ref 35, .ref 36])) := (s_ne e_28 (by decide)).trans f_19
  refine J_get (C := RX1) (T := TX1) (Z := 6) (ci := 1) (f := 4) dX1_copy_49 inG1 rfl (by decide) k144 f_31 rfl ?_
  refine J_iconst (v := 0) dX1_copy_52 (by decide) ?_
  refine J_aload_n (i := 0) (j := 0) dX1_copy_53 rfl rfl ?_
  have f_32 : h_27[5]? = some (.inr (1, [.int 0, .ref 6, .int 1, .ref 7, .ref 8, .ref 9])) := (s_ne e_28 (by decide)).trans f_20
  refine J_get (C := RX1) (T := TX1) (Z := 6) (ci := 1) (f := 4) dX1_copy_54 inG1 rfl (by decide) k144 f_32 rfl ?_
  refine J_iconst (v := 0) dX1_copy_57 (by decide) ?_
  refine J_iconst (v := 4) dX1_copy_58 (by decide) ?_
  have f_33 : h_1[35]? = some (.inl (1, 4, .inl (upd (fun _ => 0) ((0 : Int32).toNatClampNeg) 100))) := (s_ne e_2 (by decide)).trans g35
  have f_34 : h_6[35]? = some (.inl (1, 4, .inl (upd (fun _ => 0) ((0 : Int32).toNatClampNeg) 100))) := (s_ne e_7 (by decide)).trans f_33
  have f_35 : h_15[35]? = some (.inl (1, 4, .inl (upd (fun _ => 0) ((0 : Int32).toNatClampNeg) 100))) := (s_ne e_16 (by decide)).trans f_34
  have f_36 : h_27[35]? = some (.inl (1, 4, .inl (upd (fun _ => 0) ((0 : Int32).toNatClampNeg) 100))) := (s_ne e_28 (by decide)).trans f_35
  have f_37 : h_1[8]? = some (.inl (1, 4, .inl (fun _ => 0))) := (s_ne e_2 (by decide)).trans g8
  have f_38 : h_6[8]? = some (.inl (1, 4, .inl (fun _ => 0))) := (s_ne e_7 (by decide)).trans f_37
  have f_39 : h_15[8]? = some (.inl (1, 4, .inl (fun _ => 0))) := (s_ne e_16 (by decide)).trans f_38
  have f_40 : h_27[8]? = some (.inl (1, 4, .inl (fun _ => 0))) := (s_ne e_28 (by decide)).trans f_39
  obtain ⟨h_41, e_42⟩ : ∃ z, z = h_27.set 8 (.inl (1, 4, .inl (va_cpy (upd (fun _ => 0) ((0 : Int32).toNatClampNeg) 100) (fun _ => 0) (0 : Int32).toNatClampNeg (0 : Int32).toNatClampNeg (4 : Int32).toNatClampNeg))) := ⟨_, rfl⟩
  refine J_copyi (sp := 0) (dp := 0) (nn := 4) dX1_copy_59 k684 k686 k685 k104 f_36 f_40 (by decide) (by decide) (by decide) (by decide) (by decide) (Nat.le_trans (by decide) hd) (Nat.le_of_ble_eq_true rfl) e_42.symm ?_
  have f_43 := a_set e_42 f_40
  have l_44 := l_set e_42 l_30
  refine J_aload_n (i := 1) (j := 1) dX1_copy_62 rfl rfl ?_
  have f_45 : h_41[32]? = some (.inr (1, [.int 0, .ref 33, .int 1, .ref 34, .ref 35, .ref 36])) := (s_ne e_42 (by decide)).trans f_31
  refine J_get (C := RX1) (T := TX1) (Z := 6) (ci := 1) (f := 5) dX1_copy_63 inG1 rfl (by decide) k145 f_45 rfl ?_
  refine J_iconst (v := 0) dX1_copy_66 (by decide) ?_
  refine J_aload_n (i := 0) (j := 0) dX1_copy_67 rfl rfl ?_
  have f_46 : h_41[5]? = some (.inr (1, [.int 0, .ref 6, .int 1, .ref 7, .ref 8, .ref 9])) := (s_ne e_42 (by decide)).trans f_32
  refine J_get (C := RX1) (T := TX1) (Z := 6) (ci := 1) (f := 5) dX1_copy_68 inG1 rfl (by decide) k145 f_46 rfl ?_
  refine J_iconst (v := 0) dX1_copy_71 (by decide) ?_
  refine J_aload_n (i := 0) (j := 0) dX1_copy_72 rfl rfl ?_
  refine J_get (C := RX1) (T := TX1) (Z := 6) (ci := 1) (f := 5) dX1_copy_73 inG1 rfl (by decide) k145 f_46 rfl ?_
  have f_47 : h_1[9]? = some (.inl (1, 3, .inl (fun _ => 0))) := (s_ne e_2 (by decide)).trans g9
  have f_48 : h_6[9]? = some (.inl (1, 3, .inl (fun _ => 0))) := (s_ne e_7 (by decide)).trans f_47
  have f_49 : h_15[9]? = some (.inl (1, 3, .inl (fun _ => 0))) := (s_ne e_16 (by decide)).trans f_48
  have f_50 : h_27[9]? = some (.inl (1, 3, .inl (fun _ => 0))) := (s_ne e_28 (by decide)).trans f_49
  have f_51 : h_41[9]? = some (.inl (1, 3, .inl (fun _ => 0))) := (s_ne e_42 (by decide)).trans f_50
  refine J_alen dX1_copy_76 f_51 (fun _ => rfl) ?_
  refine J_ci (v := 3) (by decide) ?_
  have f_52 : h_1[36]? = some (.inl (1, 3, .inl (upd (upd (upd (fun _ => 0) ((0 : Int32).toNatClampNeg) 1) ((1 : Int32).toNatClampNeg) 1) ((2 : Int32).toNatClampNeg) 1))) := (s_ne e_2 (by decide)).trans g36
  have f_53 : h_6[36]? = some (.inl (1, 3, .inl (upd (upd (upd (fun _ => 0) ((0 : Int32).toNatClampNeg) 1) ((1 : Int32).toNatClampNeg) 1) ((2 : Int32).toNatClampNeg) 1))) := (s_ne e_7 (by decide)).trans f_52
  have f_54 : h_15[36]? = some (.inl (1, 3, .inl (upd (upd (upd (fun _ => 0) ((0 : Int32).toNatClampNeg) 1) ((1 : Int32).toNatClampNeg) 1) ((2 : Int32).toNatClampNeg) 1))) := (s_ne e_16 (by decide)).trans f_53
  have f_55 : h_27[36]? = some (.inl (1, 3, .inl (upd (upd (upd (fun _ => 0) ((0 : Int32).toNatClampNeg) 1) ((1 : Int32).toNatClampNeg) 1) ((2 : Int32).toNatClampNeg) 1))) := (s_ne e_28 (by decide)).trans f_54
  have f_56 : h_41[36]? = some (.inl (1, 3, .inl (upd (upd (upd (fun _ => 0) ((0 : Int32).toNatClampNeg) 1) ((1 : Int32).toNatClampNeg) 1) ((2 : Int32).toNatClampNeg) 1))) := (s_ne e_42 (by decide)).trans f_55
  obtain ⟨h_57, e_58⟩ : ∃ z, z = h_41.set 9 (.inl (1, 3, .inl (va_cpy (upd (upd (upd (fun _ => 0) ((0 : Int32).toNatClampNeg) 1) ((1 : Int32).toNatClampNeg) 1) ((2 : Int32).toNatClampNeg) 1) (fun _ => 0) (0 : Int32).toNatClampNeg (0 : Int32).toNatClampNeg (3 : Int32).toNatClampNeg))) := ⟨_, rfl⟩
  refine J_copyi (sp := 0) (dp := 0) (nn := 3) dX1_copy_77 k684 k686 k685 k104 f_56 f_51 (by decide) (by decide) (by decide) (by decide) (by decide) (Nat.le_trans (by decide) hd) (Nat.le_of_ble_eq_true rfl) e_58.symm ?_
  have f_59 := a_set e_58 f_51
  have l_60 := l_set e_58 l_44
  have f_61 : h_57[5]? = some (.inr (1, [.int 0, .ref 6, .int 1, .ref 7, .ref 8, .ref 9])) := (s_ne e_58 (by decide)).trans f_46
  have f_62 : h_27[6]? = some (.inl (1, 144, .inl (va_cpy (fun _ => 0) (fun _ => 0) (0 : Int32).toNatClampNeg (0 : Int32).toNatClampNeg (144 : Int32).toNatClampNeg))) := (s_ne e_28 (by decide)).trans f_17
  have f_63 : h_41[6]? = some (.inl (1, 144, .inl (va_cpy (fun _ => 0) (fun _ => 0) (0 : Int32).toNatClampNeg (0 : Int32).toNatClampNeg (144 : Int32).toNatClampNeg))) := (s_ne e_42 (by decide)).trans f_62
  have f_64 : h_57[6]? = some (.inl (1, 144, .inl (va_cpy (fun _ => 0) (fun _ => 0) (0 : Int32).toNatClampNeg (0 : Int32).toNatClampNeg (144 : Int32).toNatClampNeg))) := (s_ne e_58 (by decide)).trans f_63
  have f_65 : h_41[7]? = some (.inl (1, 4, .inl (va_cpy (upd (fun _ => 0) ((0 : Int32).toNatClampNeg) 0) (fun _ => 0) (0 : Int32).toNatClampNeg (0 : Int32).toNatClampNeg (4 : Int32).toNatClampNeg))) := (s_ne e_42 (by decide)).trans f_29
  have f_66 : h_57[7]? = some (.inl (1, 4, .inl (va_cpy (upd (fun _ => 0) ((0 : Int32).toNatClampNeg) 0) (fun _ => 0) (0 : Int32).toNatClampNeg (0 : Int32).toNatClampNeg (4 : Int32).toNatClampNeg))) := (s_ne e_58 (by decide)).trans f_65
  have f_67 : h_57[8]? = some (.inl (1, 4, .inl (va_cpy (upd (fun _ => 0) ((0 : Int32).toNatClampNeg) 100) (fun _ => 0) (0 : Int32).toNatClampNeg (0 : Int32).toNatClampNeg (4 : Int32).toNatClampNeg))) := (s_ne e_58 (by decide)).trans f_43
  exact J_vret hq dX1_copy_80 rfl (hkz l_60) (Nat.le_refl _) (Nat.le_refl _) ⟨rfl, l_60, f_61, f_64, f_66, f_67, f_59, fun j q5 q6 q7 q8 q9 => ((((((s_ne e_58 q9)).trans (s_ne e_42 q8)).trans (s_ne e_28 q7)).trans (s_ne e_16 q6)).trans (s_ne e_7 q5)).trans (s_ne e_2 q5)⟩
set_option maxHeartbeats 4000000 in
set_option maxRecDepth 100000 in
theorem c_X7_keep_s1 {d : Nat} {h : List MC}  (hd : 2 ≤ d) (g1 : h[1]? = some (.inr (7, [.ref 2, .int 0, .int 0, .int (-1), .ref 3, .int 0, .ref 4, .int 0]))) (g3 : h[3]? = some (.inl (4, 2, .inr (.inr (va_up (va_up (fun _ => none) ((0 : Int32).toNatClampNeg) (some (5))) ((1 : Int32).toNatClampNeg) (some (10))))))) (g29 : h[29]? = some (.inr (3, [.ref 30, .ref 32, .ref 37, .ref 41, .ref 42, .int 0, .int (-1)]))) (g32 : h[32]? = some (.inr (1, [.int 0, .ref 33, .int 1, .ref 34, .ref 35, .ref 36]))) (g5 : h[5]? = some (.inr (1, [.int 0, .ref 6, .int 0, .ref 7, .ref 8, .ref 9]))) (g6 : h[6]? = some (.inl (1, 144, .inl (fun _ => 0)))) (g33 : h[33]? = some (.inl (1, 144, .inl (fun _ => 0)))) (g34 : h[34]? = some (.inl (1, 4, .inl (upd (fun _ => 0) ((0 : Int32).toNatClampNeg) 0)))) (g7 : h[7]? = some (.inl (1, 4, .inl (fun _ => 0)))) (g35 : h[35]? = some (.inl (1, 4, .inl (upd (fun _ => 0) ((0 : Int32).toNatClampNeg) 100)))) (g8 : h[8]? = some (.inl (1, 4, .inl (fun _ => 0)))) (g9 : h[9]? = some (.inl (1, 3, .inl (fun _ => 0)))) (g36 : h[36]? = some (.inl (1, 3, .inl (upd (upd (upd (fun _ => 0) ((0 : Int32).toNatClampNeg) 1) ((1 : Int32).toNatClampNeg) 1) ((2 : Int32).toNatClampNeg) 1)))) : CT con0 d 0 0 yX7_keep cX7_keep 4 none [.ref 1, .int 0, .int 0, .ref 29] h (fun r h2 => r = none ∧ h2.length = h.length ∧ h2[5]? = some (.inr (1, [.int 0, .ref 6, .int 1, .ref 7, .ref 8, .ref 9])) ∧ h2[6]? = some (.inl (1, 144, .inl (va_cpy (fun _ => 0) (fun _ => 0) (0 : Int32).toNatClampNeg (0 : Int32).toNatClampNeg (144 : Int32).toNatClampNeg))) ∧ h2[7]? = some (.inl (1, 4, .inl (va_cpy (upd (fun _ => 0) ((0 : Int32).toNatClampNeg) 0) (fun _ => 0) (0 : Int32).toNatClampNeg (0 : Int32).toNatClampNeg (4 : Int32).toNatClampNeg))) ∧ h2[8]? = some (.inl (1, 4, .inl (va_cpy (upd (fun _ => 0) ((0 : Int32).toNatClampNeg) 100) (fun _ => 0) (0 : Int32).toNatClampNeg (0 : Int32).toNatClampNeg (4 : Int32).toNatClampNeg))) ∧ h2[9]? = some (.inl (1, 3, .inl (va_cpy (upd (upd (upd (fun _ => 0) ((0 : Int32).toNatClampNeg) 1) ((1 : Int32).toNatClampNeg) 1) ((2 : Int32).toNatClampNeg) 1) (fun _ => 0) (0 : Int32).toNatClampNeg (0 : Int32).toNatClampNeg (3 : Int32).toNatClampNeg))) ∧ h2[1]? = some (.inr (7, [.ref 2, .int 0, .int 0, .int (-1), .ref 3, .int 1, .ref 4, .int 0])) ∧ ∀ j : Nat, j ≠ 5 → j ≠ 6 → j ≠ 7 → j ≠ 8 → j ≠ 9 → j ≠ 1 → h2[j]? = h[j]?) := by
  refine CT_of (by decide) (Nat.le_of_ble_eq_true rfl) (fun x hq => ?_)
  show J x yX7_keep cX7_keep 4 none d 0 0 h.length 0 [(0, .ref 1), (1, .int 0), (2, .int 0), (3, .ref 29)] [] h 0 0
  refine J_iload_n (i := 1) (j := 1) dX7_keep_0 rfl rfl ?_
  refine J_if_ne (tgt := 34) dX7_keep_1 (by decide) (fun q => absurd (by decide) q) (fun _ => ?_)
  refine J_aload_n (i := 0) (j := 0) dX7_keep_4 rfl rfl ?_
  refine J_get (C := RX7) (T := TX7) (Z := 8) (ci := 7) (f := 4) dX7_keep_5 inG7 rfl (by decide) k194 g1 rfl ?_
  refine J_iload_n (i := 2) (j := 2) dX7_keep_8 rfl rfl ?_
  refine J_aald (q := 5) dX7_keep_9 g3 (fun _ => rfl) (vp_c (by decide)) rfl ?_
  refine J_aload_n (i := 3) (j := 3) dX7_keep_10 rfl rfl ?_
  refine J_getN (C := RX3) (T := TX3) (Z := 7) (ci := 3) (f := 1) dX7_keep_11 inG3 rfl (by decide) k262 g29 rfl ?_
  refine J_callV (As := [.ref 32]) (rest := []) dX7_keep_14 (c_X1_copy_s1 (d := 1) (h := h) (by decide) g32 g5 g6 g33 g34 g7 g35 g8 g9 g36) hq.n k680 k681 k682 g5 rfl rfl k89 k683 np_X1_copy (Nat.le_trans (by decide) hd) (by decide) (Nat.le_refl _) (Nat.le_refl _) (hkz rfl) rfl (Nat.le_of_ble_eq_true rfl) (fun r_1 h_2 p_3 => ?_)
  obtain ⟨rfl, l_4, f_5, f_6, f_7, f_8, f_9, r_10⟩ := p_3
  have l_11 := l_4.trans rfl
  refine J_aload_n (i := 0) (j := 0) dX7_keep_17 rfl rfl ?_
  refine J_aload_n (i := 0) (j := 0) dX7_keep_18 rfl rfl ?_
  have f_12 : h_2[1]? = some (.inr (7, [.ref 2, .int 0, .int 0, .int (-1), .ref 3, .int 0, .ref 4, .int 0])) := (r_10 1 (by decide) (by decide) (by decide) (by decide) (by decide)).trans g1
  refine J_get (C := RX7) (T := TX7) (Z := 8) (ci := 7) (f := 5) dX7_keep_19 inG7 rfl (by decide) k196 f_12 rfl ?_
  refine J_iload_n (i := 2) (j := 2) dX7_keep_22 rfl rfl ?_
  refine J_iconst (v := 1) dX7_keep_23 (by decide) ?_
  refine J_iadd dX7_keep_24 ?_
  refine J_ci (v := 1) (by decide) ?_
  refine J_mmax dX7_keep_25 k687 k688 k99 k689 (Nat.le_trans (by decide) hd) (Nat.le_of_ble_eq_true rfl) (Nat.zero_le _) (Nat.zero_le _) ?_
  refine J_ci (v := 1) (by decide) ?_
  obtain ⟨h_13, e_14⟩ : ∃ z, z = h_2.set 1 (.inr (7, [.ref 2, .int 0, .int 0, .int (-1), .ref 3, .int 1, .ref 4, .int 0])) := ⟨_, rfl⟩
  refine J_put (C := RX7) (T := TX7) (Z := 8) (ci := 7) (f := 5) (ty0 := tyX7) dX7_keep_28 inG7 rfl tyX7_ok nmX7 (by decide) k196 rfl rfl f_12 (Nat.le_of_ble_eq_true rfl) (fun _ _ => ⟨rfl, rfl⟩) e_14.symm ?_
  have f_15 := a_set e_14 f_12
  have l_16 := l_set e_14 l_11
  refine J_goto (tgt := 61) dX7_keep_31 (by decide) ?_
  have f_17 : h_13[5]? = some (.inr (1, [.int 0, .ref 6, .int 1, .ref 7, .ref 8, .ref 9])) := (s_ne e_14 (by decide)).trans f_5
  have f_18 : h_13[6]? = some (.inl (1, 144, .inl (va_cpy (fun _ => 0) (fun _ => 0) (0 : Int32).toNatClampNeg (0 : Int32).toNatClampNeg (144 : Int32).toNatClampNeg))) := (s_ne e_14 (by decide)).trans f_6
  have f_19 : h_13[7]? = some (.inl (1, 4, .inl (va_cpy (upd (fun _ => 0) ((0 : Int32).toNatClampNeg) 0) (fun _ => 0) (0 : Int32).toNatClampNeg (0 : Int32).toNatClampNeg (4 : Int32).toNatClampNeg))) := (s_ne e_14 (by decide)).trans f_7
  have f_20 : h_13[8]? = some (.inl (1, 4, .inl (va_cpy (upd (fun _ => 0) ((0 : Int32).toNatClampNeg) 100) (fun _ => 0) (0 : Int32).toNatClampNeg (0 : Int32).toNatClampNeg (4 : Int32).toNatClampNeg))) := (s_ne e_14 (by decide)).trans f_8
  have f_21 : h_13[9]? = some (.inl (1, 3, .inl (va_cpy (upd (upd (upd (fun _ => 0) ((0 : Int32).toNatClampNeg) 1) ((1 : Int32).toNatClampNeg) 1) ((2 : Int32).toNatClampNeg) 1) (fun _ => 0) (0 : Int32).toNatClampNeg (0 : Int32).toNatClampNeg (3 : Int32).toNatClampNeg))) := (s_ne e_14 (by decide)).trans f_9
  exact J_vret hq dX7_keep_61 rfl (hkz l_16) (Nat.le_refl _) (Nat.le_refl _) ⟨rfl, l_16, f_17, f_18, f_19, f_20, f_21, f_15, fun j q5 q6 q7 q8 q9 q1 => ((s_ne e_14 q1)).trans (r_10 j q5 q6 q7 q8 q9)⟩
set_option maxHeartbeats 4000000 in
set_option maxRecDepth 100000 in
theorem c_X7_numberFor_s2 {d : Nat} {h : List MC}  (hd : 0 ≤ d) (g1 : h[1]? = some (.inr (7, [.ref 2, .int 0, .int 0, .int (-1), .ref 3, .int 0, .ref 4, .int 0]))) : CT con0 d 0 0 yX7_numberFor cX7_numberFor 5 (some .int) [.ref 1, .int 1, .int (-1)] h (fun r h2 => r = some (.int 0) ∧ h2.length = h.length ∧ ∀ j : Nat, h2[j]? = h[j]?) := by
  refine CT_of (by decide) (Nat.le_of_ble_eq_true rfl) (fun x hq => ?_)
  show J x yX7_numberFor cX7_numberFor 5 (some .int) d 0 0 h.length 0 [(0, .ref 1), (1, .int 1), (2, .int (-1))] [] h 0 0
  refine J_iload_n (i := 1) (j := 1) dX7_numberFor_0 rfl rfl ?_
  refine J_if_eq (tgt := 11) dX7_numberFor_1 (by decide) (fun q => absurd q (by decide)) (fun _ => ?_)
  refine J_iload_n (i := 1) (j := 1) dX7_numberFor_4 rfl rfl ?_
  refine J_iconst (v := 1) dX7_numberFor_5 (by decide) ?_
  refine J_icmp_eq (tgt := 11) dX7_numberFor_6 (by decide) (fun _ => ?_) (fun q => absurd (by decide) q)
  refine J_iload_n (i := 1) (j := 1) dX7_numberFor_11 rfl rfl ?_
  refine J_if_ne (tgt := 22) dX7_numberFor_12 (by decide) (fun _ => ?_) (fun q => absurd q (by decide))
  refine J_aload_n (i := 0) (j := 0) dX7_numberFor_22 rfl rfl ?_
  refine J_get (C := RX7) (T := TX7) (Z := 8) (ci := 7) (f := 7) dX7_numberFor_23 inG7 rfl (by decide) k200 g1 rfl ?_
  refine J_istore_n (i := 3) (lw := [(3, .int 0), (0, .ref 1), (1, .int 1), (2, .int (-1))]) dX7_numberFor_26 rfl (by decide) rfl ?_
  refine J_iload_n (i := 1) (j := 2) dX7_numberFor_27 rfl rfl ?_
  refine J_if_ne (tgt := 35) dX7_numberFor_28 (by decide) (fun _ => ?_) (fun q => absurd q (by decide))
  refine J_iconst (v := 3) dX7_numberFor_35 (by decide) ?_
  refine J_istore (i := 4) (lw := [(4, .int 3), (3, .int 0), (0, .ref 1), (1, .int 1), (2, .int (-1))]) dX7_numberFor_36 (by decide) rfl ?_
  refine J_iload_n (i := 2) (j := 4) dX7_numberFor_38 rfl rfl ?_
  refine J_iconst (v := (-1)) dX7_numberFor_39 (by decide) ?_
  refine J_icmp_ne (tgt := 55) dX7_numberFor_40 (by decide) (fun q => absurd (by decide) q) (fun _ => ?_)
  refine J_iload_n (i := 3) (j := 1) dX7_numberFor_43 rfl rfl ?_
  refine J_iload (i := 4) (j := 0) dX7_numberFor_44 rfl ?_
  refine J_icmp_ge (tgt := 53) dX7_numberFor_46 (by decide) (fun q => absurd q (by decide)) (fun _ => ?_)
  refine J_iload_n (i := 3) (j := 1) dX7_numberFor_49 rfl rfl ?_
  refine J_goto (tgt := 54) dX7_numberFor_50 (by decide) ?_
  exact J_iret hq dX7_numberFor_54 rfl (hkz rfl) (Nat.le_refl _) (Nat.le_refl _) ⟨rfl, rfl, fun j  => rfl⟩
set_option maxHeartbeats 4000000 in
set_option maxRecDepth 100000 in
theorem c_J7_fill_53178_s2 {d : Nat} {h : List MC}  (hd : 0 ≤ d) (g36 : h[36]? = some (.inl (1, 3, .inl (fun _ => 0)))) : CT con0 d 0 0 yJ7_fill_53178 cJ7_fill_53178 4 none [.ref 36, .int 1] h (fun r h2 => r = none ∧ h2.length = h.length ∧ h2[36]? = some (.inl (1, 3, .inl (upd (upd (upd (fun _ => 0) ((0 : Int32).toNatClampNeg) 1) ((1 : Int32).toNatClampNeg) 1) ((2 : Int32).toNatClampNeg) 1))) ∧ ∀ j : Nat, j ≠ 36 → h2[j]? = h[j]?) := by
  refine CT_of (by decide) (Nat.le_of_ble_eq_true rfl) (fun x hq => ?_)
  show J x yJ7_fill_53178 cJ7_fill_53178 4 none d 0 0 h.length 0 [(0, .ref 36), (1, .int 1)] [] h 0 0
  refine J_iconst (v := 0) dJ7_fill_53178_0 (by decide) ?_
  refine J_istore_n (i := 2) (lw := [(2, .int 0), (0, .ref 36), (1, .int 1)]) dJ7_fill_53178_1 rfl (by decide) rfl ?_
  refine J_aload_n (i := 0) (j := 1) dJ7_fill_53178_2 rfl rfl ?_
  refine J_alen dJ7_fill_53178_3 g36 (fun _ => rfl) ?_
  refine J_ci (v := 3) (by decide) ?_
  refine J_istore_n (i := 3) (lw := [(3, .int 3), (2, .int 0), (0, .ref 36), (1, .int 1)]) dJ7_fill_53178_4 rfl (by decide) rfl ?_
  refine J_iload_n (i := 2) (j := 1) dJ7_fill_53178_5 rfl rfl ?_
  refine J_iload_n (i := 3) (j := 0) dJ7_fill_53178_6 rfl rfl ?_
  refine J_icmp_ge (tgt := 20) dJ7_fill_53178_7 (by decide) (fun q => absurd q (by decide)) (fun _ => ?_)
  refine J_aload_n (i := 0) (j := 2) dJ7_fill_53178_10 rfl rfl ?_
  refine J_iload_n (i := 2) (j := 1) dJ7_fill_53178_11 rfl rfl ?_
  refine J_iload_n (i := 1) (j := 3) dJ7_fill_53178_12 rfl rfl ?_
  obtain ⟨h_1, e_2⟩ : ∃ z, z = h.set 36 (.inl (1, 3, .inl (upd (fun _ => 0) ((0 : Int32).toNatClampNeg) 1))) := ⟨_, rfl⟩
  refine J_iast dJ7_fill_53178_13 g36 (vp_c (by decide)) e_2.symm ?_
  have f_3 := a_set e_2 g36
  have l_4 := l_set e_2 rfl
  refine J_iinc (i := 2) (j := 1) (v := 1) (lw := [(2, .int 1), (3, .int 3), (0, .ref 36), (1, .int 1)]) dJ7_fill_53178_14 rfl (by decide) (by decide) rfl ?_
  refine J_goto (tgt := 5) dJ7_fill_53178_17 (by decide) ?_
  refine J_iload_n (i := 2) (j := 0) dJ7_fill_53178_5 rfl rfl ?_
  refine J_iload_n (i := 3) (j := 1) dJ7_fill_53178_6 rfl rfl ?_
  refine J_icmp_ge (tgt := 20) dJ7_fill_53178_7 (by decide) (fun q => absurd q (by decide)) (fun _ => ?_)
  refine J_aload_n (i := 0) (j := 2) dJ7_fill_53178_10 rfl rfl ?_
  refine J_iload_n (i := 2) (j := 0) dJ7_fill_53178_11 rfl rfl ?_
  refine J_iload_n (i := 1) (j := 3) dJ7_fill_53178_12 rfl rfl ?_
  obtain ⟨h_5, e_6⟩ : ∃ z, z = h_1.set 36 (.inl (1, 3, .inl (upd (upd (fun _ => 0) ((0 : Int32).toNatClampNeg) 1) ((1 : Int32).toNatClampNeg) 1))) := ⟨_, rfl⟩
  refine J_iast dJ7_fill_53178_13 f_3 (vp_c (by decide)) e_6.symm ?_
  have f_7 := a_set e_6 f_3
  have l_8 := l_set e_6 l_4
  refine J_iinc (i := 2) (j := 0) (v := 2) (lw := [(2, .int 2), (3, .int 3), (0, .ref 36), (1, .int 1)]) dJ7_fill_53178_14 rfl (by decide) (by decide) rfl ?_
  refine J_goto (tgt := 5) dJ7_fill_53178_17 (by decide) ?_
  refine J_iload_n (i := 2) (j := 0) dJ7_fill_53178_5 rfl rfl ?_
  refine J_iload_n (i := 3) (j := 1) dJ7_fill_53178_6 rfl rfl ?_
  refine J_icmp_ge (tgt := 20) dJ7_fill_53178_7 (by decide) (fun q => absurd q (by decide)) (fun _ => ?_)
  refine J_aload_n (i := 0) (j := 2) dJ7_fill_53178_10 rfl rfl ?_
  refine J_iload_n (i := 2) (j := 0) dJ7_fill_53178_11 rfl rfl ?_
  refine J_iload_n (i := 1) (j := 3) dJ7_fill_53178_12 rfl rfl ?_
  obtain ⟨h_9, e_10⟩ : ∃ z, z = h_5.set 36 (.inl (1, 3, .inl (upd (upd (upd (fun _ => 0) ((0 : Int32).toNatClampNeg) 1) ((1 : Int32).toNatClampNeg) 1) ((2 : Int32).toNatClampNeg) 1))) := ⟨_, rfl⟩
  refine J_iast dJ7_fill_53178_13 f_7 (vp_c (by decide)) e_10.symm ?_
  have f_11 := a_set e_10 f_7
  have l_12 := l_set e_10 l_8
  refine J_iinc (i := 2) (j := 0) (v := 3) (lw := [(2, .int 3), (3, .int 3), (0, .ref 36), (1, .int 1)]) dJ7_fill_53178_14 rfl (by decide) (by decide) rfl ?_
  refine J_goto (tgt := 5) dJ7_fill_53178_17 (by decide) ?_
  refine J_iload_n (i := 2) (j := 0) dJ7_fill_53178_5 rfl rfl ?_
  refine J_iload_n (i := 3) (j := 1) dJ7_fill_53178_6 rfl rfl ?_
  refine J_icmp_ge (tgt := 20) dJ7_fill_53178_7 (by decide) (fun _ => ?_) (fun q => absurd (by decide) q)
  exact J_vret hq dJ7_fill_53178_20 rfl (hkz l_12) (Nat.le_refl _) (Nat.le_refl _) ⟨rfl, l_12, f_11, fun j q36 => (((s_ne e_10 q36)).trans (s_ne e_6 q36)).trans (s_ne e_2 q36)⟩
set_option maxHeartbeats 4000000 in
set_option maxRecDepth 100000 in
theorem c_X1_clear_s2 {d : Nat} {h : List MC}  (hd : 1 ≤ d) (g32 : h[32]? = some (.inr (1, [.int 0, .ref 33, .int 0, .ref 34, .ref 35, .ref 36]))) (g36 : h[36]? = some (.inl (1, 3, .inl (fun _ => 0)))) : CT con0 d 0 0 yX1_clear cX1_clear 1 none [.ref 32] h (fun r h2 => r = none ∧ h2.length = h.length ∧ h2[32]? = some (.inr (1, [.int 0, .ref 33, .int 0, .ref 34, .ref 35, .ref 36])) ∧ h2[36]? = some (.inl (1, 3, .inl (upd (upd (upd (fun _ => 0) ((0 : Int32).toNatClampNeg) 1) ((1 : Int32).toNatClampNeg) 1) ((2 : Int32).toNatClampNeg) 1))) ∧ ∀ j : Nat, j ≠ 32 → j ≠ 36 → h2[j]? = h[j]?) := by
  refine CT_of (by decide) (Nat.le_of_ble_eq_true rfl) (fun x hq => ?_)
  show J x yX1_clear cX1_clear 1 none d 0 0 h.length 0 [(0, .ref 32)] [] h 0 0
  refine J_aload_n (i := 0) (j := 0) dX1_clear_0 rfl rfl ?_
  refine J_iconst (v := 0) dX1_clear_1 (by decide) ?_
  obtain ⟨h_1, e_2⟩ : ∃ z, z = h.set 32 (.inr (1, [.int 0, .ref 33, .int 0, .ref 34, .ref 35, .ref 36])) := ⟨_, rfl⟩
  refine J_put (C := RX1) (T := TX1) (Z := 6) (ci := 1) (f := 0) (ty0 := tyX1) dX1_clear_2 inG1 rfl tyX1_ok nmX1 (by decide) k130 rfl rfl g32 (Nat.le_of_ble_eq_true rfl) (fun _ _ => ⟨rfl, rfl⟩) e_2.symm ?_
  have f_3 := a_set e_2 g32
  have l_4 := l_set e_2 rfl
  refine J_aload_n (i := 0) (j := 0) dX1_clear_5 rfl rfl ?_
  refine J_iconst (v := 0) dX1_clear_6 (by decide) ?_
  obtain ⟨h_5, e_6⟩ : ∃ z, z = h_1.set 32 (.inr (1, [.int 0, .ref 33, .int 0, .ref 34, .ref 35, .ref 36])) := ⟨_, rfl⟩
  refine J_put (C := RX1) (T := TX1) (Z := 6) (ci := 1) (f := 2) (ty0 := tyX1) dX1_clear_7 inG1 rfl tyX1_ok nmX1 (by decide) k138 rfl rfl f_3 (Nat.le_of_ble_eq_true rfl) (fun _ _ => ⟨rfl, rfl⟩) e_6.symm ?_
  have f_7 := a_set e_6 f_3
  have l_8 := l_set e_6 l_4
  refine J_aload_n (i := 0) (j := 0) dX1_clear_10 rfl rfl ?_
  refine J_get (C := RX1) (T := TX1) (Z := 6) (ci := 1) (f := 5) dX1_clear_11 inG1 rfl (by decide) k145 f_7 rfl ?_
  refine J_iconst (v := 1) dX1_clear_14 (by decide) ?_
  have f_9 : h_1[36]? = some (.inl (1, 3, .inl (fun _ => 0))) := (s_ne e_2 (by decide)).trans g36
  have f_10 : h_5[36]? = some (.inl (1, 3, .inl (fun _ => 0))) := (s_ne e_6 (by decide)).trans f_9
  refine J_callS (As := [.ref 36, .int 1]) (rest := []) dX1_clear_15 (c_J7_fill_53178_s2 (d := 0) (h := h_5) (by decide) f_10) hq.n k482 k483 k98 k484 np_J7_fill_53178 (Nat.le_trans (by decide) hd) (by decide) (Nat.le_refl _) (Nat.le_refl _) (hkz l_8) rfl (Nat.le_of_ble_eq_true rfl) (fun r_11 h_12 p_13 => ?_)
  obtain ⟨rfl, l_14, f_15, r_16⟩ := p_13
  have l_17 := l_14.trans l_8
  have f_18 : h_12[32]? = some (.inr (1, [.int 0, .ref 33, .int 0, .ref 34, .ref 35, .ref 36])) := (r_16 32 (by decide)).trans f_7
  exact J_vret hq dX1_clear_18 rfl (hkz l_17) (Nat.le_refl _) (Nat.le_refl _) ⟨rfl, l_17, f_18, f_15, fun j q32 q36 => (((r_16 j q36)).trans (s_ne e_6 q32)).trans (s_ne e_2 q32)⟩
set_option maxHeartbeats 4000000 in
set_option maxRecDepth 100000 in
theorem c_X8_clear_s2 {d : Nat} {h : List MC}  (hd : 0 ≤ d) (g37 : h[37]? = some (.inr (8, [.int 0, .ref 38, .ref 39, .ref 40]))) : CT con0 d 0 0 yX8_clear cX8_clear 1 none [.ref 37] h (fun r h2 => r = none ∧ h2.length = h.length ∧ h2[37]? = some (.inr (8, [.int 0, .ref 38, .ref 39, .ref 40])) ∧ ∀ j : Nat, j ≠ 37 → h2[j]? = h[j]?) := by
  refine CT_of (by decide) (Nat.le_of_ble_eq_true rfl) (fun x hq => ?_)
  show J x yX8_clear cX8_clear 1 none d 0 0 h.length 0 [(0, .ref 37)] [] h 0 0
  refine J_aload_n (i := 0) (j := 0) dX8_clear_0 rfl rfl ?_
  refine J_iconst (v := 0) dX8_clear_1 (by decide) ?_
  obtain ⟨h_1, e_2⟩ : ∃ z, z = h.set 37 (.inr (8, [.int 0, .ref 38, .ref 39, .ref 40])) := ⟨_, rfl⟩
  refine J_put (C := RX8) (T := TX8) (Z := 4) (ci := 8) (f := 0) (ty0 := tyX8) dX8_clear_2 inG8 rfl tyX8_ok nmX8 (by decide) k168 rfl rfl g37 (Nat.le_of_ble_eq_true rfl) (fun _ _ => ⟨rfl, rfl⟩) e_2.symm ?_
  have f_3 := a_set e_2 g37
  have l_4 := l_set e_2 rfl
  exact J_vret hq dX8_clear_5 rfl (hkz l_4) (Nat.le_refl _) (Nat.le_refl _) ⟨rfl, l_4, f_3, fun j q37 => (s_ne e_2 q37)⟩
set_option maxHeartbeats 4000000 in
set_option maxRecDepth 100000 in
theorem c_X6_begin_s2 {d : Nat} {h : List MC}  (hd : 1 ≤ d) (g30 : h[30]? = some (.inr (6, [.ref 31, .int 0, .int 0, .int 0, .int 0, .int 0]))) (g2 : h[2]? = some (.inl (0, 600, .inl (fun _ => 0)))) : CT con0 d 0 0 yX6_begin cX6_begin 3 none [.ref 30, .ref 2, .int 0] h (fun r h2 => r = none ∧ h2.length = h.length ∧ h2[30]? = some (.inr (6, [.ref 2, .int 0, .int 0, .int 0, .int 0, .int 0])) ∧ ∀ j : Nat, j ≠ 30 → h2[j]? = h[j]?) := by
  refine CT_of (by decide) (Nat.le_of_ble_eq_true rfl) (fun x hq => ?_)
  show J x yX6_begin cX6_begin 3 none d 0 0 h.length 0 [(0, .ref 30), (1, .ref 2), (2, .int 0)] [] h 0 0
  refine J_aload_n (i := 0) (j := 0) dX6_begin_0 rfl rfl ?_
  refine J_aload_n (i := 1) (j := 1) dX6_begin_1 rfl rfl ?_
  obtain ⟨h_1, e_2⟩ : ∃ z, z = h.set 30 (.inr (6, [.ref 2, .int 0, .int 0, .int 0, .int 0, .int 0])) := ⟨_, rfl⟩
  refine J_put (C := RX6) (T := TX6) (Z := 6) (ci := 6) (f := 0) (ty0 := tyX6) dX6_begin_2 inG6 rfl tyX6_ok nmX6 (by decide) k232 rfl rfl g30 (Nat.le_of_ble_eq_true rfl) (fun _ _ => ⟨rfl, rfl⟩) e_2.symm ?_
  have f_3 := a_set e_2 g30
  have l_4 := l_set e_2 rfl
  refine J_aload_n (i := 0) (j := 0) dX6_begin_5 rfl rfl ?_
  refine J_iload_n (i := 2) (j := 2) dX6_begin_6 rfl rfl ?_
  refine J_aload_n (i := 1) (j := 1) dX6_begin_7 rfl rfl ?_
  have f_5 : h_1[2]? = some (.inl (0, 600, .inl (fun _ => 0))) := (s_ne e_2 (by decide)).trans g2
  refine J_alen dX6_begin_8 f_5 (fun _ => rfl) ?_
  refine J_ci (v := 600) (by decide) ?_
  refine J_mmin dX6_begin_9 k493 k494 k99 k495 (Nat.le_trans (by decide) hd) (Nat.le_of_ble_eq_true rfl) (Nat.zero_le _) (Nat.zero_le _) ?_
  refine J_ci (v := 0) (by decide) ?_
  obtain ⟨h_6, e_7⟩ : ∃ z, z = h_1.set 30 (.inr (6, [.ref 2, .int 0, .int 0, .int 0, .int 0, .int 0])) := ⟨_, rfl⟩
  refine J_put (C := RX6) (T := TX6) (Z := 6) (ci := 6) (f := 1) (ty0 := tyX6) dX6_begin_12 inG6 rfl tyX6_ok nmX6 (by decide) k233 rfl rfl f_3 (Nat.le_of_ble_eq_true rfl) (fun _ _ => ⟨rfl, rfl⟩) e_7.symm ?_
  have f_8 := a_set e_7 f_3
  have l_9 := l_set e_7 l_4
  refine J_aload_n (i := 0) (j := 0) dX6_begin_15 rfl rfl ?_
  refine J_iconst (v := 0) dX6_begin_16 (by decide) ?_
  obtain ⟨h_10, e_11⟩ : ∃ z, z = h_6.set 30 (.inr (6, [.ref 2, .int 0, .int 0, .int 0, .int 0, .int 0])) := ⟨_, rfl⟩
  refine J_put (C := RX6) (T := TX6) (Z := 6) (ci := 6) (f := 2) (ty0 := tyX6) dX6_begin_17 inG6 rfl tyX6_ok nmX6 (by decide) k235 rfl rfl f_8 (Nat.le_of_ble_eq_true rfl) (fun _ _ => ⟨rfl, rfl⟩) e_11.symm ?_
  have f_12 := a_set e_11 f_8
  have l_13 := l_set e_11 l_9
  exact J_vret hq dX6_begin_20 rfl (hkz l_13) (Nat.le_refl _) (Nat.le_refl _) ⟨rfl, l_13, f_12, fun j q30 => (((s_ne e_11 q30)).trans (s_ne e_7 q30)).trans (s_ne e_2 q30)⟩
set_option maxHeartbeats 4000000 in
set_option maxRecDepth 100000 in
theorem c_X6_advance_s2 {d : Nat} {h : List MC}  (hd : 0 ≤ d) (g30 : h[30]? = some (.inr (6, [.ref 2, .int 0, .int 0, .int 0, .int 0, .int 0]))) : CT con0 d 0 0 yX6_advance cX6_advance 1 none [.ref 30] h (fun r h2 => r = none ∧ h2.length = h.length ∧ h2[30]? = some (.inr (6, [.ref 2, .int 0, .int 0, .int 0, .int 0, .int 0])) ∧ ∀ j : Nat, j ≠ 30 → h2[j]? = h[j]?) := by
  refine CT_of (by decide) (Nat.le_of_ble_eq_true rfl) (fun x hq => ?_)
  show J x yX6_advance cX6_advance 1 none d 0 0 h.length 0 [(0, .ref 30)] [] h 0 0
  refine J_aload_n (i := 0) (j := 0) dX6_advance_0 rfl rfl ?_
  refine J_get (C := RX6) (T := TX6) (Z := 6) (ci := 6) (f := 2) dX6_advance_1 inG6 rfl (by decide) k235 g30 rfl ?_
  refine J_aload_n (i := 0) (j := 0) dX6_advance_4 rfl rfl ?_
  refine J_get (C := RX6) (T := TX6) (Z := 6) (ci := 6) (f := 1) dX6_advance_5 inG6 rfl (by decide) k233 g30 rfl ?_
  refine J_icmp_ge (tgt := 39) dX6_advance_8 (by decide) (fun _ => ?_) (fun q => absurd (by decide) q)
  refine J_aload_n (i := 0) (j := 0) dX6_advance_39 rfl rfl ?_
  refine J_aload_n (i := 0) (j := 0) dX6_advance_40 rfl rfl ?_
  refine J_get (C := RX6) (T := TX6) (Z := 6) (ci := 6) (f := 2) dX6_advance_41 inG6 rfl (by decide) k235 g30 rfl ?_
  obtain ⟨h_1, e_2⟩ : ∃ z, z = h.set 30 (.inr (6, [.ref 2, .int 0, .int 0, .int 0, .int 0, .int 0])) := ⟨_, rfl⟩
  refine J_put (C := RX6) (T := TX6) (Z := 6) (ci := 6) (f := 4) (ty0 := tyX6) dX6_advance_44 inG6 rfl tyX6_ok nmX6 (by decide) k238 rfl rfl g30 (Nat.le_of_ble_eq_true rfl) (fun _ _ => ⟨rfl, rfl⟩) e_2.symm ?_
  have f_3 := a_set e_2 g30
  have l_4 := l_set e_2 rfl
  refine J_aload_n (i := 0) (j := 0) dX6_advance_47 rfl rfl ?_
  refine J_get (C := RX6) (T := TX6) (Z := 6) (ci := 6) (f := 4) dX6_advance_48 inG6 rfl (by decide) k238 f_3 rfl ?_
  refine J_aload_n (i := 0) (j := 0) dX6_advance_51 rfl rfl ?_
  refine J_get (C := RX6) (T := TX6) (Z := 6) (ci := 6) (f := 1) dX6_advance_52 inG6 rfl (by decide) k233 f_3 rfl ?_
  refine J_icmp_lt (tgt := 66) dX6_advance_55 (by decide) (fun q => absurd q (by decide)) (fun _ => ?_)
  refine J_aload_n (i := 0) (j := 0) dX6_advance_58 rfl rfl ?_
  refine J_iconst (v := 0) dX6_advance_59 (by decide) ?_
  obtain ⟨h_5, e_6⟩ : ∃ z, z = h_1.set 30 (.inr (6, [.ref 2, .int 0, .int 0, .int 0, .int 0, .int 0])) := ⟨_, rfl⟩
  refine J_put (C := RX6) (T := TX6) (Z := 6) (ci := 6) (f := 3) (ty0 := tyX6) dX6_advance_60 inG6 rfl tyX6_ok nmX6 (by decide) k236 rfl rfl f_3 (Nat.le_of_ble_eq_true rfl) (fun _ _ => ⟨rfl, rfl⟩) e_6.symm ?_
  have f_7 := a_set e_6 f_3
  have l_8 := l_set e_6 l_4
  refine J_goto (tgt := 143) dX6_advance_63 (by decide) ?_
  exact J_vret hq dX6_advance_143 rfl (hkz l_8) (Nat.le_refl _) (Nat.le_refl _) ⟨rfl, l_8, f_7, fun j q30 => ((s_ne e_6 q30)).trans (s_ne e_2 q30)⟩
set_option maxHeartbeats 4000000 in
set_option maxRecDepth 100000 in
theorem c_X3_readLine_s2 {d : Nat} {h : List MC}  (hd : 1 ≤ d) (g29 : h[29]? = some (.inr (3, [.ref 30, .ref 32, .ref 37, .ref 41, .ref 42, .int 0, .int (-1)]))) (g30 : h[30]? = some (.inr (6, [.ref 2, .int 0, .int 0, .int 0, .int 0, .int 0]))) : CT con0 d 0 0 yX3_readLine cX3_readLine 6 (some .boolean) [.ref 29, .int 1] h (fun r h2 => r = some (.int 0) ∧ h2.length = h.length ∧ h2[30]? = some (.inr (6, [.ref 2, .int 0, .int 0, .int 0, .int 0, .int 0])) ∧ ∀ j : Nat, j ≠ 30 → h2[j]? = h[j]?) := by
  refine CT_of (by decide) (Nat.le_of_ble_eq_true rfl) (fun x hq => ?_)
  show J x yX3_readLine cX3_readLine 6 (some .boolean) d 0 0 h.length 0 [(0, .ref 29), (1, .int 1)] [] h 0 0
  refine J_aload_n (i := 0) (j := 0) dX3_readLine_0 rfl rfl ?_
  refine J_get (C := RX3) (T := TX3) (Z := 7) (ci := 3) (f := 0) dX3_readLine_1 inG3 rfl (by decide) k260 g29 rfl ?_
  refine J_callV (As := []) (rest := []) dX3_readLine_4 (c_X6_advance_s2 (d := 0) (h := h) (by decide) g30) hq.n k500 k501 k502 g30 rfl rfl k92 k503 np_X6_advance (Nat.le_trans (by decide) hd) (by decide) (Nat.le_refl _) (Nat.le_refl _) (hkz rfl) rfl (Nat.le_of_ble_eq_true rfl) (fun r_1 h_2 p_3 => ?_)
  obtain ⟨rfl, l_4, f_5, r_6⟩ := p_3
  have l_7 := l_4.trans rfl
  refine J_aload_n (i := 0) (j := 0) dX3_readLine_7 rfl rfl ?_
  have f_8 : h_2[29]? = some (.inr (3, [.ref 30, .ref 32, .ref 37, .ref 41, .ref 42, .int 0, .int (-1)])) := (r_6 29 (by decide)).trans g29
  refine J_get (C := RX3) (T := TX3) (Z := 7) (ci := 3) (f := 0) dX3_readLine_8 inG3 rfl (by decide) k260 f_8 rfl ?_
  refine J_getN (C := RX6) (T := TX6) (Z := 6) (ci := 6) (f := 3) dX3_readLine_11 inG6 rfl (by decide) k237 f_5 rfl ?_
  refine J_if_ne (tgt := 19) dX3_readLine_14 (by decide) (fun q => absurd (by decide) q) (fun _ => ?_)
  refine J_iconst (v := 0) dX3_readLine_17 (by decide) ?_
  exact J_zret hq dX3_readLine_18 rfl rfl (hkz l_7) (Nat.le_refl _) (Nat.le_refl _) ⟨rfl, l_7, f_5, fun j q30 => (r_6 j q30)⟩
set_option maxHeartbeats 4000000 in
set_option maxRecDepth 100000 in
theorem c_X3_read_s2 {d : Nat} {h : List MC}  (hd : 2 ≤ d) (g29 : h[29]? = some (.inr (3, [.ref 30, .ref 32, .ref 37, .ref 41, .ref 42, .int 0, .int (-1)]))) (g32 : h[32]? = some (.inr (1, [.int 0, .ref 33, .int 0, .ref 34, .ref 35, .ref 36]))) (g36 : h[36]? = some (.inl (1, 3, .inl (fun _ => 0)))) (g37 : h[37]? = some (.inr (8, [.int 0, .ref 38, .ref 39, .ref 40]))) (g30 : h[30]? = some (.inr (6, [.ref 31, .int 0, .int 0, .int 0, .int 0, .int 0]))) (g2 : h[2]? = some (.inl (0, 600, .inl (fun _ => 0)))) : CT con0 d 0 0 yX3_read cX3_read 6 none [.ref 29, .ref 2, .int 0, .int 1] h (fun r h2 => r = none ∧ h2.length = h.length ∧ h2[29]? = some (.inr (3, [.ref 30, .ref 32, .ref 37, .ref 41, .ref 42, .int 0, .int (-1)])) ∧ h2[32]? = some (.inr (1, [.int 0, .ref 33, .int 0, .ref 34, .ref 35, .ref 36])) ∧ h2[36]? = some (.inl (1, 3, .inl (upd (upd (upd (fun _ => 0) ((0 : Int32).toNatClampNeg) 1) ((1 : Int32).toNatClampNeg) 1) ((2 : Int32).toNatClampNeg) 1))) ∧ h2[37]? = some (.inr (8, [.int 0, .ref 38, .ref 39, .ref 40])) ∧ h2[30]? = some (.inr (6, [.ref 2, .int 0, .int 0, .int 0, .int 0, .int 0])) ∧ ∀ j : Nat, j ≠ 29 → j ≠ 32 → j ≠ 36 → j ≠ 37 → j ≠ 30 → h2[j]? = h[j]?) := by
  refine CT_of (by decide) (Nat.le_of_ble_eq_true rfl) (fun x hq => ?_)
  show J x yX3_read cX3_read 6 none d 0 0 h.length 0 [(0, .ref 29), (1, .ref 2), (2, .int 0), (3, .int 1)] [] h 0 0
  refine J_aload_n (i := 0) (j := 0) dX3_read_0 rfl rfl ?_
  refine J_iconst (v := 0) dX3_read_1 (by decide) ?_
  obtain ⟨h_1, e_2⟩ : ∃ z, z = h.set 29 (.inr (3, [.ref 30, .ref 32, .ref 37, .ref 41, .ref 42, .int 0, .int (-1)])) := ⟨_, rfl⟩
  refine J_put (C := RX3) (T := TX3) (Z := 7) (ci := 3) (f := 5) (ty0 := tyX3) dX3_read_2 inG3 rfl tyX3_ok nmX3 (by decide) k267 rfl rfl g29 (Nat.le_of_ble_eq_true rfl) (fun _ _ => ⟨rfl, rfl⟩) e_2.symm ?_
  have f_3 := a_set e_2 g29
  have l_4 := l_set e_2 rfl
  refine J_aload_n (i := 0) (j := 0) dX3_read_5 rfl rfl ?_
  refine J_iconst (v := (-1)) dX3_read_6 (by decide) ?_
  obtain ⟨h_5, e_6⟩ : ∃ z, z = h_1.set 29 (.inr (3, [.ref 30, .ref 32, .ref 37, .ref 41, .ref 42, .int 0, .int (-1)])) := ⟨_, rfl⟩
  refine J_put (C := RX3) (T := TX3) (Z := 7) (ci := 3) (f := 6) (ty0 := tyX3) dX3_read_7 inG3 rfl tyX3_ok nmX3 (by decide) k269 rfl rfl f_3 (Nat.le_of_ble_eq_true rfl) (fun _ _ => ⟨rfl, rfl⟩) e_6.symm ?_
  have f_7 := a_set e_6 f_3
  have l_8 := l_set e_6 l_4
  refine J_aload_n (i := 0) (j := 0) dX3_read_10 rfl rfl ?_
  refine J_get (C := RX3) (T := TX3) (Z := 7) (ci := 3) (f := 1) dX3_read_11 inG3 rfl (by decide) k261 f_7 rfl ?_
  have f_9 : h_1[32]? = some (.inr (1, [.int 0, .ref 33, .int 0, .ref 34, .ref 35, .ref 36])) := (s_ne e_2 (by decide)).trans g32
  have f_10 : h_5[32]? = some (.inr (1, [.int 0, .ref 33, .int 0, .ref 34, .ref 35, .ref 36])) := (s_ne e_6 (by decide)).trans f_9
  have f_11 : h_1[36]? = some (.inl (1, 3, .inl (fun _ => 0))) := (s_ne e_2 (by decide)).trans g36
  have f_12 : h_5[36]? = some (.inl (1, 3, .inl (fun _ => 0))) := (s_ne e_6 (by decide)).trans f_11
  refine J_callV (As := []) (rest := []) dX3_read_14 (c_X1_clear_s2 (d := 1) (h := h_5) (by decide) f_10 f_12) hq.n k478 k479 k480 f_10 rfl rfl k89 k481 np_X1_clear (Nat.le_trans (by decide) hd) (by decide) (Nat.le_refl _) (Nat.le_refl _) (hkz l_8) rfl (Nat.le_of_ble_eq_true rfl) (fun r_13 h_14 p_15 => ?_)
  obtain ⟨rfl, l_16, f_17, f_18, r_19⟩ := p_15
  have l_20 := l_16.trans l_8
  refine J_aload_n (i := 0) (j := 0) dX3_read_17 rfl rfl ?_
  have f_21 : h_14[29]? = some (.inr (3, [.ref 30, .ref 32, .ref 37, .ref 41, .ref 42, .int 0, .int (-1)])) := (r_19 29 (by decide) (by decide)).trans f_7
  refine J_get (C := RX3) (T := TX3) (Z := 7) (ci := 3) (f := 2) dX3_read_18 inG3 rfl (by decide) k263 f_21 rfl ?_
  have f_22 : h_1[37]? = some (.inr (8, [.int 0, .ref 38, .ref 39, .ref 40])) := (s_ne e_2 (by decide)).trans g37
  have f_23 : h_5[37]? = some (.inr (8, [.int 0, .ref 38, .ref 39, .ref 40])) := (s_ne e_6 (by decide)).trans f_22
  have f_24 : h_14[37]? = some (.inr (8, [.int 0, .ref 38, .ref 39, .ref 40])) := (r_19 37 (by decide) (by decide)).trans f_23
  refine J_callV (As := []) (rest := []) dX3_read_21 (c_X8_clear_s2 (d := 0) (h := h_14) (by decide) f_24) hq.n k485 k486 k487 f_24 rfl rfl k90 k488 np_X8_clear (Nat.le_trans (by decide) hd) (by decide) (Nat.le_refl _) (Nat.le_refl _) (hkz l_20) rfl (Nat.le_of_ble_eq_true rfl) (fun r_25 h_26 p_27 => ?_)
  obtain ⟨rfl, l_28, f_29, r_30⟩ := p_27
  have l_31 := l_28.trans l_20
  refine J_aload_n (i := 0) (j := 0) dX3_read_24 rfl rfl ?_
  have f_32 : h_26[29]? = some (.inr (3, [.ref 30, .ref 32, .ref 37, .ref 41, .ref 42, .int 0, .int (-1)])) := (r_30 29 (by decide)).trans f_21
  refine J_get (C := RX3) (T := TX3) (Z := 7) (ci := 3) (f := 0) dX3_read_25 inG3 rfl (by decide) k260 f_32 rfl ?_
  refine J_aload_n (i := 1) (j := 1) dX3_read_28 rfl rfl ?_
  refine J_iload_n (i := 2) (j := 2) dX3_read_29 rfl rfl ?_
  have f_33 : h_1[30]? = some (.inr (6, [.ref 31, .int 0, .int 0, .int 0, .int 0, .int 0])) := (s_ne e_2 (by decide)).trans g30
  have f_34 : h_5[30]? = some (.inr (6, [.ref 31, .int 0, .int 0, .int 0, .int 0, .int 0])) := (s_ne e_6 (by decide)).trans f_33
  have f_35 : h_14[30]? = some (.inr (6, [.ref 31, .int 0, .int 0, .int 0, .int 0, .int 0])) := (r_19 30 (by decide) (by decide)).trans f_34
  have f_36 : h_26[30]? = some (.inr (6, [.ref 31, .int 0, .int 0, .int 0, .int 0, .int 0])) := (r_30 30 (by decide)).trans f_35
  have f_37 : h_1[2]? = some (.inl (0, 600, .inl (fun _ => 0))) := (s_ne e_2 (by decide)).trans g2
  have f_38 : h_5[2]? = some (.inl (0, 600, .inl (fun _ => 0))) := (s_ne e_6 (by decide)).trans f_37
  have f_39 : h_14[2]? = some (.inl (0, 600, .inl (fun _ => 0))) := (r_19 2 (by decide) (by decide)).trans f_38
  have f_40 : h_26[2]? = some (.inl (0, 600, .inl (fun _ => 0))) := (r_30 2 (by decide)).trans f_39
  refine J_callV (As := [.ref 2, .int 0]) (rest := []) dX3_read_30 (c_X6_begin_s2 (d := 1) (h := h_26) (by decide) f_36 f_40) hq.n k489 k490 k491 f_36 rfl rfl k92 k492 np_X6_begin (Nat.le_trans (by decide) hd) (by decide) (Nat.le_refl _) (Nat.le_refl _) (hkz l_31) rfl (Nat.le_of_ble_eq_true rfl) (fun r_41 h_42 p_43 => ?_)
  obtain ⟨rfl, l_44, f_45, r_46⟩ := p_43
  have l_47 := l_44.trans l_31
  refine J_iconst (v := 1) dX3_read_33 (by decide) ?_
  refine J_istore (i := 4) (lw := [(4, .int 1), (0, .ref 29), (1, .ref 2), (2, .int 0), (3, .int 1)]) dX3_read_34 (by decide) rfl ?_
  refine J_iconst (v := 0) dX3_read_36 (by decide) ?_
  refine J_istore (i := 5) (lw := [(5, .int 0), (4, .int 1), (0, .ref 29), (1, .ref 2), (2, .int 0), (3, .int 1)]) dX3_read_37 (by decide) rfl ?_
  refine J_iload (i := 5) (j := 0) dX3_read_39 rfl ?_
  refine J_sipush (v := 600) dX3_read_41 (by decide) ?_
  refine J_icmp_gt (tgt := 65) dX3_read_44 (by decide) (fun q => absurd q (by decide)) (fun _ => ?_)
  refine J_iload (i := 4) (j := 1) dX3_read_47 rfl ?_
  refine J_if_eq (tgt := 65) dX3_read_49 (by decide) (fun q => absurd q (by decide)) (fun _ => ?_)
  refine J_aload_n (i := 0) (j := 2) dX3_read_52 rfl rfl ?_
  refine J_iload_n (i := 3) (j := 5) dX3_read_53 rfl rfl ?_
  have f_48 : h_42[29]? = some (.inr (3, [.ref 30, .ref 32, .ref 37, .ref 41, .ref 42, .int 0, .int (-1)])) := (r_46 29 (by decide)).trans f_32
  refine J_callV (As := [.int 1]) (rest := []) dX3_read_54 (c_X3_readLine_s2 (d := 1) (h := h_42) (by decide) f_48 f_45) hq.n k496 k498 k0 f_48 rfl rfl k91 k499 np_X3_readLine (Nat.le_trans (by decide) hd) (by decide) (Nat.le_refl _) (Nat.le_refl _) (hkz l_47) rfl (Nat.le_of_ble_eq_true rfl) (fun r_49 h_50 p_51 => ?_)
  obtain ⟨rfl, l_52, f_53, r_54⟩ := p_51
  have l_55 := l_52.trans l_47
  refine J_istore (i := 4) (lw := [(4, .int 0), (5, .int 0), (0, .ref 29), (1, .ref 2), (2, .int 0), (3, .int 1)]) dX3_read_57 (by decide) rfl ?_
  refine J_iinc (i := 5) (j := 1) (v := 1) (lw := [(5, .int 1), (4, .int 0), (0, .ref 29), (1, .ref 2), (2, .int 0), (3, .int 1)]) dX3_read_59 rfl (by decide) (by decide) rfl ?_
  refine J_goto (tgt := 39) dX3_read_62 (by decide) ?_
  refine J_iload (i := 5) (j := 0) dX3_read_39 rfl ?_
  refine J_sipush (v := 600) dX3_read_41 (by decide) ?_
  refine J_icmp_gt (tgt := 65) dX3_read_44 (by decide) (fun q => absurd q (by decide)) (fun _ => ?_)
  refine J_iload (i := 4) (j := 1) dX3_read_47 rfl ?_
  refine J_if_eq (tgt := 65) dX3_read_49 (by decide) (fun _ => ?_) (fun q => absurd (by decide) q)
  refine J_iload_n (i := 3) (j := 5) dX3_read_65 rfl rfl ?_
  refine J_if_ne (tgt := 80) dX3_read_66 (by decide) (fun _ => ?_) (fun q => absurd q (by decide))
  have f_56 : h_50[29]? = some (.inr (3, [.ref 30, .ref 32, .ref 37, .ref 41, .ref 42, .int 0, .int (-1)])) := (r_54 29 (by decide)).trans f_48
  have f_57 : h_26[32]? = some (.inr (1, [.int 0, .ref 33, .int 0, .ref 34, .ref 35, .ref 36])) := (r_30 32 (by decide)).trans f_17
  have f_58 : h_42[32]? = some (.inr (1, [.int 0, .ref 33, .int 0, .ref 34, .ref 35, .ref 36])) := (r_46 32 (by decide)).trans f_57
  have f_59 : h_50[32]? = some (.inr (1, [.int 0, .ref 33, .int 0, .ref 34, .ref 35, .ref 36])) := (r_54 32 (by decide)).trans f_58
  have f_60 : h_26[36]? = some (.inl (1, 3, .inl (upd (upd (upd (fun _ => 0) ((0 : Int32).toNatClampNeg) 1) ((1 : Int32).toNatClampNeg) 1) ((2 : Int32).toNatClampNeg) 1))) := (r_30 36 (by decide)).trans f_18
  have f_61 : h_42[36]? = some (.inl (1, 3, .inl (upd (upd (upd (fun _ => 0) ((0 : Int32).toNatClampNeg) 1) ((1 : Int32).toNatClampNeg) 1) ((2 : Int32).toNatClampNeg) 1))) := (r_46 36 (by decide)).trans f_60
  have f_62 : h_50[36]? = some (.inl (1, 3, .inl (upd (upd (upd (fun _ => 0) ((0 : Int32).toNatClampNeg) 1) ((1 : Int32).toNatClampNeg) 1) ((2 : Int32).toNatClampNeg) 1))) := (r_54 36 (by decide)).trans f_61
  have f_63 : h_42[37]? = some (.inr (8, [.int 0, .ref 38, .ref 39, .ref 40])) := (r_46 37 (by decide)).trans f_29
  have f_64 : h_50[37]? = some (.inr (8, [.int 0, .ref 38, .ref 39, .ref 40])) := (r_54 37 (by decide)).trans f_63
  exact J_vret hq dX3_read_80 rfl (hkz l_55) (Nat.le_refl _) (Nat.le_refl _) ⟨rfl, l_55, f_56, f_59, f_62, f_64, f_53, fun j q29 q32 q36 q37 q30 => ((((((r_54 j q30)).trans (r_46 j q30)).trans (r_30 j q37)).trans (r_19 j q32 q36)).trans (s_ne e_6 q29)).trans (s_ne e_2 q29)⟩
set_option maxHeartbeats 4000000 in
set_option maxRecDepth 100000 in
theorem c_X8_copy_s1 {d : Nat} {h : List MC}  (hd : 1 ≤ d) (g37 : h[37]? = some (.inr (8, [.int 0, .ref 38, .ref 39, .ref 40]))) (g15 : h[15]? = some (.inr (8, [.int 0, .ref 16, .ref 17, .ref 18]))) (g38 : h[38]? = some (.inl (1, 12, .inl (fun _ => 0)))) (g16 : h[16]? = some (.inl (1, 12, .inl (fun _ => 0)))) (g39 : h[39]? = some (.inl (1, 12, .inl (fun _ => 0)))) (g17 : h[17]? = some (.inl (1, 12, .inl (fun _ => 0)))) (g40 : h[40]? = some (.inl (1, 12, .inl (fun _ => 0)))) (g18 : h[18]? = some (.inl (1, 12, .inl (fun _ => 0)))) : CT con0 d 0 0 yX8_copy cX8_copy 2 none [.ref 15, .ref 37] h (fun r h2 => r = none ∧ h2.length = h.length ∧ h2[15]? = some (.inr (8, [.int 0, .ref 16, .ref 17, .ref 18])) ∧ h2[16]? = some (.inl (1, 12, .inl (va_cpy (fun _ => 0) (fun _ => 0) (0 : Int32).toNatClampNeg (0 : Int32).toNatClampNeg (12 : Int32).toNatClampNeg))) ∧ h2[17]? = some (.inl (1, 12, .inl (va_cpy (fun _ => 0) (fun _ => 0) (0 : Int32).toNatClampNeg (0 : Int32).toNatClampNeg (12 : Int32).toNatClampNeg))) ∧ h2[18]? = some (.inl (1, 12, .inl (va_cpy (fun _ => 0) (fun _ => 0) (0 : Int32).toNatClampNeg (0 : Int32).toNatClampNeg (12 : Int32).toNatClampNeg))) ∧ ∀ j : Nat, j ≠ 15 → j ≠ 16 → j ≠ 17 → j ≠ 18 → h2[j]? = h[j]?) := by
  refine CT_of (by decide) (Nat.le_of_ble_eq_true rfl) (fun x hq => ?_)
  show J x yX8_copy cX8_copy 2 none d 0 0 h.length 0 [(0, .ref 15), (1, .ref 37)] [] h 0 0
  refine J_aload_n (i := 0) (j := 0) dX8_copy_0 rfl rfl ?_
  refine J_aload_n (i := 1) (j := 1) dX8_copy_1 rfl rfl ?_
  refine J_get (C := RX8) (T := TX8) (Z := 4) (ci := 8) (f := 0) dX8_copy_2 inG8 rfl (by decide) k168 g37 rfl ?_
  obtain ⟨h_1, e_2⟩ : ∃ z, z = h.set 15 (.inr (8, [.int 0, .ref 16, .ref 17, .ref 18])) := ⟨_, rfl⟩
  refine J_put (C := RX8) (T := TX8) (Z := 4) (ci := 8) (f := 0) (ty0 := tyX8) dX8_copy_5 inG8 rfl tyX8_ok nmX8 (by decide) k168 rfl rfl g15 (Nat.le_of_ble_eq_true rfl) (fun _ _ => ⟨rfl, rfl⟩) e_2.symm ?_
  have f_3 := a_set e_2 g15
  have l_4 := l_set e_2 rfl
  refine J_aload_n (i := 1) (j := 1) dX8_copy_8 rfl rfl ?_
  have f_5 : h_1[37]? = some (.inr (8, [.int 0, .ref 38, .ref 39, .ref 40])) := (s_ne e_2 (by decide)).trans g37
  refine J_get (C := RX8) (T := TX8) (Z := 4) (ci := 8) (f := 1) dX8_copy_9 inG8 rfl (by decide) k171 f_5 rfl ?_
  refine J_iconst (v := 0) dX8_copy_12 (by decide) ?_
  refine J_aload_n (i := 0) (j := 0) dX8_copy_13 rfl rfl ?_
  refine J_get (C := RX8) (T := TX8) (Z := 4) (ci := 8) (f := 1) dX8_copy_14 inG8 rfl (by decide) k171 f_3 rfl ?_
  refine J_iconst (v := 0) dX8_copy_17 (by decide) ?_
  refine J_bipush (v := 12) dX8_copy_18 (by decide) ?_
  have f_6 : h_1[38]? = some (.inl (1, 12, .inl (fun _ => 0))) := (s_ne e_2 (by decide)).trans g38
  have f_7 : h_1[16]? = some (.inl (1, 12, .inl (fun _ => 0))) := (s_ne e_2 (by decide)).trans g16
  obtain ⟨h_8, e_9⟩ : ∃ z, z = h_1.set 16 (.inl (1, 12, .inl (va_cpy (fun _ => 0) (fun _ => 0) (0 : Int32).toNatClampNeg (0 : Int32).toNatClampNeg (12 : Int32).toNatClampNeg))) := ⟨_, rfl⟩
  refine J_copyi (sp := 0) (dp := 0) (nn := 12) dX8_copy_20 k694 k686 k685 k104 f_6 f_7 (by decide) (by decide) (by decide) (by decide) (by decide) (Nat.le_trans (by decide) hd) (Nat.le_of_ble_eq_true rfl) e_9.symm ?_
  have f_10 := a_set e_9 f_7
  have l_11 := l_set e_9 l_4
  refine J_aload_n (i := 1) (j := 1) dX8_copy_23 rfl rfl ?_
  have f_12 : h_8[37]? = some (.inr (8, [.int 0, .ref 38, .ref 39, .ref 40])) := (s_ne e_9 (by decide)).trans f_5
  refine J_get (C := RX8) (T := TX8) (Z := 4) (ci := 8) (f := 2) dX8_copy_24 inG8 rfl (by decide) k173 f_12 rfl ?_
  refine J_iconst (v := 0) dX8_copy_27 (by decide) ?_
  refine J_aload_n (i := 0) (j := 0) dX8_copy_28 rfl rfl ?_
  have f_13 : h_8[15]? = some (.inr (8, [.int 0, .ref 16, .ref 17, .ref 18])) := (s_ne e_9 (by decide)).trans f_3
  refine J_get (C := RX8) (T := TX8) (Z := 4) (ci := 8) (f := 2) dX8_copy_29 inG8 rfl (by decide) k173 f_13 rfl ?_
  refine J_iconst (v := 0) dX8_copy_32 (by decide) ?_
  refine J_bipush (v := 12) dX8_copy_33 (by decide) ?_
  have f_14 : h_1[39]? = some (.inl (1, 12, .inl (fun _ => 0))) := (s_ne e_2 (by decide)).trans g39
  have f_15 : h_8[39]? = some (.inl (1, 12, .inl (fun _ => 0))) := (s_ne e_9 (by decide)).trans f_14
  have f_16 : h_1[17]? = some (.inl (1, 12, .inl (fun _ => 0))) := (s_ne e_2 (by decide)).trans g17
  have f_17 : h_8[17]? = some (.inl (1, 12, .inl (fun _ => 0))) := (s_ne e_9 (by decide)).trans f_16
  obtain ⟨h_18, e_19⟩ : ∃ z, z = h_8.set 17 (.inl (1, 12, .inl (va_cpy (fun _ => 0) (fun _ => 0) (0 : Int32).toNatClampNeg (0 : Int32).toNatClampNeg (12 : Int32).toNatClampNeg))) := ⟨_, rfl⟩
  refine J_copyi (sp := 0) (dp := 0) (nn := 12) dX8_copy_35 k694 k686 k685 k104 f_15 f_17 (by decide) (by decide) (by decide) (by decide) (by decide) (Nat.le_trans (by decide) hd) (Nat.le_of_ble_eq_true rfl) e_19.symm ?_
  have f_20 := a_set e_19 f_17
  have l_21 := l_set e_19 l_11
  refine J_aload_n (i := 1) (j := 1) dX8_copy_38 rfl rfl ?_
  have f_22 : h_18[37]? = some (.inr (8, [.int 0, .ref 38, .ref 39, .ref 40])) := (s_ne e_19 (by decide)).trans f_12
  refine J_get (C := RX8) (T := TX8) (Z := 4) (ci := 8) (f := 3) dX8_copy_39 inG8 rfl (by decide) k175 f_22 rfl ?_
  refine J_iconst (v := 0) dX8_copy_42 (by decide) ?_
  refine J_aload_n (i := 0) (j := 0) dX8_copy_43 rfl rfl ?_
  have f_23 : h_18[15]? = some (.inr (8, [.int 0, .ref 16, .ref 17, .ref 18])) := (s_ne e_19 (by decide)).trans f_13
  refine J_get (C := RX8) (T := TX8) (Z := 4) (ci := 8) (f := 3) dX8_copy_44 inG8 rfl (by decide) k175 f_23 rfl ?_
  refine J_iconst (v := 0) dX8_copy_47 (by decide) ?_
  refine J_bipush (v := 12) dX8_copy_48 (by decide) ?_
  have f_24 : h_1[40]? = some (.inl (1, 12, .inl (fun _ => 0))) := (s_ne e_2 (by decide)).trans g40
  have f_25 : h_8[40]? = some (.inl (1, 12, .inl (fun _ => 0))) := (s_ne e_9 (by decide)).trans f_24
  have f_26 : h_18[40]? = some (.inl (1, 12, .inl (fun _ => 0))) := (s_ne e_19 (by decide)).trans f_25
  have f_27 : h_1[18]? = some (.inl (1, 12, .inl (fun _ => 0))) := (s_ne e_2 (by decide)).trans g18
  have f_28 : h_8[18]? = some (.inl (1, 12, .inl (fun _ => 0))) := (s_ne e_9 (by decide)).trans f_27
  have f_29 : h_18[18]? = some (.inl (1, 12, .inl (fun _ => 0))) := (s_ne e_19 (by decide)).trans f_28
  obtain ⟨h_30, e_31⟩ : ∃ z, z = h_18.set 18 (.inl (1, 12, .inl (va_cpy (fun _ => 0) (fun _ => 0) (0 : Int32).toNatClampNeg (0 : Int32).toNatClampNeg (12 : Int32).toNatClampNeg))) := ⟨_, rfl⟩
  refine J_copyi (sp := 0) (dp := 0) (nn := 12) dX8_copy_50 k694 k686 k685 k104 f_26 f_29 (by decide) (by decide) (by decide) (by decide) (by decide) (Nat.le_trans (by decide) hd) (Nat.le_of_ble_eq_true rfl) e_31.symm ?_
  have f_32 := a_set e_31 f_29
  have l_33 := l_set e_31 l_21
  have f_34 : h_30[15]? = some (.inr (8, [.int 0, .ref 16, .ref 17, .ref 18])) := (s_ne e_31 (by decide)).trans f_23
  have f_35 : h_18[16]? = some (.inl (1, 12, .inl (va_cpy (fun _ => 0) (fun _ => 0) (0 : Int32).toNatClampNeg (0 : Int32).toNatClampNeg (12 : Int32).toNatClampNeg))) := (s_ne e_19 (by decide)).trans f_10
  have f_36 : h_30[16]? = some (.inl (1, 12, .inl (va_cpy (fun _ => 0) (fun _ => 0) (0 : Int32).toNatClampNeg (0 : Int32).toNatClampNeg (12 : Int32).toNatClampNeg))) := (s_ne e_31 (by decide)).trans f_35
  have f_37 : h_30[17]? = some (.inl (1, 12, .inl (va_cpy (fun _ => 0) (fun _ => 0) (0 : Int32).toNatClampNeg (0 : Int32).toNatClampNeg (12 : Int32).toNatClampNeg))) := (s_ne e_31 (by decide)).trans f_20
  exact J_vret hq dX8_copy_53 rfl (hkz l_33) (Nat.le_refl _) (Nat.le_refl _) ⟨rfl, l_33, f_34, f_36, f_37, f_32, fun j q15 q16 q17 q18 => ((((s_ne e_31 q18)).trans (s_ne e_19 q17)).trans (s_ne e_9 q16)).trans (s_ne e_2 q15)⟩
set_option maxHeartbeats 4000000 in
set_option maxRecDepth 100000 in
theorem c_X7_keep_s2 {d : Nat} {h : List MC}  (hd : 2 ≤ d) (g1 : h[1]? = some (.inr (7, [.ref 2, .int 0, .int 0, .int (-1), .ref 3, .int 0, .ref 4, .int 0]))) (g4 : h[4]? = some (.inl (6, 3, .inr (.inr (va_up (va_up (va_up (fun _ => none) ((0 : Int32).toNatClampNeg) (some (15))) ((1 : Int32).toNatClampNeg) (some (19))) ((2 : Int32).toNatClampNeg) (some (23))))))) (g29 : h[29]? = some (.inr (3, [.ref 30, .ref 32, .ref 37, .ref 41, .ref 42, .int 0, .int (-1)]))) (g37 : h[37]? = some (.inr (8, [.int 0, .ref 38, .ref 39, .ref 40]))) (g15 : h[15]? = some (.inr (8, [.int 0, .ref 16, .ref 17, .ref 18]))) (g38 : h[38]? = some (.inl (1, 12, .inl (fun _ => 0)))) (g16 : h[16]? = some (.inl (1, 12, .inl (fun _ => 0)))) (g39 : h[39]? = some (.inl (1, 12, .inl (fun _ => 0)))) (g17 : h[17]? = some (.inl (1, 12, .inl (fun _ => 0)))) (g40 : h[40]? = some (.inl (1, 12, .inl (fun _ => 0)))) (g18 : h[18]? = some (.inl (1, 12, .inl (fun _ => 0)))) : CT con0 d 0 0 yX7_keep cX7_keep 4 none [.ref 1, .int 1, .int 0, .ref 29] h (fun r h2 => r = none ∧ h2.length = h.length ∧ h2[15]? = some (.inr (8, [.int 0, .ref 16, .ref 17, .ref 18])) ∧ h2[16]? = some (.inl (1, 12, .inl (va_cpy (fun _ => 0) (fun _ => 0) (0 : Int32).toNatClampNeg (0 : Int32).toNatClampNeg (12 : Int32).toNatClampNeg))) ∧ h2[17]? = some (.inl (1, 12, .inl (va_cpy (fun _ => 0) (fun _ => 0) (0 : Int32).toNatClampNeg (0 : Int32).toNatClampNeg (12 : Int32).toNatClampNeg))) ∧ h2[18]? = some (.inl (1, 12, .inl (va_cpy (fun _ => 0) (fun _ => 0) (0 : Int32).toNatClampNeg (0 : Int32).toNatClampNeg (12 : Int32).toNatClampNeg))) ∧ h2[1]? = some (.inr (7, [.ref 2, .int 0, .int 0, .int (-1), .ref 3, .int 0, .ref 4, .int 1])) ∧ ∀ j : Nat, j ≠ 15 → j ≠ 16 → j ≠ 17 → j ≠ 18 → j ≠ 1 → h2[j]? = h[j]?) := by
  refine CT_of (by decide) (Nat.le_of_ble_eq_true rfl) (fun x hq => ?_)
  show J x yX7_keep cX7_keep 4 none d 0 0 h.length 0 [(0, .ref 1), (1, .int 1), (2, .int 0), (3, .ref 29)] [] h 0 0
  refine J_iload_n (i := 1) (j := 1) dX7_keep_0 rfl rfl ?_
  refine J_if_ne (tgt := 34) dX7_keep_1 (by decide) (fun _ => ?_) (fun q => absurd q (by decide))
  refine J_aload_n (i := 0) (j := 0) dX7_keep_34 rfl rfl ?_
  refine J_get (C := RX7) (T := TX7) (Z := 8) (ci := 7) (f := 6) dX7_keep_35 inG7 rfl (by decide) k198 g1 rfl ?_
  refine J_iload_n (i := 2) (j := 2) dX7_keep_38 rfl rfl ?_
  refine J_aald (q := 15) dX7_keep_39 g4 (fun _ => rfl) (vp_c (by decide)) rfl ?_
  refine J_aload_n (i := 3) (j := 3) dX7_keep_40 rfl rfl ?_
  refine J_getN (C := RX3) (T := TX3) (Z := 7) (ci := 3) (f := 2) dX7_keep_41 inG3 rfl (by decide) k264 g29 rfl ?_
  refine J_callV (As := [.ref 37]) (rest := []) dX7_keep_44 (c_X8_copy_s1 (d := 1) (h := h) (by decide) g37 g15 g38 g16 g39 g17 g40 g18) hq.n k690 k691 k692 g15 rfl rfl k90 k693 np_X8_copy (Nat.le_trans (by decide) hd) (by decide) (Nat.le_refl _) (Nat.le_refl _) (hkz rfl) rfl (Nat.le_of_ble_eq_true rfl) (fun r_1 h_2 p_3 => ?_)
  obtain ⟨rfl, l_4, f_5, f_6, f_7, f_8, r_9⟩ := p_3
  have l_10 := l_4.trans rfl
  refine J_aload_n (i := 0) (j := 0) dX7_keep_47 rfl rfl ?_
  refine J_aload_n (i := 0) (j := 0) dX7_keep_48 rfl rfl ?_
  have f_11 : h_2[1]? = some (.inr (7, [.ref 2, .int 0, .int 0, .int (-1), .ref 3, .int 0, .ref 4, .int 0])) := (r_9 1 (by decide) (by decide) (by decide) (by decide)).trans g1
  refine J_get (C := RX7) (T := TX7) (Z := 8) (ci := 7) (f := 7) dX7_keep_49 inG7 rfl (by decide) k200 f_11 rfl ?_
  refine J_iload_n (i := 2) (j := 2) dX7_keep_52 rfl rfl ?_
  refine J_iconst (v := 1) dX7_keep_53 (by decide) ?_
  refine J_iadd dX7_keep_54 ?_
  refine J_ci (v := 1) (by decide) ?_
  refine J_mmax dX7_keep_55 k687 k688 k99 k689 (Nat.le_trans (by decide) hd) (Nat.le_of_ble_eq_true rfl) (Nat.zero_le _) (Nat.zero_le _) ?_
  refine J_ci (v := 1) (by decide) ?_
  obtain ⟨h_12, e_13⟩ : ∃ z, z = h_2.set 1 (.inr (7, [.ref 2, .int 0, .int 0, .int (-1), .ref 3, .int 0, .ref 4, .int 1])) := ⟨_, rfl⟩
  refine J_put (C := RX7) (T := TX7) (Z := 8) (ci := 7) (f := 7) (ty0 := tyX7) dX7_keep_58 inG7 rfl tyX7_ok nmX7 (by decide) k200 rfl rfl f_11 (Nat.le_of_ble_eq_true rfl) (fun _ _ => ⟨rfl, rfl⟩) e_13.symm ?_
  have f_14 := a_set e_13 f_11
  have l_15 := l_set e_13 l_10
  have f_16 : h_12[15]? = some (.inr (8, [.int 0, .ref 16, .ref 17, .ref 18])) := (s_ne e_13 (by decide)).trans f_5
  have f_17 : h_12[16]? = some (.inl (1, 12, .inl (va_cpy (fun _ => 0) (fun _ => 0) (0 : Int32).toNatClampNeg (0 : Int32).toNatClampNeg (12 : Int32).toNatClampNeg))) := (s_ne e_13 (by decide)).trans f_6
  have f_18 : h_12[17]? = some (.inl (1, 12, .inl (va_cpy (fun _ => 0) (fun _ => 0) (0 : Int32).toNatClampNeg (0 : Int32).toNatClampNeg (12 : Int32).toNatClampNeg))) := (s_ne e_13 (by decide)).trans f_7
  have f_19 : h_12[18]? = some (.inl (1, 12, .inl (va_cpy (fun _ => 0) (fun _ => 0) (0 : Int32).toNatClampNeg (0 : Int32).toNatClampNeg (12 : Int32).toNatClampNeg))) := (s_ne e_13 (by decide)).trans f_8
  exact J_vret hq dX7_keep_61 rfl (hkz l_15) (Nat.le_refl _) (Nat.le_refl _) ⟨rfl, l_15, f_16, f_17, f_18, f_19, f_14, fun j q15 q16 q17 q18 q1 => ((s_ne e_13 q1)).trans (r_9 j q15 q16 q17 q18)⟩
set_option maxHeartbeats 4000000 in
set_option maxRecDepth 100000 in
theorem c_X10_text0 {d : Nat} {h : List MC} {a0 a1 : Int32} (hd : 8 ≤ d) (h0 : h[0]? = some (.inr (10, [.ref 1, .ref 27, .ref 28, .ref 29, .ref 43, .ref 49, .ref 53, .ref 56, .ref 57, .ref 79]))) (h1 : h[1]? = some (.inr (7, [.ref 2, .int 0, .int 0, .int (-1), .ref 3, .int 0, .ref 4, .int 0]))) (g2 : h[2]? = some (.inl (0, 600, .inl (fun _ => 0)))) (g3 : h[3]? = some (.inl (4, 2, .inr (.inr (va_up (va_up (fun _ => none) ((0 : Int32).toNatClampNeg) (some (5))) ((1 : Int32).toNatClampNeg) (some (10))))))) (g4 : h[4]? = some (.inl (6, 3, .inr (.inr (va_up (va_up (va_up (fun _ => none) ((0 : Int32).toNatClampNeg) (some (15))) ((1 : Int32).toNatClampNeg) (some (19))) ((2 : Int32).toNatClampNeg) (some (23))))))) (g5 : h[5]? = some (.inr (1, [.int 0, .ref 6, .int 0, .ref 7, .ref 8, .ref 9]))) (g6 : h[6]? = some (.inl (1, 144, .inl (fun _ => 0)))) (g7 : h[7]? = some (.inl (1, 4, .inl (fun _ => 0)))) (g8 : h[8]? = some (.inl (1, 4, .inl (fun _ => 0)))) (g9 : h[9]? = some (.inl (1, 3, .inl (fun _ => 0)))) (g15 : h[15]? = some (.inr (8, [.int 0, .ref 16, .ref 17, .ref 18]))) (g16 : h[16]? = some (.inl (1, 12, .inl (fun _ => 0)))) (g17 : h[17]? = some (.inl (1, 12, .inl (fun _ => 0)))) (g18 : h[18]? = some (.inl (1, 12, .inl (fun _ => 0)))) (g29 : h[29]? = some (.inr (3, [.ref 30, .ref 32, .ref 37, .ref 41, .ref 42, .int 0, .int (-1)]))) (g30 : h[30]? = some (.inr (6, [.ref 31, .int 0, .int 0, .int 0, .int 0, .int 0]))) (g31 : h[31]? = some (.inl (0, 0, .inl (fun _ => 0)))) (g32 : h[32]? = some (.inr (1, [.int 0, .ref 33, .int 0, .ref 34, .ref 35, .ref 36]))) (g33 : h[33]? = some (.inl (1, 144, .inl (fun _ => 0)))) (g34 : h[34]? = some (.inl (1, 4, .inl (fun _ => 0)))) (g35 : h[35]? = some (.inl (1, 4, .inl (fun _ => 0)))) (g36 : h[36]? = some (.inl (1, 3, .inl (fun _ => 0)))) (g37 : h[37]? = some (.inr (8, [.int 0, .ref 38, .ref 39, .ref 40]))) (g38 : h[38]? = some (.inl (1, 12, .inl (fun _ => 0)))) (g39 : h[39]? = some (.inl (1, 12, .inl (fun _ => 0)))) (g40 : h[40]? = some (.inl (1, 12, .inl (fun _ => 0)))) (g41 : h[41]? = some (.inl (1, 3, .inl (fun _ => 0)))) (g42 : h[42]? = some (.inl (1, 3, .inl (fun _ => 0))))  : CT con0 d 0 0 yX10_text cX10_text 5 (some .int) [.ref 0, .int a0, .int a1] h (fun r h2 => r = some (.int (TV a0 a1)) ∧ FX h h2) := by
  refine CT_of (by decide) (Nat.le_of_ble_eq_true rfl) (fun x hq => ?_)
  show J x yX10_text cX10_text 5 (some .int) d 0 0 h.length 0 [(0, .ref 0), (1, .int a0), (2, .int a1)] [] h 0 0
  by_cases cs0 : a0 = 0
  · subst cs0
    by_cases csa : a1 = -1
    · subst csa
      refine J_aload_n (i := 0) (j := 0) dX10_text_0 rfl rfl ?_
      refine J_get (C := RX10) (T := TX10) (Z := 10) (ci := 10) (f := 0) dX10_text_1 inG10 rfl (by decide) k423 h0 rfl ?_
      refine J_getN (C := RX7) (T := TX7) (Z := 8) (ci := 7) (f := 1) dX10_text_4 inG7 rfl (by decide) k189 h1 rfl ?_
      refine J_istore_n (i := 3) (lw := [(3, .int 0), (0, .ref 0), (1, .int 0), (2, .int (-1))]) dX10_text_7 rfl (by decide) rfl ?_
      refine J_aload_n (i := 0) (j := 1) dX10_text_8 rfl rfl ?_
      refine J_get (C := RX10) (T := TX10) (Z := 10) (ci := 10) (f := 0) dX10_text_9 inG10 rfl (by decide) k423 h0 rfl ?_
      refine J_iconst (v := 0) dX10_text_12 (by decide) ?_
      obtain ⟨h_1, e_2⟩ : ∃ z, z = h.set 1 (.inr (7, [.ref 2, .int 0, .int 0, .int (-1), .ref 3, .int 0, .ref 4, .int 0])) := ⟨_, rfl⟩
      refine J_putN (C := RX7) (T := TX7) (Z := 8) (ci := 7) (f := 1) (ty0 := tyX7) dX10_text_13 inG7 rfl tyX7_ok nmX7 (by decide) k189 rfl rfl h1 (Nat.le_of_ble_eq_true rfl) (fun _ _ => ⟨rfl, rfl⟩) e_2.symm ?_
      have f_3 := a_set e_2 h1
      have l_4 := l_set e_2 rfl
      refine J_aload_n (i := 0) (j := 1) dX10_text_16 rfl rfl ?_
      have f_5 : h_1[0]? = some (.inr (10, [.ref 1, .ref 27, .ref 28, .ref 29, .ref 43, .ref 49, .ref 53, .ref 56, .ref 57, .ref 79])) := (s_ne e_2 (by decide)).trans h0
      refine J_get (C := RX10) (T := TX10) (Z := 10) (ci := 10) (f := 0) dX10_text_17 inG10 rfl (by decide) k423 f_5 rfl ?_
      refine J_iconst (v := 0) dX10_text_20 (by decide) ?_
      obtain ⟨h_6, e_7⟩ : ∃ z, z = h_1.set 1 (.inr (7, [.ref 2, .int 0, .int 0, .int (-1), .ref 3, .int 0, .ref 4, .int 0])) := ⟨_, rfl⟩
      refine J_putN (C := RX7) (T := TX7) (Z := 8) (ci := 7) (f := 2) (ty0 := tyX7) dX10_text_21 inG7 rfl tyX7_ok nmX7 (by decide) k191 rfl rfl f_3 (Nat.le_of_ble_eq_true rfl) (fun _ _ => ⟨rfl, rfl⟩) e_7.symm ?_
      have f_8 := a_set e_7 f_3
      have l_9 := l_set e_7 l_4
      refine J_aload_n (i := 0) (j := 1) dX10_text_24 rfl rfl ?_
      have f_10 : h_6[0]? = some (.inr (10, [.ref 1, .ref 27, .ref 28, .ref 29, .ref 43, .ref 49, .ref 53, .ref 56, .ref 57, .ref 79])) := (s_ne e_7 (by decide)).trans f_5
      refine J_get (C := RX10) (T := TX10) (Z := 10) (ci := 10) (f := 0) dX10_text_25 inG10 rfl (by decide) k423 f_10 rfl ?_
      refine J_iconst (v := (-1)) dX10_text_28 (by decide) ?_
      obtain ⟨h_11, e_12⟩ : ∃ z, z = h_6.set 1 (.inr (7, [.ref 2, .int 0, .int 0, .int (-1), .ref 3, .int 0, .ref 4, .int 0])) := ⟨_, rfl⟩
      refine J_putN (C := RX7) (T := TX7) (Z := 8) (ci := 7) (f := 3) (ty0 := tyX7) dX10_text_29 inG7 rfl tyX7_ok nmX7 (by decide) k193 rfl rfl f_8 (Nat.le_of_ble_eq_true rfl) (fun _ _ => ⟨rfl, rfl⟩) e_12.symm ?_
      have f_13 := a_set e_12 f_8
      have l_14 := l_set e_12 l_9
      refine J_aload_n (i := 0) (j := 1) dX10_text_32 rfl rfl ?_
      have f_15 : h_11[0]? = some (.inr (10, [.ref 1, .ref 27, .ref 28, .ref 29, .ref 43, .ref 49, .ref 53, .ref 56, .ref 57, .ref 79])) := (s_ne e_12 (by decide)).trans f_10
      refine J_get (C := RX10) (T := TX10) (Z := 10) (ci := 10) (f := 0) dX10_text_33 inG10 rfl (by decide) k423 f_15 rfl ?_
      refine J_iload_n (i := 1) (j := 2) dX10_text_36 rfl rfl ?_
      refine J_iload_n (i := 2) (j := 3) dX10_text_37 rfl rfl ?_
      refine J_callV (As := [.int 0, .int (-1)]) (rest := []) dX10_text_38 (c_X7_numberFor_s1 (d := 0) (h := h_11) (by decide) f_13) hq.n k470 k471 k472 f_13 rfl rfl k88 k473 np_X7_numberFor (Nat.le_trans (by decide) hd) (by decide) (Nat.le_refl _) (Nat.le_refl _) (hkz l_14) rfl (Nat.le_of_ble_eq_true rfl) (fun r_16 h_17 p_18 => ?_)
      obtain ⟨rfl, l_19, r_20⟩ := p_18
      have l_21 := l_19.trans l_14
      refine J_istore (i := 4) (lw := [(4, .int 0), (3, .int 0), (0, .ref 0), (1, .int 0), (2, .int (-1))]) dX10_text_41 (by decide) rfl ?_
      refine J_iload (i := 4) (j := 0) dX10_text_43 rfl ?_
      refine J_iconst (v := (-1)) dX10_text_45 (by decide) ?_
      refine J_icmp_ne (tgt := 52) dX10_text_46 (by decide) (fun _ => ?_) (fun q => absurd q (by decide))
      refine J_aload_n (i := 0) (j := 2) dX10_text_52 rfl rfl ?_
      have f_22 : h_17[0]? = some (.inr (10, [.ref 1, .ref 27, .ref 28, .ref 29, .ref 43, .ref 49, .ref 53, .ref 56, .ref 57, .ref 79])) := (r_20 0 ).trans f_15
      refine J_get (C := RX10) (T := TX10) (Z := 10) (ci := 10) (f := 3) dX10_text_53 inG10 rfl (by decide) k426 f_22 rfl ?_
      refine J_aload_n (i := 0) (j := 2) dX10_text_56 rfl rfl ?_
      refine J_get (C := RX10) (T := TX10) (Z := 10) (ci := 10) (f := 0) dX10_text_57 inG10 rfl (by decide) k423 f_22 rfl ?_
      have f_23 : h_17[1]? = some (.inr (7, [.ref 2, .int 0, .int 0, .int (-1), .ref 3, .int 0, .ref 4, .int 0])) := (r_20 1 ).trans f_13
      refine J_getN (C := RX7) (T := TX7) (Z := 8) (ci := 7) (f := 0) dX10_text_60 inG7 rfl (by decide) k187 f_23 rfl ?_
      refine J_iload_n (i := 3) (j := 1) dX10_text_63 rfl rfl ?_
      refine J_iload_n (i := 1) (j := 3) dX10_text_64 rfl rfl ?_
      have f_24 : h_1[29]? = some (.inr (3, [.ref 30, .ref 32, .ref 37, .ref 41, .ref 42, .int 0, .int (-1)])) := (s_ne e_2 (by decide)).trans g29
      have f_25 : h_6[29]? = some (.inr (3, [.ref 30, .ref 32, .ref 37, .ref 41, .ref 42, .int 0, .int (-1)])) := (s_ne e_7 (by decide)).trans f_24
      have f_26 : h_11[29]? = some (.inr (3, [.ref 30, .ref 32, .ref 37, .ref 41, .ref 42, .int 0, .int (-1)])) := (s_ne e_12 (by decide)).trans f_25
      have f_27 : h_17[29]? = some (.inr (3, [.ref 30, .ref 32, .ref 37, .ref 41, .ref 42, .int 0, .int (-1)])) := (r_20 29 ).trans f_26
      have f_28 : h_1[32]? = some (.inr (1, [.int 0, .ref 33, .int 0, .ref 34, .ref 35, .ref 36])) := (s_ne e_2 (by decide)).trans g32
      have f_29 : h_6[32]? = some (.inr (1, [.int 0, .ref 33, .int 0, .ref 34, .ref 35, .ref 36])) := (s_ne e_7 (by decide)).trans f_28
      have f_30 : h_11[32]? = some (.inr (1, [.int 0, .ref 33, .int 0, .ref 34, .ref 35, .ref 36])) := (s_ne e_12 (by decide)).trans f_29
      have f_31 : h_17[32]? = some (.inr (1, [.int 0, .ref 33, .int 0, .ref 34, .ref 35, .ref 36])) := (r_20 32 ).trans f_30
      have f_32 : h_1[36]? = some (.inl (1, 3, .inl (fun _ => 0))) := (s_ne e_2 (by decide)).trans g36
      have f_33 : h_6[36]? = some (.inl (1, 3, .inl (fun _ => 0))) := (s_ne e_7 (by decide)).trans f_32
      have f_34 : h_11[36]? = some (.inl (1, 3, .inl (fun _ => 0))) := (s_ne e_12 (by decide)).trans f_33
      have f_35 : h_17[36]? = some (.inl (1, 3, .inl (fun _ => 0))) := (r_20 36 ).trans f_34
      have f_36 : h_1[37]? = some (.inr (8, [.int 0, .ref 38, .ref 39, .ref 40])) := (s_ne e_2 (by decide)).trans g37
      have f_37 : h_6[37]? = some (.inr (8, [.int 0, .ref 38, .ref 39, .ref 40])) := (s_ne e_7 (by decide)).trans f_36
      have f_38 : h_11[37]? = some (.inr (8, [.int 0, .ref 38, .ref 39, .ref 40])) := (s_ne e_12 (by decide)).trans f_37
      have f_39 : h_17[37]? = some (.inr (8, [.int 0, .ref 38, .ref 39, .ref 40])) := (r_20 37 ).trans f_38
      have f_40 : h_1[30]? = some (.inr (6, [.ref 31, .int 0, .int 0, .int 0, .int 0, .int 0])) := (s_ne e_2 (by decide)).trans g30
      have f_41 : h_6[30]? = some (.inr (6, [.ref 31, .int 0, .int 0, .int 0, .int 0, .int 0])) := (s_ne e_7 (by decide)).trans f_40
      have f_42 : h_11[30]? = some (.inr (6, [.ref 31, .int 0, .int 0, .int 0, .int 0, .int 0])) := (s_ne e_12 (by decide)).trans f_41
      have f_43 : h_17[30]? = some (.inr (6, [.ref 31, .int 0, .int 0, .int 0, .int 0, .int 0])) := (r_20 30 ).trans f_42
      have f_44 : h_1[2]? = some (.inl (0, 600, .inl (fun _ => 0))) := (s_ne e_2 (by decide)).trans g2
      have f_45 : h_6[2]? = some (.inl (0, 600, .inl (fun _ => 0))) := (s_ne e_7 (by decide)).trans f_44
      have f_46 : h_11[2]? = some (.inl (0, 600, .inl (fun _ => 0))) := (s_ne e_12 (by decide)).trans f_45
      have f_47 : h_17[2]? = some (.inl (0, 600, .inl (fun _ => 0))) := (r_20 2 ).trans f_46
      have f_48 : h_1[34]? = some (.inl (1, 4, .inl (fun _ => 0))) := (s_ne e_2 (by decide)).trans g34
      have f_49 : h_6[34]? = some (.inl (1, 4, .inl (fun _ => 0))) := (s_ne e_7 (by decide)).trans f_48
      have f_50 : h_11[34]? = some (.inl (1, 4, .inl (fun _ => 0))) := (s_ne e_12 (by decide)).trans f_49
      have f_51 : h_17[34]? = some (.inl (1, 4, .inl (fun _ => 0))) := (r_20 34 ).trans f_50
      have f_52 : h_1[35]? = some (.inl (1, 4, .inl (fun _ => 0))) := (s_ne e_2 (by decide)).trans g35
      have f_53 : h_6[35]? = some (.inl (1, 4, .inl (fun _ => 0))) := (s_ne e_7 (by decide)).trans f_52
      have f_54 : h_11[35]? = some (.inl (1, 4, .inl (fun _ => 0))) := (s_ne e_12 (by decide)).trans f_53
      have f_55 : h_17[35]? = some (.inl (1, 4, .inl (fun _ => 0))) := (r_20 35 ).trans f_54
      refine J_callV (As := [.ref 2, .int 0, .int 0]) (rest := []) dX10_text_65 (c_X3_read_s1 (d := 2) (h := h_17) (by decide) f_27 f_31 f_35 f_39 f_43 f_47 f_51 f_55) hq.n k474 k475 k476 f_27 rfl rfl k91 k477 np_X3_read (Nat.le_trans (by decide) hd) (by decide) (Nat.le_refl _) (Nat.le_refl _) (hkz l_21) rfl (Nat.le_of_ble_eq_true rfl) (fun r_56 h_57 p_58 => ?_)
      obtain ⟨rfl, l_59, f_60, f_61, f_62, f_63, f_64, f_65, f_66, r_67⟩ := p_58
      have l_68 := l_59.trans l_21
      refine J_aload_n (i := 0) (j := 2) dX10_text_68 rfl rfl ?_
      have f_69 : h_57[0]? = some (.inr (10, [.ref 1, .ref 27, .ref 28, .ref 29, .ref 43, .ref 49, .ref 53, .ref 56, .ref 57, .ref 79])) := (r_67 0 (by decide) (by decide) (by decide) (by decide) (by decide) (by decide) (by decide)).trans f_22
      refine J_get (C := RX10) (T := TX10) (Z := 10) (ci := 10) (f := 0) dX10_text_69 inG10 rfl (by decide) k423 f_69 rfl ?_
      refine J_aload_n (i := 0) (j := 2) dX10_text_72 rfl rfl ?_
      refine J_get (C := RX10) (T := TX10) (Z := 10) (ci := 10) (f := 3) dX10_text_73 inG10 rfl (by decide) k426 f_69 rfl ?_
      refine J_getN (C := RX3) (T := TX3) (Z := 7) (ci := 3) (f := 5) dX10_text_76 inG3 rfl (by decide) k268 f_60 rfl ?_
      have f_70 : h_57[1]? = some (.inr (7, [.ref 2, .int 0, .int 0, .int (-1), .ref 3, .int 0, .ref 4, .int 0])) := (r_67 1 (by decide) (by decide) (by decide) (by decide) (by decide) (by decide) (by decide)).trans f_23
      obtain ⟨h_71, e_72⟩ : ∃ z, z = h_57.set 1 (.inr (7, [.ref 2, .int 0, .int 0, .int (-1), .ref 3, .int 0, .ref 4, .int 0])) := ⟨_, rfl⟩
      refine J_putN (C := RX7) (T := TX7) (Z := 8) (ci := 7) (f := 2) (ty0 := tyX7) dX10_text_79 inG7 rfl tyX7_ok nmX7 (by decide) k191 rfl rfl f_70 (Nat.le_of_ble_eq_true rfl) (fun _ _ => ⟨rfl, rfl⟩) e_72.symm ?_
      have f_73 := a_set e_72 f_70
      have l_74 := l_set e_72 l_68
      refine J_aload_n (i := 0) (j := 2) dX10_text_82 rfl rfl ?_
      have f_75 : h_71[0]? = some (.inr (10, [.ref 1, .ref 27, .ref 28, .ref 29, .ref 43, .ref 49, .ref 53, .ref 56, .ref 57, .ref 79])) := (s_ne e_72 (by decide)).trans f_69
      refine J_get (C := RX10) (T := TX10) (Z := 10) (ci := 10) (f := 0) dX10_text_83 inG10 rfl (by decide) k423 f_75 rfl ?_
      refine J_aload_n (i := 0) (j := 2) dX10_text_86 rfl rfl ?_
      refine J_get (C := RX10) (T := TX10) (Z := 10) (ci := 10) (f := 3) dX10_text_87 inG10 rfl (by decide) k426 f_75 rfl ?_
      have f_76 : h_71[29]? = some (.inr (3, [.ref 30, .ref 32, .ref 37, .ref 41, .ref 42, .int 0, .int (-1)])) := (s_ne e_72 (by decide)).trans f_60
      refine J_getN (C := RX3) (T := TX3) (Z := 7) (ci := 3) (f := 6) dX10_text_90 inG3 rfl (by decide) k270 f_76 rfl ?_
      obtain ⟨h_77, e_78⟩ : ∃ z, z = h_71.set 1 (.inr (7, [.ref 2, .int 0, .int 0, .int (-1), .ref 3, .int 0, .ref 4, .int 0])) := ⟨_, rfl⟩
      refine J_putN (C := RX7) (T := TX7) (Z := 8) (ci := 7) (f := 3) (ty0 := tyX7) dX10_text_93 inG7 rfl tyX7_ok nmX7 (by decide) k193 rfl rfl f_73 (Nat.le_of_ble_eq_true rfl) (fun _ _ => ⟨rfl, rfl⟩) e_78.symm ?_
      have f_79 := a_set e_78 f_73
      have l_80 := l_set e_78 l_74
      refine J_aload_n (i := 0) (j := 2) dX10_text_96 rfl rfl ?_
      have f_81 : h_77[0]? = some (.inr (10, [.ref 1, .ref 27, .ref 28, .ref 29, .ref 43, .ref 49, .ref 53, .ref 56, .ref 57, .ref 79])) := (s_ne e_78 (by decide)).trans f_75
      refine J_get (C := RX10) (T := TX10) (Z := 10) (ci := 10) (f := 3) dX10_text_97 inG10 rfl (by decide) k426 f_81 rfl ?_
      have f_82 : h_77[29]? = some (.inr (3, [.ref 30, .ref 32, .ref 37, .ref 41, .ref 42, .int 0, .int (-1)])) := (s_ne e_78 (by decide)).trans f_76
      refine J_getN (C := RX3) (T := TX3) (Z := 7) (ci := 3) (f := 5) dX10_text_100 inG3 rfl (by decide) k268 f_82 rfl ?_
      refine J_if_eq (tgt := 108) dX10_text_103 (by decide) (fun _ => ?_) (fun q => absurd (by decide) q)
      refine J_aload_n (i := 0) (j := 2) dX10_text_108 rfl rfl ?_
      refine J_get (C := RX10) (T := TX10) (Z := 10) (ci := 10) (f := 0) dX10_text_109 inG10 rfl (by decide) k423 f_81 rfl ?_
      refine J_iload_n (i := 1) (j := 3) dX10_text_112 rfl rfl ?_
      refine J_iload (i := 4) (j := 0) dX10_text_113 rfl ?_
      refine J_aload_n (i := 0) (j := 2) dX10_text_115 rfl rfl ?_
      refine J_get (C := RX10) (T := TX10) (Z := 10) (ci := 10) (f := 3) dX10_text_116 inG10 rfl (by decide) k426 f_81 rfl ?_
      have f_83 : h_1[3]? = some (.inl (4, 2, .inr (.inr (va_up (va_up (fun _ => none) ((0 : Int32).toNatClampNeg) (some (5))) ((1 : Int32).toNatClampNeg) (some (10)))))) := (s_ne e_2 (by decide)).trans g3
      have f_84 : h_6[3]? = some (.inl (4, 2, .inr (.inr (va_up (va_up (fun _ => none) ((0 : Int32).toNatClampNeg) (some (5))) ((1 : Int32).toNatClampNeg) (some (10)))))) := (s_ne e_7 (by decide)).trans f_83
      have f_85 : h_11[3]? = some (.inl (4, 2, .inr (.inr (va_up (va_up (fun _ => none) ((0 : Int32).toNatClampNeg) (some (5))) ((1 : Int32).toNatClampNeg) (some (10)))))) := (s_ne e_12 (by decide)).trans f_84
      have f_86 : h_17[3]? = some (.inl (4, 2, .inr (.inr (va_up (va_up (fun _ => none) ((0 : Int32).toNatClampNeg) (some (5))) ((1 : Int32).toNatClampNeg) (some (10)))))) := (r_20 3 ).trans f_85
      have f_87 : h_57[3]? = some (.inl (4, 2, .inr (.inr (va_up (va_up (fun _ => none) ((0 : Int32).toNatClampNeg) (some (5))) ((1 : Int32).toNatClampNeg) (some (10)))))) := (r_67 3 (by decide) (by decide) (by decide) (by decide) (by decide) (by decide) (by decide)).trans f_86
      have f_88 : h_71[3]? = some (.inl (4, 2, .inr (.inr (va_up (va_up (fun _ => none) ((0 : Int32).toNatClampNeg) (some (5))) ((1 : Int32).toNatClampNeg) (some (10)))))) := (s_ne e_72 (by decide)).trans f_87
      have f_89 : h_77[3]? = some (.inl (4, 2, .inr (.inr (va_up (va_up (fun _ => none) ((0 : Int32).toNatClampNeg) (some (5))) ((1 : Int32).toNatClampNeg) (some (10)))))) := (s_ne e_78 (by decide)).trans f_88
      have f_90 : h_71[32]? = some (.inr (1, [.int 0, .ref 33, .int 1, .ref 34, .ref 35, .ref 36])) := (s_ne e_72 (by decide)).trans f_61
      have f_91 : h_77[32]? = some (.inr (1, [.int 0, .ref 33, .int 1, .ref 34, .ref 35, .ref 36])) := (s_ne e_78 (by decide)).trans f_90
      have f_92 : h_1[5]? = some (.inr (1, [.int 0, .ref 6, .int 0, .ref 7, .ref 8, .ref 9])) := (s_ne e_2 (by decide)).trans g5
      have f_93 : h_6[5]? = some (.inr (1, [.int 0, .ref 6, .int 0, .ref 7, .ref 8, .ref 9])) := (s_ne e_7 (by decide)).trans f_92
      have f_94 : h_11[5]? = some (.inr (1, [.int 0, .ref 6, .int 0, .ref 7, .ref 8, .ref 9])) := (s_ne e_12 (by decide)).trans f_93
      have f_95 : h_17[5]? = some (.inr (1, [.int 0, .ref 6, .int 0, .ref 7, .ref 8, .ref 9])) := (r_20 5 ).trans f_94
      have f_96 : h_57[5]? = some (.inr (1, [.int 0, .ref 6, .int 0, .ref 7, .ref 8, .ref 9])) := (r_67 5 (by decide) (by decide) (by decide) (by decide) (by decide) (by decide) (by decide)).trans f_95
      have f_97 : h_71[5]? = some (.inr (1, [.int 0, .ref 6, .int 0, .ref 7, .ref 8, .ref 9])) := (s_ne e_72 (by decide)).trans f_96
      have f_98 : h_77[5]? = some (.inr (1, [.int 0, .ref 6, .int 0, .ref 7, .ref 8, .ref 9])) := (s_ne e_78 (by decide)).trans f_97
      have f_99 : h_1[6]? = some (.inl (1, 144, .inl (fun _ => 0))) := (s_ne e_2 (by decide)).trans g6
      have f_100 : h_6[6]? = some (.inl (1, 144, .inl (fun _ => 0))) := (s_ne e_7 (by decide)).trans f_99
      have f_101 : h_11[6]? = some (.inl (1, 144, .inl (fun _ => 0))) := (s_ne e_12 (by decide)).trans f_100
      have f_102 : h_17[6]? = some (.inl (1, 144, .inl (fun _ => 0))) := (r_20 6 ).trans f_101
      have f_103 : h_57[6]? = some (.inl (1, 144, .inl (fun _ => 0))) := (r_67 6 (by decide) (by decide) (by decide) (by decide) (by decide) (by decide) (by decide)).trans f_102
      have f_104 : h_71[6]? = some (.inl (1, 144, .inl (fun _ => 0))) := (s_ne e_72 (by decide)).trans f_103
      have f_105 : h_77[6]? = some (.inl (1, 144, .inl (fun _ => 0))) := (s_ne e_78 (by decide)).trans f_104
      have f_106 : h_1[33]? = some (.inl (1, 144, .inl (fun _ => 0))) := (s_ne e_2 (by decide)).trans g33
      have f_107 : h_6[33]? = some (.inl (1, 144, .inl (fun _ => 0))) := (s_ne e_7 (by decide)).trans f_106
      have f_108 : h_11[33]? = some (.inl (1, 144, .inl (fun _ => 0))) := (s_ne e_12 (by decide)).trans f_107
      have f_109 : h_17[33]? = some (.inl (1, 144, .inl (fun _ => 0))) := (r_20 33 ).trans f_108
      have f_110 : h_57[33]? = some (.inl (1, 144, .inl (fun _ => 0))) := (r_67 33 (by decide) (by decide) (by decide) (by decide) (by decide) (by decide) (by decide)).trans f_109
      have f_111 : h_71[33]? = some (.inl (1, 144, .inl (fun _ => 0))) := (s_ne e_72 (by decide)).trans f_110
      have f_112 : h_77[33]? = some (.inl (1, 144, .inl (fun _ => 0))) := (s_ne e_78 (by decide)).trans f_111
      have f_113 : h_71[34]? = some (.inl (1, 4, .inl (upd (fun _ => 0) ((0 : Int32).toNatClampNeg) 0))) := (s_ne e_72 (by decide)).trans f_65
      have f_114 : h_77[34]? = some (.inl (1, 4, .inl (upd (fun _ => 0) ((0 : Int32).toNatClampNeg) 0))) := (s_ne e_78 (by decide)).trans f_113
      have f_115 : h_1[7]? = some (.inl (1, 4, .inl (fun _ => 0))) := (s_ne e_2 (by decide)).trans g7
      have f_116 : h_6[7]? = some (.inl (1, 4, .inl (fun _ => 0))) := (s_ne e_7 (by decide)).trans f_115
      have f_117 : h_11[7]? = some (.inl (1, 4, .inl (fun _ => 0))) := (s_ne e_12 (by decide)).trans f_116
      have f_118 : h_17[7]? = some (.inl (1, 4, .inl (fun _ => 0))) := (r_20 7 ).trans f_117
      have f_119 : h_57[7]? = some (.inl (1, 4, .inl (fun _ => 0))) := (r_67 7 (by decide) (by decide) (by decide) (by decide) (by decide) (by decide) (by decide)).trans f_118
      have f_120 : h_71[7]? = some (.inl (1, 4, .inl (fun _ => 0))) := (s_ne e_72 (by decide)).trans f_119
      have f_121 : h_77[7]? = some (.inl (1, 4, .inl (fun _ => 0))) := (s_ne e_78 (by decide)).trans f_120
      have f_122 : h_71[35]? = some (.inl (1, 4, .inl (upd (fun _ => 0) ((0 : Int32).toNatClampNeg) 100))) := (s_ne e_72 (by decide)).trans f_66
      have f_123 : h_77[35]? = some (.inl (1, 4, .inl (upd (fun _ => 0) ((0 : Int32).toNatClampNeg) 100))) := (s_ne e_78 (by decide)).trans f_122
      have f_124 : h_1[8]? = some (.inl (1, 4, .inl (fun _ => 0))) := (s_ne e_2 (by decide)).trans g8
      have f_125 : h_6[8]? = some (.inl (1, 4, .inl (fun _ => 0))) := (s_ne e_7 (by decide)).trans f_124
      have f_126 : h_11[8]? = some (.inl (1, 4, .inl (fun _ => 0))) := (s_ne e_12 (by decide)).trans f_125
      have f_127 : h_17[8]? = some (.inl (1, 4, .inl (fun _ => 0))) := (r_20 8 ).trans f_126
      have f_128 : h_57[8]? = some (.inl (1, 4, .inl (fun _ => 0))) := (r_67 8 (by decide) (by decide) (by decide) (by decide) (by decide) (by decide) (by decide)).trans f_127
      have f_129 : h_71[8]? = some (.inl (1, 4, .inl (fun _ => 0))) := (s_ne e_72 (by decide)).trans f_128
      have f_130 : h_77[8]? = some (.inl (1, 4, .inl (fun _ => 0))) := (s_ne e_78 (by decide)).trans f_129
      have f_131 : h_1[9]? = some (.inl (1, 3, .inl (fun _ => 0))) := (s_ne e_2 (by decide)).trans g9
      have f_132 : h_6[9]? = some (.inl (1, 3, .inl (fun _ => 0))) := (s_ne e_7 (by decide)).trans f_131
      have f_133 : h_11[9]? = some (.inl (1, 3, .inl (fun _ => 0))) := (s_ne e_12 (by decide)).trans f_132
      have f_134 : h_17[9]? = some (.inl (1, 3, .inl (fun _ => 0))) := (r_20 9 ).trans f_133
      have f_135 : h_57[9]? = some (.inl (1, 3, .inl (fun _ => 0))) := (r_67 9 (by decide) (by decide) (by decide) (by decide) (by decide) (by decide) (by decide)).trans f_134
      have f_136 : h_71[9]? = some (.inl (1, 3, .inl (fun _ => 0))) := (s_ne e_72 (by decide)).trans f_135
      have f_137 : h_77[9]? = some (.inl (1, 3, .inl (fun _ => 0))) := (s_ne e_78 (by decide)).trans f_136
      have f_138 : h_71[36]? = some (.inl (1, 3, .inl (upd (upd (upd (fun _ => 0) ((0 : Int32).toNatClampNeg) 1) ((1 : Int32).toNatClampNeg) 1) ((2 : Int32).toNatClampNeg) 1))) := (s_ne e_72 (by decide)).trans f_62
      have f_139 : h_77[36]? = some (.inl (1, 3, .inl (upd (upd (upd (fun _ => 0) ((0 : Int32).toNatClampNeg) 1) ((1 : Int32).toNatClampNeg) 1) ((2 : Int32).toNatClampNeg) 1))) := (s_ne e_78 (by decide)).trans f_138
      refine J_callV (As := [.int 0, .int 0, .ref 29]) (rest := []) dX10_text_119 (c_X7_keep_s1 (d := 2) (h := h_77) (by decide) f_79 f_89 f_82 f_91 f_98 f_105 f_112 f_114 f_121 f_123 f_130 f_137 f_139) hq.n k676 k677 k678 f_79 rfl rfl k88 k679 np_X7_keep (Nat.le_trans (by decide) hd) (by decide) (Nat.le_refl _) (Nat.le_refl _) (hkz l_80) rfl (Nat.le_of_ble_eq_true rfl) (fun r_140 h_141 p_142 => ?_)
      obtain ⟨rfl, l_143, f_144, f_145, f_146, f_147, f_148, f_149, r_150⟩ := p_142
      have l_151 := l_143.trans l_80
      refine J_iload (i := 4) (j := 0) dX10_text_122 rfl ?_
      exact J_iret hq dX10_text_124 rfl (hkz l_151) (Nat.le_refl _) (Nat.le_refl _) ⟨rfl, ⟨l_151, fun j hj => ((((((((r_150 j (by omega) (by omega) (by omega) (by omega) (by omega) (by omega))).trans (s_ne e_78 (by omega))).trans (s_ne e_72 (by omega))).trans (r_67 j (by omega) (by omega) (by omega) (by omega) (by omega) (by omega) (by omega))).trans (r_20 j )).trans (s_ne e_12 (by omega))).trans (s_ne e_7 (by omega))).trans (s_ne e_2 (by omega))⟩⟩
    · refine J_aload_n (i := 0) (j := 0) dX10_text_0 rfl rfl ?_
      refine J_get (C := RX10) (T := TX10) (Z := 10) (ci := 10) (f := 0) dX10_text_1 inG10 rfl (by decide) k423 h0 rfl ?_
      refine J_getN (C := RX7) (T := TX7) (Z := 8) (ci := 7) (f := 1) dX10_text_4 inG7 rfl (by decide) k189 h1 rfl ?_
      refine J_istore_n (i := 3) (lw := [(3, .int 0), (0, .ref 0), (1, .int 0), (2, .int a1)]) dX10_text_7 rfl (by decide) rfl ?_
      refine J_aload_n (i := 0) (j := 1) dX10_text_8 rfl rfl ?_
      refine J_get (C := RX10) (T := TX10) (Z := 10) (ci := 10) (f := 0) dX10_text_9 inG10 rfl (by decide) k423 h0 rfl ?_
      refine J_iconst (v := 0) dX10_text_12 (by decide) ?_
      obtain ⟨h_152, e_153⟩ : ∃ z, z = h.set 1 (.inr (7, [.ref 2, .int 0, .int 0, .int (-1), .ref 3, .int 0, .ref 4, .int 0])) := ⟨_, rfl⟩
      refine J_putN (C := RX7) (T := TX7) (Z := 8) (ci := 7) (f := 1) (ty0 := tyX7) dX10_text_13 inG7 rfl tyX7_ok nmX7 (by decide) k189 rfl rfl h1 (Nat.le_of_ble_eq_true rfl) (fun _ _ => ⟨rfl, rfl⟩) e_153.symm ?_
      have f_154 := a_set e_153 h1
      have l_155 := l_set e_153 rfl
      refine J_aload_n (i := 0) (j := 1) dX10_text_16 rfl rfl ?_
      have f_156 : h_152[0]? = some (.inr (10, [.ref 1, .ref 27, .ref 28, .ref 29, .ref 43, .ref 49, .ref 53, .ref 56, .ref 57, .ref 79])) := (s_ne e_153 (by decide)).trans h0
      refine J_get (C := RX10) (T := TX10) (Z := 10) (ci := 10) (f := 0) dX10_text_17 inG10 rfl (by decide) k423 f_156 rfl ?_
      refine J_iconst (v := 0) dX10_text_20 (by decide) ?_
      obtain ⟨h_157, e_158⟩ : ∃ z, z = h_152.set 1 (.inr (7, [.ref 2, .int 0, .int 0, .int (-1), .ref 3, .int 0, .ref 4, .int 0])) := ⟨_, rfl⟩
      refine J_putN (C := RX7) (T := TX7) (Z := 8) (ci := 7) (f := 2) (ty0 := tyX7) dX10_text_21 inG7 rfl tyX7_ok nmX7 (by decide) k191 rfl rfl f_154 (Nat.le_of_ble_eq_true rfl) (fun _ _ => ⟨rfl, rfl⟩) e_158.symm ?_
      have f_159 := a_set e_158 f_154
      have l_160 := l_set e_158 l_155
      refine J_aload_n (i := 0) (j := 1) dX10_text_24 rfl rfl ?_
      have f_161 : h_157[0]? = some (.inr (10, [.ref 1, .ref 27, .ref 28, .ref 29, .ref 43, .ref 49, .ref 53, .ref 56, .ref 57, .ref 79])) := (s_ne e_158 (by decide)).trans f_156
      refine J_get (C := RX10) (T := TX10) (Z := 10) (ci := 10) (f := 0) dX10_text_25 inG10 rfl (by decide) k423 f_161 rfl ?_
      refine J_iconst (v := (-1)) dX10_text_28 (by decide) ?_
      obtain ⟨h_162, e_163⟩ : ∃ z, z = h_157.set 1 (.inr (7, [.ref 2, .int 0, .int 0, .int (-1), .ref 3, .int 0, .ref 4, .int 0])) := ⟨_, rfl⟩
      refine J_putN (C := RX7) (T := TX7) (Z := 8) (ci := 7) (f := 3) (ty0 := tyX7) dX10_text_29 inG7 rfl tyX7_ok nmX7 (by decide) k193 rfl rfl f_159 (Nat.le_of_ble_eq_true rfl) (fun _ _ => ⟨rfl, rfl⟩) e_163.symm ?_
      have f_164 := a_set e_163 f_159
      have l_165 := l_set e_163 l_160
      refine J_aload_n (i := 0) (j := 1) dX10_text_32 rfl rfl ?_
      have f_166 : h_162[0]? = some (.inr (10, [.ref 1, .ref 27, .ref 28, .ref 29, .ref 43, .ref 49, .ref 53, .ref 56, .ref 57, .ref 79])) := (s_ne e_163 (by decide)).trans f_161
      refine J_get (C := RX10) (T := TX10) (Z := 10) (ci := 10) (f := 0) dX10_text_33 inG10 rfl (by decide) k423 f_166 rfl ?_
      refine J_iload_n (i := 1) (j := 2) dX10_text_36 rfl rfl ?_
      refine J_iload_n (i := 2) (j := 3) dX10_text_37 rfl rfl ?_
      refine J_callV (As := [.int 0, .int a1]) (rest := []) dX10_text_38 (c_X7_numberFor_0 (d := 0) (h := h_162) (by decide) f_164 csa) hq.n k470 k471 k472 f_164 rfl rfl k88 k473 np_X7_numberFor (Nat.le_trans (by decide) hd) (by decide) (Nat.le_refl _) (Nat.le_refl _) (hkz l_165) rfl (Nat.le_of_ble_eq_true rfl) (fun r_167 h_168 p_169 => ?_)
      obtain ⟨rfl, w_170⟩ := p_169
      refine J_w w_170 ?_
      refine J_istore (i := 4) (lw := [(4, .int (-1)), (3, .int 0), (0, .ref 0), (1, .int 0), (2, .int a1)]) dX10_text_41 (by decide) rfl ?_
      refine J_iload (i := 4) (j := 0) dX10_text_43 rfl ?_
      refine J_iconst (v := (-1)) dX10_text_45 (by decide) ?_
      refine J_icmp_ne (tgt := 52) dX10_text_46 (by decide) (fun q => absurd (by decide) q) (fun _ => ?_)
      refine J_bipush (v := (-2)) dX10_text_49 (by decide) ?_
      exact J_iret hq dX10_text_51 rfl (hkz l_165) (Nat.le_refl _) (Nat.le_refl _) ⟨by rw [tv1 csa], ⟨l_165, fun j hj => (((s_ne e_163 (by omega))).trans (s_ne e_158 (by omega))).trans (s_ne e_153 (by omega))⟩⟩
  · by_cases cs1 : a0 = 1
    · subst cs1
      by_cases csa : a1 = -1
      · subst csa
        refine J_aload_n (i := 0) (j := 0) dX10_text_0 rfl rfl ?_
        refine J_get (C := RX10) (T := TX10) (Z := 10) (ci := 10) (f := 0) dX10_text_1 inG10 rfl (by decide) k423 h0 rfl ?_
        refine J_getN (C := RX7) (T := TX7) (Z := 8) (ci := 7) (f := 1) dX10_text_4 inG7 rfl (by decide) k189 h1 rfl ?_
        refine J_istore_n (i := 3) (lw := [(3, .int 0), (0, .ref 0), (1, .int 1), (2, .int (-1))]) dX10_text_7 rfl (by decide) rfl ?_
        refine J_aload_n (i := 0) (j := 1) dX10_text_8 rfl rfl ?_
        refine J_get (C := RX10) (T := TX10) (Z := 10) (ci := 10) (f := 0) dX10_text_9 inG10 rfl (by decide) k423 h0 rfl ?_
        refine J_iconst (v := 0) dX10_text_12 (by decide) ?_
        obtain ⟨h_171, e_172⟩ : ∃ z, z = h.set 1 (.inr (7, [.ref 2, .int 0, .int 0, .int (-1), .ref 3, .int 0, .ref 4, .int 0])) := ⟨_, rfl⟩
        refine J_putN (C := RX7) (T := TX7) (Z := 8) (ci := 7) (f := 1) (ty0 := tyX7) dX10_text_13 inG7 rfl tyX7_ok nmX7 (by decide) k189 rfl rfl h1 (Nat.le_of_ble_eq_true rfl) (fun _ _ => ⟨rfl, rfl⟩) e_172.symm ?_
        have f_173 := a_set e_172 h1
        have l_174 := l_set e_172 rfl
        refine J_aload_n (i := 0) (j := 1) dX10_text_16 rfl rfl ?_
        have f_175 : h_171[0]? = some (.inr (10, [.ref 1, .ref 27, .ref 28, .ref 29, .ref 43, .ref 49, .ref 53, .ref 56, .ref 57, .ref 79])) := (s_ne e_172 (by decide)).trans h0
        refine J_get (C := RX10) (T := TX10) (Z := 10) (ci := 10) (f := 0) dX10_text_17 inG10 rfl (by decide) k423 f_175 rfl ?_
        refine J_iconst (v := 0) dX10_text_20 (by decide) ?_
        obtain ⟨h_176, e_177⟩ : ∃ z, z = h_171.set 1 (.inr (7, [.ref 2, .int 0, .int 0, .int (-1), .ref 3, .int 0, .ref 4, .int 0])) := ⟨_, rfl⟩
        refine J_putN (C := RX7) (T := TX7) (Z := 8) (ci := 7) (f := 2) (ty0 := tyX7) dX10_text_21 inG7 rfl tyX7_ok nmX7 (by decide) k191 rfl rfl f_173 (Nat.le_of_ble_eq_true rfl) (fun _ _ => ⟨rfl, rfl⟩) e_177.symm ?_
        have f_178 := a_set e_177 f_173
        have l_179 := l_set e_177 l_174
        refine J_aload_n (i := 0) (j := 1) dX10_text_24 rfl rfl ?_
        have f_180 : h_176[0]? = some (.inr (10, [.ref 1, .ref 27, .ref 28, .ref 29, .ref 43, .ref 49, .ref 53, .ref 56, .ref 57, .ref 79])) := (s_ne e_177 (by decide)).trans f_175
        refine J_get (C := RX10) (T := TX10) (Z := 10) (ci := 10) (f := 0) dX10_text_25 inG10 rfl (by decide) k423 f_180 rfl ?_
        refine J_iconst (v := (-1)) dX10_text_28 (by decide) ?_
        obtain ⟨h_181, e_182⟩ : ∃ z, z = h_176.set 1 (.inr (7, [.ref 2, .int 0, .int 0, .int (-1), .ref 3, .int 0, .ref 4, .int 0])) := ⟨_, rfl⟩
        refine J_putN (C := RX7) (T := TX7) (Z := 8) (ci := 7) (f := 3) (ty0 := tyX7) dX10_text_29 inG7 rfl tyX7_ok nmX7 (by decide) k193 rfl rfl f_178 (Nat.le_of_ble_eq_true rfl) (fun _ _ => ⟨rfl, rfl⟩) e_182.symm ?_
        have f_183 := a_set e_182 f_178
        have l_184 := l_set e_182 l_179
        refine J_aload_n (i := 0) (j := 1) dX10_text_32 rfl rfl ?_
        have f_185 : h_181[0]? = some (.inr (10, [.ref 1, .ref 27, .ref 28, .ref 29, .ref 43, .ref 49, .ref 53, .ref 56, .ref 57, .ref 79])) := (s_ne e_182 (by decide)).trans f_180
        refine J_get (C := RX10) (T := TX10) (Z := 10) (ci := 10) (f := 0) dX10_text_33 inG10 rfl (by decide) k423 f_185 rfl ?_
        refine J_iload_n (i := 1) (j := 2) dX10_text_36 rfl rfl ?_
        refine J_iload_n (i := 2) (j := 3) dX10_text_37 rfl rfl ?_
        refine J_callV (As := [.int 1, .int (-1)]) (rest := []) dX10_text_38 (c_X7_numberFor_s2 (d := 0) (h := h_181) (by decide) f_183) hq.n k470 k471 k472 f_183 rfl rfl k88 k473 np_X7_numberFor (Nat.le_trans (by decide) hd) (by decide) (Nat.le_refl _) (Nat.le_refl _) (hkz l_184) rfl (Nat.le_of_ble_eq_true rfl) (fun r_186 h_187 p_188 => ?_)
        obtain ⟨rfl, l_189, r_190⟩ := p_188
        have l_191 := l_189.trans l_184
        refine J_istore (i := 4) (lw := [(4, .int 0), (3, .int 0), (0, .ref 0), (1, .int 1), (2, .int (-1))]) dX10_text_41 (by decide) rfl ?_
        refine J_iload (i := 4) (j := 0) dX10_text_43 rfl ?_
        refine J_iconst (v := (-1)) dX10_text_45 (by decide) ?_
        refine J_icmp_ne (tgt := 52) dX10_text_46 (by decide) (fun _ => ?_) (fun q => absurd q (by decide))
        refine J_aload_n (i := 0) (j := 2) dX10_text_52 rfl rfl ?_
        have f_192 : h_187[0]? = some (.inr (10, [.ref 1, .ref 27, .ref 28, .ref 29, .ref 43, .ref 49, .ref 53, .ref 56, .ref 57, .ref 79])) := (r_190 0 ).trans f_185
        refine J_get (C := RX10) (T := TX10) (Z := 10) (ci := 10) (f := 3) dX10_text_53 inG10 rfl (by decide) k426 f_192 rfl ?_
        refine J_aload_n (i := 0) (j := 2) dX10_text_56 rfl rfl ?_
        refine J_get (C := RX10) (T := TX10) (Z := 10) (ci := 10) (f := 0) dX10_text_57 inG10 rfl (by decide) k423 f_192 rfl ?_
        have f_193 : h_187[1]? = some (.inr (7, [.ref 2, .int 0, .int 0, .int (-1), .ref 3, .int 0, .ref 4, .int 0])) := (r_190 1 ).trans f_183
        refine J_getN (C := RX7) (T := TX7) (Z := 8) (ci := 7) (f := 0) dX10_text_60 inG7 rfl (by decide) k187 f_193 rfl ?_
        refine J_iload_n (i := 3) (j := 1) dX10_text_63 rfl rfl ?_
        refine J_iload_n (i := 1) (j := 3) dX10_text_64 rfl rfl ?_
        have f_194 : h_171[29]? = some (.inr (3, [.ref 30, .ref 32, .ref 37, .ref 41, .ref 42, .int 0, .int (-1)])) := (s_ne e_172 (by decide)).trans g29
        have f_195 : h_176[29]? = some (.inr (3, [.ref 30, .ref 32, .ref 37, .ref 41, .ref 42, .int 0, .int (-1)])) := (s_ne e_177 (by decide)).trans f_194
        have f_196 : h_181[29]? = some (.inr (3, [.ref 30, .ref 32, .ref 37, .ref 41, .ref 42, .int 0, .int (-1)])) := (s_ne e_182 (by decide)).trans f_195
        have f_197 : h_187[29]? = some (.inr (3, [.ref 30, .ref 32, .ref 37, .ref 41, .ref 42, .int 0, .int (-1)])) := (r_190 29 ).trans f_196
        have f_198 : h_171[32]? = some (.inr (1, [.int 0, .ref 33, .int 0, .ref 34, .ref 35, .ref 36])) := (s_ne e_172 (by decide)).trans g32
        have f_199 : h_176[32]? = some (.inr (1, [.int 0, .ref 33, .int 0, .ref 34, .ref 35, .ref 36])) := (s_ne e_177 (by decide)).trans f_198
        have f_200 : h_181[32]? = some (.inr (1, [.int 0, .ref 33, .int 0, .ref 34, .ref 35, .ref 36])) := (s_ne e_182 (by decide)).trans f_199
        have f_201 : h_187[32]? = some (.inr (1, [.int 0, .ref 33, .int 0, .ref 34, .ref 35, .ref 36])) := (r_190 32 ).trans f_200
        have f_202 : h_171[36]? = some (.inl (1, 3, .inl (fun _ => 0))) := (s_ne e_172 (by decide)).trans g36
        have f_203 : h_176[36]? = some (.inl (1, 3, .inl (fun _ => 0))) := (s_ne e_177 (by decide)).trans f_202
        have f_204 : h_181[36]? = some (.inl (1, 3, .inl (fun _ => 0))) := (s_ne e_182 (by decide)).trans f_203
        have f_205 : h_187[36]? = some (.inl (1, 3, .inl (fun _ => 0))) := (r_190 36 ).trans f_204
        have f_206 : h_171[37]? = some (.inr (8, [.int 0, .ref 38, .ref 39, .ref 40])) := (s_ne e_172 (by decide)).trans g37
        have f_207 : h_176[37]? = some (.inr (8, [.int 0, .ref 38, .ref 39, .ref 40])) := (s_ne e_177 (by decide)).trans f_206
        have f_208 : h_181[37]? = some (.inr (8, [.int 0, .ref 38, .ref 39, .ref 40])) := (s_ne e_182 (by decide)).trans f_207
        have f_209 : h_187[37]? = some (.inr (8, [.int 0, .ref 38, .ref 39, .ref 40])) := (r_190 37 ).trans f_208
        have f_210 : h_171[30]? = some (.inr (6, [.ref 31, .int 0, .int 0, .int 0, .int 0, .int 0])) := (s_ne e_172 (by decide)).trans g30
        have f_211 : h_176[30]? = some (.inr (6, [.ref 31, .int 0, .int 0, .int 0, .int 0, .int 0])) := (s_ne e_177 (by decide)).trans f_210
        have f_212 : h_181[30]? = some (.inr (6, [.ref 31, .int 0, .int 0, .int 0, .int 0, .int 0])) := (s_ne e_182 (by decide)).trans f_211
        have f_213 : h_187[30]? = some (.inr (6, [.ref 31, .int 0, .int 0, .int 0, .int 0, .int 0])) := (r_190 30 ).trans f_212
        have f_214 : h_171[2]? = some (.inl (0, 600, .inl (fun _ => 0))) := (s_ne e_172 (by decide)).trans g2
        have f_215 : h_176[2]? = some (.inl (0, 600, .inl (fun _ => 0))) := (s_ne e_177 (by decide)).trans f_214
        have f_216 : h_181[2]? = some (.inl (0, 600, .inl (fun _ => 0))) := (s_ne e_182 (by decide)).trans f_215
        have f_217 : h_187[2]? = some (.inl (0, 600, .inl (fun _ => 0))) := (r_190 2 ).trans f_216
        refine J_callV (As := [.ref 2, .int 0, .int 1]) (rest := []) dX10_text_65 (c_X3_read_s2 (d := 2) (h := h_187) (by decide) f_197 f_201 f_205 f_209 f_213 f_217) hq.n k474 k475 k476 f_197 rfl rfl k91 k477 np_X3_read (Nat.le_trans (by decide) hd) (by decide) (Nat.le_refl _) (Nat.le_refl _) (hkz l_191) rfl (Nat.le_of_ble_eq_true rfl) (fun r_218 h_219 p_220 => ?_)
        obtain ⟨rfl, l_221, f_222, f_223, f_224, f_225, f_226, r_227⟩ := p_220
        have l_228 := l_221.trans l_191
        refine J_aload_n (i := 0) (j := 2) dX10_text_68 rfl rfl ?_
        have f_229 : h_219[0]? = some (.inr (10, [.ref 1, .ref 27, .ref 28, .ref 29, .ref 43, .ref 49, .ref 53, .ref 56, .ref 57, .ref 79])) := (r_227 0 (by decide) (by decide) (by decide) (by decide) (by decide)).trans f_192
        refine J_get (C := RX10) (T := TX10) (Z := 10) (ci := 10) (f := 0) dX10_text_69 inG10 rfl (by decide) k423 f_229 rfl ?_
        refine J_aload_n (i := 0) (j := 2) dX10_text_72 rfl rfl ?_
        refine J_get (C := RX10) (T := TX10) (Z := 10) (ci := 10) (f := 3) dX10_text_73 inG10 rfl (by decide) k426 f_229 rfl ?_
        refine J_getN (C := RX3) (T := TX3) (Z := 7) (ci := 3) (f := 5) dX10_text_76 inG3 rfl (by decide) k268 f_222 rfl ?_
        have f_230 : h_219[1]? = some (.inr (7, [.ref 2, .int 0, .int 0, .int (-1), .ref 3, .int 0, .ref 4, .int 0])) := (r_227 1 (by decide) (by decide) (by decide) (by decide) (by decide)).trans f_193
        obtain ⟨h_231, e_232⟩ : ∃ z, z = h_219.set 1 (.inr (7, [.ref 2, .int 0, .int 0, .int (-1), .ref 3, .int 0, .ref 4, .int 0])) := ⟨_, rfl⟩
        refine J_putN (C := RX7) (T := TX7) (Z := 8) (ci := 7) (f := 2) (ty0 := tyX7) dX10_text_79 inG7 rfl tyX7_ok nmX7 (by decide) k191 rfl rfl f_230 (Nat.le_of_ble_eq_true rfl) (fun _ _ => ⟨rfl, rfl⟩) e_232.symm ?_
        have f_233 := a_set e_232 f_230
        have l_234 := l_set e_232 l_228
        refine J_aload_n (i := 0) (j := 2) dX10_text_82 rfl rfl ?_
        have f_235 : h_231[0]? = some (.inr (10, [.ref 1, .ref 27, .ref 28, .ref 29, .ref 43, .ref 49, .ref 53, .ref 56, .ref 57, .ref 79])) := (s_ne e_232 (by decide)).trans f_229
        refine J_get (C := RX10) (T := TX10) (Z := 10) (ci := 10) (f := 0) dX10_text_83 inG10 rfl (by decide) k423 f_235 rfl ?_
        refine J_aload_n (i := 0) (j := 2) dX10_text_86 rfl rfl ?_
        refine J_get (C := RX10) (T := TX10) (Z := 10) (ci := 10) (f := 3) dX10_text_87 inG10 rfl (by decide) k426 f_235 rfl ?_
        have f_236 : h_231[29]? = some (.inr (3, [.ref 30, .ref 32, .ref 37, .ref 41, .ref 42, .int 0, .int (-1)])) := (s_ne e_232 (by decide)).trans f_222
        refine J_getN (C := RX3) (T := TX3) (Z := 7) (ci := 3) (f := 6) dX10_text_90 inG3 rfl (by decide) k270 f_236 rfl ?_
        obtain ⟨h_237, e_238⟩ : ∃ z, z = h_231.set 1 (.inr (7, [.ref 2, .int 0, .int 0, .int (-1), .ref 3, .int 0, .ref 4, .int 0])) := ⟨_, rfl⟩
        refine J_putN (C := RX7) (T := TX7) (Z := 8) (ci := 7) (f := 3) (ty0 := tyX7) dX10_text_93 inG7 rfl tyX7_ok nmX7 (by decide) k193 rfl rfl f_233 (Nat.le_of_ble_eq_true rfl) (fun _ _ => ⟨rfl, rfl⟩) e_238.symm ?_
        have f_239 := a_set e_238 f_233
        have l_240 := l_set e_238 l_234
        refine J_aload_n (i := 0) (j := 2) dX10_text_96 rfl rfl ?_
        have f_241 : h_237[0]? = some (.inr (10, [.ref 1, .ref 27, .ref 28, .ref 29, .ref 43, .ref 49, .ref 53, .ref 56, .ref 57, .ref 79])) := (s_ne e_238 (by decide)).trans f_235
        refine J_get (C := RX10) (T := TX10) (Z := 10) (ci := 10) (f := 3) dX10_text_97 inG10 rfl (by decide) k426 f_241 rfl ?_
        have f_242 : h_237[29]? = some (.inr (3, [.ref 30, .ref 32, .ref 37, .ref 41, .ref 42, .int 0, .int (-1)])) := (s_ne e_238 (by decide)).trans f_236
        refine J_getN (C := RX3) (T := TX3) (Z := 7) (ci := 3) (f := 5) dX10_text_100 inG3 rfl (by decide) k268 f_242 rfl ?_
        refine J_if_eq (tgt := 108) dX10_text_103 (by decide) (fun _ => ?_) (fun q => absurd (by decide) q)
        refine J_aload_n (i := 0) (j := 2) dX10_text_108 rfl rfl ?_
        refine J_get (C := RX10) (T := TX10) (Z := 10) (ci := 10) (f := 0) dX10_text_109 inG10 rfl (by decide) k423 f_241 rfl ?_
        refine J_iload_n (i := 1) (j := 3) dX10_text_112 rfl rfl ?_
        refine J_iload (i := 4) (j := 0) dX10_text_113 rfl ?_
        refine J_aload_n (i := 0) (j := 2) dX10_text_115 rfl rfl ?_
        refine J_get (C := RX10) (T := TX10) (Z := 10) (ci := 10) (f := 3) dX10_text_116 inG10 rfl (by decide) k426 f_241 rfl ?_
        have f_243 : h_171[4]? = some (.inl (6, 3, .inr (.inr (va_up (va_up (va_up (fun _ => none) ((0 : Int32).toNatClampNeg) (some (15))) ((1 : Int32).toNatClampNeg) (some (19))) ((2 : Int32).toNatClampNeg) (some (23)))))) := (s_ne e_172 (by decide)).trans g4
        have f_244 : h_176[4]? = some (.inl (6, 3, .inr (.inr (va_up (va_up (va_up (fun _ => none) ((0 : Int32).toNatClampNeg) (some (15))) ((1 : Int32).toNatClampNeg) (some (19))) ((2 : Int32).toNatClampNeg) (some (23)))))) := (s_ne e_177 (by decide)).trans f_243
        have f_245 : h_181[4]? = some (.inl (6, 3, .inr (.inr (va_up (va_up (va_up (fun _ => none) ((0 : Int32).toNatClampNeg) (some (15))) ((1 : Int32).toNatClampNeg) (some (19))) ((2 : Int32).toNatClampNeg) (some (23)))))) := (s_ne e_182 (by decide)).trans f_244
        have f_246 : h_187[4]? = some (.inl (6, 3, .inr (.inr (va_up (va_up (va_up (fun _ => none) ((0 : Int32).toNatClampNeg) (some (15))) ((1 : Int32).toNatClampNeg) (some (19))) ((2 : Int32).toNatClampNeg) (some (23)))))) := (r_190 4 ).trans f_245
        have f_247 : h_219[4]? = some (.inl (6, 3, .inr (.inr (va_up (va_up (va_up (fun _ => none) ((0 : Int32).toNatClampNeg) (some (15))) ((1 : Int32).toNatClampNeg) (some (19))) ((2 : Int32).toNatClampNeg) (some (23)))))) := (r_227 4 (by decide) (by decide) (by decide) (by decide) (by decide)).trans f_246
        have f_248 : h_231[4]? = some (.inl (6, 3, .inr (.inr (va_up (va_up (va_up (fun _ => none) ((0 : Int32).toNatClampNeg) (some (15))) ((1 : Int32).toNatClampNeg) (some (19))) ((2 : Int32).toNatClampNeg) (some (23)))))) := (s_ne e_232 (by decide)).trans f_247
        have f_249 : h_237[4]? = some (.inl (6, 3, .inr (.inr (va_up (va_up (va_up (fun _ => none) ((0 : Int32).toNatClampNeg) (some (15))) ((1 : Int32).toNatClampNeg) (some (19))) ((2 : Int32).toNatClampNeg) (some (23)))))) := (s_ne e_238 (by decide)).trans f_248
        have f_250 : h_231[37]? = some (.inr (8, [.int 0, .ref 38, .ref 39, .ref 40])) := (s_ne e_232 (by decide)).trans f_225
        have f_251 : h_237[37]? = some (.inr (8, [.int 0, .ref 38, .ref 39, .ref 40])) := (s_ne e_238 (by decide)).trans f_250
        have f_252 : h_171[15]? = some (.inr (8, [.int 0, .ref 16, .ref 17, .ref 18])) := (s_ne e_172 (by decide)).trans g15
        have f_253 : h_176[15]? = some (.inr (8, [.int 0, .ref 16, .ref 17, .ref 18])) := (s_ne e_177 (by decide)).trans f_252
        have f_254 : h_181[15]? = some (.inr (8, [.int 0, .ref 16, .ref 17, .ref 18])) := (s_ne e_182 (by decide)).trans f_253
        have f_255 : h_187[15]? = some (.inr (8, [.int 0, .ref 16, .ref 17, .ref 18])) := (r_190 15 ).trans f_254
        have f_256 : h_219[15]? = some (.inr (8, [.int 0, .ref 16, .ref 17, .ref 18])) := (r_227 15 (by decide) (by decide) (by decide) (by decide) (by decide)).trans f_255
        have f_257 : h_231[15]? = some (.inr (8, [.int 0, .ref 16, .ref 17, .ref 18])) := (s_ne e_232 (by decide)).trans f_256
        have f_258 : h_237[15]? = some (.inr (8, [.int 0, .ref 16, .ref 17, .ref 18])) := (s_ne e_238 (by decide)).trans f_257
        have f_259 : h_171[38]? = some (.inl (1, 12, .inl (fun _ => 0))) := (s_ne e_172 (by decide)).trans g38
        have f_260 : h_176[38]? = some (.inl (1, 12, .inl (fun _ => 0))) := (s_ne e_177 (by decide)).trans f_259
        have f_261 : h_181[38]? = some (.inl (1, 12, .inl (fun _ => 0))) := (s_ne e_182 (by decide)).trans f_260
        have f_262 : h_187[38]? = some (.inl (1, 12, .inl (fun _ => 0))) := (r_190 38 ).trans f_261
        have f_263 : h_219[38]? = some (.inl (1, 12, .inl (fun _ => 0))) := (r_227 38 (by decide) (by decide) (by decide) (by decide) (by decide)).trans f_262
        have f_264 : h_231[38]? = some (.inl (1, 12, .inl (fun _ => 0))) := (s_ne e_232 (by decide)).trans f_263
        have f_265 : h_237[38]? = some (.inl (1, 12, .inl (fun _ => 0))) := (s_ne e_238 (by decide)).trans f_264
        have f_266 : h_171[16]? = some (.inl (1, 12, .inl (fun _ => 0))) := (s_ne e_172 (by decide)).trans g16
        have f_267 : h_176[16]? = some (.inl (1, 12, .inl (fun _ => 0))) := (s_ne e_177 (by decide)).trans f_266
        have f_268 : h_181[16]? = some (.inl (1, 12, .inl (fun _ => 0))) := (s_ne e_182 (by decide)).trans f_267
        have f_269 : h_187[16]? = some (.inl (1, 12, .inl (fun _ => 0))) := (r_190 16 ).trans f_268
        have f_270 : h_219[16]? = some (.inl (1, 12, .inl (fun _ => 0))) := (r_227 16 (by decide) (by decide) (by decide) (by decide) (by decide)).trans f_269
        have f_271 : h_231[16]? = some (.inl (1, 12, .inl (fun _ => 0))) := (s_ne e_232 (by decide)).trans f_270
        have f_272 : h_237[16]? = some (.inl (1, 12, .inl (fun _ => 0))) := (s_ne e_238 (by decide)).trans f_271
        have f_273 : h_171[39]? = some (.inl (1, 12, .inl (fun _ => 0))) := (s_ne e_172 (by decide)).trans g39
        have f_274 : h_176[39]? = some (.inl (1, 12, .inl (fun _ => 0))) := (s_ne e_177 (by decide)).trans f_273
        have f_275 : h_181[39]? = some (.inl (1, 12, .inl (fun _ => 0))) := (s_ne e_182 (by decide)).trans f_274
        have f_276 : h_187[39]? = some (.inl (1, 12, .inl (fun _ => 0))) := (r_190 39 ).trans f_275
        have f_277 : h_219[39]? = some (.inl (1, 12, .inl (fun _ => 0))) := (r_227 39 (by decide) (by decide) (by decide) (by decide) (by decide)).trans f_276
        have f_278 : h_231[39]? = some (.inl (1, 12, .inl (fun _ => 0))) := (s_ne e_232 (by decide)).trans f_277
        have f_279 : h_237[39]? = some (.inl (1, 12, .inl (fun _ => 0))) := (s_ne e_238 (by decide)).trans f_278
        have f_280 : h_171[17]? = some (.inl (1, 12, .inl (fun _ => 0))) := (s_ne e_172 (by decide)).trans g17
        have f_281 : h_176[17]? = some (.inl (1, 12, .inl (fun _ => 0))) := (s_ne e_177 (by decide)).trans f_280
        have f_282 : h_181[17]? = some (.inl (1, 12, .inl (fun _ => 0))) := (s_ne e_182 (by decide)).trans f_281
        have f_283 : h_187[17]? = some (.inl (1, 12, .inl (fun _ => 0))) := (r_190 17 ).trans f_282
        have f_284 : h_219[17]? = some (.inl (1, 12, .inl (fun _ => 0))) := (r_227 17 (by decide) (by decide) (by decide) (by decide) (by decide)).trans f_283
        have f_285 : h_231[17]? = some (.inl (1, 12, .inl (fun _ => 0))) := (s_ne e_232 (by decide)).trans f_284
        have f_286 : h_237[17]? = some (.inl (1, 12, .inl (fun _ => 0))) := (s_ne e_238 (by decide)).trans f_285
        have f_287 : h_171[40]? = some (.inl (1, 12, .inl (fun _ => 0))) := (s_ne e_172 (by decide)).trans g40
        have f_288 : h_176[40]? = some (.inl (1, 12, .inl (fun _ => 0))) := (s_ne e_177 (by decide)).trans f_287
        have f_289 : h_181[40]? = some (.inl (1, 12, .inl (fun _ => 0))) := (s_ne e_182 (by decide)).trans f_288
        have f_290 : h_187[40]? = some (.inl (1, 12, .inl (fun _ => 0))) := (r_190 40 ).trans f_289
        have f_291 : h_219[40]? = some (.inl (1, 12, .inl (fun _ => 0))) := (r_227 40 (by decide) (by decide) (by decide) (by decide) (by decide)).trans f_290
        have f_292 : h_231[40]? = some (.inl (1, 12, .inl (fun _ => 0))) := (s_ne e_232 (by decide)).trans f_291
        have f_293 : h_237[40]? = some (.inl (1, 12, .inl (fun _ => 0))) := (s_ne e_238 (by decide)).trans f_292
        have f_294 : h_171[18]? = some (.inl (1, 12, .inl (fun _ => 0))) := (s_ne e_172 (by decide)).trans g18
        have f_295 : h_176[18]? = some (.inl (1, 12, .inl (fun _ => 0))) := (s_ne e_177 (by decide)).trans f_294
        have f_296 : h_181[18]? = some (.inl (1, 12, .inl (fun _ => 0))) := (s_ne e_182 (by decide)).trans f_295
        have f_297 : h_187[18]? = some (.inl (1, 12, .inl (fun _ => 0))) := (r_190 18 ).trans f_296
        have f_298 : h_219[18]? = some (.inl (1, 12, .inl (fun _ => 0))) := (r_227 18 (by decide) (by decide) (by decide) (by decide) (by decide)).trans f_297
        have f_299 : h_231[18]? = some (.inl (1, 12, .inl (fun _ => 0))) := (s_ne e_232 (by decide)).trans f_298
        have f_300 : h_237[18]? = some (.inl (1, 12, .inl (fun _ => 0))) := (s_ne e_238 (by decide)).trans f_299
        refine J_callV (As := [.int 1, .int 0, .ref 29]) (rest := []) dX10_text_119 (c_X7_keep_s2 (d := 2) (h := h_237) (by decide) f_239 f_249 f_242 f_251 f_258 f_265 f_272 f_279 f_286 f_293 f_300) hq.n k676 k677 k678 f_239 rfl rfl k88 k679 np_X7_keep (Nat.le_trans (by decide) hd) (by decide) (Nat.le_refl _) (Nat.le_refl _) (hkz l_240) rfl (Nat.le_of_ble_eq_true rfl) (fun r_301 h_302 p_303 => ?_)
        obtain ⟨rfl, l_304, f_305, f_306, f_307, f_308, f_309, r_310⟩ := p_303
        have l_311 := l_304.trans l_240
        refine J_iload (i := 4) (j := 0) dX10_text_122 rfl ?_
        exact J_iret hq dX10_text_124 rfl (hkz l_311) (Nat.le_refl _) (Nat.le_refl _) ⟨rfl, ⟨l_311, fun j hj => ((((((((r_310 j (by omega) (by omega) (by omega) (by omega) (by omega))).trans (s_ne e_238 (by omega))).trans (s_ne e_232 (by omega))).trans (r_227 j (by omega) (by omega) (by omega) (by omega) (by omega))).trans (r_190 j )).trans (s_ne e_182 (by omega))).trans (s_ne e_177 (by omega))).trans (s_ne e_172 (by omega))⟩⟩
      · refine J_aload_n (i := 0) (j := 0) dX10_text_0 rfl rfl ?_
        refine J_get (C := RX10) (T := TX10) (Z := 10) (ci := 10) (f := 0) dX10_text_1 inG10 rfl (by decide) k423 h0 rfl ?_
        refine J_getN (C := RX7) (T := TX7) (Z := 8) (ci := 7) (f := 1) dX10_text_4 inG7 rfl (by decide) k189 h1 rfl ?_
        refine J_istore_n (i := 3) (lw := [(3, .int 0), (0, .ref 0), (1, .int 1), (2, .int a1)]) dX10_text_7 rfl (by decide) rfl ?_
        refine J_aload_n (i := 0) (j := 1) dX10_text_8 rfl rfl ?_
        refine J_get (C := RX10) (T := TX10) (Z := 10) (ci := 10) (f := 0) dX10_text_9 inG10 rfl (by decide) k423 h0 rfl ?_
        refine J_iconst (v := 0) dX10_text_12 (by decide) ?_
        obtain ⟨h_312, e_313⟩ : ∃ z, z = h.set 1 (.inr (7, [.ref 2, .int 0, .int 0, .int (-1), .ref 3, .int 0, .ref 4, .int 0])) := ⟨_, rfl⟩
        refine J_putN (C := RX7) (T := TX7) (Z := 8) (ci := 7) (f := 1) (ty0 := tyX7) dX10_text_13 inG7 rfl tyX7_ok nmX7 (by decide) k189 rfl rfl h1 (Nat.le_of_ble_eq_true rfl) (fun _ _ => ⟨rfl, rfl⟩) e_313.symm ?_
        have f_314 := a_set e_313 h1
        have l_315 := l_set e_313 rfl
        refine J_aload_n (i := 0) (j := 1) dX10_text_16 rfl rfl ?_
        have f_316 : h_312[0]? = some (.inr (10, [.ref 1, .ref 27, .ref 28, .ref 29, .ref 43, .ref 49, .ref 53, .ref 56, .ref 57, .ref 79])) := (s_ne e_313 (by decide)).trans h0
        refine J_get (C := RX10) (T := TX10) (Z := 10) (ci := 10) (f := 0) dX10_text_17 inG10 rfl (by decide) k423 f_316 rfl ?_
        refine J_iconst (v := 0) dX10_text_20 (by decide) ?_
        obtain ⟨h_317, e_318⟩ : ∃ z, z = h_312.set 1 (.inr (7, [.ref 2, .int 0, .int 0, .int (-1), .ref 3, .int 0, .ref 4, .int 0])) := ⟨_, rfl⟩
        refine J_putN (C := RX7) (T := TX7) (Z := 8) (ci := 7) (f := 2) (ty0 := tyX7) dX10_text_21 inG7 rfl tyX7_ok nmX7 (by decide) k191 rfl rfl f_314 (Nat.le_of_ble_eq_true rfl) (fun _ _ => ⟨rfl, rfl⟩) e_318.symm ?_
        have f_319 := a_set e_318 f_314
        have l_320 := l_set e_318 l_315
        refine J_aload_n (i := 0) (j := 1) dX10_text_24 rfl rfl ?_
        have f_321 : h_317[0]? = some (.inr (10, [.ref 1, .ref 27, .ref 28, .ref 29, .ref 43, .ref 49, .ref 53, .ref 56, .ref 57, .ref 79])) := (s_ne e_318 (by decide)).trans f_316
        refine J_get (C := RX10) (T := TX10) (Z := 10) (ci := 10) (f := 0) dX10_text_25 inG10 rfl (by decide) k423 f_321 rfl ?_
        refine J_iconst (v := (-1)) dX10_text_28 (by decide) ?_
        obtain ⟨h_322, e_323⟩ : ∃ z, z = h_317.set 1 (.inr (7, [.ref 2, .int 0, .int 0, .int (-1), .ref 3, .int 0, .ref 4, .int 0])) := ⟨_, rfl⟩
        refine J_putN (C := RX7) (T := TX7) (Z := 8) (ci := 7) (f := 3) (ty0 := tyX7) dX10_text_29 inG7 rfl tyX7_ok nmX7 (by decide) k193 rfl rfl f_319 (Nat.le_of_ble_eq_true rfl) (fun _ _ => ⟨rfl, rfl⟩) e_323.symm ?_
        have f_324 := a_set e_323 f_319
        have l_325 := l_set e_323 l_320
        refine J_aload_n (i := 0) (j := 1) dX10_text_32 rfl rfl ?_
        have f_326 : h_322[0]? = some (.inr (10, [.ref 1, .ref 27, .ref 28, .ref 29, .ref 43, .ref 49, .ref 53, .ref 56, .ref 57, .ref 79])) := (s_ne e_323 (by decide)).trans f_321
        refine J_get (C := RX10) (T := TX10) (Z := 10) (ci := 10) (f := 0) dX10_text_33 inG10 rfl (by decide) k423 f_326 rfl ?_
        refine J_iload_n (i := 1) (j := 2) dX10_text_36 rfl rfl ?_
        refine J_iload_n (i := 2) (j := 3) dX10_text_37 rfl rfl ?_
        refine J_callV (As := [.int 1, .int a1]) (rest := []) dX10_text_38 (c_X7_numberFor_1 (d := 0) (h := h_322) (by decide) f_324 csa) hq.n k470 k471 k472 f_324 rfl rfl k88 k473 np_X7_numberFor (Nat.le_trans (by decide) hd) (by decide) (Nat.le_refl _) (Nat.le_refl _) (hkz l_325) rfl (Nat.le_of_ble_eq_true rfl) (fun r_327 h_328 p_329 => ?_)
        obtain ⟨rfl, w_330⟩ := p_329
        refine J_w w_330 ?_
        refine J_istore (i := 4) (lw := [(4, .int (-1)), (3, .int 0), (0, .ref 0), (1, .int 1), (2, .int a1)]) dX10_text_41 (by decide) rfl ?_
        refine J_iload (i := 4) (j := 0) dX10_text_43 rfl ?_
        refine J_iconst (v := (-1)) dX10_text_45 (by decide) ?_
        refine J_icmp_ne (tgt := 52) dX10_text_46 (by decide) (fun q => absurd (by decide) q) (fun _ => ?_)
        refine J_bipush (v := (-2)) dX10_text_49 (by decide) ?_
        exact J_iret hq dX10_text_51 rfl (hkz l_325) (Nat.le_refl _) (Nat.le_refl _) ⟨by rw [tv1 csa], ⟨l_325, fun j hj => (((s_ne e_323 (by omega))).trans (s_ne e_318 (by omega))).trans (s_ne e_313 (by omega))⟩⟩
    · refine J_aload_n (i := 0) (j := 0) dX10_text_0 rfl rfl ?_
      refine J_get (C := RX10) (T := TX10) (Z := 10) (ci := 10) (f := 0) dX10_text_1 inG10 rfl (by decide) k423 h0 rfl ?_
      refine J_getN (C := RX7) (T := TX7) (Z := 8) (ci := 7) (f := 1) dX10_text_4 inG7 rfl (by decide) k189 h1 rfl ?_
      refine J_istore_n (i := 3) (lw := [(3, .int 0), (0, .ref 0), (1, .int a0), (2, .int a1)]) dX10_text_7 rfl (by decide) rfl ?_
      refine J_aload_n (i := 0) (j := 1) dX10_text_8 rfl rfl ?_
      refine J_get (C := RX10) (T := TX10) (Z := 10) (ci := 10) (f := 0) dX10_text_9 inG10 rfl (by decide) k423 h0 rfl ?_
      refine J_iconst (v := 0) dX10_text_12 (by decide) ?_
      obtain ⟨h_331, e_332⟩ : ∃ z, z = h.set 1 (.inr (7, [.ref 2, .int 0, .int 0, .int (-1), .ref 3, .int 0, .ref 4, .int 0])) := ⟨_, rfl⟩
      refine J_putN (C := RX7) (T := TX7) (Z := 8) (ci := 7) (f := 1) (ty0 := tyX7) dX10_text_13 inG7 rfl tyX7_ok nmX7 (by decide) k189 rfl rfl h1 (Nat.le_of_ble_eq_true rfl) (fun _ _ => ⟨rfl, rfl⟩) e_332.symm ?_
      have f_333 := a_set e_332 h1
      have l_334 := l_set e_332 rfl
      refine J_aload_n (i := 0) (j := 1) dX10_text_16 rfl rfl ?_
      have f_335 : h_331[0]? = some (.inr (10, [.ref 1, .ref 27, .ref 28, .ref 29, .ref 43, .ref 49, .ref 53, .ref 56, .ref 57, .ref 79])) := (s_ne e_332 (by decide)).trans h0
      refine J_get (C := RX10) (T := TX10) (Z := 10) (ci := 10) (f := 0) dX10_text_17 inG10 rfl (by decide) k423 f_335 rfl ?_
      refine J_iconst (v := 0) dX10_text_20 (by decide) ?_
      obtain ⟨h_336, e_337⟩ : ∃ z, z = h_331.set 1 (.inr (7, [.ref 2, .int 0, .int 0, .int (-1), .ref 3, .int 0, .ref 4, .int 0])) := ⟨_, rfl⟩
      refine J_putN (C := RX7) (T := TX7) (Z := 8) (ci := 7) (f := 2) (ty0 := tyX7) dX10_text_21 inG7 rfl tyX7_ok nmX7 (by decide) k191 rfl rfl f_333 (Nat.le_of_ble_eq_true rfl) (fun _ _ => ⟨rfl, rfl⟩) e_337.symm ?_
      have f_338 := a_set e_337 f_333
      have l_339 := l_set e_337 l_334
      refine J_aload_n (i := 0) (j := 1) dX10_text_24 rfl rfl ?_
      have f_340 : h_336[0]? = some (.inr (10, [.ref 1, .ref 27, .ref 28, .ref 29, .ref 43, .ref 49, .ref 53, .ref 56, .ref 57, .ref 79])) := (s_ne e_337 (by decide)).trans f_335
      refine J_get (C := RX10) (T := TX10) (Z := 10) (ci := 10) (f := 0) dX10_text_25 inG10 rfl (by decide) k423 f_340 rfl ?_
      refine J_iconst (v := (-1)) dX10_text_28 (by decide) ?_
      obtain ⟨h_341, e_342⟩ : ∃ z, z = h_336.set 1 (.inr (7, [.ref 2, .int 0, .int 0, .int (-1), .ref 3, .int 0, .ref 4, .int 0])) := ⟨_, rfl⟩
      refine J_putN (C := RX7) (T := TX7) (Z := 8) (ci := 7) (f := 3) (ty0 := tyX7) dX10_text_29 inG7 rfl tyX7_ok nmX7 (by decide) k193 rfl rfl f_338 (Nat.le_of_ble_eq_true rfl) (fun _ _ => ⟨rfl, rfl⟩) e_342.symm ?_
      have f_343 := a_set e_342 f_338
      have l_344 := l_set e_342 l_339
      refine J_aload_n (i := 0) (j := 1) dX10_text_32 rfl rfl ?_
      have f_345 : h_341[0]? = some (.inr (10, [.ref 1, .ref 27, .ref 28, .ref 29, .ref 43, .ref 49, .ref 53, .ref 56, .ref 57, .ref 79])) := (s_ne e_342 (by decide)).trans f_340
      refine J_get (C := RX10) (T := TX10) (Z := 10) (ci := 10) (f := 0) dX10_text_33 inG10 rfl (by decide) k423 f_345 rfl ?_
      refine J_iload_n (i := 1) (j := 2) dX10_text_36 rfl rfl ?_
      refine J_iload_n (i := 2) (j := 3) dX10_text_37 rfl rfl ?_
      refine J_callV (As := [.int a0, .int a1]) (rest := []) dX10_text_38 (c_X7_numberFor_o (d := 0) (h := h_341) (by decide) f_343 cs0 cs1) hq.n k470 k471 k472 f_343 rfl rfl k88 k473 np_X7_numberFor (Nat.le_trans (by decide) hd) (by decide) (Nat.le_refl _) (Nat.le_refl _) (hkz l_344) rfl (Nat.le_of_ble_eq_true rfl) (fun r_346 h_347 p_348 => ?_)
      obtain ⟨rfl, w_349⟩ := p_348
      refine J_w w_349 ?_
      refine J_istore (i := 4) (lw := [(4, .int (-1)), (3, .int 0), (0, .ref 0), (1, .int a0), (2, .int a1)]) dX10_text_41 (by decide) rfl ?_
      refine J_iload (i := 4) (j := 0) dX10_text_43 rfl ?_
      refine J_iconst (v := (-1)) dX10_text_45 (by decide) ?_
      refine J_icmp_ne (tgt := 52) dX10_text_46 (by decide) (fun q => absurd (by decide) q) (fun _ => ?_)
      refine J_bipush (v := (-2)) dX10_text_49 (by decide) ?_
      exact J_iret hq dX10_text_51 rfl (hkz l_344) (Nat.le_refl _) (Nat.le_refl _) ⟨by rw [tv0 cs0 cs1], ⟨l_344, fun j hj => (((s_ne e_342 (by omega))).trans (s_ne e_337 (by omega))).trans (s_ne e_332 (by omega))⟩⟩
