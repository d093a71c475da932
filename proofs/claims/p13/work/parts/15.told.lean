theorem k1253 : Cond.methodLink RX7 66 arraycopyName ∈ gt := gt_t5 (i := 207) rfl rfl
theorem k680 : Cond.methodLink RX7 50 yX1_copy ∈ gt := gt_t3 (i := 114) rfl rfl
theorem k690 : Cond.methodLink RX7 63 yX8_copy ∈ gt := gt_t3 (i := 124) rfl rfl
theorem k691 : Cond.instanceMethod yX8_copy ∈ gt := gt_t3 (i := 125) rfl rfl
theorem k692 : Cond.selects RX8 yX8_copy yX8_copy ∈ gt := gt_t3 (i := 126) rfl rfl
theorem k693 : Cond.code yX8_copy cX8_copy 2 none ∈ gt := gt_t3 (i := 127) rfl rfl
theorem np_X8_copy : yX8_copy.cls ≠ "java/lang/invoke/MethodHandle" ∧ yX8_copy.cls ≠ "java/lang/invoke/VarHandle" ∧ (parseMethodDescriptor yX8_copy.desc).map (fun d => d.parameters.length) = some 1 := by decide +kernel
theorem k189 : Cond.fieldLinkNest RX10 71 "PondStair$Told" "length" "I" "PondStair" ∈ nt := nt_t1 (i := 103) rfl rfl
theorem k458 : Cond.methodLink RX10 75 yX7_append ∈ gt := gt_t2 (i := 132) rfl rfl
theorem k459 : Cond.instanceMethod yX7_append ∈ gt := gt_t2 (i := 133) rfl rfl
theorem k460 : Cond.selects RX7 yX7_append yX7_append ∈ gt := gt_t2 (i := 134) rfl rfl
theorem k461 : Cond.code yX7_append cX7_append 3 none ∈ gt := gt_t2 (i := 135) rfl rfl
theorem np_X7_append : yX7_append.cls ≠ "java/lang/invoke/MethodHandle" ∧ yX7_append.cls ≠ "java/lang/invoke/VarHandle" ∧ (parseMethodDescriptor yX7_append.desc).map (fun d => d.parameters.length) = some 1 := by decide +kernel
theorem k1249 : Cond.methodLink RX10 334 yX7_copy ∈ gt := gt_t5 (i := 203) rfl rfl
theorem k1250 : Cond.instanceMethod yX7_copy ∈ gt := gt_t5 (i := 204) rfl rfl
theorem k1251 : Cond.selects RX7 yX7_copy yX7_copy ∈ gt := gt_t5 (i := 205) rfl rfl
theorem k1252 : Cond.code yX7_copy cX7_copy 3 none ∈ gt := gt_t5 (i := 206) rfl rfl
theorem np_X7_copy : yX7_copy.cls ≠ "java/lang/invoke/MethodHandle" ∧ yX7_copy.cls ≠ "java/lang/invoke/VarHandle" ∧ (parseMethodDescriptor yX7_copy.desc).map (fun d => d.parameters.length) = some 1 := by decide +kernel
theorem dX7_copy_0 : decode cX7_copy 0 = .ok (.aload_n 1, 1) := dc_43 rfl
theorem dX7_copy_1 : decode cX7_copy 1 = .ok (.getfield 9, 3) := dc_180 rfl rfl rfl rfl
theorem dX7_copy_4 : decode cX7_copy 4 = .ok (.iconst 0, 1) := dc_3 rfl
theorem dX7_copy_5 : decode cX7_copy 5 = .ok (.aload_n 0, 1) := dc_42 rfl
theorem dX7_copy_6 : decode cX7_copy 6 = .ok (.getfield 9, 3) := dc_180 rfl rfl rfl rfl
theorem dX7_copy_9 : decode cX7_copy 9 = .ok (.iconst 0, 1) := dc_3 rfl
theorem dX7_copy_10 : decode cX7_copy 10 = .ok (.sipush 600, 3) := dc_17 rfl rfl rfl (sg_p rfl rfl)
theorem dX7_copy_13 : decode cX7_copy 13 = .ok (.invokestatic 66, 3) := dc_184 rfl rfl rfl rfl
theorem dX7_copy_16 : decode cX7_copy 16 = .ok (.aload_n 0, 1) := dc_42 rfl
theorem dX7_copy_17 : decode cX7_copy 17 = .ok (.aload_n 1, 1) := dc_43 rfl
theorem dX7_copy_18 : decode cX7_copy 18 = .ok (.getfield 15, 3) := dc_180 rfl rfl rfl rfl
theorem dX7_copy_21 : decode cX7_copy 21 = .ok (.putfield 15, 3) := dc_181 rfl rfl rfl rfl
theorem dX7_copy_24 : decode cX7_copy 24 = .ok (.aload_n 0, 1) := dc_42 rfl
theorem dX7_copy_25 : decode cX7_copy 25 = .ok (.aload_n 1, 1) := dc_43 rfl
theorem dX7_copy_26 : decode cX7_copy 26 = .ok (.getfield 19, 3) := dc_180 rfl rfl rfl rfl
theorem dX7_copy_29 : decode cX7_copy 29 = .ok (.putfield 19, 3) := dc_181 rfl rfl rfl rfl
theorem dX7_copy_32 : decode cX7_copy 32 = .ok (.aload_n 0, 1) := dc_42 rfl
theorem dX7_copy_33 : decode cX7_copy 33 = .ok (.aload_n 1, 1) := dc_43 rfl
theorem dX7_copy_34 : decode cX7_copy 34 = .ok (.getfield 22, 3) := dc_180 rfl rfl rfl rfl
theorem dX7_copy_37 : decode cX7_copy 37 = .ok (.putfield 22, 3) := dc_181 rfl rfl rfl rfl
theorem dX7_copy_40 : decode cX7_copy 40 = .ok (.aload_n 0, 1) := dc_42 rfl
theorem dX7_copy_41 : decode cX7_copy 41 = .ok (.aload_n 1, 1) := dc_43 rfl
theorem dX7_copy_42 : decode cX7_copy 42 = .ok (.getfield 31, 3) := dc_180 rfl rfl rfl rfl
theorem dX7_copy_45 : decode cX7_copy 45 = .ok (.putfield 31, 3) := dc_181 rfl rfl rfl rfl
theorem dX7_copy_48 : decode cX7_copy 48 = .ok (.aload_n 0, 1) := dc_42 rfl
theorem dX7_copy_49 : decode cX7_copy 49 = .ok (.aload_n 1, 1) := dc_43 rfl
theorem dX7_copy_50 : decode cX7_copy 50 = .ok (.getfield 40, 3) := dc_180 rfl rfl rfl rfl
theorem dX7_copy_53 : decode cX7_copy 53 = .ok (.putfield 40, 3) := dc_181 rfl rfl rfl rfl
theorem dX7_copy_56 : decode cX7_copy 56 = .ok (.iconst 0, 1) := dc_3 rfl
theorem dX7_copy_57 : decode cX7_copy 57 = .ok (.istore_n 2, 1) := dc_61 rfl
theorem dX7_copy_58 : decode cX7_copy 58 = .ok (.iload_n 2, 1) := dc_28 rfl
theorem dX7_copy_59 : decode cX7_copy 59 = .ok (.iconst 2, 1) := dc_5 rfl
theorem dX7_copy_60 : decode cX7_copy 60 = .ok (.if_icmp .ge 24, 3) := dc_162 rfl rfl rfl (sg_p rfl rfl)
theorem dX7_copy_63 : decode cX7_copy 63 = .ok (.aload_n 0, 1) := dc_42 rfl
theorem dX7_copy_64 : decode cX7_copy 64 = .ok (.getfield 27, 3) := dc_180 rfl rfl rfl rfl
theorem dX7_copy_67 : decode cX7_copy 67 = .ok (.iload_n 2, 1) := dc_28 rfl
theorem dX7_copy_68 : decode cX7_copy 68 = .ok (.aaload, 1) := dc_50 rfl
theorem dX7_copy_69 : decode cX7_copy 69 = .ok (.aload_n 1, 1) := dc_43 rfl
theorem dX7_copy_70 : decode cX7_copy 70 = .ok (.getfield 27, 3) := dc_180 rfl rfl rfl rfl
theorem dX7_copy_73 : decode cX7_copy 73 = .ok (.iload_n 2, 1) := dc_28 rfl
theorem dX7_copy_74 : decode cX7_copy 74 = .ok (.aaload, 1) := dc_50 rfl
theorem dX7_copy_75 : decode cX7_copy 75 = .ok (.invokevirtual 50, 3) := dc_182 rfl rfl rfl rfl
theorem dX7_copy_78 : decode cX7_copy 78 = .ok (.iinc 2 1, 3) := dc_132 rfl rfl rfl rfl (by decide)
theorem dX7_copy_81 : decode cX7_copy 81 = .ok (.goto (-23), 3) := dc_167 rfl rfl rfl (sg_n (k := 23) rfl rfl rfl)
theorem dX7_copy_84 : decode cX7_copy 84 = .ok (.iconst 0, 1) := dc_3 rfl
theorem dX7_copy_85 : decode cX7_copy 85 = .ok (.istore_n 2, 1) := dc_61 rfl
theorem dX7_copy_86 : decode cX7_copy 86 = .ok (.iload_n 2, 1) := dc_28 rfl
theorem dX7_copy_87 : decode cX7_copy 87 = .ok (.iconst 3, 1) := dc_6 rfl
theorem dX7_copy_88 : decode cX7_copy 88 = .ok (.if_icmp .ge 24, 3) := dc_162 rfl rfl rfl (sg_p rfl rfl)
theorem dX7_copy_91 : decode cX7_copy 91 = .ok (.aload_n 0, 1) := dc_42 rfl
theorem dX7_copy_92 : decode cX7_copy 92 = .ok (.getfield 36, 3) := dc_180 rfl rfl rfl rfl
theorem dX7_copy_95 : decode cX7_copy 95 = .ok (.iload_n 2, 1) := dc_28 rfl
theorem dX7_copy_96 : decode cX7_copy 96 = .ok (.aaload, 1) := dc_50 rfl
theorem dX7_copy_97 : decode cX7_copy 97 = .ok (.aload_n 1, 1) := dc_43 rfl
theorem dX7_copy_98 : decode cX7_copy 98 = .ok (.getfield 36, 3) := dc_180 rfl rfl rfl rfl
theorem dX7_copy_101 : decode cX7_copy 101 = .ok (.iload_n 2, 1) := dc_28 rfl
theorem dX7_copy_102 : decode cX7_copy 102 = .ok (.aaload, 1) := dc_50 rfl
theorem dX7_copy_103 : decode cX7_copy 103 = .ok (.invokevirtual 63, 3) := dc_182 rfl rfl rfl rfl
theorem dX7_copy_106 : decode cX7_copy 106 = .ok (.iinc 2 1, 3) := dc_132 rfl rfl rfl rfl (by decide)
theorem dX7_copy_109 : decode cX7_copy 109 = .ok (.goto (-23), 3) := dc_167 rfl rfl rfl (sg_n (k := 23) rfl rfl rfl)
theorem dX7_copy_112 : decode cX7_copy 112 = .ok (.return_, 1) := dc_177 rfl
theorem dX7_append_0 : decode cX7_append 0 = .ok (.bipush 24, 2) := dc_16 rfl rfl (by decide)
theorem dX7_append_2 : decode cX7_append 2 = .ok (.istore_n 2, 1) := dc_61 rfl
theorem dX7_append_3 : decode cX7_append 3 = .ok (.iload_n 2, 1) := dc_28 rfl
theorem dX7_append_4 : decode cX7_append 4 = .ok (.ifCond .lt 42, 3) := dc_155 rfl rfl rfl (sg_p rfl rfl)
theorem dX7_append_7 : decode cX7_append 7 = .ok (.aload_n 0, 1) := dc_42 rfl
theorem dX7_append_8 : decode cX7_append 8 = .ok (.getfield 15, 3) := dc_180 rfl rfl rfl rfl
theorem dX7_append_11 : decode cX7_append 11 = .ok (.sipush 600, 3) := dc_17 rfl rfl rfl (sg_p rfl rfl)
theorem dX7_append_14 : decode cX7_append 14 = .ok (.if_icmp .ge 32, 3) := dc_162 rfl rfl rfl (sg_p rfl rfl)
theorem dX7_append_17 : decode cX7_append 17 = .ok (.aload_n 0, 1) := dc_42 rfl
theorem dX7_append_18 : decode cX7_append 18 = .ok (.getfield 9, 3) := dc_180 rfl rfl rfl rfl
theorem dX7_append_21 : decode cX7_append 21 = .ok (.aload_n 0, 1) := dc_42 rfl
theorem dX7_append_22 : decode cX7_append 22 = .ok (.getfield 15, 3) := dc_180 rfl rfl rfl rfl
theorem dX7_append_25 : decode cX7_append 25 = .ok (.iload_n 1, 1) := dc_27 rfl
theorem dX7_append_26 : decode cX7_append 26 = .ok (.iload_n 2, 1) := dc_28 rfl
theorem dX7_append_27 : decode cX7_append 27 = .ok (.ishr, 1) := dc_122 rfl
theorem dX7_append_28 : decode cX7_append 28 = .ok (.i2b, 1) := dc_145 rfl
theorem dX7_append_29 : decode cX7_append 29 = .ok (.bastore, 1) := dc_84 rfl
theorem dX7_append_30 : decode cX7_append 30 = .ok (.aload_n 0, 1) := dc_42 rfl
theorem dX7_append_31 : decode cX7_append 31 = .ok (.dup, 1) := dc_89 rfl
theorem dX7_append_32 : decode cX7_append 32 = .ok (.getfield 15, 3) := dc_180 rfl rfl rfl rfl
theorem dX7_append_35 : decode cX7_append 35 = .ok (.iconst 1, 1) := dc_4 rfl
theorem dX7_append_36 : decode cX7_append 36 = .ok (.iadd, 1) := dc_96 rfl
theorem dX7_append_37 : decode cX7_append 37 = .ok (.putfield 15, 3) := dc_181 rfl rfl rfl rfl
theorem dX7_append_40 : decode cX7_append 40 = .ok (.iinc 2 (-8), 3) := dc_132 rfl rfl rfl rfl (by decide)
theorem dX7_append_43 : decode cX7_append 43 = .ok (.goto (-40), 3) := dc_167 rfl rfl rfl (sg_n (k := 40) rfl rfl rfl)
theorem dX7_append_46 : decode cX7_append 46 = .ok (.return_, 1) := dc_177 rfl
theorem dX10_feed_0 : decode cX10_feed 0 = .ok (.aload_n 0, 1) := dc_42 rfl
theorem dX10_feed_1 : decode cX10_feed 1 = .ok (.getfield 10, 3) := dc_180 rfl rfl rfl rfl
theorem dX10_feed_4 : decode cX10_feed 4 = .ok (.getfield 71, 3) := dc_180 rfl rfl rfl rfl
theorem dX10_feed_7 : decode cX10_feed 7 = .ok (.sipush 580, 3) := dc_17 rfl rfl rfl (sg_p rfl rfl)
theorem dX10_feed_10 : decode cX10_feed 10 = .ok (.if_icmp .le 5, 3) := dc_164 rfl rfl rfl (sg_p rfl rfl)
theorem dX10_feed_13 : decode cX10_feed 13 = .ok (.iconst (-1), 1) := dc_2 rfl
theorem dX10_feed_14 : decode cX10_feed 14 = .ok (.ireturn, 1) := dc_172 rfl
theorem dX10_feed_15 : decode cX10_feed 15 = .ok (.aload_n 0, 1) := dc_42 rfl
theorem dX10_feed_16 : decode cX10_feed 16 = .ok (.getfield 10, 3) := dc_180 rfl rfl rfl rfl
theorem dX10_feed_19 : decode cX10_feed 19 = .ok (.iload_n 1, 1) := dc_27 rfl
theorem dX10_feed_20 : decode cX10_feed 20 = .ok (.invokevirtual 75, 3) := dc_182 rfl rfl rfl rfl
theorem dX10_feed_23 : decode cX10_feed 23 = .ok (.aload_n 0, 1) := dc_42 rfl
theorem dX10_feed_24 : decode cX10_feed 24 = .ok (.getfield 10, 3) := dc_180 rfl rfl rfl rfl
theorem dX10_feed_27 : decode cX10_feed 27 = .ok (.iload_n 2, 1) := dc_28 rfl
theorem dX10_feed_28 : decode cX10_feed 28 = .ok (.invokevirtual 75, 3) := dc_182 rfl rfl rfl rfl
theorem dX10_feed_31 : decode cX10_feed 31 = .ok (.aload_n 0, 1) := dc_42 rfl
theorem dX10_feed_32 : decode cX10_feed 32 = .ok (.getfield 10, 3) := dc_180 rfl rfl rfl rfl
theorem dX10_feed_35 : decode cX10_feed 35 = .ok (.iload_n 3, 1) := dc_29 rfl
theorem dX10_feed_36 : decode cX10_feed 36 = .ok (.invokevirtual 75, 3) := dc_182 rfl rfl rfl rfl
theorem dX10_feed_39 : decode cX10_feed 39 = .ok (.aload_n 0, 1) := dc_42 rfl
theorem dX10_feed_40 : decode cX10_feed 40 = .ok (.getfield 10, 3) := dc_180 rfl rfl rfl rfl
theorem dX10_feed_43 : decode cX10_feed 43 = .ok (.iload 4, 2) := dc_21 rfl rfl rfl
theorem dX10_feed_45 : decode cX10_feed 45 = .ok (.invokevirtual 75, 3) := dc_182 rfl rfl rfl rfl
theorem dX10_feed_48 : decode cX10_feed 48 = .ok (.aload_n 0, 1) := dc_42 rfl
theorem dX10_feed_49 : decode cX10_feed 49 = .ok (.getfield 10, 3) := dc_180 rfl rfl rfl rfl
theorem dX10_feed_52 : decode cX10_feed 52 = .ok (.iload 5, 2) := dc_21 rfl rfl rfl
theorem dX10_feed_54 : decode cX10_feed 54 = .ok (.invokevirtual 75, 3) := dc_182 rfl rfl rfl rfl
theorem dX10_feed_57 : decode cX10_feed 57 = .ok (.aload_n 0, 1) := dc_42 rfl
theorem dX10_feed_58 : decode cX10_feed 58 = .ok (.getfield 10, 3) := dc_180 rfl rfl rfl rfl
theorem dX10_feed_61 : decode cX10_feed 61 = .ok (.getfield 71, 3) := dc_180 rfl rfl rfl rfl
theorem dX10_feed_64 : decode cX10_feed 64 = .ok (.ireturn, 1) := dc_172 rfl
theorem dX10_end_0 : decode cX10_end 0 = .ok (.iload_n 1, 1) := dc_27 rfl
theorem dX10_end_1 : decode cX10_end 1 = .ok (.ifCond .lt 14, 3) := dc_155 rfl rfl rfl (sg_p rfl rfl)
theorem dX10_end_4 : decode cX10_end 4 = .ok (.iload_n 1, 1) := dc_27 rfl
theorem dX10_end_5 : decode cX10_end 5 = .ok (.aload_n 0, 1) := dc_42 rfl
theorem dX10_end_6 : decode cX10_end 6 = .ok (.getfield 10, 3) := dc_180 rfl rfl rfl rfl
theorem dX10_end_9 : decode cX10_end 9 = .ok (.getfield 71, 3) := dc_180 rfl rfl rfl rfl
theorem dX10_end_12 : decode cX10_end 12 = .ok (.if_icmp .le 5, 3) := dc_164 rfl rfl rfl (sg_p rfl rfl)
theorem dX10_end_15 : decode cX10_end 15 = .ok (.iconst (-1), 1) := dc_2 rfl
theorem dX10_end_16 : decode cX10_end 16 = .ok (.ireturn, 1) := dc_172 rfl
theorem dX10_end_17 : decode cX10_end 17 = .ok (.aload_n 0, 1) := dc_42 rfl
theorem dX10_end_18 : decode cX10_end 18 = .ok (.getfield 10, 3) := dc_180 rfl rfl rfl rfl
theorem dX10_end_21 : decode cX10_end 21 = .ok (.iload_n 1, 1) := dc_27 rfl
theorem dX10_end_22 : decode cX10_end 22 = .ok (.putfield 71, 3) := dc_181 rfl rfl rfl rfl
theorem dX10_end_25 : decode cX10_end 25 = .ok (.iload_n 1, 1) := dc_27 rfl
theorem dX10_end_26 : decode cX10_end 26 = .ok (.ireturn, 1) := dc_172 rfl
theorem dX10_image_0 : decode cX10_image 0 = .ok (.iload_n 1, 1) := dc_27 rfl
theorem dX10_image_1 : decode cX10_image 1 = .ok (.ifCond .lt 8, 3) := dc_155 rfl rfl rfl (sg_p rfl rfl)
theorem dX10_image_4 : decode cX10_image 4 = .ok (.iload_n 1, 1) := dc_27 rfl
theorem dX10_image_5 : decode cX10_image 5 = .ok (.iconst 3, 1) := dc_6 rfl
theorem dX10_image_6 : decode cX10_image 6 = .ok (.if_icmp .lt 5, 3) := dc_161 rfl rfl rfl (sg_p rfl rfl)
theorem dX10_image_9 : decode cX10_image 9 = .ok (.iconst 0, 1) := dc_3 rfl
theorem dX10_image_10 : decode cX10_image 10 = .ok (.ireturn, 1) := dc_172 rfl
theorem dX10_image_11 : decode cX10_image 11 = .ok (.aload_n 0, 1) := dc_42 rfl
theorem dX10_image_12 : decode cX10_image 12 = .ok (.getfield 16, 3) := dc_180 rfl rfl rfl rfl
theorem dX10_image_15 : decode cX10_image 15 = .ok (.iload_n 1, 1) := dc_27 rfl
theorem dX10_image_16 : decode cX10_image 16 = .ok (.aaload, 1) := dc_50 rfl
theorem dX10_image_17 : decode cX10_image 17 = .ok (.aload_n 0, 1) := dc_42 rfl
theorem dX10_image_18 : decode cX10_image 18 = .ok (.getfield 10, 3) := dc_180 rfl rfl rfl rfl
theorem dX10_image_21 : decode cX10_image 21 = .ok (.invokevirtual 334, 3) := dc_182 rfl rfl rfl rfl
theorem dX10_image_24 : decode cX10_image 24 = .ok (.aload_n 0, 1) := dc_42 rfl
theorem dX10_image_25 : decode cX10_image 25 = .ok (.getfield 20, 3) := dc_180 rfl rfl rfl rfl
theorem dX10_image_28 : decode cX10_image 28 = .ok (.iload_n 1, 1) := dc_27 rfl
theorem dX10_image_29 : decode cX10_image 29 = .ok (.iconst 1, 1) := dc_4 rfl
theorem dX10_image_30 : decode cX10_image 30 = .ok (.bastore, 1) := dc_84 rfl
theorem dX10_image_31 : decode cX10_image 31 = .ok (.iconst 1, 1) := dc_4 rfl
theorem dX10_image_32 : decode cX10_image 32 = .ok (.ireturn, 1) := dc_172 rfl
theorem dX10_again_0 : decode cX10_again 0 = .ok (.iload_n 1, 1) := dc_27 rfl
theorem dX10_again_1 : decode cX10_again 1 = .ok (.ifCond .lt 17, 3) := dc_155 rfl rfl rfl (sg_p rfl rfl)
theorem dX10_again_4 : decode cX10_again 4 = .ok (.iload_n 1, 1) := dc_27 rfl
theorem dX10_again_5 : decode cX10_again 5 = .ok (.iconst 3, 1) := dc_6 rfl
theorem dX10_again_6 : decode cX10_again 6 = .ok (.if_icmp .ge 12, 3) := dc_162 rfl rfl rfl (sg_p rfl rfl)
theorem dX10_again_9 : decode cX10_again 9 = .ok (.aload_n 0, 1) := dc_42 rfl
theorem dX10_again_10 : decode cX10_again 10 = .ok (.getfield 20, 3) := dc_180 rfl rfl rfl rfl
theorem dX10_again_13 : decode cX10_again 13 = .ok (.iload_n 1, 1) := dc_27 rfl
theorem dX10_again_14 : decode cX10_again 14 = .ok (.baload, 1) := dc_51 rfl
theorem dX10_again_15 : decode cX10_again 15 = .ok (.ifCond .ne 5, 3) := dc_154 rfl rfl rfl (sg_p rfl rfl)
theorem dX10_again_18 : decode cX10_again 18 = .ok (.iconst 0, 1) := dc_3 rfl
theorem dX10_again_19 : decode cX10_again 19 = .ok (.ireturn, 1) := dc_172 rfl
theorem dX10_again_20 : decode cX10_again 20 = .ok (.aload_n 0, 1) := dc_42 rfl
theorem dX10_again_21 : decode cX10_again 21 = .ok (.getfield 10, 3) := dc_180 rfl rfl rfl rfl
theorem dX10_again_24 : decode cX10_again 24 = .ok (.aload_n 0, 1) := dc_42 rfl
theorem dX10_again_25 : decode cX10_again 25 = .ok (.getfield 16, 3) := dc_180 rfl rfl rfl rfl
theorem dX10_again_28 : decode cX10_again 28 = .ok (.iload_n 1, 1) := dc_27 rfl
theorem dX10_again_29 : decode cX10_again 29 = .ok (.aaload, 1) := dc_50 rfl
theorem dX10_again_30 : decode cX10_again 30 = .ok (.invokevirtual 334, 3) := dc_182 rfl rfl rfl rfl
theorem dX10_again_33 : decode cX10_again 33 = .ok (.iconst 1, 1) := dc_4 rfl
theorem dX10_again_34 : decode cX10_again 34 = .ok (.ireturn, 1) := dc_172 rfl
/-! the reader: numbers of at most three digits -/
def NV (u : Nat → Nat → Int32) : Prop := u 30 3 = 2 → Bd 0 999 (u 30 5)
def NVI (n s v : Int32) : Prop := (n.toInt = s.toInt ∧ Bd 0 0 v) ∨ (n.toInt = s.toInt + 1 ∧ Bd 0 9 v) ∨ (n.toInt = s.toInt + 2 ∧ Bd 0 99 v) ∨ (n.toInt = s.toInt + 3 ∧ Bd 0 999 v) ∨ s.toInt + 4 ≤ n.toInt
theorem nvi_r {a b c a2 b2 c2 : Int32} (e1 : a2 = a) (e2 : b2 = b) (e3 : c2 = c) (h : NVI a b c) : NVI a2 b2 c2 := by subst e1; subst e2; subst e3; exact h
theorem nvi_0 {n s v : Int32} (e : n = s) (h : v = 0) : NVI n s v := Or.inl ⟨by rw [e], by subst h; decide⟩
theorem nvi_s {n s v d : Int32} (h : NVI n s v) (bn : Bd 0 599 n) (bd : Bd 48 57 d) : NVI (n + 1) s (v * 10 + (d - 48)) := by
  have e1 : (1 : Int32).toInt = 1 := rfl
  have hn : (n + 1).toInt = n.toInt + 1 := by rw [ti_add (by have := bn.1; have := bn.2; omega) (by have := bn.1; have := bn.2; omega)]; rfl
  have hd : Bd 0 9 (d - 48) := bd_sub (l := 0) (h := 9) bd (bd_c (v := 48) (lo := 48) (hi := 48) (by decide)) (by decide)
  have t10 : Bd 10 10 (10 : Int32) := by decide
  unfold NVI at h ⊢
  rw [hn]
  rcases h with ⟨h1, h2⟩ | ⟨h1, h2⟩ | ⟨h1, h2⟩ | ⟨h1, h2⟩ | h1
  · exact Or.inr (Or.inl ⟨by omega, bd_add (l := 0) (h := 9) (bd_mul (l := 0) (h := 0) h2 t10 (by decide)) hd (by decide)⟩)
  · exact Or.inr (Or.inr (Or.inl ⟨by omega, bd_add (l := 0) (h := 99) (bd_mul (l := 0) (h := 90) h2 t10 (by decide)) hd (by decide)⟩))
  · exact Or.inr (Or.inr (Or.inr (Or.inl ⟨by omega, bd_add (l := 0) (h := 999) (bd_mul (l := 0) (h := 990) h2 t10 (by decide)) hd (by decide)⟩)))
  · exact Or.inr (Or.inr (Or.inr (Or.inr (by omega))))
  · exact Or.inr (Or.inr (Or.inr (Or.inr (by omega))))
theorem nvi_e {n s v : Int32} (h : NVI n s v) (bn : Bd 0 600 n) (bs : Bd 0 600 s) (hc : n - s ≤ 3) : Bd 0 999 v := by
  have h3 := Int32.le_iff_toInt_le.mp hc
  have e3 : (3 : Int32).toInt = 3 := rfl
  obtain ⟨n1, n2⟩ := bn; obtain ⟨s1, s2⟩ := bs
  rw [ti_sub (by omega) (by omega), e3] at h3
  rcases h with ⟨h1, h2⟩ | ⟨h1, h2⟩ | ⟨h1, h2⟩ | ⟨h1, h2⟩ | h1
  · exact bd_w h2 (by decide)
  · exact bd_w h2 (by decide)
  · exact bd_w h2 (by decide)
  · exact h2
  · omega
theorem slen_sh : ∀ i, i < 18 → (Int32.ofNat (sLn.getD i 0)) >>> ((0 : Int32) &&& 31) = Int32.ofNat (sLn.getD i 0) := by decide +kernel
theorem sl_vin {i : Nat} {k : Int32} {lo hi : Int} (b : Bd lo hi k) (hl : 0 ≤ lo) (h : k < Int32.ofNat (sLn.getD i 0)) : vp_in k (sLn.getD i 0) := by
  have h1 := Int32.lt_iff_toInt_lt.mp h
  have h2 := sln_le i
  rw [Int32.toInt_ofNat_of_lt (by omega)] at h1
  have h3 := b.1
  intro q
  rcases q with q | q
  · have h4 := Int32.lt_iff_toInt_lt.mp q
    have h5 : (0 : Int32).toInt = 0 := rfl
    omega
  · have h4 : k.toNatClampNeg = k.toInt.toNat := rfl
    omega
theorem vin_sl {i : Nat} {k : Int32} (h : vp_in k (sLn.getD i 0)) : 0 ≤ k ∧ k < Int32.ofNat (sLn.getD i 0) := by
  have h2 := sln_le i
  have h4 : k.toNatClampNeg = k.toInt.toNat := rfl
  have h5 : (0 : Int32).toInt = 0 := rfl
  have a1 : ¬ k < 0 := fun q => h (Or.inl q)
  have a2 : ¬ sLn.getD i 0 ≤ k.toNatClampNeg := fun q => h (Or.inr q)
  refine ⟨i_nlt a1, ?_⟩
  rw [Int32.lt_iff_toInt_lt, Int32.toInt_ofNat_of_lt (by omega)]
  omega
theorem nar_c {u v : Int32} (h : v = (u.toUInt32 % 65536).toInt32) : narrow .char (.int v) = .int v := by
  subst h
  show Value.int ((((u.toUInt32 % 65536).toInt32).toUInt32 % 65536).toInt32) = _
  congr 2
  have e : ((u.toUInt32 % 65536).toInt32).toUInt32 = u.toUInt32 % 65536 := rfl
  rw [e]
  apply UInt32.toNat_inj.mp
  rw [UInt32.toNat_mod, UInt32.toNat_mod]
  exact Nat.mod_mod _ _
theorem plan_cnt : ∀ j, j < 5 → (1 < (sAr 3).getD j 0 ∨ j = 4) := by decide +kernel
theorem plan_count {l v : Int32} (b : Bd 0 4 l) (e : v = (sAr 3).getD l.toNatClampNeg 0) : 1 < v ∨ l = 4 := by
  obtain ⟨n, h1, h2⟩ := i32_nat b (by decide)
  have h4 : l.toNatClampNeg = l.toInt.toNat := rfl
  have h5 : l.toNatClampNeg = n := by omega
  rw [e, h5]
  rcases plan_cnt n (by have := b.2; omega) with h | h
  · exact Or.inl h
  · refine Or.inr ?_
    rw [h2, h]
    rfl
theorem img_t {k : Int32} (b : Bd 0 2 k) : 0 ≤ k ∧ k ≤ 2 := by
  have e0 : (0 : Int32).toInt = 0 := rfl
  have e2 : (2 : Int32).toInt = 2 := rfl
  obtain ⟨b1, b2⟩ := b
  exact ⟨by rw [Int32.le_iff_toInt_le]; omega, by rw [Int32.le_iff_toInt_le]; omega⟩
theorem img_2 {k : Int32} (h : 3 ≤ k) (q : 0 ≤ k ∧ k ≤ 2) : False := by
  have h1 := Int32.le_iff_toInt_le.mp h
  have h2 := Int32.le_iff_toInt_le.mp q.2
  have e3 : (3 : Int32).toInt = 3 := rfl
  have e2 : (2 : Int32).toInt = 2 := rfl
  omega
theorem km_s {u u2 : Nat → Nat → Int32} {w i : Nat} {k m : Int32} (e1 : u2 (w + 1) = upd (u (w + 1)) i k) (e3 : u2 (w + 3) = upd (u (w + 3)) i m) (h : KM u w) (q : k = 4 ∨ Bd 0 999 m) : KM u2 w := by
  intro j
  rw [e1, e3]
  by_cases hj : j = i
  · simp only [upd, hj, if_true]; exact q
  · simp only [upd, hj, if_false]; exact h j
theorem km_cp {u u2 : Nat → Nat → Int32} {w f : Nat} (e1 : u2 (w + 1) = va_cpy (u (f + 1)) (u (w + 1)) 0 0 12) (e3 : u2 (w + 3) = va_cpy (u (f + 3)) (u (w + 3)) 0 0 12) (hf : KM u f) (hw : KM u w) : KM u2 w := by
  intro j
  rw [e1, e3]
  by_cases hj : j < 12
  · have q : 0 ≤ j ∧ j < 0 + 12 := ⟨Nat.zero_le _, by omega⟩
    simp only [va_cpy, q, and_self, if_true]
    exact hf _
  · have q : ¬ (0 ≤ j ∧ j < 0 + 12) := by omega
    simp only [va_cpy, q, if_false]
    exact hw j
