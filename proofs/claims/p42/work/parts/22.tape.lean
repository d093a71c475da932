theorem k1806 : Cond.methodLink RX11 74 yX11_move ∈ gt := gt_in 1806 (by decide +kernel) (by decide +kernel)
theorem k1807 : Cond.static yX11_move ∈ gt := gt_in 1807 (by decide +kernel) (by decide +kernel)
theorem k1808 : Cond.code yX11_move cX11_move 5 none ∈ gt := gt_in 1808 (by decide +kernel) (by decide +kernel)
theorem np_X11_move : yX11_move.cls ≠ "java/lang/invoke/MethodHandle" ∧ yX11_move.cls ≠ "java/lang/invoke/VarHandle" ∧ (parseMethodDescriptor yX11_move.desc).map (fun d => d.parameters.length) = some 4 := by decide +kernel
theorem k1802 : Cond.methodLink RX11 381 yX11_copy ∈ gt := gt_in 1802 (by decide +kernel) (by decide +kernel)
theorem k1804 : Cond.instanceMethod yX11_copy ∈ gt := gt_in 1804 (by decide +kernel) (by decide +kernel)
theorem k85 : Cond.selects RX11 yX11_copy yX11_copy ∈ gt := gt_in 85 (by decide +kernel) (by decide +kernel)
theorem k1805 : Cond.code yX11_copy cX11_copy 4 none ∈ gt := gt_in 1805 (by decide +kernel) (by decide +kernel)
theorem np_X11_copy : yX11_copy.cls ≠ "java/lang/invoke/MethodHandle" ∧ yX11_copy.cls ≠ "java/lang/invoke/VarHandle" ∧ (parseMethodDescriptor yX11_copy.desc).map (fun d => d.parameters.length) = some 2 := by decide +kernel
theorem k1398 : Cond.methodLink RX11 82 yX11_four ∈ gt := gt_in 1398 (by decide +kernel) (by decide +kernel)
theorem k1400 : Cond.instanceMethod yX11_four ∈ gt := gt_in 1400 (by decide +kernel) (by decide +kernel)
theorem k36 : Cond.selects RX11 yX11_four yX11_four ∈ gt := gt_in 36 (by decide +kernel) (by decide +kernel)
theorem k1401 : Cond.code yX11_four cX11_four 3 none ∈ gt := gt_in 1401 (by decide +kernel) (by decide +kernel)
theorem np_X11_four : yX11_four.cls ≠ "java/lang/invoke/MethodHandle" ∧ yX11_four.cls ≠ "java/lang/invoke/VarHandle" ∧ (parseMethodDescriptor yX11_four.desc).map (fun d => d.parameters.length) = some 1 := by decide +kernel
theorem dX11_move_0 : decode cX11_move 0 = .ok (.iconst 0, 1) := by decide +kernel
theorem dX11_move_1 : decode cX11_move 1 = .ok (.istore 4, 2) := by decide +kernel
theorem dX11_move_3 : decode cX11_move 3 = .ok (.iload 4, 2) := by decide +kernel
theorem dX11_move_5 : decode cX11_move 5 = .ok (.iload_n 1, 1) := by decide +kernel
theorem dX11_move_6 : decode cX11_move 6 = .ok (.if_icmp .ge 25, 3) := by decide +kernel
theorem dX11_move_9 : decode cX11_move 9 = .ok (.aload_n 0, 1) := by decide +kernel
theorem dX11_move_10 : decode cX11_move 10 = .ok (.iload_n 1, 1) := by decide +kernel
theorem dX11_move_11 : decode cX11_move 11 = .ok (.iload_n 3, 1) := by decide +kernel
theorem dX11_move_12 : decode cX11_move 12 = .ok (.imul, 1) := by decide +kernel
theorem dX11_move_13 : decode cX11_move 13 = .ok (.iload 4, 2) := by decide +kernel
theorem dX11_move_15 : decode cX11_move 15 = .ok (.iadd, 1) := by decide +kernel
theorem dX11_move_16 : decode cX11_move 16 = .ok (.aload_n 0, 1) := by decide +kernel
theorem dX11_move_17 : decode cX11_move 17 = .ok (.iload_n 1, 1) := by decide +kernel
theorem dX11_move_18 : decode cX11_move 18 = .ok (.iload_n 2, 1) := by decide +kernel
theorem dX11_move_19 : decode cX11_move 19 = .ok (.imul, 1) := by decide +kernel
theorem dX11_move_20 : decode cX11_move 20 = .ok (.iload 4, 2) := by decide +kernel
theorem dX11_move_22 : decode cX11_move 22 = .ok (.iadd, 1) := by decide +kernel
theorem dX11_move_23 : decode cX11_move 23 = .ok (.iaload, 1) := by decide +kernel
theorem dX11_move_24 : decode cX11_move 24 = .ok (.iastore, 1) := by decide +kernel
theorem dX11_move_25 : decode cX11_move 25 = .ok (.iinc 4 1, 3) := by decide +kernel
theorem dX11_move_28 : decode cX11_move 28 = .ok (.goto (-25), 3) := by decide +kernel
theorem dX11_move_31 : decode cX11_move 31 = .ok (.return_, 1) := by decide +kernel
theorem dX11_copy_0 : decode cX11_copy 0 = .ok (.iconst 0, 1) := by decide +kernel
theorem dX11_copy_1 : decode cX11_copy 1 = .ok (.istore_n 3, 1) := by decide +kernel
theorem dX11_copy_2 : decode cX11_copy 2 = .ok (.iload_n 3, 1) := by decide +kernel
theorem dX11_copy_3 : decode cX11_copy 3 = .ok (.sipush 600, 3) := by decide +kernel
theorem dX11_copy_6 : decode cX11_copy 6 = .ok (.if_icmp .ge 33, 3) := by decide +kernel
theorem dX11_copy_9 : decode cX11_copy 9 = .ok (.aload_n 0, 1) := by decide +kernel
theorem dX11_copy_10 : decode cX11_copy 10 = .ok (.getfield 7, 3) := by decide +kernel
theorem dX11_copy_13 : decode cX11_copy 13 = .ok (.sipush 600, 3) := by decide +kernel
theorem dX11_copy_16 : decode cX11_copy 16 = .ok (.iload_n 2, 1) := by decide +kernel
theorem dX11_copy_17 : decode cX11_copy 17 = .ok (.imul, 1) := by decide +kernel
theorem dX11_copy_18 : decode cX11_copy 18 = .ok (.iload_n 3, 1) := by decide +kernel
theorem dX11_copy_19 : decode cX11_copy 19 = .ok (.iadd, 1) := by decide +kernel
theorem dX11_copy_20 : decode cX11_copy 20 = .ok (.aload_n 0, 1) := by decide +kernel
theorem dX11_copy_21 : decode cX11_copy 21 = .ok (.getfield 7, 3) := by decide +kernel
theorem dX11_copy_24 : decode cX11_copy 24 = .ok (.sipush 600, 3) := by decide +kernel
theorem dX11_copy_27 : decode cX11_copy 27 = .ok (.iload_n 1, 1) := by decide +kernel
theorem dX11_copy_28 : decode cX11_copy 28 = .ok (.imul, 1) := by decide +kernel
theorem dX11_copy_29 : decode cX11_copy 29 = .ok (.iload_n 3, 1) := by decide +kernel
theorem dX11_copy_30 : decode cX11_copy 30 = .ok (.iadd, 1) := by decide +kernel
theorem dX11_copy_31 : decode cX11_copy 31 = .ok (.baload, 1) := by decide +kernel
theorem dX11_copy_32 : decode cX11_copy 32 = .ok (.bastore, 1) := by decide +kernel
theorem dX11_copy_33 : decode cX11_copy 33 = .ok (.iinc 3 1, 3) := by decide +kernel
theorem dX11_copy_36 : decode cX11_copy 36 = .ok (.goto (-34), 3) := by decide +kernel
theorem dX11_copy_39 : decode cX11_copy 39 = .ok (.aload_n 0, 1) := by decide +kernel
theorem dX11_copy_40 : decode cX11_copy 40 = .ok (.getfield 13, 3) := by decide +kernel
theorem dX11_copy_43 : decode cX11_copy 43 = .ok (.iconst 1, 1) := by decide +kernel
theorem dX11_copy_44 : decode cX11_copy 44 = .ok (.iload_n 1, 1) := by decide +kernel
theorem dX11_copy_45 : decode cX11_copy 45 = .ok (.iload_n 2, 1) := by decide +kernel
theorem dX11_copy_46 : decode cX11_copy 46 = .ok (.invokestatic 74, 3) := by decide +kernel
theorem dX11_copy_49 : decode cX11_copy 49 = .ok (.aload_n 0, 1) := by decide +kernel
theorem dX11_copy_50 : decode cX11_copy 50 = .ok (.getfield 17, 3) := by decide +kernel
theorem dX11_copy_53 : decode cX11_copy 53 = .ok (.iconst 1, 1) := by decide +kernel
theorem dX11_copy_54 : decode cX11_copy 54 = .ok (.iload_n 1, 1) := by decide +kernel
theorem dX11_copy_55 : decode cX11_copy 55 = .ok (.iload_n 2, 1) := by decide +kernel
theorem dX11_copy_56 : decode cX11_copy 56 = .ok (.invokestatic 74, 3) := by decide +kernel
theorem dX11_copy_59 : decode cX11_copy 59 = .ok (.aload_n 0, 1) := by decide +kernel
theorem dX11_copy_60 : decode cX11_copy 60 = .ok (.getfield 20, 3) := by decide +kernel
theorem dX11_copy_63 : decode cX11_copy 63 = .ok (.iconst 1, 1) := by decide +kernel
theorem dX11_copy_64 : decode cX11_copy 64 = .ok (.iload_n 1, 1) := by decide +kernel
theorem dX11_copy_65 : decode cX11_copy 65 = .ok (.iload_n 2, 1) := by decide +kernel
theorem dX11_copy_66 : decode cX11_copy 66 = .ok (.invokestatic 74, 3) := by decide +kernel
theorem dX11_copy_69 : decode cX11_copy 69 = .ok (.aload_n 0, 1) := by decide +kernel
theorem dX11_copy_70 : decode cX11_copy 70 = .ok (.getfield 23, 3) := by decide +kernel
theorem dX11_copy_73 : decode cX11_copy 73 = .ok (.iconst 2, 1) := by decide +kernel
theorem dX11_copy_74 : decode cX11_copy 74 = .ok (.iload_n 1, 1) := by decide +kernel
theorem dX11_copy_75 : decode cX11_copy 75 = .ok (.iload_n 2, 1) := by decide +kernel
theorem dX11_copy_76 : decode cX11_copy 76 = .ok (.invokestatic 74, 3) := by decide +kernel
theorem dX11_copy_79 : decode cX11_copy 79 = .ok (.aload_n 0, 1) := by decide +kernel
theorem dX11_copy_80 : decode cX11_copy 80 = .ok (.getfield 26, 3) := by decide +kernel
theorem dX11_copy_83 : decode cX11_copy 83 = .ok (.sipush 314, 3) := by decide +kernel
theorem dX11_copy_86 : decode cX11_copy 86 = .ok (.iload_n 1, 1) := by decide +kernel
theorem dX11_copy_87 : decode cX11_copy 87 = .ok (.iload_n 2, 1) := by decide +kernel
theorem dX11_copy_88 : decode cX11_copy 88 = .ok (.invokestatic 74, 3) := by decide +kernel
theorem dX11_copy_91 : decode cX11_copy 91 = .ok (.aload_n 0, 1) := by decide +kernel
theorem dX11_copy_92 : decode cX11_copy 92 = .ok (.getfield 29, 3) := by decide +kernel
theorem dX11_copy_95 : decode cX11_copy 95 = .ok (.bipush 111, 2) := by decide +kernel
theorem dX11_copy_97 : decode cX11_copy 97 = .ok (.iload_n 1, 1) := by decide +kernel
theorem dX11_copy_98 : decode cX11_copy 98 = .ok (.iload_n 2, 1) := by decide +kernel
theorem dX11_copy_99 : decode cX11_copy 99 = .ok (.invokestatic 74, 3) := by decide +kernel
theorem dX11_copy_102 : decode cX11_copy 102 = .ok (.return_, 1) := by decide +kernel
theorem dX11_image_0 : decode cX11_image 0 = .ok (.aload_n 0, 1) := by decide +kernel
theorem dX11_image_1 : decode cX11_image 1 = .ok (.iconst 0, 1) := by decide +kernel
theorem dX11_image_2 : decode cX11_image 2 = .ok (.putfield 70, 3) := by decide +kernel
theorem dX11_image_5 : decode cX11_image 5 = .ok (.iload_n 1, 1) := by decide +kernel
theorem dX11_image_6 : decode cX11_image 6 = .ok (.iconst 0, 1) := by decide +kernel
theorem dX11_image_7 : decode cX11_image 7 = .ok (.iconst 2, 1) := by decide +kernel
theorem dX11_image_8 : decode cX11_image 8 = .ok (.invokestatic 78, 3) := by decide +kernel
theorem dX11_image_11 : decode cX11_image 11 = .ok (.ifCond .ne 5, 3) := by decide +kernel
theorem dX11_image_14 : decode cX11_image 14 = .ok (.iconst 0, 1) := by decide +kernel
theorem dX11_image_15 : decode cX11_image 15 = .ok (.ireturn, 1) := by decide +kernel
theorem dX11_image_16 : decode cX11_image 16 = .ok (.aload_n 0, 1) := by decide +kernel
theorem dX11_image_17 : decode cX11_image 17 = .ok (.iconst 0, 1) := by decide +kernel
theorem dX11_image_18 : decode cX11_image 18 = .ok (.iload_n 1, 1) := by decide +kernel
theorem dX11_image_19 : decode cX11_image 19 = .ok (.iconst 1, 1) := by decide +kernel
theorem dX11_image_20 : decode cX11_image 20 = .ok (.iadd, 1) := by decide +kernel
theorem dX11_image_21 : decode cX11_image 21 = .ok (.invokevirtual 381, 3) := by decide +kernel
theorem dX11_image_24 : decode cX11_image 24 = .ok (.aload_n 0, 1) := by decide +kernel
theorem dX11_image_25 : decode cX11_image 25 = .ok (.getfield 66, 3) := by decide +kernel
theorem dX11_image_28 : decode cX11_image 28 = .ok (.iload_n 1, 1) := by decide +kernel
theorem dX11_image_29 : decode cX11_image 29 = .ok (.iconst 1, 1) := by decide +kernel
theorem dX11_image_30 : decode cX11_image 30 = .ok (.bastore, 1) := by decide +kernel
theorem dX11_image_31 : decode cX11_image 31 = .ok (.iconst 1, 1) := by decide +kernel
theorem dX11_image_32 : decode cX11_image 32 = .ok (.ireturn, 1) := by decide +kernel
theorem dX11_again_0 : decode cX11_again 0 = .ok (.aload_n 0, 1) := by decide +kernel
theorem dX11_again_1 : decode cX11_again 1 = .ok (.iconst 0, 1) := by decide +kernel
theorem dX11_again_2 : decode cX11_again 2 = .ok (.putfield 70, 3) := by decide +kernel
theorem dX11_again_5 : decode cX11_again 5 = .ok (.iload_n 1, 1) := by decide +kernel
theorem dX11_again_6 : decode cX11_again 6 = .ok (.iconst 0, 1) := by decide +kernel
theorem dX11_again_7 : decode cX11_again 7 = .ok (.iconst 2, 1) := by decide +kernel
theorem dX11_again_8 : decode cX11_again 8 = .ok (.invokestatic 78, 3) := by decide +kernel
theorem dX11_again_11 : decode cX11_again 11 = .ok (.ifCond .eq 12, 3) := by decide +kernel
theorem dX11_again_14 : decode cX11_again 14 = .ok (.aload_n 0, 1) := by decide +kernel
theorem dX11_again_15 : decode cX11_again 15 = .ok (.getfield 66, 3) := by decide +kernel
theorem dX11_again_18 : decode cX11_again 18 = .ok (.iload_n 1, 1) := by decide +kernel
theorem dX11_again_19 : decode cX11_again 19 = .ok (.baload, 1) := by decide +kernel
theorem dX11_again_20 : decode cX11_again 20 = .ok (.ifCond .ne 5, 3) := by decide +kernel
theorem dX11_again_23 : decode cX11_again 23 = .ok (.iconst 0, 1) := by decide +kernel
theorem dX11_again_24 : decode cX11_again 24 = .ok (.ireturn, 1) := by decide +kernel
theorem dX11_again_25 : decode cX11_again 25 = .ok (.aload_n 0, 1) := by decide +kernel
theorem dX11_again_26 : decode cX11_again 26 = .ok (.iload_n 1, 1) := by decide +kernel
theorem dX11_again_27 : decode cX11_again 27 = .ok (.iconst 1, 1) := by decide +kernel
theorem dX11_again_28 : decode cX11_again 28 = .ok (.iadd, 1) := by decide +kernel
theorem dX11_again_29 : decode cX11_again 29 = .ok (.iconst 0, 1) := by decide +kernel
theorem dX11_again_30 : decode cX11_again 30 = .ok (.invokevirtual 381, 3) := by decide +kernel
theorem dX11_again_33 : decode cX11_again 33 = .ok (.iconst 1, 1) := by decide +kernel
theorem dX11_again_34 : decode cX11_again 34 = .ok (.ireturn, 1) := by decide +kernel
theorem dX11_four_0 : decode cX11_four 0 = .ok (.bipush 24, 2) := by decide +kernel
theorem dX11_four_2 : decode cX11_four 2 = .ok (.istore_n 2, 1) := by decide +kernel
theorem dX11_four_3 : decode cX11_four 3 = .ok (.iload_n 2, 1) := by decide +kernel
theorem dX11_four_4 : decode cX11_four 4 = .ok (.ifCond .lt 34, 3) := by decide +kernel
theorem dX11_four_7 : decode cX11_four 7 = .ok (.aload_n 0, 1) := by decide +kernel
theorem dX11_four_8 : decode cX11_four 8 = .ok (.getfield 7, 3) := by decide +kernel
theorem dX11_four_11 : decode cX11_four 11 = .ok (.aload_n 0, 1) := by decide +kernel
theorem dX11_four_12 : decode cX11_four 12 = .ok (.getfield 13, 3) := by decide +kernel
theorem dX11_four_15 : decode cX11_four 15 = .ok (.iconst 0, 1) := by decide +kernel
theorem dX11_four_16 : decode cX11_four 16 = .ok (.iaload, 1) := by decide +kernel
theorem dX11_four_17 : decode cX11_four 17 = .ok (.iload_n 1, 1) := by decide +kernel
theorem dX11_four_18 : decode cX11_four 18 = .ok (.iload_n 2, 1) := by decide +kernel
theorem dX11_four_19 : decode cX11_four 19 = .ok (.ishr, 1) := by decide +kernel
theorem dX11_four_20 : decode cX11_four 20 = .ok (.i2b, 1) := by decide +kernel
theorem dX11_four_21 : decode cX11_four 21 = .ok (.bastore, 1) := by decide +kernel
theorem dX11_four_22 : decode cX11_four 22 = .ok (.aload_n 0, 1) := by decide +kernel
theorem dX11_four_23 : decode cX11_four 23 = .ok (.getfield 13, 3) := by decide +kernel
theorem dX11_four_26 : decode cX11_four 26 = .ok (.iconst 0, 1) := by decide +kernel
theorem dX11_four_27 : decode cX11_four 27 = .ok (.dup2, 1) := by decide +kernel
theorem dX11_four_28 : decode cX11_four 28 = .ok (.iaload, 1) := by decide +kernel
theorem dX11_four_29 : decode cX11_four 29 = .ok (.iconst 1, 1) := by decide +kernel
theorem dX11_four_30 : decode cX11_four 30 = .ok (.iadd, 1) := by decide +kernel
theorem dX11_four_31 : decode cX11_four 31 = .ok (.iastore, 1) := by decide +kernel
theorem dX11_four_32 : decode cX11_four 32 = .ok (.iinc 2 (-8), 3) := by decide +kernel
theorem dX11_four_35 : decode cX11_four 35 = .ok (.goto (-32), 3) := by decide +kernel
theorem dX11_four_38 : decode cX11_four 38 = .ok (.return_, 1) := by decide +kernel
theorem dX11_feed_0 : decode cX11_feed 0 = .ok (.aload_n 0, 1) := by decide +kernel
theorem dX11_feed_1 : decode cX11_feed 1 = .ok (.iconst 0, 1) := by decide +kernel
theorem dX11_feed_2 : decode cX11_feed 2 = .ok (.putfield 70, 3) := by decide +kernel
theorem dX11_feed_5 : decode cX11_feed 5 = .ok (.aload_n 0, 1) := by decide +kernel
theorem dX11_feed_6 : decode cX11_feed 6 = .ok (.getfield 13, 3) := by decide +kernel
theorem dX11_feed_9 : decode cX11_feed 9 = .ok (.iconst 0, 1) := by decide +kernel
theorem dX11_feed_10 : decode cX11_feed 10 = .ok (.iaload, 1) := by decide +kernel
theorem dX11_feed_11 : decode cX11_feed 11 = .ok (.bipush 20, 2) := by decide +kernel
theorem dX11_feed_13 : decode cX11_feed 13 = .ok (.iadd, 1) := by decide +kernel
theorem dX11_feed_14 : decode cX11_feed 14 = .ok (.sipush 600, 3) := by decide +kernel
theorem dX11_feed_17 : decode cX11_feed 17 = .ok (.if_icmp .le 5, 3) := by decide +kernel
theorem dX11_feed_20 : decode cX11_feed 20 = .ok (.iconst (-1), 1) := by decide +kernel
theorem dX11_feed_21 : decode cX11_feed 21 = .ok (.ireturn, 1) := by decide +kernel
theorem dX11_feed_22 : decode cX11_feed 22 = .ok (.aload_n 0, 1) := by decide +kernel
theorem dX11_feed_23 : decode cX11_feed 23 = .ok (.iload_n 1, 1) := by decide +kernel
theorem dX11_feed_24 : decode cX11_feed 24 = .ok (.invokevirtual 82, 3) := by decide +kernel
theorem dX11_feed_27 : decode cX11_feed 27 = .ok (.aload_n 0, 1) := by decide +kernel
theorem dX11_feed_28 : decode cX11_feed 28 = .ok (.iload_n 2, 1) := by decide +kernel
theorem dX11_feed_29 : decode cX11_feed 29 = .ok (.invokevirtual 82, 3) := by decide +kernel
theorem dX11_feed_32 : decode cX11_feed 32 = .ok (.aload_n 0, 1) := by decide +kernel
theorem dX11_feed_33 : decode cX11_feed 33 = .ok (.iload_n 3, 1) := by decide +kernel
theorem dX11_feed_34 : decode cX11_feed 34 = .ok (.invokevirtual 82, 3) := by decide +kernel
theorem dX11_feed_37 : decode cX11_feed 37 = .ok (.aload_n 0, 1) := by decide +kernel
theorem dX11_feed_38 : decode cX11_feed 38 = .ok (.iload 4, 2) := by decide +kernel
theorem dX11_feed_40 : decode cX11_feed 40 = .ok (.invokevirtual 82, 3) := by decide +kernel
theorem dX11_feed_43 : decode cX11_feed 43 = .ok (.aload_n 0, 1) := by decide +kernel
theorem dX11_feed_44 : decode cX11_feed 44 = .ok (.iload 5, 2) := by decide +kernel
theorem dX11_feed_46 : decode cX11_feed 46 = .ok (.invokevirtual 82, 3) := by decide +kernel
theorem dX11_feed_49 : decode cX11_feed 49 = .ok (.aload_n 0, 1) := by decide +kernel
theorem dX11_feed_50 : decode cX11_feed 50 = .ok (.getfield 13, 3) := by decide +kernel
theorem dX11_feed_53 : decode cX11_feed 53 = .ok (.iconst 0, 1) := by decide +kernel
theorem dX11_feed_54 : decode cX11_feed 54 = .ok (.iaload, 1) := by decide +kernel
theorem dX11_feed_55 : decode cX11_feed 55 = .ok (.ireturn, 1) := by decide +kernel
theorem dX11_end_0 : decode cX11_end 0 = .ok (.aload_n 0, 1) := by decide +kernel
theorem dX11_end_1 : decode cX11_end 1 = .ok (.iconst 0, 1) := by decide +kernel
theorem dX11_end_2 : decode cX11_end 2 = .ok (.putfield 70, 3) := by decide +kernel
theorem dX11_end_5 : decode cX11_end 5 = .ok (.iload_n 1, 1) := by decide +kernel
theorem dX11_end_6 : decode cX11_end 6 = .ok (.iconst 0, 1) := by decide +kernel
theorem dX11_end_7 : decode cX11_end 7 = .ok (.aload_n 0, 1) := by decide +kernel
theorem dX11_end_8 : decode cX11_end 8 = .ok (.getfield 13, 3) := by decide +kernel
theorem dX11_end_11 : decode cX11_end 11 = .ok (.iconst 0, 1) := by decide +kernel
theorem dX11_end_12 : decode cX11_end 12 = .ok (.iaload, 1) := by decide +kernel
theorem dX11_end_13 : decode cX11_end 13 = .ok (.invokestatic 78, 3) := by decide +kernel
theorem dX11_end_16 : decode cX11_end 16 = .ok (.ifCond .ne 5, 3) := by decide +kernel
theorem dX11_end_19 : decode cX11_end 19 = .ok (.iconst (-1), 1) := by decide +kernel
theorem dX11_end_20 : decode cX11_end 20 = .ok (.ireturn, 1) := by decide +kernel
theorem dX11_end_21 : decode cX11_end 21 = .ok (.aload_n 0, 1) := by decide +kernel
theorem dX11_end_22 : decode cX11_end 22 = .ok (.getfield 13, 3) := by decide +kernel
theorem dX11_end_25 : decode cX11_end 25 = .ok (.iconst 0, 1) := by decide +kernel
theorem dX11_end_26 : decode cX11_end 26 = .ok (.iload_n 1, 1) := by decide +kernel
theorem dX11_end_27 : decode cX11_end 27 = .ok (.iastore, 1) := by decide +kernel
theorem dX11_end_28 : decode cX11_end 28 = .ok (.iload_n 1, 1) := by decide +kernel
theorem dX11_end_29 : decode cX11_end 29 = .ok (.ireturn, 1) := by decide +kernel
theorem dX11_fault_0 : decode cX11_fault 0 = .ok (.aload_n 0, 1) := by decide +kernel
theorem dX11_fault_1 : decode cX11_fault 1 = .ok (.iconst 0, 1) := by decide +kernel
theorem dX11_fault_2 : decode cX11_fault 2 = .ok (.putfield 70, 3) := by decide +kernel
theorem dX11_fault_5 : decode cX11_fault 5 = .ok (.iload_n 1, 1) := by decide +kernel
theorem dX11_fault_6 : decode cX11_fault 6 = .ok (.ifCond .ne 12, 3) := by decide +kernel
theorem dX11_fault_9 : decode cX11_fault 9 = .ok (.aload_n 0, 1) := by decide +kernel
theorem dX11_fault_10 : decode cX11_fault 10 = .ok (.getfield 17, 3) := by decide +kernel
theorem dX11_fault_13 : decode cX11_fault 13 = .ok (.iconst 0, 1) := by decide +kernel
theorem dX11_fault_14 : decode cX11_fault 14 = .ok (.iaload, 1) := by decide +kernel
theorem dX11_fault_15 : decode cX11_fault 15 = .ok (.goto 18, 3) := by decide +kernel
theorem dX11_fault_18 : decode cX11_fault 18 = .ok (.iload_n 1, 1) := by decide +kernel
theorem dX11_fault_19 : decode cX11_fault 19 = .ok (.iconst 1, 1) := by decide +kernel
theorem dX11_fault_20 : decode cX11_fault 20 = .ok (.if_icmp .ne 12, 3) := by decide +kernel
theorem dX11_fault_23 : decode cX11_fault 23 = .ok (.aload_n 0, 1) := by decide +kernel
theorem dX11_fault_24 : decode cX11_fault 24 = .ok (.getfield 20, 3) := by decide +kernel
theorem dX11_fault_27 : decode cX11_fault 27 = .ok (.iconst 0, 1) := by decide +kernel
theorem dX11_fault_28 : decode cX11_fault 28 = .ok (.iaload, 1) := by decide +kernel
theorem dX11_fault_29 : decode cX11_fault 29 = .ok (.goto 4, 3) := by decide +kernel
theorem dX11_fault_32 : decode cX11_fault 32 = .ok (.iconst (-1), 1) := by decide +kernel
theorem dX11_fault_33 : decode cX11_fault 33 = .ok (.ireturn, 1) := by decide +kernel
theorem dX11_count_0 : decode cX11_count 0 = .ok (.aload_n 0, 1) := by decide +kernel
theorem dX11_count_1 : decode cX11_count 1 = .ok (.iconst 0, 1) := by decide +kernel
theorem dX11_count_2 : decode cX11_count 2 = .ok (.putfield 70, 3) := by decide +kernel
theorem dX11_count_5 : decode cX11_count 5 = .ok (.iload_n 1, 1) := by decide +kernel
theorem dX11_count_6 : decode cX11_count 6 = .ok (.iconst 0, 1) := by decide +kernel
theorem dX11_count_7 : decode cX11_count 7 = .ok (.iconst 1, 1) := by decide +kernel
theorem dX11_count_8 : decode cX11_count 8 = .ok (.invokestatic 78, 3) := by decide +kernel
theorem dX11_count_11 : decode cX11_count 11 = .ok (.ifCond .eq 12, 3) := by decide +kernel
theorem dX11_count_14 : decode cX11_count 14 = .ok (.aload_n 0, 1) := by decide +kernel
theorem dX11_count_15 : decode cX11_count 15 = .ok (.getfield 23, 3) := by decide +kernel
theorem dX11_count_18 : decode cX11_count 18 = .ok (.iload_n 1, 1) := by decide +kernel
theorem dX11_count_19 : decode cX11_count 19 = .ok (.iaload, 1) := by decide +kernel
theorem dX11_count_20 : decode cX11_count 20 = .ok (.goto 5, 3) := by decide +kernel
theorem dX11_count_23 : decode cX11_count 23 = .ok (.bipush (-2), 2) := by decide +kernel
theorem dX11_count_25 : decode cX11_count 25 = .ok (.ireturn, 1) := by decide +kernel
theorem dX11_hill_0 : decode cX11_hill 0 = .ok (.aload_n 0, 1) := by decide +kernel
theorem dX11_hill_1 : decode cX11_hill 1 = .ok (.iconst 0, 1) := by decide +kernel
theorem dX11_hill_2 : decode cX11_hill 2 = .ok (.putfield 70, 3) := by decide +kernel
theorem dX11_hill_5 : decode cX11_hill 5 = .ok (.aload_n 0, 1) := by decide +kernel
theorem dX11_hill_6 : decode cX11_hill 6 = .ok (.iload_n 1, 1) := by decide +kernel
theorem dX11_hill_7 : decode cX11_hill 7 = .ok (.invokevirtual 205, 3) := by decide +kernel
theorem dX11_hill_10 : decode cX11_hill 10 = .ok (.ifCond .ne 5, 3) := by decide +kernel
theorem dX11_hill_13 : decode cX11_hill 13 = .ok (.iconst (-1), 1) := by decide +kernel
theorem dX11_hill_14 : decode cX11_hill 14 = .ok (.ireturn, 1) := by decide +kernel
theorem dX11_hill_15 : decode cX11_hill 15 = .ok (.aload_n 0, 1) := by decide +kernel
theorem dX11_hill_16 : decode cX11_hill 16 = .ok (.getfield 26, 3) := by decide +kernel
theorem dX11_hill_19 : decode cX11_hill 19 = .ok (.sipush 157, 3) := by decide +kernel
theorem dX11_hill_22 : decode cX11_hill 22 = .ok (.iload_n 1, 1) := by decide +kernel
theorem dX11_hill_23 : decode cX11_hill 23 = .ok (.imul, 1) := by decide +kernel
theorem dX11_hill_24 : decode cX11_hill 24 = .ok (.iconst 1, 1) := by decide +kernel
theorem dX11_hill_25 : decode cX11_hill 25 = .ok (.iadd, 1) := by decide +kernel
theorem dX11_hill_26 : decode cX11_hill 26 = .ok (.iaload, 1) := by decide +kernel
theorem dX11_hill_27 : decode cX11_hill 27 = .ok (.istore_n 3, 1) := by decide +kernel
theorem dX11_hill_28 : decode cX11_hill 28 = .ok (.iload_n 2, 1) := by decide +kernel
theorem dX11_hill_29 : decode cX11_hill 29 = .ok (.iconst 0, 1) := by decide +kernel
theorem dX11_hill_30 : decode cX11_hill 30 = .ok (.iconst 4, 1) := by decide +kernel
theorem dX11_hill_31 : decode cX11_hill 31 = .ok (.invokestatic 78, 3) := by decide +kernel
theorem dX11_hill_34 : decode cX11_hill 34 = .ok (.ifCond .eq 16, 3) := by decide +kernel
theorem dX11_hill_37 : decode cX11_hill 37 = .ok (.aload_n 0, 1) := by decide +kernel
theorem dX11_hill_38 : decode cX11_hill 38 = .ok (.getfield 26, 3) := by decide +kernel
theorem dX11_hill_41 : decode cX11_hill 41 = .ok (.sipush 157, 3) := by decide +kernel
theorem dX11_hill_44 : decode cX11_hill 44 = .ok (.iload_n 1, 1) := by decide +kernel
theorem dX11_hill_45 : decode cX11_hill 45 = .ok (.imul, 1) := by decide +kernel
theorem dX11_hill_46 : decode cX11_hill 46 = .ok (.iload_n 2, 1) := by decide +kernel
theorem dX11_hill_47 : decode cX11_hill 47 = .ok (.iadd, 1) := by decide +kernel
theorem dX11_hill_48 : decode cX11_hill 48 = .ok (.iaload, 1) := by decide +kernel
theorem dX11_hill_49 : decode cX11_hill 49 = .ok (.ireturn, 1) := by decide +kernel
theorem dX11_hill_50 : decode cX11_hill 50 = .ok (.iload_n 2, 1) := by decide +kernel
theorem dX11_hill_51 : decode cX11_hill 51 = .ok (.bipush 10, 2) := by decide +kernel
theorem dX11_hill_53 : decode cX11_hill 53 = .ok (.bipush 9, 2) := by decide +kernel
theorem dX11_hill_55 : decode cX11_hill 55 = .ok (.iload_n 3, 1) := by decide +kernel
theorem dX11_hill_56 : decode cX11_hill 56 = .ok (.iadd, 1) := by decide +kernel
theorem dX11_hill_57 : decode cX11_hill 57 = .ok (.invokestatic 78, 3) := by decide +kernel
theorem dX11_hill_60 : decode cX11_hill 60 = .ok (.ifCond .eq 25, 3) := by decide +kernel
theorem dX11_hill_63 : decode cX11_hill 63 = .ok (.aload_n 0, 1) := by decide +kernel
theorem dX11_hill_64 : decode cX11_hill 64 = .ok (.getfield 26, 3) := by decide +kernel
theorem dX11_hill_67 : decode cX11_hill 67 = .ok (.sipush 157, 3) := by decide +kernel
theorem dX11_hill_70 : decode cX11_hill 70 = .ok (.iload_n 1, 1) := by decide +kernel
theorem dX11_hill_71 : decode cX11_hill 71 = .ok (.imul, 1) := by decide +kernel
theorem dX11_hill_72 : decode cX11_hill 72 = .ok (.iconst 5, 1) := by decide +kernel
theorem dX11_hill_73 : decode cX11_hill 73 = .ok (.iadd, 1) := by decide +kernel
theorem dX11_hill_74 : decode cX11_hill 74 = .ok (.iconst 2, 1) := by decide +kernel
theorem dX11_hill_75 : decode cX11_hill 75 = .ok (.iload_n 2, 1) := by decide +kernel
theorem dX11_hill_76 : decode cX11_hill 76 = .ok (.bipush 10, 2) := by decide +kernel
theorem dX11_hill_78 : decode cX11_hill 78 = .ok (.isub, 1) := by decide +kernel
theorem dX11_hill_79 : decode cX11_hill 79 = .ok (.imul, 1) := by decide +kernel
theorem dX11_hill_80 : decode cX11_hill 80 = .ok (.iadd, 1) := by decide +kernel
theorem dX11_hill_81 : decode cX11_hill 81 = .ok (.iaload, 1) := by decide +kernel
theorem dX11_hill_82 : decode cX11_hill 82 = .ok (.goto 41, 3) := by decide +kernel
theorem dX11_hill_85 : decode cX11_hill 85 = .ok (.iload_n 2, 1) := by decide +kernel
theorem dX11_hill_86 : decode cX11_hill 86 = .ok (.bipush 20, 2) := by decide +kernel
theorem dX11_hill_88 : decode cX11_hill 88 = .ok (.bipush 19, 2) := by decide +kernel
theorem dX11_hill_90 : decode cX11_hill 90 = .ok (.iload_n 3, 1) := by decide +kernel
theorem dX11_hill_91 : decode cX11_hill 91 = .ok (.iadd, 1) := by decide +kernel
theorem dX11_hill_92 : decode cX11_hill 92 = .ok (.invokestatic 78, 3) := by decide +kernel
theorem dX11_hill_95 : decode cX11_hill 95 = .ok (.ifCond .eq 27, 3) := by decide +kernel
theorem dX11_hill_98 : decode cX11_hill 98 = .ok (.aload_n 0, 1) := by decide +kernel
theorem dX11_hill_99 : decode cX11_hill 99 = .ok (.getfield 26, 3) := by decide +kernel
theorem dX11_hill_102 : decode cX11_hill 102 = .ok (.sipush 157, 3) := by decide +kernel
theorem dX11_hill_105 : decode cX11_hill 105 = .ok (.iload_n 1, 1) := by decide +kernel
theorem dX11_hill_106 : decode cX11_hill 106 = .ok (.imul, 1) := by decide +kernel
theorem dX11_hill_107 : decode cX11_hill 107 = .ok (.iconst 5, 1) := by decide +kernel
theorem dX11_hill_108 : decode cX11_hill 108 = .ok (.iadd, 1) := by decide +kernel
theorem dX11_hill_109 : decode cX11_hill 109 = .ok (.iconst 2, 1) := by decide +kernel
theorem dX11_hill_110 : decode cX11_hill 110 = .ok (.iload_n 2, 1) := by decide +kernel
theorem dX11_hill_111 : decode cX11_hill 111 = .ok (.bipush 20, 2) := by decide +kernel
theorem dX11_hill_113 : decode cX11_hill 113 = .ok (.isub, 1) := by decide +kernel
theorem dX11_hill_114 : decode cX11_hill 114 = .ok (.imul, 1) := by decide +kernel
theorem dX11_hill_115 : decode cX11_hill 115 = .ok (.iadd, 1) := by decide +kernel
theorem dX11_hill_116 : decode cX11_hill 116 = .ok (.iconst 1, 1) := by decide +kernel
theorem dX11_hill_117 : decode cX11_hill 117 = .ok (.iadd, 1) := by decide +kernel
theorem dX11_hill_118 : decode cX11_hill 118 = .ok (.iaload, 1) := by decide +kernel
theorem dX11_hill_119 : decode cX11_hill 119 = .ok (.goto 4, 3) := by decide +kernel
theorem dX11_hill_122 : decode cX11_hill 122 = .ok (.iconst (-1), 1) := by decide +kernel
theorem dX11_hill_123 : decode cX11_hill 123 = .ok (.ireturn, 1) := by decide +kernel
theorem dX11_work_0 : decode cX11_work 0 = .ok (.aload_n 0, 1) := by decide +kernel
theorem dX11_work_1 : decode cX11_work 1 = .ok (.iconst 0, 1) := by decide +kernel
theorem dX11_work_2 : decode cX11_work 2 = .ok (.putfield 70, 3) := by decide +kernel
theorem dX11_work_5 : decode cX11_work 5 = .ok (.aload_n 0, 1) := by decide +kernel
theorem dX11_work_6 : decode cX11_work 6 = .ok (.iload_n 1, 1) := by decide +kernel
theorem dX11_work_7 : decode cX11_work 7 = .ok (.invokevirtual 225, 3) := by decide +kernel
theorem dX11_work_10 : decode cX11_work 10 = .ok (.ifCond .eq 51, 3) := by decide +kernel
theorem dX11_work_13 : decode cX11_work 13 = .ok (.iload_n 2, 1) := by decide +kernel
theorem dX11_work_14 : decode cX11_work 14 = .ok (.iconst 0, 1) := by decide +kernel
theorem dX11_work_15 : decode cX11_work 15 = .ok (.aload_n 0, 1) := by decide +kernel
theorem dX11_work_16 : decode cX11_work 16 = .ok (.getfield 29, 3) := by decide +kernel
theorem dX11_work_19 : decode cX11_work 19 = .ok (.bipush 37, 2) := by decide +kernel
theorem dX11_work_21 : decode cX11_work 21 = .ok (.iload_n 1, 1) := by decide +kernel
theorem dX11_work_22 : decode cX11_work 22 = .ok (.imul, 1) := by decide +kernel
theorem dX11_work_23 : decode cX11_work 23 = .ok (.iaload, 1) := by decide +kernel
theorem dX11_work_24 : decode cX11_work 24 = .ok (.iconst 1, 1) := by decide +kernel
theorem dX11_work_25 : decode cX11_work 25 = .ok (.isub, 1) := by decide +kernel
theorem dX11_work_26 : decode cX11_work 26 = .ok (.invokestatic 78, 3) := by decide +kernel
theorem dX11_work_29 : decode cX11_work 29 = .ok (.ifCond .eq 32, 3) := by decide +kernel
theorem dX11_work_32 : decode cX11_work 32 = .ok (.iload_n 3, 1) := by decide +kernel
theorem dX11_work_33 : decode cX11_work 33 = .ok (.iconst 0, 1) := by decide +kernel
theorem dX11_work_34 : decode cX11_work 34 = .ok (.iconst 2, 1) := by decide +kernel
theorem dX11_work_35 : decode cX11_work 35 = .ok (.invokestatic 78, 3) := by decide +kernel
theorem dX11_work_38 : decode cX11_work 38 = .ok (.ifCond .eq 23, 3) := by decide +kernel
theorem dX11_work_41 : decode cX11_work 41 = .ok (.aload_n 0, 1) := by decide +kernel
theorem dX11_work_42 : decode cX11_work 42 = .ok (.getfield 29, 3) := by decide +kernel
theorem dX11_work_45 : decode cX11_work 45 = .ok (.bipush 37, 2) := by decide +kernel
theorem dX11_work_47 : decode cX11_work 47 = .ok (.iload_n 1, 1) := by decide +kernel
theorem dX11_work_48 : decode cX11_work 48 = .ok (.imul, 1) := by decide +kernel
theorem dX11_work_49 : decode cX11_work 49 = .ok (.iconst 1, 1) := by decide +kernel
theorem dX11_work_50 : decode cX11_work 50 = .ok (.iadd, 1) := by decide +kernel
theorem dX11_work_51 : decode cX11_work 51 = .ok (.iconst 3, 1) := by decide +kernel
theorem dX11_work_52 : decode cX11_work 52 = .ok (.iload_n 2, 1) := by decide +kernel
theorem dX11_work_53 : decode cX11_work 53 = .ok (.imul, 1) := by decide +kernel
theorem dX11_work_54 : decode cX11_work 54 = .ok (.iadd, 1) := by decide +kernel
theorem dX11_work_55 : decode cX11_work 55 = .ok (.iload_n 3, 1) := by decide +kernel
theorem dX11_work_56 : decode cX11_work 56 = .ok (.iadd, 1) := by decide +kernel
theorem dX11_work_57 : decode cX11_work 57 = .ok (.iaload, 1) := by decide +kernel
theorem dX11_work_58 : decode cX11_work 58 = .ok (.goto 5, 3) := by decide +kernel
theorem dX11_work_61 : decode cX11_work 61 = .ok (.bipush (-2), 2) := by decide +kernel
theorem dX11_work_63 : decode cX11_work 63 = .ok (.ireturn, 1) := by decide +kernel
/-! the reference: its tape, images, and what it tells of its rows -/
theorem hd_r {u : Nat → Nat → Int32} {h v : Int32} (hd : HD u) (bh : Bd 0 7 h) (e : v = u 168 (157 * h + 1).toNatClampNeg) : Bd 0 4 v := by
  rw [e, hix bh (by decide)]
  exact (hd h.toInt.toNat (by have := bh.1; have := bh.2; omega)).2.2
/-- an array of four rows of n: row 'to' is now what row 'fr' was -/
def MVD (u2 u : Nat → Nat → Int32) (a n fr to : Nat) : Prop := ∀ j, u2 a j = if n * to ≤ j ∧ j < n * to + n then u a (n * fr + (j - n * to)) else u a j
def MVI (u2 u : Nat → Nat → Int32) (a n fr to k : Nat) : Prop := ∀ j, u2 a j = if n * to ≤ j ∧ j < n * to + k then u a (n * fr + (j - n * to)) else u a j
theorem mvi_0 {u2 u : Nat → Nat → Int32} {a n fr to : Nat} (e : u2 a = u a) : MVI u2 u a n fr to 0 := by
  intro j
  rw [if_neg (by omega), e]
theorem mvi_s {u3 u2 u : Nat → Nat → Int32} {a n fr to k : Nat} {v : Int32} (h : MVI u2 u a n fr to k) (hk : k < n) (e : u3 = ms u2 a (n * to + k) v) (ev : v = u2 a (n * fr + k)) : MVI u3 u a n fr to (k + 1) := by
  intro j
  by_cases q : j = n * to + k
  · subst q
    have hL : u2 a (n * fr + k) = u a (n * fr + k) := by
      rw [h (n * fr + k)]
      refine if_neg ?_
      intro hc
      rcases Nat.lt_trichotomy fr to with h1 | h1 | h1
      · have : n * (fr + 1) ≤ n * to := Nat.mul_le_mul_left n h1
        rw [Nat.mul_add] at this
        omega
      · subst h1; omega
      · have : n * (to + 1) ≤ n * fr := Nat.mul_le_mul_left n h1
        rw [Nat.mul_add] at this
        omega
    rw [ms_e e, ev, hL, if_pos (by omega), Nat.add_sub_cancel_left]
  · rw [ms_i e q, h]
    by_cases q2 : n * to ≤ j ∧ j < n * to + k
    · rw [if_pos q2, if_pos (by omega)]
    · rw [if_neg q2, if_neg (by omega)]
theorem mv_ix {N t k : Int32} {n : Nat} (hN : N.toInt = n) (hn : n ≤ 600) (bt : Bd 0 3 t) (bk : 0 ≤ k.toInt ∧ k.toInt ≤ 600) : (N * t + k).toNatClampNeg = n * t.toInt.toNat + k.toInt.toNat := by
  obtain ⟨t1, t2⟩ := bt
  obtain ⟨m, hm⟩ : ∃ m : Nat, (m : Int) = t.toInt := ⟨t.toInt.toNat, by omega⟩
  have hm3 : m ≤ 3 := by omega
  have h0 : n * m ≤ 600 * 3 := Nat.mul_le_mul hn hm3
  have h1 : N.toInt * t.toInt = ((n * m : Nat) : Int) := by rw [hN, ← hm, Int.natCast_mul]
  have h2 : (N * t).toInt = ((n * m : Nat) : Int) := by rw [Int32.toInt_mul, h1, bmod (by omega) (by omega)]
  have h3 : (N * t + k).toInt = ((n * m : Nat) : Int) + k.toInt := by rw [ti_add (by omega) (by omega), h2]
  have h4 : (N * t + k).toNatClampNeg = (N * t + k).toInt.toNat := rfl
  have h5 : t.toInt.toNat = m := by omega
  rw [h4, h3, h5]
  omega
theorem mvi_st {u3 u2 u : Nat → Nat → Int32} {a n : Nat} {N f t k v : Int32} (h : MVI u2 u a n f.toInt.toNat t.toInt.toNat k.toInt.toNat) (hN : N.toInt = n) (hn : n ≤ 600) (bf : Bd 0 3 f) (bt : Bd 0 3 t) (bk : Bd 0 600 k) (hk : k < N) (e : u3 = ms u2 a (N * t + k).toNatClampNeg v) (ev : v = u2 a (N * f + k).toNatClampNeg) : MVI u3 u a n f.toInt.toNat t.toInt.toNat (k + 1).toInt.toNat := by
  have h1 := Int32.lt_iff_toInt_lt.mp hk
  rw [mv_ix hN hn bt bk] at e
  rw [mv_ix hN hn bf bk] at ev
  have e1 : (1 : Int32).toInt = 1 := rfl
  have h2 : (k + 1).toInt.toNat = k.toInt.toNat + 1 := by
    rw [ti_add (by have := bk.1; have := bk.2; omega) (by have := bk.1; have := bk.2; omega), e1]
    have := bk.1
    omega
  rw [h2]
  exact mvi_s h (by have := bk.1; omega) e ev
theorem mvi_e {u2 u : Nat → Nat → Int32} {a n : Nat} {N f t k : Int32} (h : MVI u2 u a n f.toInt.toNat t.toInt.toNat k.toInt.toNat) (hN : N.toInt = n) (bk : Bd 0 n k) (hk : N ≤ k) : MVD u2 u a n f.toInt.toNat t.toInt.toNat := by
  have h1 := Int32.le_iff_toInt_le.mp hk
  have h2 : k.toInt.toNat = n := by have := bk.2; omega
  rw [h2] at h
  exact h
theorem mvd_c {u3 u2 u u1 : Nat → Nat → Int32} {a n f t : Nat} (e2 : u3 a = u2 a) (e1 : u a = u1 a) (h : MVD u2 u a n f t) : MVD u3 u1 a n f t := by
  intro j
  rw [e2, h j, e1]
theorem my_m {u2 u : Nat → Nat → Int32} {f t : Nat} (hf : f < 4) (h : MVD u2 u 167 2 f t) (m : MY u) : MY u2 := by
  intro j hj
  rw [h (2 * j), h (2 * j + 1)]
  by_cases q : j = t
  · subst q
    rw [if_pos (by omega), if_pos (by omega)]
    have e1 : 2 * f + (2 * j - 2 * j) = 2 * f := by omega
    have e2 : 2 * f + (2 * j + 1 - 2 * j) = 2 * f + 1 := by omega
    rw [e1, e2]
    exact m f hf
  · rw [if_neg (by omega), if_neg (by omega)]
    exact m j hj
/-- a row of 157 of the hills, behind a move -/
theorem hm_at {u2 u : Nat → Nat → Int32} {f t : Nat} (h : MVD u2 u 168 314 f t) {j i k : Nat} (hi : i < 2) (hk : k < 157) : u2 168 (157 * (2 * j + i) + k) = u 168 (157 * (2 * (if j = t then f else j) + i) + k) := by
  rw [h]
  by_cases q : j = t
  · subst q
    rw [if_pos (by omega), if_pos rfl]
    congr 1
    omega
  · rw [if_neg (by omega), if_neg q]
theorem hd_m {u2 u : Nat → Nat → Int32} {f t : Nat} (hf : f < 4) (h : MVD u2 u 168 314 f t) (m : HD u) : HD u2 := by
  intro s hs
  obtain ⟨j, i, hi, hsi⟩ : ∃ j i, i < 2 ∧ s = 2 * j + i := ⟨s / 2, s % 2, by omega, by omega⟩
  subst hsi
  have hj : j < 4 := by omega
  have q := m (2 * (if j = t then f else j) + i) (by split <;> omega)
  have z0 := hm_at h (j := j) (k := 0) hi (by omega)
  have z1 := hm_at h (j := j) (k := 1) hi (by omega)
  rw [Nat.add_zero, Nat.add_zero] at z0
  refine ⟨by rw [z0]; exact q.1, fun p hp => ?_, by rw [z1]; exact q.2.2⟩
  rw [hm_at h hi (by omega), hm_at h hi (by omega)]
  exact q.2.1 p hp
theorem rcf_e {f g : Nat → Int32} (h1 : f 1 = g 1) (h6 : f 6 = g 6) (h8 : f 8 = g 8) (h10 : f 10 = g 10) (h12 : f 12 = g 12) (h : RCf g) : RCf f := by
  unfold RCf
  rw [h1, h6, h8, h10, h12]
  exact h
theorem hc_m {u2 u : Nat → Nat → Int32} {f t : Nat} (hf : f < 4) (h1 : MVD u2 u 167 2 f t) (h : MVD u2 u 168 314 f t) (m : HC u) : HC u2 := by
  intro j hj i hi hl
  have e : u2 167 (2 * j) = u 167 (2 * (if j = t then f else j)) := by
    rw [h1]
    by_cases q : j = t
    · subst q
      rw [if_pos (by omega), if_pos rfl]
      congr 1
      omega
    · rw [if_neg (by omega), if_neg q]
  rw [e] at hl
  have q := m (if j = t then f else j) (by split <;> omega) i hi hl
  exact rcf_e (hm_at h hi (by decide)) (hm_at h hi (by decide)) (hm_at h hi (by decide)) (hm_at h hi (by decide)) (hm_at h hi (by decide)) q
theorem pl_at3 {u2 u : Nat → Nat → Int32} {f t : Nat} (h : MVD u2 u 169 111 f t) {j i k : Nat} (hi : i < 3) (hk : k < 37) : u2 169 (37 * (3 * j + i) + k) = u 169 (37 * (3 * (if j = t then f else j) + i) + k) := by
  rw [h]
  by_cases q : j = t
  · subst q
    rw [if_pos (by omega), if_pos rfl]
    congr 1
    omega
  · rw [if_neg (by omega), if_neg q]
theorem pl_m {u2 u : Nat → Nat → Int32} {f t : Nat} (hf : f < 4) (h : MVD u2 u 169 111 f t) (m : PL u) : PL u2 := by
  intro s hs
  obtain ⟨j, i, hi, hsi⟩ : ∃ j i, i < 3 ∧ s = 3 * j + i := ⟨s / 3, s % 3, by omega, by omega⟩
  subst hsi
  have hj : j < 4 := by omega
  have q := m (3 * (if j = t then f else j) + i) (by split <;> omega)
  have z0 := pl_at3 h (j := j) (k := 0) hi (by omega)
  rw [Nat.add_zero, Nat.add_zero] at z0
  refine ⟨by rw [z0]; exact q.1, fun k hk => ?_⟩
  rw [pl_at3 h hi (by omega), pl_at3 h hi (by omega), pl_at3 h hi (by omega)]
  exact q.2 k hk
set_option maxHeartbeats 4000000 in
set_option maxRecDepth 100000 in
theorem c_M_move_164 {d : Nat} {u : Nat → Nat → Int32} {g : Nat → Nat → Int64} {ex : List MC} {from0 : Int32} {to0 : Int32} (hd : 0 ≤ d) (hp0 : Bd 0 3 from0) (hp1 : Bd 0 3 to0) (hp2 : AB u 164 0 600) : CT con0 d 0 0 yX11_move cX11_move 5 none [.ref 164, .int 1, .int from0, .int to0] (Wd u g ex) (fun r h2 => ∃ (u2 : Nat → Nat → Int32), r = none ∧ h2 = Wd u2 g ex ∧ AB u2 164 0 600 ∧ (MVD u2 u 164 1 from0.toInt.toNat to0.toInt.toNat) ∧ (∀ c, c ≠ 164 → u2 c = u c)) := by
  refine CT_of (by decide) (Nat.le_of_ble_eq_true rfl) (fun x hq => ?_)
  show J x yX11_move cX11_move 5 none d 0 0 (Wd u g ex).length 0 [(0, .ref 164), (1, .int 1), (2, .int from0), (3, .int to0)] [] (Wd u g ex) 0 0
  refine J_iconst (v := 0) dX11_move_0 (by decide) ?_
  refine J_istore (i := 4) (lw := [(4, .int 0), (0, .ref 164), (1, .int 1), (2, .int from0), (3, .int to0)]) dX11_move_1 (by decide) rfl ?_
  have lp12 : ∀ (n13 : Nat) (w4 : Int32) (u5 : Nat → Nat → Int32), Bd 0 1 w4 → (∀ c, c ≠ 164 → u5 c = u c) → AB u5 164 0 600 → MVI u5 u 164 1 from0.toInt.toNat to0.toInt.toNat w4.toInt.toNat → (1 - w4.toInt).toNat < n13 → J x yX11_move cX11_move 5 none d 0 0 (Wd u g ex).length 3 [(0, .ref 164), (1, .int 1), (2, .int from0), (3, .int to0), (4, .int w4)] [] (Wd u5 g ex) 0 0 := by
    intro n13
    induction n13 with
    | zero => intro w4 u5 bw4 fr6 ab7 hI16 hm15; exact absurd hm15 (Nat.not_lt_zero _)
    | succ n13 ih14 =>
      intro w4 u5 bw4 fr6 ab7 hI16 hm15
      refine J_iload (i := 4) (j := 4) dX11_move_3 rfl ?_
      refine J_iload_n (i := 1) (j := 1) dX11_move_5 rfl rfl ?_
      refine J_icmp_ge (tgt := 31) dX11_move_6 (by decide) (fun c17 => ?_) (fun c17 => ?_)
      · exact J_vret hq dX11_move_31 rfl wlen (Nat.le_refl _) (Nat.le_refl _) ⟨u5, rfl, rfl, ab7, (mvi_e (N := 1) hI16 rfl (bd_w (l := 0) (h := 1) (bd_le_lo bw4 c17 (bd_c (v := 1) (lo := 1) (hi := 1) (by decide))) (by decide)) c17), (fun c k0_ => (fr6 c k0_))⟩
      · refine J_aload_n (i := 0) (j := 0) dX11_move_9 rfl rfl ?_
        refine J_iload_n (i := 1) (j := 1) dX11_move_10 rfl rfl ?_
        refine J_iload_n (i := 3) (j := 3) dX11_move_11 rfl rfl ?_
        refine J_imul dX11_move_12 ?_
        refine J_iload (i := 4) (j := 4) dX11_move_13 rfl ?_
        refine J_iadd dX11_move_15 ?_
        refine J_aload_n (i := 0) (j := 0) dX11_move_16 rfl rfl ?_
        refine J_iload_n (i := 1) (j := 1) dX11_move_17 rfl rfl ?_
        refine J_iload_n (i := 2) (j := 2) dX11_move_18 rfl rfl ?_
        refine J_imul dX11_move_19 ?_
        refine J_iload (i := 4) (j := 4) dX11_move_20 rfl ?_
        refine J_iadd dX11_move_22 ?_
        refine J_iald dX11_move_23 wc_164 (vin (bd_add (l := 0) (h := 3) (bd_mul (l := 0) (h := 3) (bd_c (v := 1) (lo := 1) (hi := 1) (by decide)) hp0 (by decide)) (bd_lt_hi bw4 (i_nle c17) (bd_c (v := 1) (lo := 1) (hi := 1) (by decide))) (by decide)) (by decide)) ?_
        refine J_topi (fun v18 qv18 => ?_)
        obtain ⟨u19, e20⟩ : ∃ z, z = ms u5 164 ((((1 : Int32) * to0) + w4).toNatClampNeg) v18 := ⟨_, rfl⟩
        refine J_iast dX11_move_24 wc_164 (vin (bd_add (l := 0) (h := 3) (bd_mul (l := 0) (h := 3) (bd_c (v := 1) (lo := 1) (hi := 1) (by decide)) hp1 (by decide)) (bd_lt_hi bw4 (i_nle c17) (bd_c (v := 1) (lo := 1) (hi := 1) (by decide))) (by decide)) (by decide)) (ws e20 wk_164 rfl) ?_
        refine J_iinc (i := 4) (j := 4) (v := (w4 + 1)) (lw := [(4, .int (w4 + 1)), (0, .ref 164), (1, .int 1), (2, .int from0), (3, .int to0)]) dX11_move_25 rfl rfl (by decide) rfl ?_
        refine J_goto (tgt := 3) dX11_move_28 (by decide) ?_
        refine J_lv [1, 2, 3, 4, 0] rfl ?_
        exact ih14 (w4 + 1) u19 (bd_w (l := 0) (h := 1) (bd_add (l := 1) (h := 1) (bd_lt_hi bw4 (i_nle c17) (bd_c (v := 1) (lo := 1) (hi := 1) (by decide))) (bd_c (v := 1) (lo := 1) (hi := 1) (by decide)) (by decide)) (by decide)) (fun c k0_ => ((ms_c e20 k0_).trans (fr6 c k0_))) (ab_s e20 ab7 (bd_r qv18 (ab7 ((((1 : Int32) * from0) + w4).toNatClampNeg)))) (mvi_st (n := 1) (N := 1) hI16 rfl (by decide) hp0 hp1 (bd_w (l := 0) (h := 600) (bd_lt_hi bw4 (i_nle c17) (bd_c (v := 1) (lo := 1) (hi := 1) (by decide))) (by decide)) (i_nle c17) e20 qv18) (mu_up 1 bw4 rfl (by decide) (bd_w (l := 1) (h := 1) (bd_add (l := 1) (h := 1) (bd_lt_hi bw4 (i_nle c17) (bd_c (v := 1) (lo := 1) (hi := 1) (by decide))) (bd_c (v := 1) (lo := 1) (hi := 1) (by decide)) (by decide)) (by decide)) hm15)
  refine J_lv [1, 2, 3, 4, 0] rfl ?_
  exact lp12 _ (0 : Int32) u (bd_w (l := 0) (h := 1) (bd_c (v := 0) (lo := 0) (hi := 0) (by decide)) (by decide)) (fun c k0_ => rfl) hp2 (mvi_0 rfl) (Nat.lt_succ_self _)
set_option maxHeartbeats 4000000 in
set_option maxRecDepth 100000 in
theorem c_M_move_165 {d : Nat} {u : Nat → Nat → Int32} {g : Nat → Nat → Int64} {ex : List MC} {from0 : Int32} {to0 : Int32} (hd : 0 ≤ d) (hp0 : Bd 0 3 from0) (hp1 : Bd 0 3 to0) : CT con0 d 0 0 yX11_move cX11_move 5 none [.ref 165, .int 1, .int from0, .int to0] (Wd u g ex) (fun r h2 => ∃ (u2 : Nat → Nat → Int32), r = none ∧ h2 = Wd u2 g ex ∧ (MVD u2 u 165 1 from0.toInt.toNat to0.toInt.toNat) ∧ (∀ c, c ≠ 165 → u2 c = u c)) := by
  refine CT_of (by decide) (Nat.le_of_ble_eq_true rfl) (fun x hq => ?_)
  show J x yX11_move cX11_move 5 none d 0 0 (Wd u g ex).length 0 [(0, .ref 165), (1, .int 1), (2, .int from0), (3, .int to0)] [] (Wd u g ex) 0 0
  refine J_iconst (v := 0) dX11_move_0 (by decide) ?_
  refine J_istore (i := 4) (lw := [(4, .int 0), (0, .ref 165), (1, .int 1), (2, .int from0), (3, .int to0)]) dX11_move_1 (by decide) rfl ?_
  have lp11 : ∀ (n12 : Nat) (w4 : Int32) (u5 : Nat → Nat → Int32), Bd 0 1 w4 → (∀ c, c ≠ 165 → u5 c = u c) → MVI u5 u 165 1 from0.toInt.toNat to0.toInt.toNat w4.toInt.toNat → (1 - w4.toInt).toNat < n12 → J x yX11_move cX11_move 5 none d 0 0 (Wd u g ex).length 3 [(0, .ref 165), (1, .int 1), (2, .int from0), (3, .int to0), (4, .int w4)] [] (Wd u5 g ex) 0 0 := by
    intro n12
    induction n12 with
    | zero => intro w4 u5 bw4 fr6 hI15 hm14; exact absurd hm14 (Nat.not_lt_zero _)
    | succ n12 ih13 =>
      intro w4 u5 bw4 fr6 hI15 hm14
      refine J_iload (i := 4) (j := 4) dX11_move_3 rfl ?_
      refine J_iload_n (i := 1) (j := 1) dX11_move_5 rfl rfl ?_
      refine J_icmp_ge (tgt := 31) dX11_move_6 (by decide) (fun c16 => ?_) (fun c16 => ?_)
      · exact J_vret hq dX11_move_31 rfl wlen (Nat.le_refl _) (Nat.le_refl _) ⟨u5, rfl, rfl, (mvi_e (N := 1) hI15 rfl (bd_w (l := 0) (h := 1) (bd_le_lo bw4 c16 (bd_c (v := 1) (lo := 1) (hi := 1) (by decide))) (by decide)) c16), (fun c k0_ => (fr6 c k0_))⟩
      · refine J_aload_n (i := 0) (j := 0) dX11_move_9 rfl rfl ?_
        refine J_iload_n (i := 1) (j := 1) dX11_move_10 rfl rfl ?_
        refine J_iload_n (i := 3) (j := 3) dX11_move_11 rfl rfl ?_
        refine J_imul dX11_move_12 ?_
        refine J_iload (i := 4) (j := 4) dX11_move_13 rfl ?_
        refine J_iadd dX11_move_15 ?_
        refine J_aload_n (i := 0) (j := 0) dX11_move_16 rfl rfl ?_
        refine J_iload_n (i := 1) (j := 1) dX11_move_17 rfl rfl ?_
        refine J_iload_n (i := 2) (j := 2) dX11_move_18 rfl rfl ?_
        refine J_imul dX11_move_19 ?_
        refine J_iload (i := 4) (j := 4) dX11_move_20 rfl ?_
        refine J_iadd dX11_move_22 ?_
        refine J_iald dX11_move_23 wc_165 (vin (bd_add (l := 0) (h := 3) (bd_mul (l := 0) (h := 3) (bd_c (v := 1) (lo := 1) (hi := 1) (by decide)) hp0 (by decide)) (bd_lt_hi bw4 (i_nle c16) (bd_c (v := 1) (lo := 1) (hi := 1) (by decide))) (by decide)) (by decide)) ?_
        refine J_topi (fun v17 qv17 => ?_)
        obtain ⟨u18, e19⟩ : ∃ z, z = ms u5 165 ((((1 : Int32) * to0) + w4).toNatClampNeg) v17 := ⟨_, rfl⟩
        refine J_iast dX11_move_24 wc_165 (vin (bd_add (l := 0) (h := 3) (bd_mul (l := 0) (h := 3) (bd_c (v := 1) (lo := 1) (hi := 1) (by decide)) hp1 (by decide)) (bd_lt_hi bw4 (i_nle c16) (bd_c (v := 1) (lo := 1) (hi := 1) (by decide))) (by decide)) (by decide)) (ws e19 wk_165 rfl) ?_
        refine J_iinc (i := 4) (j := 4) (v := (w4 + 1)) (lw := [(4, .int (w4 + 1)), (0, .ref 165), (1, .int 1), (2, .int from0), (3, .int to0)]) dX11_move_25 rfl rfl (by decide) rfl ?_
        refine J_goto (tgt := 3) dX11_move_28 (by decide) ?_
        refine J_lv [1, 2, 3, 4, 0] rfl ?_
        exact ih13 (w4 + 1) u18 (bd_w (l := 0) (h := 1) (bd_add (l := 1) (h := 1) (bd_lt_hi bw4 (i_nle c16) (bd_c (v := 1) (lo := 1) (hi := 1) (by decide))) (bd_c (v := 1) (lo := 1) (hi := 1) (by decide)) (by decide)) (by decide)) (fun c k0_ => ((ms_c e19 k0_).trans (fr6 c k0_))) (mvi_st (n := 1) (N := 1) hI15 rfl (by decide) hp0 hp1 (bd_w (l := 0) (h := 600) (bd_lt_hi bw4 (i_nle c16) (bd_c (v := 1) (lo := 1) (hi := 1) (by decide))) (by decide)) (i_nle c16) e19 qv17) (mu_up 1 bw4 rfl (by decide) (bd_w (l := 1) (h := 1) (bd_add (l := 1) (h := 1) (bd_lt_hi bw4 (i_nle c16) (bd_c (v := 1) (lo := 1) (hi := 1) (by decide))) (bd_c (v := 1) (lo := 1) (hi := 1) (by decide)) (by decide)) (by decide)) hm14)
  refine J_lv [1, 2, 3, 4, 0] rfl ?_
  exact lp11 _ (0 : Int32) u (bd_w (l := 0) (h := 1) (bd_c (v := 0) (lo := 0) (hi := 0) (by decide)) (by decide)) (fun c k0_ => rfl) (mvi_0 rfl) (Nat.lt_succ_self _)
set_option maxHeartbeats 4000000 in
set_option maxRecDepth 100000 in
theorem c_M_move_166 {d : Nat} {u : Nat → Nat → Int32} {g : Nat → Nat → Int64} {ex : List MC} {from0 : Int32} {to0 : Int32} (hd : 0 ≤ d) (hp0 : Bd 0 3 from0) (hp1 : Bd 0 3 to0) : CT con0 d 0 0 yX11_move cX11_move 5 none [.ref 166, .int 1, .int from0, .int to0] (Wd u g ex) (fun r h2 => ∃ (u2 : Nat → Nat → Int32), r = none ∧ h2 = Wd u2 g ex ∧ (MVD u2 u 166 1 from0.toInt.toNat to0.toInt.toNat) ∧ (∀ c, c ≠ 166 → u2 c = u c)) := by
  refine CT_of (by decide) (Nat.le_of_ble_eq_true rfl) (fun x hq => ?_)
  show J x yX11_move cX11_move 5 none d 0 0 (Wd u g ex).length 0 [(0, .ref 166), (1, .int 1), (2, .int from0), (3, .int to0)] [] (Wd u g ex) 0 0
  refine J_iconst (v := 0) dX11_move_0 (by decide) ?_
  refine J_istore (i := 4) (lw := [(4, .int 0), (0, .ref 166), (1, .int 1), (2, .int from0), (3, .int to0)]) dX11_move_1 (by decide) rfl ?_
  have lp11 : ∀ (n12 : Nat) (w4 : Int32) (u5 : Nat → Nat → Int32), Bd 0 1 w4 → (∀ c, c ≠ 166 → u5 c = u c) → MVI u5 u 166 1 from0.toInt.toNat to0.toInt.toNat w4.toInt.toNat → (1 - w4.toInt).toNat < n12 → J x yX11_move cX11_move 5 none d 0 0 (Wd u g ex).length 3 [(0, .ref 166), (1, .int 1), (2, .int from0), (3, .int to0), (4, .int w4)] [] (Wd u5 g ex) 0 0 := by
    intro n12
    induction n12 with
    | zero => intro w4 u5 bw4 fr6 hI15 hm14; exact absurd hm14 (Nat.not_lt_zero _)
    | succ n12 ih13 =>
      intro w4 u5 bw4 fr6 hI15 hm14
      refine J_iload (i := 4) (j := 4) dX11_move_3 rfl ?_
      refine J_iload_n (i := 1) (j := 1) dX11_move_5 rfl rfl ?_
      refine J_icmp_ge (tgt := 31) dX11_move_6 (by decide) (fun c16 => ?_) (fun c16 => ?_)
      · exact J_vret hq dX11_move_31 rfl wlen (Nat.le_refl _) (Nat.le_refl _) ⟨u5, rfl, rfl, (mvi_e (N := 1) hI15 rfl (bd_w (l := 0) (h := 1) (bd_le_lo bw4 c16 (bd_c (v := 1) (lo := 1) (hi := 1) (by decide))) (by decide)) c16), (fun c k0_ => (fr6 c k0_))⟩
      · refine J_aload_n (i := 0) (j := 0) dX11_move_9 rfl rfl ?_
        refine J_iload_n (i := 1) (j := 1) dX11_move_10 rfl rfl ?_
        refine J_iload_n (i := 3) (j := 3) dX11_move_11 rfl rfl ?_
        refine J_imul dX11_move_12 ?_
        refine J_iload (i := 4) (j := 4) dX11_move_13 rfl ?_
        refine J_iadd dX11_move_15 ?_
        refine J_aload_n (i := 0) (j := 0) dX11_move_16 rfl rfl ?_
        refine J_iload_n (i := 1) (j := 1) dX11_move_17 rfl rfl ?_
        refine J_iload_n (i := 2) (j := 2) dX11_move_18 rfl rfl ?_
        refine J_imul dX11_move_19 ?_
        refine J_iload (i := 4) (j := 4) dX11_move_20 rfl ?_
        refine J_iadd dX11_move_22 ?_
        refine J_iald dX11_move_23 wc_166 (vin (bd_add (l := 0) (h := 3) (bd_mul (l := 0) (h := 3) (bd_c (v := 1) (lo := 1) (hi := 1) (by decide)) hp0 (by decide)) (bd_lt_hi bw4 (i_nle c16) (bd_c (v := 1) (lo := 1) (hi := 1) (by decide))) (by decide)) (by decide)) ?_
        refine J_topi (fun v17 qv17 => ?_)
        obtain ⟨u18, e19⟩ : ∃ z, z = ms u5 166 ((((1 : Int32) * to0) + w4).toNatClampNeg) v17 := ⟨_, rfl⟩
        refine J_iast dX11_move_24 wc_166 (vin (bd_add (l := 0) (h := 3) (bd_mul (l := 0) (h := 3) (bd_c (v := 1) (lo := 1) (hi := 1) (by decide)) hp1 (by decide)) (bd_lt_hi bw4 (i_nle c16) (bd_c (v := 1) (lo := 1) (hi := 1) (by decide))) (by decide)) (by decide)) (ws e19 wk_166 rfl) ?_
        refine J_iinc (i := 4) (j := 4) (v := (w4 + 1)) (lw := [(4, .int (w4 + 1)), (0, .ref 166), (1, .int 1), (2, .int from0), (3, .int to0)]) dX11_move_25 rfl rfl (by decide) rfl ?_
        refine J_goto (tgt := 3) dX11_move_28 (by decide) ?_
        refine J_lv [1, 2, 3, 4, 0] rfl ?_
        exact ih13 (w4 + 1) u18 (bd_w (l := 0) (h := 1) (bd_add (l := 1) (h := 1) (bd_lt_hi bw4 (i_nle c16) (bd_c (v := 1) (lo := 1) (hi := 1) (by decide))) (bd_c (v := 1) (lo := 1) (hi := 1) (by decide)) (by decide)) (by decide)) (fun c k0_ => ((ms_c e19 k0_).trans (fr6 c k0_))) (mvi_st (n := 1) (N := 1) hI15 rfl (by decide) hp0 hp1 (bd_w (l := 0) (h := 600) (bd_lt_hi bw4 (i_nle c16) (bd_c (v := 1) (lo := 1) (hi := 1) (by decide))) (by decide)) (i_nle c16) e19 qv17) (mu_up 1 bw4 rfl (by decide) (bd_w (l := 1) (h := 1) (bd_add (l := 1) (h := 1) (bd_lt_hi bw4 (i_nle c16) (bd_c (v := 1) (lo := 1) (hi := 1) (by decide))) (bd_c (v := 1) (lo := 1) (hi := 1) (by decide)) (by decide)) (by decide)) hm14)
  refine J_lv [1, 2, 3, 4, 0] rfl ?_
  exact lp11 _ (0 : Int32) u (bd_w (l := 0) (h := 1) (bd_c (v := 0) (lo := 0) (hi := 0) (by decide)) (by decide)) (fun c k0_ => rfl) (mvi_0 rfl) (Nat.lt_succ_self _)
set_option maxHeartbeats 4000000 in
set_option maxRecDepth 100000 in
theorem c_M_move_167 {d : Nat} {u : Nat → Nat → Int32} {g : Nat → Nat → Int64} {ex : List MC} {from0 : Int32} {to0 : Int32} (hd : 0 ≤ d) (hp0 : Bd 0 3 from0) (hp1 : Bd 0 3 to0) : CT con0 d 0 0 yX11_move cX11_move 5 none [.ref 167, .int 2, .int from0, .int to0] (Wd u g ex) (fun r h2 => ∃ (u2 : Nat → Nat → Int32), r = none ∧ h2 = Wd u2 g ex ∧ (MVD u2 u 167 2 from0.toInt.toNat to0.toInt.toNat) ∧ (∀ c, c ≠ 167 → u2 c = u c)) := by
  refine CT_of (by decide) (Nat.le_of_ble_eq_true rfl) (fun x hq => ?_)
  show J x yX11_move cX11_move 5 none d 0 0 (Wd u g ex).length 0 [(0, .ref 167), (1, .int 2), (2, .int from0), (3, .int to0)] [] (Wd u g ex) 0 0
  refine J_iconst (v := 0) dX11_move_0 (by decide) ?_
  refine J_istore (i := 4) (lw := [(4, .int 0), (0, .ref 167), (1, .int 2), (2, .int from0), (3, .int to0)]) dX11_move_1 (by decide) rfl ?_
  have lp25 : ∀ (n26 : Nat) (w18 : Int32) (u19 : Nat → Nat → Int32), Bd 0 2 w18 → (∀ c, c ≠ 167 → u19 c = u c) → MVI u19 u 167 2 from0.toInt.toNat to0.toInt.toNat w18.toInt.toNat → (2 - w18.toInt).toNat < n26 → J x yX11_move cX11_move 5 none d 0 0 (Wd u g ex).length 3 [(0, .ref 167), (1, .int 2), (2, .int from0), (3, .int to0), (4, .int w18)] [] (Wd u19 g ex) 0 0 := by
    intro n26
    induction n26 with
    | zero => intro w18 u19 bw18 fr20 hI29 hm28; exact absurd hm28 (Nat.not_lt_zero _)
    | succ n26 ih27 =>
      intro w18 u19 bw18 fr20 hI29 hm28
      refine J_iload (i := 4) (j := 4) dX11_move_3 rfl ?_
      refine J_iload_n (i := 1) (j := 1) dX11_move_5 rfl rfl ?_
      refine J_icmp_ge (tgt := 31) dX11_move_6 (by decide) (fun c30 => ?_) (fun c30 => ?_)
      · exact J_vret hq dX11_move_31 rfl wlen (Nat.le_refl _) (Nat.le_refl _) ⟨u19, rfl, rfl, (mvi_e (N := 2) hI29 rfl (bd_w (l := 0) (h := 2) (bd_le_lo bw18 c30 (bd_c (v := 2) (lo := 2) (hi := 2) (by decide))) (by decide)) c30), (fun c k0_ => (fr20 c k0_))⟩
      · refine J_aload_n (i := 0) (j := 0) dX11_move_9 rfl rfl ?_
        refine J_iload_n (i := 1) (j := 1) dX11_move_10 rfl rfl ?_
        refine J_iload_n (i := 3) (j := 3) dX11_move_11 rfl rfl ?_
        refine J_imul dX11_move_12 ?_
        refine J_iload (i := 4) (j := 4) dX11_move_13 rfl ?_
        refine J_iadd dX11_move_15 ?_
        refine J_aload_n (i := 0) (j := 0) dX11_move_16 rfl rfl ?_
        refine J_iload_n (i := 1) (j := 1) dX11_move_17 rfl rfl ?_
        refine J_iload_n (i := 2) (j := 2) dX11_move_18 rfl rfl ?_
        refine J_imul dX11_move_19 ?_
        refine J_iload (i := 4) (j := 4) dX11_move_20 rfl ?_
        refine J_iadd dX11_move_22 ?_
        refine J_iald dX11_move_23 wc_167 (vin (bd_add (l := 0) (h := 7) (bd_mul (l := 0) (h := 6) (bd_c (v := 2) (lo := 2) (hi := 2) (by decide)) hp0 (by decide)) (bd_lt_hi bw18 (i_nle c30) (bd_c (v := 2) (lo := 2) (hi := 2) (by decide))) (by decide)) (by decide)) ?_
        refine J_topi (fun v31 qv31 => ?_)
        obtain ⟨u32, e33⟩ : ∃ z, z = ms u19 167 ((((2 : Int32) * to0) + w18).toNatClampNeg) v31 := ⟨_, rfl⟩
        refine J_iast dX11_move_24 wc_167 (vin (bd_add (l := 0) (h := 7) (bd_mul (l := 0) (h := 6) (bd_c (v := 2) (lo := 2) (hi := 2) (by decide)) hp1 (by decide)) (bd_lt_hi bw18 (i_nle c30) (bd_c (v := 2) (lo := 2) (hi := 2) (by decide))) (by decide)) (by decide)) (ws e33 wk_167 rfl) ?_
        refine J_iinc (i := 4) (j := 4) (v := (w18 + 1)) (lw := [(4, .int (w18 + 1)), (0, .ref 167), (1, .int 2), (2, .int from0), (3, .int to0)]) dX11_move_25 rfl rfl (by decide) rfl ?_
        refine J_goto (tgt := 3) dX11_move_28 (by decide) ?_
        refine J_lv [1, 2, 3, 4, 0] rfl ?_
        exact ih27 (w18 + 1) u32 (bd_w (l := 0) (h := 2) (bd_add (l := 1) (h := 2) (bd_lt_hi bw18 (i_nle c30) (bd_c (v := 2) (lo := 2) (hi := 2) (by decide))) (bd_c (v := 1) (lo := 1) (hi := 1) (by decide)) (by decide)) (by decide)) (fun c k0_ => ((ms_c e33 k0_).trans (fr20 c k0_))) (mvi_st (n := 2) (N := 2) hI29 rfl (by decide) hp0 hp1 (bd_w (l := 0) (h := 600) (bd_lt_hi bw18 (i_nle c30) (bd_c (v := 2) (lo := 2) (hi := 2) (by decide))) (by decide)) (i_nle c30) e33 qv31) (mu_up 1 bw18 rfl (by decide) (bd_w (l := 1) (h := 2) (bd_add (l := 1) (h := 2) (bd_lt_hi bw18 (i_nle c30) (bd_c (v := 2) (lo := 2) (hi := 2) (by decide))) (bd_c (v := 1) (lo := 1) (hi := 1) (by decide)) (by decide)) (by decide)) hm28)
  refine J_lv [1, 2, 3, 4, 0] rfl ?_
  exact lp25 _ (0 : Int32) u (bd_w (l := 0) (h := 2) (bd_c (v := 0) (lo := 0) (hi := 0) (by decide)) (by decide)) (fun c k0_ => rfl) (mvi_0 rfl) (Nat.lt_succ_self _)
set_option maxHeartbeats 4000000 in
set_option maxRecDepth 100000 in
theorem c_M_move_168 {d : Nat} {u : Nat → Nat → Int32} {g : Nat → Nat → Int64} {ex : List MC} {from0 : Int32} {to0 : Int32} (hd : 0 ≤ d) (hp0 : Bd 0 3 from0) (hp1 : Bd 0 3 to0) (hp2 : AB u 168 (-1) 999) : CT con0 d 0 0 yX11_move cX11_move 5 none [.ref 168, .int 314, .int from0, .int to0] (Wd u g ex) (fun r h2 => ∃ (u2 : Nat → Nat → Int32), r = none ∧ h2 = Wd u2 g ex ∧ AB u2 168 (-1) 999 ∧ (MVD u2 u 168 314 from0.toInt.toNat to0.toInt.toNat) ∧ (∀ c, c ≠ 168 → u2 c = u c)) := by
  refine CT_of (by decide) (Nat.le_of_ble_eq_true rfl) (fun x hq => ?_)
  show J x yX11_move cX11_move 5 none d 0 0 (Wd u g ex).length 0 [(0, .ref 168), (1, .int 314), (2, .int from0), (3, .int to0)] [] (Wd u g ex) 0 0
  refine J_iconst (v := 0) dX11_move_0 (by decide) ?_
  refine J_istore (i := 4) (lw := [(4, .int 0), (0, .ref 168), (1, .int 314), (2, .int from0), (3, .int to0)]) dX11_move_1 (by decide) rfl ?_
  have lp52 : ∀ (n53 : Nat) (w44 : Int32) (u45 : Nat → Nat → Int32), Bd 0 314 w44 → (∀ c, c ≠ 168 → u45 c = u c) → AB u45 168 (-1) 999 → MVI u45 u 168 314 from0.toInt.toNat to0.toInt.toNat w44.toInt.toNat → (314 - w44.toInt).toNat < n53 → J x yX11_move cX11_move 5 none d 0 0 (Wd u g ex).length 3 [(0, .ref 168), (1, .int 314), (2, .int from0), (3, .int to0), (4, .int w44)] [] (Wd u45 g ex) 0 0 := by
    intro n53
    induction n53 with
    | zero => intro w44 u45 bw44 fr46 ab47 hI56 hm55; exact absurd hm55 (Nat.not_lt_zero _)
    | succ n53 ih54 =>
      intro w44 u45 bw44 fr46 ab47 hI56 hm55
      refine J_iload (i := 4) (j := 4) dX11_move_3 rfl ?_
      refine J_iload_n (i := 1) (j := 1) dX11_move_5 rfl rfl ?_
      refine J_icmp_ge (tgt := 31) dX11_move_6 (by decide) (fun c57 => ?_) (fun c57 => ?_)
      · exact J_vret hq dX11_move_31 rfl wlen (Nat.le_refl _) (Nat.le_refl _) ⟨u45, rfl, rfl, ab47, (mvi_e (N := 314) hI56 rfl (bd_w (l := 0) (h := 314) (bd_le_lo bw44 c57 (bd_c (v := 314) (lo := 314) (hi := 314) (by decide))) (by decide)) c57), (fun c k0_ => (fr46 c k0_))⟩
      · refine J_aload_n (i := 0) (j := 0) dX11_move_9 rfl rfl ?_
        refine J_iload_n (i := 1) (j := 1) dX11_move_10 rfl rfl ?_
        refine J_iload_n (i := 3) (j := 3) dX11_move_11 rfl rfl ?_
        refine J_imul dX11_move_12 ?_
        refine J_iload (i := 4) (j := 4) dX11_move_13 rfl ?_
        refine J_iadd dX11_move_15 ?_
        refine J_aload_n (i := 0) (j := 0) dX11_move_16 rfl rfl ?_
        refine J_iload_n (i := 1) (j := 1) dX11_move_17 rfl rfl ?_
        refine J_iload_n (i := 2) (j := 2) dX11_move_18 rfl rfl ?_
        refine J_imul dX11_move_19 ?_
        refine J_iload (i := 4) (j := 4) dX11_move_20 rfl ?_
        refine J_iadd dX11_move_22 ?_
        refine J_iald dX11_move_23 wc_168 (vin (bd_add (l := 0) (h := 1255) (bd_mul (l := 0) (h := 942) (bd_c (v := 314) (lo := 314) (hi := 314) (by decide)) hp0 (by decide)) (bd_lt_hi bw44 (i_nle c57) (bd_c (v := 314) (lo := 314) (hi := 314) (by decide))) (by decide)) (by decide)) ?_
        refine J_topi (fun v58 qv58 => ?_)
        obtain ⟨u59, e60⟩ : ∃ z, z = ms u45 168 ((((314 : Int32) * to0) + w44).toNatClampNeg) v58 := ⟨_, rfl⟩
        refine J_iast dX11_move_24 wc_168 (vin (bd_add (l := 0) (h := 1255) (bd_mul (l := 0) (h := 942) (bd_c (v := 314) (lo := 314) (hi := 314) (by decide)) hp1 (by decide)) (bd_lt_hi bw44 (i_nle c57) (bd_c (v := 314) (lo := 314) (hi := 314) (by decide))) (by decide)) (by decide)) (ws e60 wk_168 rfl) ?_
        refine J_iinc (i := 4) (j := 4) (v := (w44 + 1)) (lw := [(4, .int (w44 + 1)), (0, .ref 168), (1, .int 314), (2, .int from0), (3, .int to0)]) dX11_move_25 rfl rfl (by decide) rfl ?_
        refine J_goto (tgt := 3) dX11_move_28 (by decide) ?_
        refine J_lv [1, 2, 3, 4, 0] rfl ?_
        exact ih54 (w44 + 1) u59 (bd_w (l := 0) (h := 314) (bd_add (l := 1) (h := 314) (bd_lt_hi bw44 (i_nle c57) (bd_c (v := 314) (lo := 314) (hi := 314) (by decide))) (bd_c (v := 1) (lo := 1) (hi := 1) (by decide)) (by decide)) (by decide)) (fun c k0_ => ((ms_c e60 k0_).trans (fr46 c k0_))) (ab_s e60 ab47 (bd_r qv58 (ab47 ((((314 : Int32) * from0) + w44).toNatClampNeg)))) (mvi_st (n := 314) (N := 314) hI56 rfl (by decide) hp0 hp1 (bd_w (l := 0) (h := 600) (bd_lt_hi bw44 (i_nle c57) (bd_c (v := 314) (lo := 314) (hi := 314) (by decide))) (by decide)) (i_nle c57) e60 qv58) (mu_up 1 bw44 rfl (by decide) (bd_w (l := 1) (h := 314) (bd_add (l := 1) (h := 314) (bd_lt_hi bw44 (i_nle c57) (bd_c (v := 314) (lo := 314) (hi := 314) (by decide))) (bd_c (v := 1) (lo := 1) (hi := 1) (by decide)) (by decide)) (by decide)) hm55)
  refine J_lv [1, 2, 3, 4, 0] rfl ?_
  exact lp52 _ (0 : Int32) u (bd_w (l := 0) (h := 314) (bd_c (v := 0) (lo := 0) (hi := 0) (by decide)) (by decide)) (fun c k0_ => rfl) hp2 (mvi_0 rfl) (Nat.lt_succ_self _)
set_option maxHeartbeats 4000000 in
set_option maxRecDepth 100000 in
theorem c_M_move_169 {d : Nat} {u : Nat → Nat → Int32} {g : Nat → Nat → Int64} {ex : List MC} {from0 : Int32} {to0 : Int32} (hd : 0 ≤ d) (hp0 : Bd 0 3 from0) (hp1 : Bd 0 3 to0) (hp2 : AB u 169 (-1) 999) : CT con0 d 0 0 yX11_move cX11_move 5 none [.ref 169, .int 111, .int from0, .int to0] (Wd u g ex) (fun r h2 => ∃ (u2 : Nat → Nat → Int32), r = none ∧ h2 = Wd u2 g ex ∧ AB u2 169 (-1) 999 ∧ (MVD u2 u 169 111 from0.toInt.toNat to0.toInt.toNat) ∧ (∀ c, c ≠ 169 → u2 c = u c)) := by
  refine CT_of (by decide) (Nat.le_of_ble_eq_true rfl) (fun x hq => ?_)
  show J x yX11_move cX11_move 5 none d 0 0 (Wd u g ex).length 0 [(0, .ref 169), (1, .int 111), (2, .int from0), (3, .int to0)] [] (Wd u g ex) 0 0
  refine J_iconst (v := 0) dX11_move_0 (by decide) ?_
  refine J_istore (i := 4) (lw := [(4, .int 0), (0, .ref 169), (1, .int 111), (2, .int from0), (3, .int to0)]) dX11_move_1 (by decide) rfl ?_
  have lp52 : ∀ (n53 : Nat) (w44 : Int32) (u45 : Nat → Nat → Int32), Bd 0 111 w44 → (∀ c, c ≠ 169 → u45 c = u c) → AB u45 169 (-1) 999 → MVI u45 u 169 111 from0.toInt.toNat to0.toInt.toNat w44.toInt.toNat → (111 - w44.toInt).toNat < n53 → J x yX11_move cX11_move 5 none d 0 0 (Wd u g ex).length 3 [(0, .ref 169), (1, .int 111), (2, .int from0), (3, .int to0), (4, .int w44)] [] (Wd u45 g ex) 0 0 := by
    intro n53
    induction n53 with
    | zero => intro w44 u45 bw44 fr46 ab47 hI56 hm55; exact absurd hm55 (Nat.not_lt_zero _)
    | succ n53 ih54 =>
      intro w44 u45 bw44 fr46 ab47 hI56 hm55
      refine J_iload (i := 4) (j := 4) dX11_move_3 rfl ?_
      refine J_iload_n (i := 1) (j := 1) dX11_move_5 rfl rfl ?_
      refine J_icmp_ge (tgt := 31) dX11_move_6 (by decide) (fun c57 => ?_) (fun c57 => ?_)
      · exact J_vret hq dX11_move_31 rfl wlen (Nat.le_refl _) (Nat.le_refl _) ⟨u45, rfl, rfl, ab47, (mvi_e (N := 111) hI56 rfl (bd_w (l := 0) (h := 111) (bd_le_lo bw44 c57 (bd_c (v := 111) (lo := 111) (hi := 111) (by decide))) (by decide)) c57), (fun c k0_ => (fr46 c k0_))⟩
      · refine J_aload_n (i := 0) (j := 0) dX11_move_9 rfl rfl ?_
        refine J_iload_n (i := 1) (j := 1) dX11_move_10 rfl rfl ?_
        refine J_iload_n (i := 3) (j := 3) dX11_move_11 rfl rfl ?_
        refine J_imul dX11_move_12 ?_
        refine J_iload (i := 4) (j := 4) dX11_move_13 rfl ?_
        refine J_iadd dX11_move_15 ?_
        refine J_aload_n (i := 0) (j := 0) dX11_move_16 rfl rfl ?_
        refine J_iload_n (i := 1) (j := 1) dX11_move_17 rfl rfl ?_
        refine J_iload_n (i := 2) (j := 2) dX11_move_18 rfl rfl ?_
        refine J_imul dX11_move_19 ?_
        refine J_iload (i := 4) (j := 4) dX11_move_20 rfl ?_
        refine J_iadd dX11_move_22 ?_
        refine J_iald dX11_move_23 wc_169 (vin (bd_add (l := 0) (h := 443) (bd_mul (l := 0) (h := 333) (bd_c (v := 111) (lo := 111) (hi := 111) (by decide)) hp0 (by decide)) (bd_lt_hi bw44 (i_nle c57) (bd_c (v := 111) (lo := 111) (hi := 111) (by decide))) (by decide)) (by decide)) ?_
        refine J_topi (fun v58 qv58 => ?_)
        obtain ⟨u59, e60⟩ : ∃ z, z = ms u45 169 ((((111 : Int32) * to0) + w44).toNatClampNeg) v58 := ⟨_, rfl⟩
        refine J_iast dX11_move_24 wc_169 (vin (bd_add (l := 0) (h := 443) (bd_mul (l := 0) (h := 333) (bd_c (v := 111) (lo := 111) (hi := 111) (by decide)) hp1 (by decide)) (bd_lt_hi bw44 (i_nle c57) (bd_c (v := 111) (lo := 111) (hi := 111) (by decide))) (by decide)) (by decide)) (ws e60 wk_169 rfl) ?_
        refine J_iinc (i := 4) (j := 4) (v := (w44 + 1)) (lw := [(4, .int (w44 + 1)), (0, .ref 169), (1, .int 111), (2, .int from0), (3, .int to0)]) dX11_move_25 rfl rfl (by decide) rfl ?_
        refine J_goto (tgt := 3) dX11_move_28 (by decide) ?_
        refine J_lv [1, 2, 3, 4, 0] rfl ?_
        exact ih54 (w44 + 1) u59 (bd_w (l := 0) (h := 111) (bd_add (l := 1) (h := 111) (bd_lt_hi bw44 (i_nle c57) (bd_c (v := 111) (lo := 111) (hi := 111) (by decide))) (bd_c (v := 1) (lo := 1) (hi := 1) (by decide)) (by decide)) (by decide)) (fun c k0_ => ((ms_c e60 k0_).trans (fr46 c k0_))) (ab_s e60 ab47 (bd_r qv58 (ab47 ((((111 : Int32) * from0) + w44).toNatClampNeg)))) (mvi_st (n := 111) (N := 111) hI56 rfl (by decide) hp0 hp1 (bd_w (l := 0) (h := 600) (bd_lt_hi bw44 (i_nle c57) (bd_c (v := 111) (lo := 111) (hi := 111) (by decide))) (by decide)) (i_nle c57) e60 qv58) (mu_up 1 bw44 rfl (by decide) (bd_w (l := 1) (h := 111) (bd_add (l := 1) (h := 111) (bd_lt_hi bw44 (i_nle c57) (bd_c (v := 111) (lo := 111) (hi := 111) (by decide))) (bd_c (v := 1) (lo := 1) (hi := 1) (by decide)) (by decide)) (by decide)) hm55)
  refine J_lv [1, 2, 3, 4, 0] rfl ?_
  exact lp52 _ (0 : Int32) u (bd_w (l := 0) (h := 111) (bd_c (v := 0) (lo := 0) (hi := 0) (by decide)) (by decide)) (fun c k0_ => rfl) hp2 (mvi_0 rfl) (Nat.lt_succ_self _)
set_option maxHeartbeats 4000000 in
set_option maxRecDepth 100000 in
theorem c_M_copy {d : Nat} {u : Nat → Nat → Int32} {g : Nat → Nat → Int64} {ex : List MC} {from0 : Int32} {to0 : Int32} (hd : 1 ≤ d) (hp0 : Bd 0 3 from0) (hp1 : Bd 0 3 to0) (hp2 : AB u 164 0 600) (hp3 : AB u 168 (-1) 999) (hp4 : AB u 169 (-1) 999) (hp5 : (MY u)) (hp6 : (HD u)) (hp7 : (HC u)) (hp8 : (PL u)) : CT con0 d 0 0 yX11_copy cX11_copy 4 none [.ref 162, .int from0, .int to0] (Wd u g ex) (fun r h2 => ∃ (u2 : Nat → Nat → Int32), r = none ∧ h2 = Wd u2 g ex ∧ AB u2 164 0 600 ∧ AB u2 168 (-1) 999 ∧ AB u2 169 (-1) 999 ∧ (MY u2) ∧ (HD u2) ∧ (HC u2) ∧ (PL u2) ∧ (∀ c, c ≠ 163 → c ≠ 164 → c ≠ 165 → c ≠ 166 → c ≠ 167 → c ≠ 168 → c ≠ 169 → u2 c = u c)) := by
  refine CT_of (by decide) (Nat.le_of_ble_eq_true rfl) (fun x hq => ?_)
  show J x yX11_copy cX11_copy 4 none d 0 0 (Wd u g ex).length 0 [(0, .ref 162), (1, .int from0), (2, .int to0)] [] (Wd u g ex) 0 0
  refine J_iconst (v := 0) dX11_copy_0 (by decide) ?_
  refine J_istore_n (i := 3) (lw := [(3, .int 0), (0, .ref 162), (1, .int from0), (2, .int to0)]) dX11_copy_1 rfl (by decide) rfl ?_
  have lp101 : ∀ (n102 : Nat) (w64 : Int32) (u65 : Nat → Nat → Int32), Bd 0 600 w64 → (∀ c, c ≠ 163 → u65 c = u c) → (600 - w64.toInt).toNat < n102 → J x yX11_copy cX11_copy 4 none d 0 0 (Wd u g ex).length 2 [(0, .ref 162), (1, .int from0), (2, .int to0), (3, .int w64)] [] (Wd u65 g ex) 0 0 := by
    intro n102
    induction n102 with
    | zero => intro w64 u65 bw64 fr66 hm104; exact absurd hm104 (Nat.not_lt_zero _)
    | succ n102 ih103 =>
      intro w64 u65 bw64 fr66 hm104
      refine J_iload_n (i := 3) (j := 3) dX11_copy_2 rfl rfl ?_
      refine J_sipush (v := 600) dX11_copy_3 (by decide) ?_
      refine J_icmp_ge (tgt := 39) dX11_copy_6 (by decide) (fun c105 => ?_) (fun c105 => ?_)
      · refine J_aload_n (i := 0) (j := 0) dX11_copy_39 rfl rfl ?_
        refine J_get (C := RX11) (T := TX11) (Z := 43) (ci := 11) (f := 2) dX11_copy_40 inG11 rfl (by decide) k1266 wc_162 rfl ?_
        refine J_iconst (v := 1) dX11_copy_43 (by decide) ?_
        refine J_iload_n (i := 1) (j := 1) dX11_copy_44 rfl rfl ?_
        refine J_iload_n (i := 2) (j := 2) dX11_copy_45 rfl rfl ?_
        refine J_callS (As := [.ref 164, .int 1, .int from0, .int to0]) (rest := []) dX11_copy_46 (c_M_move_164 (d := 0) (u := u65) (g := g) (ex := ex) (from0 := from0) (to0 := to0)  (by decide) hp0 hp1 (ab_c (fr66 164 (by decide)) hp2)) hq.n k1806 k1807 k97 k1808 np_X11_move (Nat.le_trans (by decide) hd) (by decide) (Nat.le_refl _) (Nat.le_refl _) wlen rfl (Nat.le_of_ble_eq_true rfl) (fun r_ h_ p109 => ?_)
        obtain ⟨u110, rfl, rfl, h111, h112, fr113⟩ := p109
        refine J_aload_n (i := 0) (j := 0) dX11_copy_49 rfl rfl ?_
        refine J_get (C := RX11) (T := TX11) (Z := 43) (ci := 11) (f := 3) dX11_copy_50 inG11 rfl (by decide) k1267 wc_162 rfl ?_
        refine J_iconst (v := 1) dX11_copy_53 (by decide) ?_
        refine J_iload_n (i := 1) (j := 1) dX11_copy_54 rfl rfl ?_
        refine J_iload_n (i := 2) (j := 2) dX11_copy_55 rfl rfl ?_
        refine J_callS (As := [.ref 165, .int 1, .int from0, .int to0]) (rest := []) dX11_copy_56 (c_M_move_165 (d := 0) (u := u110) (g := g) (ex := ex) (from0 := from0) (to0 := to0)  (by decide) hp0 hp1) hq.n k1806 k1807 k97 k1808 np_X11_move (Nat.le_trans (by decide) hd) (by decide) (Nat.le_refl _) (Nat.le_refl _) wlen rfl (Nat.le_of_ble_eq_true rfl) (fun r_ h_ p114 => ?_)
        obtain ⟨u115, rfl, rfl, h116, fr117⟩ := p114
        refine J_aload_n (i := 0) (j := 0) dX11_copy_59 rfl rfl ?_
        refine J_get (C := RX11) (T := TX11) (Z := 43) (ci := 11) (f := 4) dX11_copy_60 inG11 rfl (by decide) k1268 wc_162 rfl ?_
        refine J_iconst (v := 1) dX11_copy_63 (by decide) ?_
        refine J_iload_n (i := 1) (j := 1) dX11_copy_64 rfl rfl ?_
        refine J_iload_n (i := 2) (j := 2) dX11_copy_65 rfl rfl ?_
        refine J_callS (As := [.ref 166, .int 1, .int from0, .int to0]) (rest := []) dX11_copy_66 (c_M_move_166 (d := 0) (u := u115) (g := g) (ex := ex) (from0 := from0) (to0 := to0)  (by decide) hp0 hp1) hq.n k1806 k1807 k97 k1808 np_X11_move (Nat.le_trans (by decide) hd) (by decide) (Nat.le_refl _) (Nat.le_refl _) wlen rfl (Nat.le_of_ble_eq_true rfl) (fun r_ h_ p118 => ?_)
        obtain ⟨u119, rfl, rfl, h120, fr121⟩ := p118
        refine J_aload_n (i := 0) (j := 0) dX11_copy_69 rfl rfl ?_
        refine J_get (C := RX11) (T := TX11) (Z := 43) (ci := 11) (f := 5) dX11_copy_70 inG11 rfl (by decide) k1269 wc_162 rfl ?_
        refine J_iconst (v := 2) dX11_copy_73 (by decide) ?_
        refine J_iload_n (i := 1) (j := 1) dX11_copy_74 rfl rfl ?_
        refine J_iload_n (i := 2) (j := 2) dX11_copy_75 rfl rfl ?_
        refine J_callS (As := [.ref 167, .int 2, .int from0, .int to0]) (rest := []) dX11_copy_76 (c_M_move_167 (d := 0) (u := u119) (g := g) (ex := ex) (from0 := from0) (to0 := to0)  (by decide) hp0 hp1) hq.n k1806 k1807 k97 k1808 np_X11_move (Nat.le_trans (by decide) hd) (by decide) (Nat.le_refl _) (Nat.le_refl _) wlen rfl (Nat.le_of_ble_eq_true rfl) (fun r_ h_ p122 => ?_)
        obtain ⟨u123, rfl, rfl, h124, fr125⟩ := p122
        refine J_aload_n (i := 0) (j := 0) dX11_copy_79 rfl rfl ?_
        refine J_get (C := RX11) (T := TX11) (Z := 43) (ci := 11) (f := 6) dX11_copy_80 inG11 rfl (by decide) k1270 wc_162 rfl ?_
        refine J_sipush (v := 314) dX11_copy_83 (by decide) ?_
        refine J_iload_n (i := 1) (j := 1) dX11_copy_86 rfl rfl ?_
        refine J_iload_n (i := 2) (j := 2) dX11_copy_87 rfl rfl ?_
        refine J_callS (As := [.ref 168, .int 314, .int from0, .int to0]) (rest := []) dX11_copy_88 (c_M_move_168 (d := 0) (u := u123) (g := g) (ex := ex) (from0 := from0) (to0 := to0)  (by decide) hp0 hp1 (ab_c ((fr125 168 (by decide)).trans ((fr121 168 (by decide)).trans ((fr117 168 (by decide)).trans ((fr113 168 (by decide)).trans (fr66 168 (by decide)))))) hp3)) hq.n k1806 k1807 k97 k1808 np_X11_move (Nat.le_trans (by decide) hd) (by decide) (Nat.le_refl _) (Nat.le_refl _) wlen rfl (Nat.le_of_ble_eq_true rfl) (fun r_ h_ p126 => ?_)
        obtain ⟨u127, rfl, rfl, h128, h129, fr130⟩ := p126
        refine J_aload_n (i := 0) (j := 0) dX11_copy_91 rfl rfl ?_
        refine J_get (C := RX11) (T := TX11) (Z := 43) (ci := 11) (f := 7) dX11_copy_92 inG11 rfl (by decide) k1271 wc_162 rfl ?_
        refine J_bipush (v := 111) dX11_copy_95 (by decide) ?_
        refine J_iload_n (i := 1) (j := 1) dX11_copy_97 rfl rfl ?_
        refine J_iload_n (i := 2) (j := 2) dX11_copy_98 rfl rfl ?_
        refine J_callS (As := [.ref 169, .int 111, .int from0, .int to0]) (rest := []) dX11_copy_99 (c_M_move_169 (d := 0) (u := u127) (g := g) (ex := ex) (from0 := from0) (to0 := to0)  (by decide) hp0 hp1 (ab_c ((fr130 169 (by decide)).trans ((fr125 169 (by decide)).trans ((fr121 169 (by decide)).trans ((fr117 169 (by decide)).trans ((fr113 169 (by decide)).trans (fr66 169 (by decide))))))) hp4)) hq.n k1806 k1807 k97 k1808 np_X11_move (Nat.le_trans (by decide) hd) (by decide) (Nat.le_refl _) (Nat.le_refl _) wlen rfl (Nat.le_of_ble_eq_true rfl) (fun r_ h_ p131 => ?_)
        obtain ⟨u132, rfl, rfl, h133, h134, fr135⟩ := p131
        exact J_vret hq dX11_copy_102 rfl wlen (Nat.le_refl _) (Nat.le_refl _) ⟨u132, rfl, rfl, (ab_c ((fr135 164 (by decide)).trans ((fr130 164 (by decide)).trans ((fr125 164 (by decide)).trans ((fr121 164 (by decide)).trans (fr117 164 (by decide)))))) h111), (ab_c (fr135 168 (by decide)) h128), h133, (my_m (by have := hp0.1; have := hp0.2; omega) (mvd_c ((fr135 167 (by decide)).trans (fr130 167 (by decide))) ((fr121 167 (by decide)).trans ((fr117 167 (by decide)).trans ((fr113 167 (by decide)).trans (fr66 167 (by decide))))) h124) hp5), (hd_m (by have := hp0.1; have := hp0.2; omega) (mvd_c (fr135 168 (by decide)) ((fr125 168 (by decide)).trans ((fr121 168 (by decide)).trans ((fr117 168 (by decide)).trans ((fr113 168 (by decide)).trans (fr66 168 (by decide)))))) h129) hp6), (hc_m (by have := hp0.1; have := hp0.2; omega) (mvd_c ((fr135 167 (by decide)).trans (fr130 167 (by decide))) ((fr121 167 (by decide)).trans ((fr117 167 (by decide)).trans ((fr113 167 (by decide)).trans (fr66 167 (by decide))))) h124) (mvd_c (fr135 168 (by decide)) ((fr125 168 (by decide)).trans ((fr121 168 (by decide)).trans ((fr117 168 (by decide)).trans ((fr113 168 (by decide)).trans (fr66 168 (by decide)))))) h129) hp7), (pl_m (by have := hp0.1; have := hp0.2; omega) (mvd_c rfl ((fr130 169 (by decide)).trans ((fr125 169 (by decide)).trans ((fr121 169 (by decide)).trans ((fr117 169 (by decide)).trans ((fr113 169 (by decide)).trans (fr66 169 (by decide))))))) h134) hp8), (fun c k0_ k1_ k2_ k3_ k4_ k5_ k6_ => ((fr135 c k6_).trans ((fr130 c k5_).trans ((fr125 c k4_).trans ((fr121 c k3_).trans ((fr117 c k2_).trans ((fr113 c k1_).trans (fr66 c k0_))))))))⟩
      · refine J_aload_n (i := 0) (j := 0) dX11_copy_9 rfl rfl ?_
        refine J_get (C := RX11) (T := TX11) (Z := 43) (ci := 11) (f := 1) dX11_copy_10 inG11 rfl (by decide) k1265 wc_162 rfl ?_
        refine J_sipush (v := 600) dX11_copy_13 (by decide) ?_
        refine J_iload_n (i := 2) (j := 2) dX11_copy_16 rfl rfl ?_
        refine J_imul dX11_copy_17 ?_
        refine J_iload_n (i := 3) (j := 3) dX11_copy_18 rfl rfl ?_
        refine J_iadd dX11_copy_19 ?_
        refine J_aload_n (i := 0) (j := 0) dX11_copy_20 rfl rfl ?_
        refine J_get (C := RX11) (T := TX11) (Z := 43) (ci := 11) (f := 1) dX11_copy_21 inG11 rfl (by decide) k1265 wc_162 rfl ?_
        refine J_sipush (v := 600) dX11_copy_24 (by decide) ?_
        refine J_iload_n (i := 1) (j := 1) dX11_copy_27 rfl rfl ?_
        refine J_imul dX11_copy_28 ?_
        refine J_iload_n (i := 3) (j := 3) dX11_copy_29 rfl rfl ?_
        refine J_iadd dX11_copy_30 ?_
        refine J_bald dX11_copy_31 wc_163 (vin (bd_add (l := 0) (h := 2399) (bd_mul (l := 0) (h := 1800) (bd_c (v := 600) (lo := 600) (hi := 600) (by decide)) hp0 (by decide)) (bd_lt_hi bw64 (i_nle c105) (bd_c (v := 600) (lo := 600) (hi := 600) (by decide))) (by decide)) (by decide)) ?_
        refine J_topi (fun v136 qv136 => ?_)
        obtain ⟨u137, e138⟩ : ∃ z, z = ms u65 163 ((((600 : Int32) * to0) + w64).toNatClampNeg) (vp_nar .byte v136) := ⟨_, rfl⟩
        refine J_bast dX11_copy_32 wc_163 (vin (bd_add (l := 0) (h := 2399) (bd_mul (l := 0) (h := 1800) (bd_c (v := 600) (lo := 600) (hi := 600) (by decide)) hp1 (by decide)) (bd_lt_hi bw64 (i_nle c105) (bd_c (v := 600) (lo := 600) (hi := 600) (by decide))) (by decide)) (by decide)) (ws e138 wk_163 rfl) ?_
        refine J_iinc (i := 3) (j := 3) (v := (w64 + 1)) (lw := [(3, .int (w64 + 1)), (0, .ref 162), (1, .int from0), (2, .int to0)]) dX11_copy_33 rfl rfl (by decide) rfl ?_
        refine J_goto (tgt := 2) dX11_copy_36 (by decide) ?_
        refine J_lv [1, 2, 3, 0] rfl ?_
        exact ih103 (w64 + 1) u137 (bd_w (l := 0) (h := 600) (bd_add (l := 1) (h := 600) (bd_lt_hi bw64 (i_nle c105) (bd_c (v := 600) (lo := 600) (hi := 600) (by decide))) (bd_c (v := 1) (lo := 1) (hi := 1) (by decide)) (by decide)) (by decide)) (fun c k0_ => ((ms_c e138 k0_).trans (fr66 c k0_))) (mu_up 1 bw64 rfl (by decide) (bd_w (l := 1) (h := 600) (bd_add (l := 1) (h := 600) (bd_lt_hi bw64 (i_nle c105) (bd_c (v := 600) (lo := 600) (hi := 600) (by decide))) (bd_c (v := 1) (lo := 1) (hi := 1) (by decide)) (by decide)) (by decide)) hm104)
  refine J_lv [1, 2, 3, 0] rfl ?_
  exact lp101 _ (0 : Int32) u (bd_w (l := 0) (h := 600) (bd_c (v := 0) (lo := 0) (hi := 0) (by decide)) (by decide)) (fun c k0_ => rfl) (Nat.lt_succ_self _)
set_option maxHeartbeats 4000000 in
set_option maxRecDepth 100000 in
theorem c_M_inE {d : Nat} {u : Nat → Nat → Int32} {g : Nat → Nat → Int64} {ex : List MC} {v : Int32} {low : Int32} {high : Int32} (hd : 0 ≤ d)  : CT con0 d 0 0 yX11_in cX11_in 3 (some .boolean) [.int v, .int low, .int high] (Wd u g ex) (fun r h2 => ∃ (z : Bool), r = some (.int (bI z)) ∧ h2 = Wd u g ex ∧ (z = true → low ≤ v) ∧ (z = true → v ≤ high) ∧ (z = true ↔ (low ≤ v ∧ v ≤ high))) := by
  refine CT_of (by decide) (Nat.le_of_ble_eq_true rfl) (fun x hq => ?_)
  show J x yX11_in cX11_in 3 (some .boolean) d 0 0 (Wd u g ex).length 0 [(0, .int v), (1, .int low), (2, .int high)] [] (Wd u g ex) 0 0
  refine J_iload_n (i := 0) (j := 0) dX11_in_0 rfl rfl ?_
  refine J_iload_n (i := 1) (j := 1) dX11_in_1 rfl rfl ?_
  refine J_icmp_lt (tgt := 14) dX11_in_2 (by decide) (fun c1 => ?_) (fun c1 => ?_)
  · refine J_iconst (v := 0) dX11_in_14 (by decide) ?_
    exact J_zret hq dX11_in_15 rfl rfl wlen (Nat.le_refl _) (Nat.le_refl _) ⟨false, rfl, rfl, (fun q => absurd q (by decide)), (fun q => absurd q (by decide)), ⟨fun q => absurd q (by decide), fun q => (lt_le_no c1 q.1).elim⟩⟩
  · refine J_iload_n (i := 0) (j := 0) dX11_in_5 rfl rfl ?_
    refine J_iload_n (i := 2) (j := 2) dX11_in_6 rfl rfl ?_
    refine J_icmp_gt (tgt := 14) dX11_in_7 (by decide) (fun c2 => ?_) (fun c2 => ?_)
    · refine J_iconst (v := 0) dX11_in_14 (by decide) ?_
      exact J_zret hq dX11_in_15 rfl rfl wlen (Nat.le_refl _) (Nat.le_refl _) ⟨false, rfl, rfl, (fun q => absurd q (by decide)), (fun q => absurd q (by decide)), ⟨fun q => absurd q (by decide), fun q => (lt_le_no c2 q.2).elim⟩⟩
    · refine J_iconst (v := 1) dX11_in_10 (by decide) ?_
      refine J_goto (tgt := 15) dX11_in_11 (by decide) ?_
      exact J_zret hq dX11_in_15 rfl rfl wlen (Nat.le_refl _) (Nat.le_refl _) ⟨true, rfl, rfl, (fun _ => (i_nlt c1)), (fun _ => (i_nlt c2)), ⟨fun _ => ⟨(i_nlt c1), (i_nlt c2)⟩, fun _ => rfl⟩⟩
set_option maxHeartbeats 4000000 in
set_option maxRecDepth 100000 in
theorem c_M_image {d : Nat} {u : Nat → Nat → Int32} {g : Nat → Nat → Int64} {ex : List MC} {k : Int32} (hd : 2 ≤ d) (hp0 : AB u 164 0 600) (hp1 : AB u 168 (-1) 999) (hp2 : AB u 169 (-1) 999) (hp3 : (MY u)) (hp4 : (HD u)) (hp5 : (HC u)) (hp6 : (PL u)) : CT con0 d 0 0 yX11_image cX11_image 2 (some .boolean) [.ref 162, .int k] (Wd u g ex) (fun r h2 => ∃ (z : Bool) (u2 : Nat → Nat → Int32), r = some (.int (bI z)) ∧ h2 = Wd u2 g ex ∧ (z = true → Bd 0 2 k) ∧ AB u2 164 0 600 ∧ AB u2 168 (-1) 999 ∧ AB u2 169 (-1) 999 ∧ (MY u2) ∧ (HD u2) ∧ (HC u2) ∧ (PL u2) ∧ (z = true ↔ (0 ≤ k ∧ k ≤ 2)) ∧ (∀ c, c ≠ 162 → c ≠ 163 → c ≠ 164 → c ≠ 165 → c ≠ 166 → c ≠ 167 → c ≠ 168 → c ≠ 169 → c ≠ 181 → u2 c = u c) ∧ (∀ j, j ≠ 0 → u2 162 j = u 162 j)) := by
  refine CT_of (by decide) (Nat.le_of_ble_eq_true rfl) (fun x hq => ?_)
  show J x yX11_image cX11_image 2 (some .boolean) d 0 0 (Wd u g ex).length 0 [(0, .ref 162), (1, .int k)] [] (Wd u g ex) 0 0
  refine J_aload_n (i := 0) (j := 0) dX11_image_0 rfl rfl ?_
  refine J_iconst (v := 0) dX11_image_1 (by decide) ?_
  obtain ⟨u1, e2⟩ : ∃ z, z = ms u 162 0 0 := ⟨_, rfl⟩
  refine J_put (C := RX11) (T := TX11) (Z := 43) (ci := 11) (f := 0) (ty0 := tyX11) dX11_image_2 inG11 rfl tyX11_ok nmX11 (by decide) k1264 rfl rfl wc_162 (Nat.le_of_ble_eq_true rfl) (fun _ _ => ⟨rfl, rfl⟩) (ws e2 wk_162 rfl) ?_
  refine J_iload_n (i := 1) (j := 1) dX11_image_5 rfl rfl ?_
  refine J_iconst (v := 0) dX11_image_6 (by decide) ?_
  refine J_iconst (v := 2) dX11_image_7 (by decide) ?_
  refine J_callS (As := [.int k, .int 0, .int 2]) (rest := []) dX11_image_8 (c_M_inE (d := 0) (u := u1) (g := g) (ex := ex) (v := k) (low := 0) (high := 2)  (by decide) ) hq.n k1406 k1407 k97 k1408 np_X11_in (Nat.le_trans (by decide) hd) (by decide) (Nat.le_refl _) (Nat.le_refl _) wlen rfl (Nat.le_of_ble_eq_true rfl) (fun r_ h_ p3 => ?_)
  obtain ⟨t4, rfl, rfl, h5, h6, h7⟩ := p3
  refine J_ifB_ne (tgt := 16) dX11_image_11 (by decide) (fun c8 => ?_) (fun c8 => ?_)
  · refine J_aload_n (i := 0) (j := 0) dX11_image_16 rfl rfl ?_
    refine J_iconst (v := 0) dX11_image_17 (by decide) ?_
    refine J_iload_n (i := 1) (j := 1) dX11_image_18 rfl rfl ?_
    refine J_iconst (v := 1) dX11_image_19 (by decide) ?_
    refine J_iadd dX11_image_20 ?_
    refine J_callV (As := [.int 0, .int (k + 1)]) (rest := []) dX11_image_21 (c_M_copy (d := 1) (u := u1) (g := g) (ex := ex) (from0 := 0) (to0 := (k + 1))  (by decide) (bd_w (l := 0) (h := 3) (bd_c (v := 0) (lo := 0) (hi := 0) (by decide)) (by decide)) (bd_w (l := 0) (h := 3) (bd_add (l := 1) (h := 3) (bd_le_hi (bd_le_lo (bd_any k) (h5 c8) (bd_c (v := 0) (lo := 0) (hi := 0) (by decide))) (h6 c8) (bd_c (v := 2) (lo := 2) (hi := 2) (by decide))) (bd_c (v := 1) (lo := 1) (hi := 1) (by decide)) (by decide)) (by decide)) (ab_c (ms_c e2 (by decide)) hp0) (ab_c (ms_c e2 (by decide)) hp1) (ab_c (ms_c e2 (by decide)) hp2) (my_c (ms_c e2 (by decide)) hp3) (hd_c (ms_c e2 (by decide)) hp4) (hc_c (ms_c e2 (by decide)) (ms_c e2 (by decide)) hp5) (pl_c (ms_c e2 (by decide)) hp6)) hq.n k1802 k1804 k85 wc_162 rfl rfl k97 k1805 np_X11_copy (Nat.le_trans (by decide) hd) (by decide) (Nat.le_refl _) (Nat.le_refl _) wlen rfl (Nat.le_of_ble_eq_true rfl) (fun r_ h_ p9 => ?_)
    obtain ⟨u10, rfl, rfl, h11, h12, h13, h14, h15, h16, h17, fr18⟩ := p9
    refine J_aload_n (i := 0) (j := 0) dX11_image_24 rfl rfl ?_
    refine J_get (C := RX11) (T := TX11) (Z := 43) (ci := 11) (f := 42) dX11_image_25 inG11 rfl (by decide) k1306 wc_162 rfl ?_
    refine J_iload_n (i := 1) (j := 1) dX11_image_28 rfl rfl ?_
    refine J_iconst (v := 1) dX11_image_29 (by decide) ?_
    obtain ⟨u19, e20⟩ : ∃ z, z = ms u10 181 k.toNatClampNeg (vp_nar .boolean (1 : Int32)) := ⟨_, rfl⟩
    refine J_zast dX11_image_30 wc_181 (vin (bd_le_hi (bd_le_lo (bd_any k) (h5 c8) (bd_c (v := 0) (lo := 0) (hi := 0) (by decide))) (h6 c8) (bd_c (v := 2) (lo := 2) (hi := 2) (by decide))) (by decide)) (ws e20 wk_181 rfl) ?_
    refine J_iconst (v := 1) dX11_image_31 (by decide) ?_
    exact J_zret hq dX11_image_32 rfl rfl wlen (Nat.le_refl _) (Nat.le_refl _) ⟨true, u19, rfl, rfl, (fun qb => (bd_le_hi (bd_le_lo (bd_any k) (h5 c8) (bd_c (v := 0) (lo := 0) (hi := 0) (by decide))) (h6 c8) (bd_c (v := 2) (lo := 2) (hi := 2) (by decide)))), (ab_c (ms_c e20 (by decide)) h11), (ab_c (ms_c e20 (by decide)) h12), (ab_c (ms_c e20 (by decide)) h13), (my_c (ms_c e20 (by decide)) h14), (hd_c (ms_c e20 (by decide)) h15), (hc_c (ms_c e20 (by decide)) (ms_c e20 (by decide)) h16), (pl_c (ms_c e20 (by decide)) h17), ⟨fun _ => ⟨(h5 c8), (h6 c8)⟩, fun _ => rfl⟩, (fun c k0_ k1_ k2_ k3_ k4_ k5_ k6_ k7_ k8_ => ((ms_c e20 k8_).trans ((fr18 c k1_ k2_ k3_ k4_ k5_ k6_ k7_).trans (ms_c e2 k0_)))), (fun j k0_ => ((congrFun (ms_c e20 (by decide)) j).trans ((congrFun (fr18 162 (by decide) (by decide) (by decide) (by decide) (by decide) (by decide) (by decide)) j).trans (ms_i e2 k0_))))⟩
  · refine J_iconst (v := 0) dX11_image_14 (by decide) ?_
    exact J_zret hq dX11_image_15 rfl rfl wlen (Nat.le_refl _) (Nat.le_refl _) ⟨false, u1, rfl, rfl, (fun q => absurd q (by decide)), (ab_c (ms_c e2 (by decide)) hp0), (ab_c (ms_c e2 (by decide)) hp1), (ab_c (ms_c e2 (by decide)) hp2), (my_c (ms_c e2 (by decide)) hp3), (hd_c (ms_c e2 (by decide)) hp4), (hc_c (ms_c e2 (by decide)) (ms_c e2 (by decide)) hp5), (pl_c (ms_c e2 (by decide)) hp6), ⟨fun q => absurd q (by decide), fun q => absurd ((fun e => (h7.mpr e).symm.trans c8) q) (by decide)⟩, (fun c k0_ k1_ k2_ k3_ k4_ k5_ k6_ k7_ k8_ => (ms_c e2 k0_)), (fun j k0_ => (ms_i e2 k0_))⟩
set_option maxHeartbeats 4000000 in
set_option maxRecDepth 100000 in
theorem c_M_again {d : Nat} {u : Nat → Nat → Int32} {g : Nat → Nat → Int64} {ex : List MC} {k : Int32} (hd : 2 ≤ d) (hp0 : AB u 164 0 600) (hp1 : AB u 168 (-1) 999) (hp2 : AB u 169 (-1) 999) (hp3 : (MY u)) (hp4 : (HD u)) (hp5 : (HC u)) (hp6 : (PL u)) : CT con0 d 0 0 yX11_again cX11_again 2 (some .boolean) [.ref 162, .int k] (Wd u g ex) (fun r h2 => ∃ (z : Bool) (u2 : Nat → Nat → Int32), r = some (.int (bI z)) ∧ h2 = Wd u2 g ex ∧ (z = true → Bd 0 2 k) ∧ AB u2 164 0 600 ∧ AB u2 168 (-1) 999 ∧ AB u2 169 (-1) 999 ∧ (MY u2) ∧ (HD u2) ∧ (HC u2) ∧ (PL u2) ∧ (∀ c, c ≠ 162 → c ≠ 163 → c ≠ 164 → c ≠ 165 → c ≠ 166 → c ≠ 167 → c ≠ 168 → c ≠ 169 → u2 c = u c) ∧ (∀ j, j ≠ 0 → u2 162 j = u 162 j)) := by
  refine CT_of (by decide) (Nat.le_of_ble_eq_true rfl) (fun x hq => ?_)
  show J x yX11_again cX11_again 2 (some .boolean) d 0 0 (Wd u g ex).length 0 [(0, .ref 162), (1, .int k)] [] (Wd u g ex) 0 0
  refine J_aload_n (i := 0) (j := 0) dX11_again_0 rfl rfl ?_
  refine J_iconst (v := 0) dX11_again_1 (by decide) ?_
  obtain ⟨u1, e2⟩ : ∃ z, z = ms u 162 0 0 := ⟨_, rfl⟩
  refine J_put (C := RX11) (T := TX11) (Z := 43) (ci := 11) (f := 0) (ty0 := tyX11) dX11_again_2 inG11 rfl tyX11_ok nmX11 (by decide) k1264 rfl rfl wc_162 (Nat.le_of_ble_eq_true rfl) (fun _ _ => ⟨rfl, rfl⟩) (ws e2 wk_162 rfl) ?_
  refine J_iload_n (i := 1) (j := 1) dX11_again_5 rfl rfl ?_
  refine J_iconst (v := 0) dX11_again_6 (by decide) ?_
  refine J_iconst (v := 2) dX11_again_7 (by decide) ?_
  refine J_callS (As := [.int k, .int 0, .int 2]) (rest := []) dX11_again_8 (c_M_in (d := 0) (u := u1) (g := g) (ex := ex) (v := k) (low := 0) (high := 2)  (by decide) ) hq.n k1406 k1407 k97 k1408 np_X11_in (Nat.le_trans (by decide) hd) (by decide) (Nat.le_refl _) (Nat.le_refl _) wlen rfl (Nat.le_of_ble_eq_true rfl) (fun r_ h_ p3 => ?_)
  obtain ⟨t4, rfl, rfl, h5, h6⟩ := p3
  refine J_ifB_eq (tgt := 23) dX11_again_11 (by decide) (fun c7 => ?_) (fun c7 => ?_)
  · refine J_iconst (v := 0) dX11_again_23 (by decide) ?_
    exact J_zret hq dX11_again_24 rfl rfl wlen (Nat.le_refl _) (Nat.le_refl _) ⟨false, u1, rfl, rfl, (fun q => absurd q (by decide)), (ab_c (ms_c e2 (by decide)) hp0), (ab_c (ms_c e2 (by decide)) hp1), (ab_c (ms_c e2 (by decide)) hp2), (my_c (ms_c e2 (by decide)) hp3), (hd_c (ms_c e2 (by decide)) hp4), (hc_c (ms_c e2 (by decide)) (ms_c e2 (by decide)) hp5), (pl_c (ms_c e2 (by decide)) hp6), (fun c k0_ k1_ k2_ k3_ k4_ k5_ k6_ k7_ => (ms_c e2 k0_)), (fun j k0_ => (ms_i e2 k0_))⟩
  · refine J_aload_n (i := 0) (j := 0) dX11_again_14 rfl rfl ?_
    refine J_get (C := RX11) (T := TX11) (Z := 43) (ci := 11) (f := 42) dX11_again_15 inG11 rfl (by decide) k1306 wc_162 rfl ?_
    refine J_iload_n (i := 1) (j := 1) dX11_again_18 rfl rfl ?_
    refine J_zald dX11_again_19 wc_181 (vin (bd_le_hi (bd_le_lo (bd_any k) (h5 c7) (bd_c (v := 0) (lo := 0) (hi := 0) (by decide))) (h6 c7) (bd_c (v := 2) (lo := 2) (hi := 2) (by decide))) (by decide)) ?_
    refine J_topi (fun v8 qv8 => ?_)
    refine J_if_ne (tgt := 25) dX11_again_20 (by decide) (fun c9 => ?_) (fun c9 => ?_)
    · refine J_aload_n (i := 0) (j := 0) dX11_again_25 rfl rfl ?_
      refine J_iload_n (i := 1) (j := 1) dX11_again_26 rfl rfl ?_
      refine J_iconst (v := 1) dX11_again_27 (by decide) ?_
      refine J_iadd dX11_again_28 ?_
      refine J_iconst (v := 0) dX11_again_29 (by decide) ?_
      refine J_callV (As := [.int (k + 1), .int 0]) (rest := []) dX11_again_30 (c_M_copy (d := 1) (u := u1) (g := g) (ex := ex) (from0 := (k + 1)) (to0 := 0)  (by decide) (bd_w (l := 0) (h := 3) (bd_add (l := 1) (h := 3) (bd_le_hi (bd_le_lo (bd_any k) (h5 c7) (bd_c (v := 0) (lo := 0) (hi := 0) (by decide))) (h6 c7) (bd_c (v := 2) (lo := 2) (hi := 2) (by decide))) (bd_c (v := 1) (lo := 1) (hi := 1) (by decide)) (by decide)) (by decide)) (bd_w (l := 0) (h := 3) (bd_c (v := 0) (lo := 0) (hi := 0) (by decide)) (by decide)) (ab_c (ms_c e2 (by decide)) hp0) (ab_c (ms_c e2 (by decide)) hp1) (ab_c (ms_c e2 (by decide)) hp2) (my_c (ms_c e2 (by decide)) hp3) (hd_c (ms_c e2 (by decide)) hp4) (hc_c (ms_c e2 (by decide)) (ms_c e2 (by decide)) hp5) (pl_c (ms_c e2 (by decide)) hp6)) hq.n k1802 k1804 k85 wc_162 rfl rfl k97 k1805 np_X11_copy (Nat.le_trans (by decide) hd) (by decide) (Nat.le_refl _) (Nat.le_refl _) wlen rfl (Nat.le_of_ble_eq_true rfl) (fun r_ h_ p10 => ?_)
      obtain ⟨u11, rfl, rfl, h12, h13, h14, h15, h16, h17, h18, fr19⟩ := p10
      refine J_iconst (v := 1) dX11_again_33 (by decide) ?_
      exact J_zret hq dX11_again_34 rfl rfl wlen (Nat.le_refl _) (Nat.le_refl _) ⟨true, u11, rfl, rfl, (fun qb => (bd_le_hi (bd_le_lo (bd_any k) (h5 c7) (bd_c (v := 0) (lo := 0) (hi := 0) (by decide))) (h6 c7) (bd_c (v := 2) (lo := 2) (hi := 2) (by decide)))), h12, h13, h14, h15, h16, h17, h18, (fun c k0_ k1_ k2_ k3_ k4_ k5_ k6_ k7_ => ((fr19 c k1_ k2_ k3_ k4_ k5_ k6_ k7_).trans (ms_c e2 k0_))), (fun j k0_ => ((congrFun (fr19 162 (by decide) (by decide) (by decide) (by decide) (by decide) (by decide) (by decide)) j).trans (ms_i e2 k0_)))⟩
    · refine J_iconst (v := 0) dX11_again_23 (by decide) ?_
      exact J_zret hq dX11_again_24 rfl rfl wlen (Nat.le_refl _) (Nat.le_refl _) ⟨false, u1, rfl, rfl, (fun q => absurd q (by decide)), (ab_c (ms_c e2 (by decide)) hp0), (ab_c (ms_c e2 (by decide)) hp1), (ab_c (ms_c e2 (by decide)) hp2), (my_c (ms_c e2 (by decide)) hp3), (hd_c (ms_c e2 (by decide)) hp4), (hc_c (ms_c e2 (by decide)) (ms_c e2 (by decide)) hp5), (pl_c (ms_c e2 (by decide)) hp6), (fun c k0_ k1_ k2_ k3_ k4_ k5_ k6_ k7_ => (ms_c e2 k0_)), (fun j k0_ => (ms_i e2 k0_))⟩
set_option maxHeartbeats 4000000 in
set_option maxRecDepth 100000 in
theorem c_M_four {d : Nat} {u : Nat → Nat → Int32} {g : Nat → Nat → Int64} {ex : List MC} {v : Int32} (hd : 0 ≤ d) (hp0 : Bd 0 596 (u 164 0)) : CT con0 d 0 0 yX11_four cX11_four 3 none [.ref 162, .int v] (Wd u g ex) (fun r h2 => ∃ (u2 : Nat → Nat → Int32), r = none ∧ h2 = Wd u2 g ex ∧ (u2 164 0 = u 164 0 + 1 + 1 + 1 + 1) ∧ (∀ c, c ≠ 163 → c ≠ 164 → u2 c = u c) ∧ (∀ j, j ≠ 0 → u2 164 j = u 164 j)) := by
  refine CT_of (by decide) (Nat.le_of_ble_eq_true rfl) (fun x hq => ?_)
  show J x yX11_four cX11_four 3 none d 0 0 (Wd u g ex).length 0 [(0, .ref 162), (1, .int v)] [] (Wd u g ex) 0 0
  refine J_bipush (v := 24) dX11_four_0 (by decide) ?_
  refine J_istore_n (i := 2) (lw := [(2, .int 24), (0, .ref 162), (1, .int v)]) dX11_four_2 rfl (by decide) rfl ?_
  refine J_iload_n (i := 2) (j := 0) dX11_four_3 rfl rfl ?_
  refine J_if_lt (tgt := 38) dX11_four_4 (by decide) (fun q => absurd q (by decide)) (fun _ => ?_)
  refine J_aload_n (i := 0) (j := 1) dX11_four_7 rfl rfl ?_
  refine J_get (C := RX11) (T := TX11) (Z := 43) (ci := 11) (f := 1) dX11_four_8 inG11 rfl (by decide) k1265 wc_162 rfl ?_
  refine J_aload_n (i := 0) (j := 1) dX11_four_11 rfl rfl ?_
  refine J_get (C := RX11) (T := TX11) (Z := 43) (ci := 11) (f := 2) dX11_four_12 inG11 rfl (by decide) k1266 wc_162 rfl ?_
  refine J_iconst (v := 0) dX11_four_15 (by decide) ?_
  refine J_iald dX11_four_16 wc_164 (vin (bd_c (v := 0) (lo := 0) (hi := 0) (by decide)) (by decide)) ?_
  refine J_ci (v := u 164 0) rfl ?_
  refine J_iload_n (i := 1) (j := 2) dX11_four_17 rfl rfl ?_
  refine J_iload_n (i := 2) (j := 0) dX11_four_18 rfl rfl ?_
  refine J_ishr dX11_four_19 ?_
  obtain ⟨v1, qv1⟩ : ∃ z : Int32, z = (v >>> (24 &&& 31)).toInt8.toInt32 := ⟨_, rfl⟩
  refine J_i2b dX11_four_20 qv1.symm ?_
  obtain ⟨u2, e3⟩ : ∃ z, z = ms u 163 ((u 164 0).toNatClampNeg) (vp_nar .byte v1) := ⟨_, rfl⟩
  refine J_bast dX11_four_21 wc_163 (vin hp0 (by decide)) (ws e3 wk_163 rfl) ?_
  refine J_aload_n (i := 0) (j := 1) dX11_four_22 rfl rfl ?_
  refine J_get (C := RX11) (T := TX11) (Z := 43) (ci := 11) (f := 2) dX11_four_23 inG11 rfl (by decide) k1266 wc_162 rfl ?_
  refine J_iconst (v := 0) dX11_four_26 (by decide) ?_
  refine J_dup2_11 dX11_four_27 rfl rfl ?_
  refine J_iald dX11_four_28 wc_164 (vin (bd_c (v := 0) (lo := 0) (hi := 0) (by decide)) (by decide)) ?_
  refine J_ci (v := u 164 0) (congrFun (ms_c e3 (by decide)) 0) ?_
  refine J_iconst (v := 1) dX11_four_29 (by decide) ?_
  refine J_iadd dX11_four_30 ?_
  obtain ⟨u4, e5⟩ : ∃ z, z = ms u2 164 0 ((u 164 0) + 1) := ⟨_, rfl⟩
  refine J_iast dX11_four_31 wc_164 (vin (bd_c (v := 0) (lo := 0) (hi := 0) (by decide)) (by decide)) (ws e5 wk_164 rfl) ?_
  refine J_iinc (i := 2) (j := 0) (v := 16) (lw := [(2, .int 16), (0, .ref 162), (1, .int v)]) dX11_four_32 rfl (by decide) (by decide) rfl ?_
  refine J_goto (tgt := 3) dX11_four_35 (by decide) ?_
  refine J_iload_n (i := 2) (j := 0) dX11_four_3 rfl rfl ?_
  refine J_if_lt (tgt := 38) dX11_four_4 (by decide) (fun q => absurd q (by decide)) (fun _ => ?_)
  refine J_aload_n (i := 0) (j := 1) dX11_four_7 rfl rfl ?_
  refine J_get (C := RX11) (T := TX11) (Z := 43) (ci := 11) (f := 1) dX11_four_8 inG11 rfl (by decide) k1265 wc_162 rfl ?_
  refine J_aload_n (i := 0) (j := 1) dX11_four_11 rfl rfl ?_
  refine J_get (C := RX11) (T := TX11) (Z := 43) (ci := 11) (f := 2) dX11_four_12 inG11 rfl (by decide) k1266 wc_162 rfl ?_
  refine J_iconst (v := 0) dX11_four_15 (by decide) ?_
  refine J_iald dX11_four_16 wc_164 (vin (bd_c (v := 0) (lo := 0) (hi := 0) (by decide)) (by decide)) ?_
  refine J_ci (v := ((u 164 0) + 1)) (ms_e e5) ?_
  refine J_iload_n (i := 1) (j := 2) dX11_four_17 rfl rfl ?_
  refine J_iload_n (i := 2) (j := 0) dX11_four_18 rfl rfl ?_
  refine J_ishr dX11_four_19 ?_
  obtain ⟨v6, qv6⟩ : ∃ z : Int32, z = (v >>> (16 &&& 31)).toInt8.toInt32 := ⟨_, rfl⟩
  refine J_i2b dX11_four_20 qv6.symm ?_
  obtain ⟨u7, e8⟩ : ∃ z, z = ms u4 163 (((u 164 0) + 1).toNatClampNeg) (vp_nar .byte v6) := ⟨_, rfl⟩
  refine J_bast dX11_four_21 wc_163 (vin (bd_add (l := 1) (h := 597) hp0 (bd_c (v := 1) (lo := 1) (hi := 1) (by decide)) (by decide)) (by decide)) (ws e8 wk_163 rfl) ?_
  refine J_aload_n (i := 0) (j := 1) dX11_four_22 rfl rfl ?_
  refine J_get (C := RX11) (T := TX11) (Z := 43) (ci := 11) (f := 2) dX11_four_23 inG11 rfl (by decide) k1266 wc_162 rfl ?_
  refine J_iconst (v := 0) dX11_four_26 (by decide) ?_
  refine J_dup2_11 dX11_four_27 rfl rfl ?_
  refine J_iald dX11_four_28 wc_164 (vin (bd_c (v := 0) (lo := 0) (hi := 0) (by decide)) (by decide)) ?_
  refine J_ci (v := ((u 164 0) + 1)) ((congrFun (ms_c e8 (by decide)) 0).trans (ms_e e5)) ?_
  refine J_iconst (v := 1) dX11_four_29 (by decide) ?_
  refine J_iadd dX11_four_30 ?_
  obtain ⟨u9, e10⟩ : ∃ z, z = ms u7 164 0 (((u 164 0) + 1) + 1) := ⟨_, rfl⟩
  refine J_iast dX11_four_31 wc_164 (vin (bd_c (v := 0) (lo := 0) (hi := 0) (by decide)) (by decide)) (ws e10 wk_164 rfl) ?_
  refine J_iinc (i := 2) (j := 0) (v := 8) (lw := [(2, .int 8), (0, .ref 162), (1, .int v)]) dX11_four_32 rfl (by decide) (by decide) rfl ?_
  refine J_goto (tgt := 3) dX11_four_35 (by decide) ?_
  refine J_iload_n (i := 2) (j := 0) dX11_four_3 rfl rfl ?_
  refine J_if_lt (tgt := 38) dX11_four_4 (by decide) (fun q => absurd q (by decide)) (fun _ => ?_)
  refine J_aload_n (i := 0) (j := 1) dX11_four_7 rfl rfl ?_
  refine J_get (C := RX11) (T := TX11) (Z := 43) (ci := 11) (f := 1) dX11_four_8 inG11 rfl (by decide) k1265 wc_162 rfl ?_
  refine J_aload_n (i := 0) (j := 1) dX11_four_11 rfl rfl ?_
  refine J_get (C := RX11) (T := TX11) (Z := 43) (ci := 11) (f := 2) dX11_four_12 inG11 rfl (by decide) k1266 wc_162 rfl ?_
  refine J_iconst (v := 0) dX11_four_15 (by decide) ?_
  refine J_iald dX11_four_16 wc_164 (vin (bd_c (v := 0) (lo := 0) (hi := 0) (by decide)) (by decide)) ?_
  refine J_ci (v := (((u 164 0) + 1) + 1)) (ms_e e10) ?_
  refine J_iload_n (i := 1) (j := 2) dX11_four_17 rfl rfl ?_
  refine J_iload_n (i := 2) (j := 0) dX11_four_18 rfl rfl ?_
  refine J_ishr dX11_four_19 ?_
  obtain ⟨v11, qv11⟩ : ∃ z : Int32, z = (v >>> (8 &&& 31)).toInt8.toInt32 := ⟨_, rfl⟩
  refine J_i2b dX11_four_20 qv11.symm ?_
  obtain ⟨u12, e13⟩ : ∃ z, z = ms u9 163 ((((u 164 0) + 1) + 1).toNatClampNeg) (vp_nar .byte v11) := ⟨_, rfl⟩
  refine J_bast dX11_four_21 wc_163 (vin (bd_add (l := 2) (h := 598) (bd_add (l := 1) (h := 597) hp0 (bd_c (v := 1) (lo := 1) (hi := 1) (by decide)) (by decide)) (bd_c (v := 1) (lo := 1) (hi := 1) (by decide)) (by decide)) (by decide)) (ws e13 wk_163 rfl) ?_
  refine J_aload_n (i := 0) (j := 1) dX11_four_22 rfl rfl ?_
  refine J_get (C := RX11) (T := TX11) (Z := 43) (ci := 11) (f := 2) dX11_four_23 inG11 rfl (by decide) k1266 wc_162 rfl ?_
  refine J_iconst (v := 0) dX11_four_26 (by decide) ?_
  refine J_dup2_11 dX11_four_27 rfl rfl ?_
  refine J_iald dX11_four_28 wc_164 (vin (bd_c (v := 0) (lo := 0) (hi := 0) (by decide)) (by decide)) ?_
  refine J_ci (v := (((u 164 0) + 1) + 1)) ((congrFun (ms_c e13 (by decide)) 0).trans (ms_e e10)) ?_
  refine J_iconst (v := 1) dX11_four_29 (by decide) ?_
  refine J_iadd dX11_four_30 ?_
  obtain ⟨u14, e15⟩ : ∃ z, z = ms u12 164 0 ((((u 164 0) + 1) + 1) + 1) := ⟨_, rfl⟩
  refine J_iast dX11_four_31 wc_164 (vin (bd_c (v := 0) (lo := 0) (hi := 0) (by decide)) (by decide)) (ws e15 wk_164 rfl) ?_
  refine J_iinc (i := 2) (j := 0) (v := 0) (lw := [(2, .int 0), (0, .ref 162), (1, .int v)]) dX11_four_32 rfl (by decide) (by decide) rfl ?_
  refine J_goto (tgt := 3) dX11_four_35 (by decide) ?_
  refine J_iload_n (i := 2) (j := 0) dX11_four_3 rfl rfl ?_
  refine J_if_lt (tgt := 38) dX11_four_4 (by decide) (fun q => absurd q (by decide)) (fun _ => ?_)
  refine J_aload_n (i := 0) (j := 1) dX11_four_7 rfl rfl ?_
  refine J_get (C := RX11) (T := TX11) (Z := 43) (ci := 11) (f := 1) dX11_four_8 inG11 rfl (by decide) k1265 wc_162 rfl ?_
  refine J_aload_n (i := 0) (j := 1) dX11_four_11 rfl rfl ?_
  refine J_get (C := RX11) (T := TX11) (Z := 43) (ci := 11) (f := 2) dX11_four_12 inG11 rfl (by decide) k1266 wc_162 rfl ?_
  refine J_iconst (v := 0) dX11_four_15 (by decide) ?_
  refine J_iald dX11_four_16 wc_164 (vin (bd_c (v := 0) (lo := 0) (hi := 0) (by decide)) (by decide)) ?_
  refine J_ci (v := ((((u 164 0) + 1) + 1) + 1)) (ms_e e15) ?_
  refine J_iload_n (i := 1) (j := 2) dX11_four_17 rfl rfl ?_
  refine J_iload_n (i := 2) (j := 0) dX11_four_18 rfl rfl ?_
  refine J_ishr dX11_four_19 ?_
  obtain ⟨v16, qv16⟩ : ∃ z : Int32, z = (v >>> (0 &&& 31)).toInt8.toInt32 := ⟨_, rfl⟩
  refine J_i2b dX11_four_20 qv16.symm ?_
  obtain ⟨u17, e18⟩ : ∃ z, z = ms u14 163 (((((u 164 0) + 1) + 1) + 1).toNatClampNeg) (vp_nar .byte v16) := ⟨_, rfl⟩
  refine J_bast dX11_four_21 wc_163 (vin (bd_add (l := 3) (h := 599) (bd_add (l := 2) (h := 598) (bd_add (l := 1) (h := 597) hp0 (bd_c (v := 1) (lo := 1) (hi := 1) (by decide)) (by decide)) (bd_c (v := 1) (lo := 1) (hi := 1) (by decide)) (by decide)) (bd_c (v := 1) (lo := 1) (hi := 1) (by decide)) (by decide)) (by decide)) (ws e18 wk_163 rfl) ?_
  refine J_aload_n (i := 0) (j := 1) dX11_four_22 rfl rfl ?_
  refine J_get (C := RX11) (T := TX11) (Z := 43) (ci := 11) (f := 2) dX11_four_23 inG11 rfl (by decide) k1266 wc_162 rfl ?_
  refine J_iconst (v := 0) dX11_four_26 (by decide) ?_
  refine J_dup2_11 dX11_four_27 rfl rfl ?_
  refine J_iald dX11_four_28 wc_164 (vin (bd_c (v := 0) (lo := 0) (hi := 0) (by decide)) (by decide)) ?_
  refine J_ci (v := ((((u 164 0) + 1) + 1) + 1)) ((congrFun (ms_c e18 (by decide)) 0).trans (ms_e e15)) ?_
  refine J_iconst (v := 1) dX11_four_29 (by decide) ?_
  refine J_iadd dX11_four_30 ?_
  obtain ⟨u19, e20⟩ : ∃ z, z = ms u17 164 0 (((((u 164 0) + 1) + 1) + 1) + 1) := ⟨_, rfl⟩
  refine J_iast dX11_four_31 wc_164 (vin (bd_c (v := 0) (lo := 0) (hi := 0) (by decide)) (by decide)) (ws e20 wk_164 rfl) ?_
  refine J_iinc (i := 2) (j := 0) (v := (-8)) (lw := [(2, .int (-8)), (0, .ref 162), (1, .int v)]) dX11_four_32 rfl (by decide) (by decide) rfl ?_
  refine J_goto (tgt := 3) dX11_four_35 (by decide) ?_
  refine J_iload_n (i := 2) (j := 0) dX11_four_3 rfl rfl ?_
  refine J_if_lt (tgt := 38) dX11_four_4 (by decide) (fun _ => ?_) (fun q => absurd (by decide) q)
  exact J_vret hq dX11_four_38 rfl wlen (Nat.le_refl _) (Nat.le_refl _) ⟨u19, rfl, rfl, (ms_e e20), (fun c k0_ k1_ => ((ms_c e20 k1_).trans ((ms_c e18 k0_).trans ((ms_c e15 k1_).trans ((ms_c e13 k0_).trans ((ms_c e10 k1_).trans ((ms_c e8 k0_).trans ((ms_c e5 k1_).trans (ms_c e3 k0_))))))))), (fun j k0_ => ((ms_i e20 k0_).trans ((congrFun (ms_c e18 (by decide)) j).trans ((ms_i e15 k0_).trans ((congrFun (ms_c e13 (by decide)) j).trans ((ms_i e10 k0_).trans ((congrFun (ms_c e8 (by decide)) j).trans ((ms_i e5 k0_).trans (congrFun (ms_c e3 (by decide)) j)))))))))⟩
set_option maxHeartbeats 4000000 in
set_option maxRecDepth 100000 in
theorem c_M_feed {d : Nat} {u : Nat → Nat → Int32} {g : Nat → Nat → Int64} {ex : List MC} {a : Int32} {b : Int32} {c : Int32} {d0 : Int32} {e : Int32} (hd : 1 ≤ d) (hp0 : AB u 164 0 600) : CT con0 d 0 0 yX11_feed cX11_feed 6 (some .int) [.ref 162, .int a, .int b, .int c, .int d0, .int e] (Wd u g ex) (fun r h2 => ∃ (z : Int32) (u2 : Nat → Nat → Int32), r = some (.int z) ∧ h2 = Wd u2 g ex ∧ AB u2 164 0 600 ∧ (∀ c, c ≠ 162 → c ≠ 163 → c ≠ 164 → u2 c = u c) ∧ (∀ j, j ≠ 0 → u2 162 j = u 162 j)) := by
  refine CT_of (by decide) (Nat.le_of_ble_eq_true rfl) (fun x hq => ?_)
  show J x yX11_feed cX11_feed 6 (some .int) d 0 0 (Wd u g ex).length 0 [(0, .ref 162), (1, .int a), (2, .int b), (3, .int c), (4, .int d0), (5, .int e)] [] (Wd u g ex) 0 0
  refine J_aload_n (i := 0) (j := 0) dX11_feed_0 rfl rfl ?_
  refine J_iconst (v := 0) dX11_feed_1 (by decide) ?_
  obtain ⟨u1, e2⟩ : ∃ z, z = ms u 162 0 0 := ⟨_, rfl⟩
  refine J_put (C := RX11) (T := TX11) (Z := 43) (ci := 11) (f := 0) (ty0 := tyX11) dX11_feed_2 inG11 rfl tyX11_ok nmX11 (by decide) k1264 rfl rfl wc_162 (Nat.le_of_ble_eq_true rfl) (fun _ _ => ⟨rfl, rfl⟩) (ws e2 wk_162 rfl) ?_
  refine J_aload_n (i := 0) (j := 0) dX11_feed_5 rfl rfl ?_
  refine J_get (C := RX11) (T := TX11) (Z := 43) (ci := 11) (f := 2) dX11_feed_6 inG11 rfl (by decide) k1266 wc_162 rfl ?_
  refine J_iconst (v := 0) dX11_feed_9 (by decide) ?_
  refine J_iald dX11_feed_10 wc_164 (vin (bd_c (v := 0) (lo := 0) (hi := 0) (by decide)) (by decide)) ?_
  refine J_ci (v := u 164 0) (congrFun (ms_c e2 (by decide)) 0) ?_
  refine J_bipush (v := 20) dX11_feed_11 (by decide) ?_
  refine J_iadd dX11_feed_13 ?_
  refine J_sipush (v := 600) dX11_feed_14 (by decide) ?_
  refine J_icmp_le (tgt := 22) dX11_feed_17 (by decide) (fun c3 => ?_) (fun c3 => ?_)
  · refine J_aload_n (i := 0) (j := 0) dX11_feed_22 rfl rfl ?_
    refine J_iload_n (i := 1) (j := 1) dX11_feed_23 rfl rfl ?_
    refine J_callV (As := [.int a]) (rest := []) dX11_feed_24 (c_M_four (d := 0) (u := u1) (g := g) (ex := ex) (v := a)  (by decide) (bd_r (congrFun (ms_c e2 (by decide)) 0) (bd_w (l := 0) (h := 596) (bd_adc (c := 20) (h := 580) (hp0 0) c3 (bd_c (v := 600) (lo := 600) (hi := 600) (by decide)) (by decide)) (by decide)))) hq.n k1398 k1400 k36 wc_162 rfl rfl k97 k1401 np_X11_four (Nat.le_trans (by decide) hd) (by decide) (Nat.le_refl _) (Nat.le_refl _) wlen rfl (Nat.le_of_ble_eq_true rfl) (fun r_ h_ p4 => ?_)
    obtain ⟨u5, rfl, rfl, h6, fr7, fc8⟩ := p4
    refine J_aload_n (i := 0) (j := 0) dX11_feed_27 rfl rfl ?_
    refine J_iload_n (i := 2) (j := 2) dX11_feed_28 rfl rfl ?_
    refine J_callV (As := [.int b]) (rest := []) dX11_feed_29 (c_M_four (d := 0) (u := u5) (g := g) (ex := ex) (v := b)  (by decide) (bd_r (h6.trans (congrArg (fun z : Int32 => z + 1 + 1 + 1 + 1) (congrFun (ms_c e2 (by decide)) 0))) (bd_w (l := 0) (h := 596) (bd_add (l := 4) (h := 584) (bd_add (l := 3) (h := 583) (bd_add (l := 2) (h := 582) (bd_add (l := 1) (h := 581) (bd_adc (c := 20) (h := 580) (hp0 0) c3 (bd_c (v := 600) (lo := 600) (hi := 600) (by decide)) (by decide)) (bd_c (v := 1) (lo := 1) (hi := 1) (by decide)) (by decide)) (bd_c (v := 1) (lo := 1) (hi := 1) (by decide)) (by decide)) (bd_c (v := 1) (lo := 1) (hi := 1) (by decide)) (by decide)) (bd_c (v := 1) (lo := 1) (hi := 1) (by decide)) (by decide)) (by decide)))) hq.n k1398 k1400 k36 wc_162 rfl rfl k97 k1401 np_X11_four (Nat.le_trans (by decide) hd) (by decide) (Nat.le_refl _) (Nat.le_refl _) wlen rfl (Nat.le_of_ble_eq_true rfl) (fun r_ h_ p9 => ?_)
    obtain ⟨u10, rfl, rfl, h11, fr12, fc13⟩ := p9
    refine J_aload_n (i := 0) (j := 0) dX11_feed_32 rfl rfl ?_
    refine J_iload_n (i := 3) (j := 3) dX11_feed_33 rfl rfl ?_
    refine J_callV (As := [.int c]) (rest := []) dX11_feed_34 (c_M_four (d := 0) (u := u10) (g := g) (ex := ex) (v := c)  (by decide) (bd_r (h11.trans (congrArg (fun z : Int32 => z + 1 + 1 + 1 + 1) (h6.trans (congrArg (fun z : Int32 => z + 1 + 1 + 1 + 1) (congrFun (ms_c e2 (by decide)) 0))))) (bd_w (l := 0) (h := 596) (bd_add (l := 8) (h := 588) (bd_add (l := 7) (h := 587) (bd_add (l := 6) (h := 586) (bd_add (l := 5) (h := 585) (bd_add (l := 4) (h := 584) (bd_add (l := 3) (h := 583) (bd_add (l := 2) (h := 582) (bd_add (l := 1) (h := 581) (bd_adc (c := 20) (h := 580) (hp0 0) c3 (bd_c (v := 600) (lo := 600) (hi := 600) (by decide)) (by decide)) (bd_c (v := 1) (lo := 1) (hi := 1) (by decide)) (by decide)) (bd_c (v := 1) (lo := 1) (hi := 1) (by decide)) (by decide)) (bd_c (v := 1) (lo := 1) (hi := 1) (by decide)) (by decide)) (bd_c (v := 1) (lo := 1) (hi := 1) (by decide)) (by decide)) (bd_c (v := 1) (lo := 1) (hi := 1) (by decide)) (by decide)) (bd_c (v := 1) (lo := 1) (hi := 1) (by decide)) (by decide)) (bd_c (v := 1) (lo := 1) (hi := 1) (by decide)) (by decide)) (bd_c (v := 1) (lo := 1) (hi := 1) (by decide)) (by decide)) (by decide)))) hq.n k1398 k1400 k36 wc_162 rfl rfl k97 k1401 np_X11_four (Nat.le_trans (by decide) hd) (by decide) (Nat.le_refl _) (Nat.le_refl _) wlen rfl (Nat.le_of_ble_eq_true rfl) (fun r_ h_ p14 => ?_)
    obtain ⟨u15, rfl, rfl, h16, fr17, fc18⟩ := p14
    refine J_aload_n (i := 0) (j := 0) dX11_feed_37 rfl rfl ?_
    refine J_iload (i := 4) (j := 4) dX11_feed_38 rfl ?_
    refine J_callV (As := [.int d0]) (rest := []) dX11_feed_40 (c_M_four (d := 0) (u := u15) (g := g) (ex := ex) (v := d0)  (by decide) (bd_r (h16.trans (congrArg (fun z : Int32 => z + 1 + 1 + 1 + 1) (h11.trans (congrArg (fun z : Int32 => z + 1 + 1 + 1 + 1) (h6.trans (congrArg (fun z : Int32 => z + 1 + 1 + 1 + 1) (congrFun (ms_c e2 (by decide)) 0))))))) (bd_w (l := 0) (h := 596) (bd_add (l := 12) (h := 592) (bd_add (l := 11) (h := 591) (bd_add (l := 10) (h := 590) (bd_add (l := 9) (h := 589) (bd_add (l := 8) (h := 588) (bd_add (l := 7) (h := 587) (bd_add (l := 6) (h := 586) (bd_add (l := 5) (h := 585) (bd_add (l := 4) (h := 584) (bd_add (l := 3) (h := 583) (bd_add (l := 2) (h := 582) (bd_add (l := 1) (h := 581) (bd_adc (c := 20) (h := 580) (hp0 0) c3 (bd_c (v := 600) (lo := 600) (hi := 600) (by decide)) (by decide)) (bd_c (v := 1) (lo := 1) (hi := 1) (by decide)) (by decide)) (bd_c (v := 1) (lo := 1) (hi := 1) (by decide)) (by decide)) (bd_c (v := 1) (lo := 1) (hi := 1) (by decide)) (by decide)) (bd_c (v := 1) (lo := 1) (hi := 1) (by decide)) (by decide)) (bd_c (v := 1) (lo := 1) (hi := 1) (by decide)) (by decide)) (bd_c (v := 1) (lo := 1) (hi := 1) (by decide)) (by decide)) (bd_c (v := 1) (lo := 1) (hi := 1) (by decide)) (by decide)) (bd_c (v := 1) (lo := 1) (hi := 1) (by decide)) (by decide)) (bd_c (v := 1) (lo := 1) (hi := 1) (by decide)) (by decide)) (bd_c (v := 1) (lo := 1) (hi := 1) (by decide)) (by decide)) (bd_c (v := 1) (lo := 1) (hi := 1) (by decide)) (by decide)) (bd_c (v := 1) (lo := 1) (hi := 1) (by decide)) (by decide)) (by decide)))) hq.n k1398 k1400 k36 wc_162 rfl rfl k97 k1401 np_X11_four (Nat.le_trans (by decide) hd) (by decide) (Nat.le_refl _) (Nat.le_refl _) wlen rfl (Nat.le_of_ble_eq_true rfl) (fun r_ h_ p19 => ?_)
    obtain ⟨u20, rfl, rfl, h21, fr22, fc23⟩ := p19
    refine J_aload_n (i := 0) (j := 0) dX11_feed_43 rfl rfl ?_
    refine J_iload (i := 5) (j := 5) dX11_feed_44 rfl ?_
    refine J_callV (As := [.int e]) (rest := []) dX11_feed_46 (c_M_four (d := 0) (u := u20) (g := g) (ex := ex) (v := e)  (by decide) (bd_r (h21.trans (congrArg (fun z : Int32 => z + 1 + 1 + 1 + 1) (h16.trans (congrArg (fun z : Int32 => z + 1 + 1 + 1 + 1) (h11.trans (congrArg (fun z : Int32 => z + 1 + 1 + 1 + 1) (h6.trans (congrArg (fun z : Int32 => z + 1 + 1 + 1 + 1) (congrFun (ms_c e2 (by decide)) 0))))))))) (bd_w (l := 0) (h := 596) (bd_add (l := 16) (h := 596) (bd_add (l := 15) (h := 595) (bd_add (l := 14) (h := 594) (bd_add (l := 13) (h := 593) (bd_add (l := 12) (h := 592) (bd_add (l := 11) (h := 591) (bd_add (l := 10) (h := 590) (bd_add (l := 9) (h := 589) (bd_add (l := 8) (h := 588) (bd_add (l := 7) (h := 587) (bd_add (l := 6) (h := 586) (bd_add (l := 5) (h := 585) (bd_add (l := 4) (h := 584) (bd_add (l := 3) (h := 583) (bd_add (l := 2) (h := 582) (bd_add (l := 1) (h := 581) (bd_adc (c := 20) (h := 580) (hp0 0) c3 (bd_c (v := 600) (lo := 600) (hi := 600) (by decide)) (by decide)) (bd_c (v := 1) (lo := 1) (hi := 1) (by decide)) (by decide)) (bd_c (v := 1) (lo := 1) (hi := 1) (by decide)) (by decide)) (bd_c (v := 1) (lo := 1) (hi := 1) (by decide)) (by decide)) (bd_c (v := 1) (lo := 1) (hi := 1) (by decide)) (by decide)) (bd_c (v := 1) (lo := 1) (hi := 1) (by decide)) (by decide)) (bd_c (v := 1) (lo := 1) (hi := 1) (by decide)) (by decide)) (bd_c (v := 1) (lo := 1) (hi := 1) (by decide)) (by decide)) (bd_c (v := 1) (lo := 1) (hi := 1) (by decide)) (by decide)) (bd_c (v := 1) (lo := 1) (hi := 1) (by decide)) (by decide)) (bd_c (v := 1) (lo := 1) (hi := 1) (by decide)) (by decide)) (bd_c (v := 1) (lo := 1) (hi := 1) (by decide)) (by decide)) (bd_c (v := 1) (lo := 1) (hi := 1) (by decide)) (by decide)) (bd_c (v := 1) (lo := 1) (hi := 1) (by decide)) (by decide)) (bd_c (v := 1) (lo := 1) (hi := 1) (by decide)) (by decide)) (bd_c (v := 1) (lo := 1) (hi := 1) (by decide)) (by decide)) (bd_c (v := 1) (lo := 1) (hi := 1) (by decide)) (by decide)) (by decide)))) hq.n k1398 k1400 k36 wc_162 rfl rfl k97 k1401 np_X11_four (Nat.le_trans (by decide) hd) (by decide) (Nat.le_refl _) (Nat.le_refl _) wlen rfl (Nat.le_of_ble_eq_true rfl) (fun r_ h_ p24 => ?_)
    obtain ⟨u25, rfl, rfl, h26, fr27, fc28⟩ := p24
    refine J_aload_n (i := 0) (j := 0) dX11_feed_49 rfl rfl ?_
    refine J_get (C := RX11) (T := TX11) (Z := 43) (ci := 11) (f := 2) dX11_feed_50 inG11 rfl (by decide) k1266 wc_162 rfl ?_
    refine J_iconst (v := 0) dX11_feed_53 (by decide) ?_
    refine J_iald dX11_feed_54 wc_164 (vin (bd_c (v := 0) (lo := 0) (hi := 0) (by decide)) (by decide)) ?_
    refine J_ci (v := ((((((((((((((((((((u 164 0 + 1) + 1) + 1) + 1) + 1) + 1) + 1) + 1) + 1) + 1) + 1) + 1) + 1) + 1) + 1) + 1) + 1) + 1) + 1) + 1)) (h26.trans (congrArg (fun z : Int32 => z + 1 + 1 + 1 + 1) (h21.trans (congrArg (fun z : Int32 => z + 1 + 1 + 1 + 1) (h16.trans (congrArg (fun z : Int32 => z + 1 + 1 + 1 + 1) (h11.trans (congrArg (fun z : Int32 => z + 1 + 1 + 1 + 1) (h6.trans (congrArg (fun z : Int32 => z + 1 + 1 + 1 + 1) (congrFun (ms_c e2 (by decide)) 0))))))))))) ?_
    exact J_iret hq dX11_feed_55 rfl wlen (Nat.le_refl _) (Nat.le_refl _) ⟨((((((((((((((((((((u 164 0 + 1) + 1) + 1) + 1) + 1) + 1) + 1) + 1) + 1) + 1) + 1) + 1) + 1) + 1) + 1) + 1) + 1) + 1) + 1) + 1), u25, rfl, rfl, (ab_i fc28 (ab_i fc23 (ab_i fc18 (ab_i fc13 (ab_i fc8 (ab_c (ms_c e2 (by decide)) hp0) (bd_r (h6.trans (congrArg (fun z : Int32 => z + 1 + 1 + 1 + 1) (congrFun (ms_c e2 (by decide)) 0))) (bd_w (l := 0) (h := 600) (bd_add (l := 4) (h := 584) (bd_add (l := 3) (h := 583) (bd_add (l := 2) (h := 582) (bd_add (l := 1) (h := 581) (bd_adc (c := 20) (h := 580) (hp0 0) c3 (bd_c (v := 600) (lo := 600) (hi := 600) (by decide)) (by decide)) (bd_c (v := 1) (lo := 1) (hi := 1) (by decide)) (by decide)) (bd_c (v := 1) (lo := 1) (hi := 1) (by decide)) (by decide)) (bd_c (v := 1) (lo := 1) (hi := 1) (by decide)) (by decide)) (bd_c (v := 1) (lo := 1) (hi := 1) (by decide)) (by decide)) (by decide)))) (bd_r (h11.trans (congrArg (fun z : Int32 => z + 1 + 1 + 1 + 1) (h6.trans (congrArg (fun z : Int32 => z + 1 + 1 + 1 + 1) (congrFun (ms_c e2 (by decide)) 0))))) (bd_w (l := 0) (h := 600) (bd_add (l := 8) (h := 588) (bd_add (l := 7) (h := 587) (bd_add (l := 6) (h := 586) (bd_add (l := 5) (h := 585) (bd_add (l := 4) (h := 584) (bd_add (l := 3) (h := 583) (bd_add (l := 2) (h := 582) (bd_add (l := 1) (h := 581) (bd_adc (c := 20) (h := 580) (hp0 0) c3 (bd_c (v := 600) (lo := 600) (hi := 600) (by decide)) (by decide)) (bd_c (v := 1) (lo := 1) (hi := 1) (by decide)) (by decide)) (bd_c (v := 1) (lo := 1) (hi := 1) (by decide)) (by decide)) (bd_c (v := 1) (lo := 1) (hi := 1) (by decide)) (by decide)) (bd_c (v := 1) (lo := 1) (hi := 1) (by decide)) (by decide)) (bd_c (v := 1) (lo := 1) (hi := 1) (by decide)) (by decide)) (bd_c (v := 1) (lo := 1) (hi := 1) (by decide)) (by decide)) (bd_c (v := 1) (lo := 1) (hi := 1) (by decide)) (by decide)) (bd_c (v := 1) (lo := 1) (hi := 1) (by decide)) (by decide)) (by decide)))) (bd_r (h16.trans (congrArg (fun z : Int32 => z + 1 + 1 + 1 + 1) (h11.trans (congrArg (fun z : Int32 => z + 1 + 1 + 1 + 1) (h6.trans (congrArg (fun z : Int32 => z + 1 + 1 + 1 + 1) (congrFun (ms_c e2 (by decide)) 0))))))) (bd_w (l := 0) (h := 600) (bd_add (l := 12) (h := 592) (bd_add (l := 11) (h := 591) (bd_add (l := 10) (h := 590) (bd_add (l := 9) (h := 589) (bd_add (l := 8) (h := 588) (bd_add (l := 7) (h := 587) (bd_add (l := 6) (h := 586) (bd_add (l := 5) (h := 585) (bd_add (l := 4) (h := 584) (bd_add (l := 3) (h := 583) (bd_add (l := 2) (h := 582) (bd_add (l := 1) (h := 581) (bd_adc (c := 20) (h := 580) (hp0 0) c3 (bd_c (v := 600) (lo := 600) (hi := 600) (by decide)) (by decide)) (bd_c (v := 1) (lo := 1) (hi := 1) (by decide)) (by decide)) (bd_c (v := 1) (lo := 1) (hi := 1) (by decide)) (by decide)) (bd_c (v := 1) (lo := 1) (hi := 1) (by decide)) (by decide)) (bd_c (v := 1) (lo := 1) (hi := 1) (by decide)) (by decide)) (bd_c (v := 1) (lo := 1) (hi := 1) (by decide)) (by decide)) (bd_c (v := 1) (lo := 1) (hi := 1) (by decide)) (by decide)) (bd_c (v := 1) (lo := 1) (hi := 1) (by decide)) (by decide)) (bd_c (v := 1) (lo := 1) (hi := 1) (by decide)) (by decide)) (bd_c (v := 1) (lo := 1) (hi := 1) (by decide)) (by decide)) (bd_c (v := 1) (lo := 1) (hi := 1) (by decide)) (by decide)) (bd_c (v := 1) (lo := 1) (hi := 1) (by decide)) (by decide)) (bd_c (v := 1) (lo := 1) (hi := 1) (by decide)) (by decide)) (by decide)))) (bd_r (h21.trans (congrArg (fun z : Int32 => z + 1 + 1 + 1 + 1) (h16.trans (congrArg (fun z : Int32 => z + 1 + 1 + 1 + 1) (h11.trans (congrArg (fun z : Int32 => z + 1 + 1 + 1 + 1) (h6.trans (congrArg (fun z : Int32 => z + 1 + 1 + 1 + 1) (congrFun (ms_c e2 (by decide)) 0))))))))) (bd_w (l := 0) (h := 600) (bd_add (l := 16) (h := 596) (bd_add (l := 15) (h := 595) (bd_add (l := 14) (h := 594) (bd_add (l := 13) (h := 593) (bd_add (l := 12) (h := 592) (bd_add (l := 11) (h := 591) (bd_add (l := 10) (h := 590) (bd_add (l := 9) (h := 589) (bd_add (l := 8) (h := 588) (bd_add (l := 7) (h := 587) (bd_add (l := 6) (h := 586) (bd_add (l := 5) (h := 585) (bd_add (l := 4) (h := 584) (bd_add (l := 3) (h := 583) (bd_add (l := 2) (h := 582) (bd_add (l := 1) (h := 581) (bd_adc (c := 20) (h := 580) (hp0 0) c3 (bd_c (v := 600) (lo := 600) (hi := 600) (by decide)) (by decide)) (bd_c (v := 1) (lo := 1) (hi := 1) (by decide)) (by decide)) (bd_c (v := 1) (lo := 1) (hi := 1) (by decide)) (by decide)) (bd_c (v := 1) (lo := 1) (hi := 1) (by decide)) (by decide)) (bd_c (v := 1) (lo := 1) (hi := 1) (by decide)) (by decide)) (bd_c (v := 1) (lo := 1) (hi := 1) (by decide)) (by decide)) (bd_c (v := 1) (lo := 1) (hi := 1) (by decide)) (by decide)) (bd_c (v := 1) (lo := 1) (hi := 1) (by decide)) (by decide)) (bd_c (v := 1) (lo := 1) (hi := 1) (by decide)) (by decide)) (bd_c (v := 1) (lo := 1) (hi := 1) (by decide)) (by decide)) (bd_c (v := 1) (lo := 1) (hi := 1) (by decide)) (by decide)) (bd_c (v := 1) (lo := 1) (hi := 1) (by decide)) (by decide)) (bd_c (v := 1) (lo := 1) (hi := 1) (by decide)) (by decide)) (bd_c (v := 1) (lo := 1) (hi := 1) (by decide)) (by decide)) (bd_c (v := 1) (lo := 1) (hi := 1) (by decide)) (by decide)) (bd_c (v := 1) (lo := 1) (hi := 1) (by decide)) (by decide)) (bd_c (v := 1) (lo := 1) (hi := 1) (by decide)) (by decide)) (by decide)))) (bd_r (h26.trans (congrArg (fun z : Int32 => z + 1 + 1 + 1 + 1) (h21.trans (congrArg (fun z : Int32 => z + 1 + 1 + 1 + 1) (h16.trans (congrArg (fun z : Int32 => z + 1 + 1 + 1 + 1) (h11.trans (congrArg (fun z : Int32 => z + 1 + 1 + 1 + 1) (h6.trans (congrArg (fun z : Int32 => z + 1 + 1 + 1 + 1) (congrFun (ms_c e2 (by decide)) 0))))))))))) (bd_w (l := 0) (h := 600) (bd_add (l := 20) (h := 600) (bd_add (l := 19) (h := 599) (bd_add (l := 18) (h := 598) (bd_add (l := 17) (h := 597) (bd_add (l := 16) (h := 596) (bd_add (l := 15) (h := 595) (bd_add (l := 14) (h := 594) (bd_add (l := 13) (h := 593) (bd_add (l := 12) (h := 592) (bd_add (l := 11) (h := 591) (bd_add (l := 10) (h := 590) (bd_add (l := 9) (h := 589) (bd_add (l := 8) (h := 588) (bd_add (l := 7) (h := 587) (bd_add (l := 6) (h := 586) (bd_add (l := 5) (h := 585) (bd_add (l := 4) (h := 584) (bd_add (l := 3) (h := 583) (bd_add (l := 2) (h := 582) (bd_add (l := 1) (h := 581) (bd_adc (c := 20) (h := 580) (hp0 0) c3 (bd_c (v := 600) (lo := 600) (hi := 600) (by decide)) (by decide)) (bd_c (v := 1) (lo := 1) (hi := 1) (by decide)) (by decide)) (bd_c (v := 1) (lo := 1) (hi := 1) (by decide)) (by decide)) (bd_c (v := 1) (lo := 1) (hi := 1) (by decide)) (by decide)) (bd_c (v := 1) (lo := 1) (hi := 1) (by decide)) (by decide)) (bd_c (v := 1) (lo := 1) (hi := 1) (by decide)) (by decide)) (bd_c (v := 1) (lo := 1) (hi := 1) (by decide)) (by decide)) (bd_c (v := 1) (lo := 1) (hi := 1) (by decide)) (by decide)) (bd_c (v := 1) (lo := 1) (hi := 1) (by decide)) (by decide)) (bd_c (v := 1) (lo := 1) (hi := 1) (by decide)) (by decide)) (bd_c (v := 1) (lo := 1) (hi := 1) (by decide)) (by decide)) (bd_c (v := 1) (lo := 1) (hi := 1) (by decide)) (by decide)) (bd_c (v := 1) (lo := 1) (hi := 1) (by decide)) (by decide)) (bd_c (v := 1) (lo := 1) (hi := 1) (by decide)) (by decide)) (bd_c (v := 1) (lo := 1) (hi := 1) (by decide)) (by decide)) (bd_c (v := 1) (lo := 1) (hi := 1) (by decide)) (by decide)) (bd_c (v := 1) (lo := 1) (hi := 1) (by decide)) (by decide)) (bd_c (v := 1) (lo := 1) (hi := 1) (by decide)) (by decide)) (bd_c (v := 1) (lo := 1) (hi := 1) (by decide)) (by decide)) (bd_c (v := 1) (lo := 1) (hi := 1) (by decide)) (by decide)) (bd_c (v := 1) (lo := 1) (hi := 1) (by decide)) (by decide)) (by decide)))), (fun c k0_ k1_ k2_ => ((fr27 c k1_ k2_).trans ((fr22 c k1_ k2_).trans ((fr17 c k1_ k2_).trans ((fr12 c k1_ k2_).trans ((fr7 c k1_ k2_).trans (ms_c e2 k0_))))))), (fun j k0_ => ((congrFun (fr27 162 (by decide) (by decide)) j).trans ((congrFun (fr22 162 (by decide) (by decide)) j).trans ((congrFun (fr17 162 (by decide) (by decide)) j).trans ((congrFun (fr12 162 (by decide) (by decide)) j).trans ((congrFun (fr7 162 (by decide) (by decide)) j).trans (ms_i e2 k0_)))))))⟩
  · refine J_iconst (v := (-1)) dX11_feed_20 (by decide) ?_
    exact J_iret hq dX11_feed_21 rfl wlen (Nat.le_refl _) (Nat.le_refl _) ⟨((-1) : Int32), u1, rfl, rfl, (ab_c (ms_c e2 (by decide)) hp0), (fun c k0_ k1_ k2_ => (ms_c e2 k0_)), (fun j k0_ => (ms_i e2 k0_))⟩
set_option maxHeartbeats 4000000 in
set_option maxRecDepth 100000 in
theorem c_M_end {d : Nat} {u : Nat → Nat → Int32} {g : Nat → Nat → Int64} {ex : List MC} {n : Int32} (hd : 1 ≤ d) (hp0 : AB u 164 0 600) : CT con0 d 0 0 yX11_end cX11_end 2 (some .int) [.ref 162, .int n] (Wd u g ex) (fun r h2 => ∃ (z : Int32) (u2 : Nat → Nat → Int32), r = some (.int z) ∧ h2 = Wd u2 g ex ∧ AB u2 164 0 600 ∧ (∀ c, c ≠ 162 → c ≠ 164 → u2 c = u c) ∧ (∀ j, j ≠ 0 → u2 162 j = u 162 j)) := by
  refine CT_of (by decide) (Nat.le_of_ble_eq_true rfl) (fun x hq => ?_)
  show J x yX11_end cX11_end 2 (some .int) d 0 0 (Wd u g ex).length 0 [(0, .ref 162), (1, .int n)] [] (Wd u g ex) 0 0
  refine J_aload_n (i := 0) (j := 0) dX11_end_0 rfl rfl ?_
  refine J_iconst (v := 0) dX11_end_1 (by decide) ?_
  obtain ⟨u1, e2⟩ : ∃ z, z = ms u 162 0 0 := ⟨_, rfl⟩
  refine J_put (C := RX11) (T := TX11) (Z := 43) (ci := 11) (f := 0) (ty0 := tyX11) dX11_end_2 inG11 rfl tyX11_ok nmX11 (by decide) k1264 rfl rfl wc_162 (Nat.le_of_ble_eq_true rfl) (fun _ _ => ⟨rfl, rfl⟩) (ws e2 wk_162 rfl) ?_
  refine J_iload_n (i := 1) (j := 1) dX11_end_5 rfl rfl ?_
  refine J_iconst (v := 0) dX11_end_6 (by decide) ?_
  refine J_aload_n (i := 0) (j := 0) dX11_end_7 rfl rfl ?_
  refine J_get (C := RX11) (T := TX11) (Z := 43) (ci := 11) (f := 2) dX11_end_8 inG11 rfl (by decide) k1266 wc_162 rfl ?_
  refine J_iconst (v := 0) dX11_end_11 (by decide) ?_
  refine J_iald dX11_end_12 wc_164 (vin (bd_c (v := 0) (lo := 0) (hi := 0) (by decide)) (by decide)) ?_
  refine J_ci (v := u 164 0) (congrFun (ms_c e2 (by decide)) 0) ?_
  refine J_callS (As := [.int n, .int 0, .int (u 164 0)]) (rest := []) dX11_end_13 (c_M_in (d := 0) (u := u1) (g := g) (ex := ex) (v := n) (low := 0) (high := u 164 0)  (by decide) ) hq.n k1406 k1407 k97 k1408 np_X11_in (Nat.le_trans (by decide) hd) (by decide) (Nat.le_refl _) (Nat.le_refl _) wlen rfl (Nat.le_of_ble_eq_true rfl) (fun r_ h_ p3 => ?_)
  obtain ⟨t4, rfl, rfl, h5, h6⟩ := p3
  refine J_ifB_ne (tgt := 21) dX11_end_16 (by decide) (fun c7 => ?_) (fun c7 => ?_)
  · refine J_aload_n (i := 0) (j := 0) dX11_end_21 rfl rfl ?_
    refine J_get (C := RX11) (T := TX11) (Z := 43) (ci := 11) (f := 2) dX11_end_22 inG11 rfl (by decide) k1266 wc_162 rfl ?_
    refine J_iconst (v := 0) dX11_end_25 (by decide) ?_
    refine J_iload_n (i := 1) (j := 1) dX11_end_26 rfl rfl ?_
    obtain ⟨u8, e9⟩ : ∃ z, z = ms u1 164 0 n := ⟨_, rfl⟩
    refine J_iast dX11_end_27 wc_164 (vin (bd_c (v := 0) (lo := 0) (hi := 0) (by decide)) (by decide)) (ws e9 wk_164 rfl) ?_
    refine J_iload_n (i := 1) (j := 1) dX11_end_28 rfl rfl ?_
    exact J_iret hq dX11_end_29 rfl wlen (Nat.le_refl _) (Nat.le_refl _) ⟨n, u8, rfl, rfl, (ab_s e9 (ab_c (ms_c e2 (by decide)) hp0) (bd_le_hi (bd_le_lo (bd_any n) (h5 c7) (bd_c (v := 0) (lo := 0) (hi := 0) (by decide))) (h6 c7) (hp0 0))), (fun c k0_ k1_ => ((ms_c e9 k1_).trans (ms_c e2 k0_))), (fun j k0_ => ((congrFun (ms_c e9 (by decide)) j).trans (ms_i e2 k0_)))⟩
  · refine J_iconst (v := (-1)) dX11_end_19 (by decide) ?_
    exact J_iret hq dX11_end_20 rfl wlen (Nat.le_refl _) (Nat.le_refl _) ⟨((-1) : Int32), u1, rfl, rfl, (ab_c (ms_c e2 (by decide)) hp0), (fun c k0_ k1_ => (ms_c e2 k0_)), (fun j k0_ => (ms_i e2 k0_))⟩
set_option maxHeartbeats 4000000 in
set_option maxRecDepth 100000 in
theorem c_M_fault {d : Nat} {u : Nat → Nat → Int32} {g : Nat → Nat → Int64} {ex : List MC} {what : Int32} (hd : 0 ≤ d)  : CT con0 d 0 0 yX11_fault cX11_fault 2 (some .int) [.ref 162, .int what] (Wd u g ex) (fun r h2 => ∃ (z : Int32) (u2 : Nat → Nat → Int32), r = some (.int z) ∧ h2 = Wd u2 g ex ∧ (∀ c, c ≠ 162 → u2 c = u c) ∧ (∀ j, j ≠ 0 → u2 162 j = u 162 j)) := by
  refine CT_of (by decide) (Nat.le_of_ble_eq_true rfl) (fun x hq => ?_)
  show J x yX11_fault cX11_fault 2 (some .int) d 0 0 (Wd u g ex).length 0 [(0, .ref 162), (1, .int what)] [] (Wd u g ex) 0 0
  refine J_aload_n (i := 0) (j := 0) dX11_fault_0 rfl rfl ?_
  refine J_iconst (v := 0) dX11_fault_1 (by decide) ?_
  obtain ⟨u1, e2⟩ : ∃ z, z = ms u 162 0 0 := ⟨_, rfl⟩
  refine J_put (C := RX11) (T := TX11) (Z := 43) (ci := 11) (f := 0) (ty0 := tyX11) dX11_fault_2 inG11 rfl tyX11_ok nmX11 (by decide) k1264 rfl rfl wc_162 (Nat.le_of_ble_eq_true rfl) (fun _ _ => ⟨rfl, rfl⟩) (ws e2 wk_162 rfl) ?_
  refine J_iload_n (i := 1) (j := 1) dX11_fault_5 rfl rfl ?_
  refine J_if_ne (tgt := 18) dX11_fault_6 (by decide) (fun c3 => ?_) (fun c3 => ?_)
  · refine J_iload_n (i := 1) (j := 1) dX11_fault_18 rfl rfl ?_
    refine J_iconst (v := 1) dX11_fault_19 (by decide) ?_
    refine J_icmp_ne (tgt := 32) dX11_fault_20 (by decide) (fun c4 => ?_) (fun c4 => ?_)
    · refine J_iconst (v := (-1)) dX11_fault_32 (by decide) ?_
      exact J_iret hq dX11_fault_33 rfl wlen (Nat.le_refl _) (Nat.le_refl _) ⟨((-1) : Int32), u1, rfl, rfl, (fun c k0_ => (ms_c e2 k0_)), (fun j k0_ => (ms_i e2 k0_))⟩
    · refine J_aload_n (i := 0) (j := 0) dX11_fault_23 rfl rfl ?_
      refine J_get (C := RX11) (T := TX11) (Z := 43) (ci := 11) (f := 4) dX11_fault_24 inG11 rfl (by decide) k1268 wc_162 rfl ?_
      refine J_iconst (v := 0) dX11_fault_27 (by decide) ?_
      refine J_iald dX11_fault_28 wc_166 (vin (bd_c (v := 0) (lo := 0) (hi := 0) (by decide)) (by decide)) ?_
      refine J_ci (v := u 166 0) (congrFun (ms_c e2 (by decide)) 0) ?_
      refine J_goto (tgt := 33) dX11_fault_29 (by decide) ?_
      exact J_iret hq dX11_fault_33 rfl wlen (Nat.le_refl _) (Nat.le_refl _) ⟨(u 166 0), u1, rfl, rfl, (fun c k0_ => (ms_c e2 k0_)), (fun j k0_ => (ms_i e2 k0_))⟩
  · refine J_aload_n (i := 0) (j := 0) dX11_fault_9 rfl rfl ?_
    refine J_get (C := RX11) (T := TX11) (Z := 43) (ci := 11) (f := 3) dX11_fault_10 inG11 rfl (by decide) k1267 wc_162 rfl ?_
    refine J_iconst (v := 0) dX11_fault_13 (by decide) ?_
    refine J_iald dX11_fault_14 wc_165 (vin (bd_c (v := 0) (lo := 0) (hi := 0) (by decide)) (by decide)) ?_
    refine J_ci (v := u 165 0) (congrFun (ms_c e2 (by decide)) 0) ?_
    refine J_goto (tgt := 33) dX11_fault_15 (by decide) ?_
    exact J_iret hq dX11_fault_33 rfl wlen (Nat.le_refl _) (Nat.le_refl _) ⟨(u 165 0), u1, rfl, rfl, (fun c k0_ => (ms_c e2 k0_)), (fun j k0_ => (ms_i e2 k0_))⟩
set_option maxHeartbeats 4000000 in
set_option maxRecDepth 100000 in
theorem c_M_count {d : Nat} {u : Nat → Nat → Int32} {g : Nat → Nat → Int64} {ex : List MC} {what : Int32} (hd : 1 ≤ d)  : CT con0 d 0 0 yX11_count cX11_count 2 (some .int) [.ref 162, .int what] (Wd u g ex) (fun r h2 => ∃ (z : Int32) (u2 : Nat → Nat → Int32), r = some (.int z) ∧ h2 = Wd u2 g ex ∧ (∀ c, c ≠ 162 → u2 c = u c) ∧ (∀ j, j ≠ 0 → u2 162 j = u 162 j)) := by
  refine CT_of (by decide) (Nat.le_of_ble_eq_true rfl) (fun x hq => ?_)
  show J x yX11_count cX11_count 2 (some .int) d 0 0 (Wd u g ex).length 0 [(0, .ref 162), (1, .int what)] [] (Wd u g ex) 0 0
  refine J_aload_n (i := 0) (j := 0) dX11_count_0 rfl rfl ?_
  refine J_iconst (v := 0) dX11_count_1 (by decide) ?_
  obtain ⟨u1, e2⟩ : ∃ z, z = ms u 162 0 0 := ⟨_, rfl⟩
  refine J_put (C := RX11) (T := TX11) (Z := 43) (ci := 11) (f := 0) (ty0 := tyX11) dX11_count_2 inG11 rfl tyX11_ok nmX11 (by decide) k1264 rfl rfl wc_162 (Nat.le_of_ble_eq_true rfl) (fun _ _ => ⟨rfl, rfl⟩) (ws e2 wk_162 rfl) ?_
  refine J_iload_n (i := 1) (j := 1) dX11_count_5 rfl rfl ?_
  refine J_iconst (v := 0) dX11_count_6 (by decide) ?_
  refine J_iconst (v := 1) dX11_count_7 (by decide) ?_
  refine J_callS (As := [.int what, .int 0, .int 1]) (rest := []) dX11_count_8 (c_M_in (d := 0) (u := u1) (g := g) (ex := ex) (v := what) (low := 0) (high := 1)  (by decide) ) hq.n k1406 k1407 k97 k1408 np_X11_in (Nat.le_trans (by decide) hd) (by decide) (Nat.le_refl _) (Nat.le_refl _) wlen rfl (Nat.le_of_ble_eq_true rfl) (fun r_ h_ p3 => ?_)
  obtain ⟨t4, rfl, rfl, h5, h6⟩ := p3
  refine J_ifB_eq (tgt := 23) dX11_count_11 (by decide) (fun c7 => ?_) (fun c7 => ?_)
  · refine J_bipush (v := (-2)) dX11_count_23 (by decide) ?_
    exact J_iret hq dX11_count_25 rfl wlen (Nat.le_refl _) (Nat.le_refl _) ⟨((-2) : Int32), u1, rfl, rfl, (fun c k0_ => (ms_c e2 k0_)), (fun j k0_ => (ms_i e2 k0_))⟩
  · refine J_aload_n (i := 0) (j := 0) dX11_count_14 rfl rfl ?_
    refine J_get (C := RX11) (T := TX11) (Z := 43) (ci := 11) (f := 5) dX11_count_15 inG11 rfl (by decide) k1269 wc_162 rfl ?_
    refine J_iload_n (i := 1) (j := 1) dX11_count_18 rfl rfl ?_
    refine J_iald dX11_count_19 wc_167 (vin (bd_le_hi (bd_le_lo (bd_any what) (h5 c7) (bd_c (v := 0) (lo := 0) (hi := 0) (by decide))) (h6 c7) (bd_c (v := 1) (lo := 1) (hi := 1) (by decide))) (by decide)) ?_
    refine J_topi (fun v8 qv8 => ?_)
    refine J_goto (tgt := 25) dX11_count_20 (by decide) ?_
    exact J_iret hq dX11_count_25 rfl wlen (Nat.le_refl _) (Nat.le_refl _) ⟨v8, u1, rfl, rfl, (fun c k0_ => (ms_c e2 k0_)), (fun j k0_ => (ms_i e2 k0_))⟩
set_option maxHeartbeats 4000000 in
set_option maxRecDepth 100000 in
theorem c_M_hill {d : Nat} {u : Nat → Nat → Int32} {g : Nat → Nat → Int64} {ex : List MC} {hill : Int32} {what : Int32} (hd : 2 ≤ d) (hp0 : (MY u)) (hp1 : (HD u)) : CT con0 d 0 0 yX11_hill cX11_hill 4 (some .int) [.ref 162, .int hill, .int what] (Wd u g ex) (fun r h2 => ∃ (z : Int32) (u2 : Nat → Nat → Int32), r = some (.int z) ∧ h2 = Wd u2 g ex ∧ (∀ c, c ≠ 162 → u2 c = u c) ∧ (∀ j, j ≠ 0 → u2 162 j = u 162 j)) := by
  refine CT_of (by decide) (Nat.le_of_ble_eq_true rfl) (fun x hq => ?_)
  show J x yX11_hill cX11_hill 4 (some .int) d 0 0 (Wd u g ex).length 0 [(0, .ref 162), (1, .int hill), (2, .int what)] [] (Wd u g ex) 0 0
  refine J_aload_n (i := 0) (j := 0) dX11_hill_0 rfl rfl ?_
  refine J_iconst (v := 0) dX11_hill_1 (by decide) ?_
  obtain ⟨u1, e2⟩ : ∃ z, z = ms u 162 0 0 := ⟨_, rfl⟩
  refine J_put (C := RX11) (T := TX11) (Z := 43) (ci := 11) (f := 0) (ty0 := tyX11) dX11_hill_2 inG11 rfl tyX11_ok nmX11 (by decide) k1264 rfl rfl wc_162 (Nat.le_of_ble_eq_true rfl) (fun _ _ => ⟨rfl, rfl⟩) (ws e2 wk_162 rfl) ?_
  refine J_aload_n (i := 0) (j := 0) dX11_hill_5 rfl rfl ?_
  refine J_iload_n (i := 1) (j := 1) dX11_hill_6 rfl rfl ?_
  refine J_callV (As := [.int hill]) (rest := []) dX11_hill_7 (c_M_isHill (d := 1) (u := u1) (g := g) (ex := ex) (h := hill)  (by decide) (bd_r (congrFun (ms_c e2 (by decide)) 0) (hp0 0 (by decide)).1)) hq.n k1495 k1497 k51 wc_162 rfl rfl k97 k1498 np_X11_isHill (Nat.le_trans (by decide) hd) (by decide) (Nat.le_refl _) (Nat.le_refl _) wlen rfl (Nat.le_of_ble_eq_true rfl) (fun r_ h_ p3 => ?_)
  obtain ⟨t4, rfl, rfl, h5, h6⟩ := p3
  refine J_ifB_ne (tgt := 15) dX11_hill_10 (by decide) (fun c7 => ?_) (fun c7 => ?_)
  · refine J_aload_n (i := 0) (j := 0) dX11_hill_15 rfl rfl ?_
    refine J_get (C := RX11) (T := TX11) (Z := 43) (ci := 11) (f := 6) dX11_hill_16 inG11 rfl (by decide) k1270 wc_162 rfl ?_
    refine J_sipush (v := 157) dX11_hill_19 (by decide) ?_
    refine J_iload_n (i := 1) (j := 1) dX11_hill_22 rfl rfl ?_
    refine J_imul dX11_hill_23 ?_
    refine J_iconst (v := 1) dX11_hill_24 (by decide) ?_
    refine J_iadd dX11_hill_25 ?_
    refine J_iald dX11_hill_26 wc_168 (vin (bd_add (l := 1) (h := 158) (bd_mul (l := 0) (h := 157) (bd_c (v := 157) (lo := 157) (hi := 157) (by decide)) (h5 c7) (by decide)) (bd_c (v := 1) (lo := 1) (hi := 1) (by decide)) (by decide)) (by decide)) ?_
    refine J_topi (fun v8 qv8 => ?_)
    refine J_istore_n (i := 3) (lw := [(3, .int v8), (0, .ref 162), (1, .int hill), (2, .int what)]) dX11_hill_27 rfl (by decide) rfl ?_
    refine J_iload_n (i := 2) (j := 3) dX11_hill_28 rfl rfl ?_
    refine J_iconst (v := 0) dX11_hill_29 (by decide) ?_
    refine J_iconst (v := 4) dX11_hill_30 (by decide) ?_
    refine J_callS (As := [.int what, .int 0, .int 4]) (rest := []) dX11_hill_31 (c_M_in (d := 0) (u := u1) (g := g) (ex := ex) (v := what) (low := 0) (high := 4)  (by decide) ) hq.n k1406 k1407 k97 k1408 np_X11_in (Nat.le_trans (by decide) hd) (by decide) (Nat.le_refl _) (Nat.le_refl _) wlen rfl (Nat.le_of_ble_eq_true rfl) (fun r_ h_ p9 => ?_)
    obtain ⟨t10, rfl, rfl, h11, h12⟩ := p9
    refine J_ifB_eq (tgt := 50) dX11_hill_34 (by decide) (fun c13 => ?_) (fun c13 => ?_)
    · refine J_iload_n (i := 2) (j := 3) dX11_hill_50 rfl rfl ?_
      refine J_bipush (v := 10) dX11_hill_51 (by decide) ?_
      refine J_bipush (v := 9) dX11_hill_53 (by decide) ?_
      refine J_iload_n (i := 3) (j := 0) dX11_hill_55 rfl rfl ?_
      refine J_iadd dX11_hill_56 ?_
      refine J_callS (As := [.int what, .int 10, .int ((9 : Int32) + v8)]) (rest := []) dX11_hill_57 (c_M_in (d := 0) (u := u1) (g := g) (ex := ex) (v := what) (low := 10) (high := ((9 : Int32) + v8))  (by decide) ) hq.n k1406 k1407 k97 k1408 np_X11_in (Nat.le_trans (by decide) hd) (by decide) (Nat.le_refl _) (Nat.le_refl _) wlen rfl (Nat.le_of_ble_eq_true rfl) (fun r_ h_ p14 => ?_)
      obtain ⟨t15, rfl, rfl, h16, h17⟩ := p14
      refine J_ifB_eq (tgt := 85) dX11_hill_60 (by decide) (fun c18 => ?_) (fun c18 => ?_)
      · refine J_iload_n (i := 2) (j := 3) dX11_hill_85 rfl rfl ?_
        refine J_bipush (v := 20) dX11_hill_86 (by decide) ?_
        refine J_bipush (v := 19) dX11_hill_88 (by decide) ?_
        refine J_iload_n (i := 3) (j := 0) dX11_hill_90 rfl rfl ?_
        refine J_iadd dX11_hill_91 ?_
        refine J_callS (As := [.int what, .int 20, .int ((19 : Int32) + v8)]) (rest := []) dX11_hill_92 (c_M_in (d := 0) (u := u1) (g := g) (ex := ex) (v := what) (low := 20) (high := ((19 : Int32) + v8))  (by decide) ) hq.n k1406 k1407 k97 k1408 np_X11_in (Nat.le_trans (by decide) hd) (by decide) (Nat.le_refl _) (Nat.le_refl _) wlen rfl (Nat.le_of_ble_eq_true rfl) (fun r_ h_ p19 => ?_)
        obtain ⟨t20, rfl, rfl, h21, h22⟩ := p19
        refine J_ifB_eq (tgt := 122) dX11_hill_95 (by decide) (fun c23 => ?_) (fun c23 => ?_)
        · refine J_iconst (v := (-1)) dX11_hill_122 (by decide) ?_
          exact J_iret hq dX11_hill_123 rfl wlen (Nat.le_refl _) (Nat.le_refl _) ⟨((-1) : Int32), u1, rfl, rfl, (fun c k0_ => (ms_c e2 k0_)), (fun j k0_ => (ms_i e2 k0_))⟩
        · refine J_aload_n (i := 0) (j := 1) dX11_hill_98 rfl rfl ?_
          refine J_get (C := RX11) (T := TX11) (Z := 43) (ci := 11) (f := 6) dX11_hill_99 inG11 rfl (by decide) k1270 wc_162 rfl ?_
          refine J_sipush (v := 157) dX11_hill_102 (by decide) ?_
          refine J_iload_n (i := 1) (j := 2) dX11_hill_105 rfl rfl ?_
          refine J_imul dX11_hill_106 ?_
          refine J_iconst (v := 5) dX11_hill_107 (by decide) ?_
          refine J_iadd dX11_hill_108 ?_
          refine J_iconst (v := 2) dX11_hill_109 (by decide) ?_
          refine J_iload_n (i := 2) (j := 3) dX11_hill_110 rfl rfl ?_
          refine J_bipush (v := 20) dX11_hill_111 (by decide) ?_
          refine J_isub dX11_hill_113 ?_
          refine J_imul dX11_hill_114 ?_
          refine J_iadd dX11_hill_115 ?_
          refine J_iconst (v := 1) dX11_hill_116 (by decide) ?_
          refine J_iadd dX11_hill_117 ?_
          refine J_iald dX11_hill_118 wc_168 (vin (bd_add (l := 6) (h := 169) (bd_add (l := 5) (h := 168) (bd_add (l := 5) (h := 162) (bd_mul (l := 0) (h := 157) (bd_c (v := 157) (lo := 157) (hi := 157) (by decide)) (h5 c7) (by decide)) (bd_c (v := 5) (lo := 5) (hi := 5) (by decide)) (by decide)) (bd_mul (l := 0) (h := 6) (bd_c (v := 2) (lo := 2) (hi := 2) (by decide)) (bd_sub (l := 0) (h := 3) (bd_le_hi (bd_le_lo (bd_any what) (h21 c23) (bd_c (v := 20) (lo := 20) (hi := 20) (by decide))) (h22 c23) (bd_add (l := 19) (h := 23) (bd_c (v := 19) (lo := 19) (hi := 19) (by decide)) (hd_r (hd_c (ms_c e2 (by decide)) hp1) (bd_w (l := 0) (h := 7) (h5 c7) (by decide)) qv8) (by decide))) (bd_c (v := 20) (lo := 20) (hi := 20) (by decide)) (by decide)) (by decide)) (by decide)) (bd_c (v := 1) (lo := 1) (hi := 1) (by decide)) (by decide)) (by decide)) ?_
          refine J_topi (fun v24 qv24 => ?_)
          refine J_goto (tgt := 123) dX11_hill_119 (by decide) ?_
          exact J_iret hq dX11_hill_123 rfl wlen (Nat.le_refl _) (Nat.le_refl _) ⟨v24, u1, rfl, rfl, (fun c k0_ => (ms_c e2 k0_)), (fun j k0_ => (ms_i e2 k0_))⟩
      · refine J_aload_n (i := 0) (j := 1) dX11_hill_63 rfl rfl ?_
        refine J_get (C := RX11) (T := TX11) (Z := 43) (ci := 11) (f := 6) dX11_hill_64 inG11 rfl (by decide) k1270 wc_162 rfl ?_
        refine J_sipush (v := 157) dX11_hill_67 (by decide) ?_
        refine J_iload_n (i := 1) (j := 2) dX11_hill_70 rfl rfl ?_
        refine J_imul dX11_hill_71 ?_
        refine J_iconst (v := 5) dX11_hill_72 (by decide) ?_
        refine J_iadd dX11_hill_73 ?_
        refine J_iconst (v := 2) dX11_hill_74 (by decide) ?_
        refine J_iload_n (i := 2) (j := 3) dX11_hill_75 rfl rfl ?_
        refine J_bipush (v := 10) dX11_hill_76 (by decide) ?_
        refine J_isub dX11_hill_78 ?_
        refine J_imul dX11_hill_79 ?_
        refine J_iadd dX11_hill_80 ?_
        refine J_iald dX11_hill_81 wc_168 (vin (bd_add (l := 5) (h := 168) (bd_add (l := 5) (h := 162) (bd_mul (l := 0) (h := 157) (bd_c (v := 157) (lo := 157) (hi := 157) (by decide)) (h5 c7) (by decide)) (bd_c (v := 5) (lo := 5) (hi := 5) (by decide)) (by decide)) (bd_mul (l := 0) (h := 6) (bd_c (v := 2) (lo := 2) (hi := 2) (by decide)) (bd_sub (l := 0) (h := 3) (bd_le_hi (bd_le_lo (bd_any what) (h16 c18) (bd_c (v := 10) (lo := 10) (hi := 10) (by decide))) (h17 c18) (bd_add (l := 9) (h := 13) (bd_c (v := 9) (lo := 9) (hi := 9) (by decide)) (hd_r (hd_c (ms_c e2 (by decide)) hp1) (bd_w (l := 0) (h := 7) (h5 c7) (by decide)) qv8) (by decide))) (bd_c (v := 10) (lo := 10) (hi := 10) (by decide)) (by decide)) (by decide)) (by decide)) (by decide)) ?_
        refine J_topi (fun v25 qv25 => ?_)
        refine J_goto (tgt := 123) dX11_hill_82 (by decide) ?_
        exact J_iret hq dX11_hill_123 rfl wlen (Nat.le_refl _) (Nat.le_refl _) ⟨v25, u1, rfl, rfl, (fun c k0_ => (ms_c e2 k0_)), (fun j k0_ => (ms_i e2 k0_))⟩
    · refine J_aload_n (i := 0) (j := 1) dX11_hill_37 rfl rfl ?_
      refine J_get (C := RX11) (T := TX11) (Z := 43) (ci := 11) (f := 6) dX11_hill_38 inG11 rfl (by decide) k1270 wc_162 rfl ?_
      refine J_sipush (v := 157) dX11_hill_41 (by decide) ?_
      refine J_iload_n (i := 1) (j := 2) dX11_hill_44 rfl rfl ?_
      refine J_imul dX11_hill_45 ?_
      refine J_iload_n (i := 2) (j := 3) dX11_hill_46 rfl rfl ?_
      refine J_iadd dX11_hill_47 ?_
      refine J_iald dX11_hill_48 wc_168 (vin (bd_add (l := 0) (h := 161) (bd_mul (l := 0) (h := 157) (bd_c (v := 157) (lo := 157) (hi := 157) (by decide)) (h5 c7) (by decide)) (bd_le_hi (bd_le_lo (bd_any what) (h11 c13) (bd_c (v := 0) (lo := 0) (hi := 0) (by decide))) (h12 c13) (bd_c (v := 4) (lo := 4) (hi := 4) (by decide))) (by decide)) (by decide)) ?_
      refine J_topi (fun v26 qv26 => ?_)
      exact J_iret hq dX11_hill_49 rfl wlen (Nat.le_refl _) (Nat.le_refl _) ⟨v26, u1, rfl, rfl, (fun c k0_ => (ms_c e2 k0_)), (fun j k0_ => (ms_i e2 k0_))⟩
  · refine J_iconst (v := (-1)) dX11_hill_13 (by decide) ?_
    exact J_iret hq dX11_hill_14 rfl wlen (Nat.le_refl _) (Nat.le_refl _) ⟨((-1) : Int32), u1, rfl, rfl, (fun c k0_ => (ms_c e2 k0_)), (fun j k0_ => (ms_i e2 k0_))⟩
set_option maxHeartbeats 4000000 in
set_option maxRecDepth 100000 in
theorem c_M_work {d : Nat} {u : Nat → Nat → Int32} {g : Nat → Nat → Int64} {ex : List MC} {plan : Int32} {work : Int32} {what : Int32} (hd : 2 ≤ d) (hp0 : (MY u)) (hp1 : (PL u)) : CT con0 d 0 0 yX11_work cX11_work 4 (some .int) [.ref 162, .int plan, .int work, .int what] (Wd u g ex) (fun r h2 => ∃ (z : Int32) (u2 : Nat → Nat → Int32), r = some (.int z) ∧ h2 = Wd u2 g ex ∧ (∀ c, c ≠ 162 → u2 c = u c) ∧ (∀ j, j ≠ 0 → u2 162 j = u 162 j)) := by
  refine CT_of (by decide) (Nat.le_of_ble_eq_true rfl) (fun x hq => ?_)
  show J x yX11_work cX11_work 4 (some .int) d 0 0 (Wd u g ex).length 0 [(0, .ref 162), (1, .int plan), (2, .int work), (3, .int what)] [] (Wd u g ex) 0 0
  refine J_aload_n (i := 0) (j := 0) dX11_work_0 rfl rfl ?_
  refine J_iconst (v := 0) dX11_work_1 (by decide) ?_
  obtain ⟨u1, e2⟩ : ∃ z, z = ms u 162 0 0 := ⟨_, rfl⟩
  refine J_put (C := RX11) (T := TX11) (Z := 43) (ci := 11) (f := 0) (ty0 := tyX11) dX11_work_2 inG11 rfl tyX11_ok nmX11 (by decide) k1264 rfl rfl wc_162 (Nat.le_of_ble_eq_true rfl) (fun _ _ => ⟨rfl, rfl⟩) (ws e2 wk_162 rfl) ?_
  refine J_aload_n (i := 0) (j := 0) dX11_work_5 rfl rfl ?_
  refine J_iload_n (i := 1) (j := 1) dX11_work_6 rfl rfl ?_
  refine J_callV (As := [.int plan]) (rest := []) dX11_work_7 (c_M_isPlan (d := 1) (u := u1) (g := g) (ex := ex) (p := plan)  (by decide) (bd_r (congrFun (ms_c e2 (by decide)) 1) (hp0 0 (by decide)).2)) hq.n k1507 k1509 k53 wc_162 rfl rfl k97 k1510 np_X11_isPlan (Nat.le_trans (by decide) hd) (by decide) (Nat.le_refl _) (Nat.le_refl _) wlen rfl (Nat.le_of_ble_eq_true rfl) (fun r_ h_ p3 => ?_)
  obtain ⟨t4, rfl, rfl, h5⟩ := p3
  refine J_ifB_eq (tgt := 61) dX11_work_10 (by decide) (fun c6 => ?_) (fun c6 => ?_)
  · refine J_bipush (v := (-2)) dX11_work_61 (by decide) ?_
    exact J_iret hq dX11_work_63 rfl wlen (Nat.le_refl _) (Nat.le_refl _) ⟨((-2) : Int32), u1, rfl, rfl, (fun c k0_ => (ms_c e2 k0_)), (fun j k0_ => (ms_i e2 k0_))⟩
  · refine J_iload_n (i := 2) (j := 2) dX11_work_13 rfl rfl ?_
    refine J_iconst (v := 0) dX11_work_14 (by decide) ?_
    refine J_aload_n (i := 0) (j := 0) dX11_work_15 rfl rfl ?_
    refine J_get (C := RX11) (T := TX11) (Z := 43) (ci := 11) (f := 7) dX11_work_16 inG11 rfl (by decide) k1271 wc_162 rfl ?_
    refine J_bipush (v := 37) dX11_work_19 (by decide) ?_
    refine J_iload_n (i := 1) (j := 1) dX11_work_21 rfl rfl ?_
    refine J_imul dX11_work_22 ?_
    refine J_iald dX11_work_23 wc_169 (vin (bd_mul (l := 0) (h := 74) (bd_c (v := 37) (lo := 37) (hi := 37) (by decide)) (h5 c6) (by decide)) (by decide)) ?_
    refine J_topi (fun v7 qv7 => ?_)
    refine J_iconst (v := 1) dX11_work_24 (by decide) ?_
    refine J_isub dX11_work_25 ?_
    refine J_callS (As := [.int work, .int 0, .int (v7 - 1)]) (rest := []) dX11_work_26 (c_M_in (d := 0) (u := u1) (g := g) (ex := ex) (v := work) (low := 0) (high := (v7 - 1))  (by decide) ) hq.n k1406 k1407 k97 k1408 np_X11_in (Nat.le_trans (by decide) hd) (by decide) (Nat.le_refl _) (Nat.le_refl _) wlen rfl (Nat.le_of_ble_eq_true rfl) (fun r_ h_ p8 => ?_)
    obtain ⟨t9, rfl, rfl, h10, h11⟩ := p8
    refine J_ifB_eq (tgt := 61) dX11_work_29 (by decide) (fun c12 => ?_) (fun c12 => ?_)
    · refine J_bipush (v := (-2)) dX11_work_61 (by decide) ?_
      exact J_iret hq dX11_work_63 rfl wlen (Nat.le_refl _) (Nat.le_refl _) ⟨((-2) : Int32), u1, rfl, rfl, (fun c k0_ => (ms_c e2 k0_)), (fun j k0_ => (ms_i e2 k0_))⟩
    · refine J_iload_n (i := 3) (j := 3) dX11_work_32 rfl rfl ?_
      refine J_iconst (v := 0) dX11_work_33 (by decide) ?_
      refine J_iconst (v := 2) dX11_work_34 (by decide) ?_
      refine J_callS (As := [.int what, .int 0, .int 2]) (rest := []) dX11_work_35 (c_M_in (d := 0) (u := u1) (g := g) (ex := ex) (v := what) (low := 0) (high := 2)  (by decide) ) hq.n k1406 k1407 k97 k1408 np_X11_in (Nat.le_trans (by decide) hd) (by decide) (Nat.le_refl _) (Nat.le_refl _) wlen rfl (Nat.le_of_ble_eq_true rfl) (fun r_ h_ p13 => ?_)
      obtain ⟨t14, rfl, rfl, h15, h16⟩ := p13
      refine J_ifB_eq (tgt := 61) dX11_work_38 (by decide) (fun c17 => ?_) (fun c17 => ?_)
      · refine J_bipush (v := (-2)) dX11_work_61 (by decide) ?_
        exact J_iret hq dX11_work_63 rfl wlen (Nat.le_refl _) (Nat.le_refl _) ⟨((-2) : Int32), u1, rfl, rfl, (fun c k0_ => (ms_c e2 k0_)), (fun j k0_ => (ms_i e2 k0_))⟩
      · refine J_aload_n (i := 0) (j := 0) dX11_work_41 rfl rfl ?_
        refine J_get (C := RX11) (T := TX11) (Z := 43) (ci := 11) (f := 7) dX11_work_42 inG11 rfl (by decide) k1271 wc_162 rfl ?_
        refine J_bipush (v := 37) dX11_work_45 (by decide) ?_
        refine J_iload_n (i := 1) (j := 1) dX11_work_47 rfl rfl ?_
        refine J_imul dX11_work_48 ?_
        refine J_iconst (v := 1) dX11_work_49 (by decide) ?_
        refine J_iadd dX11_work_50 ?_
        refine J_iconst (v := 3) dX11_work_51 (by decide) ?_
        refine J_iload_n (i := 2) (j := 2) dX11_work_52 rfl rfl ?_
        refine J_imul dX11_work_53 ?_
        refine J_iadd dX11_work_54 ?_
        refine J_iload_n (i := 3) (j := 3) dX11_work_55 rfl rfl ?_
        refine J_iadd dX11_work_56 ?_
        refine J_iald dX11_work_57 wc_169 (vin (bd_add (l := 1) (h := 110) (bd_add (l := 1) (h := 108) (bd_add (l := 1) (h := 75) (bd_mul (l := 0) (h := 74) (bd_c (v := 37) (lo := 37) (hi := 37) (by decide)) (h5 c6) (by decide)) (bd_c (v := 1) (lo := 1) (hi := 1) (by decide)) (by decide)) (bd_mul (l := 0) (h := 33) (bd_c (v := 3) (lo := 3) (hi := 3) (by decide)) (bd_le_hi (bd_le_lo (bd_any work) (h10 c12) (bd_c (v := 0) (lo := 0) (hi := 0) (by decide))) (h11 c12) (bd_sub (l := (-1)) (h := 11) (pl_cnt (pl_c (ms_c e2 (by decide)) hp1) (bd_w (l := 0) (h := 11) (h5 c6) (by decide)) qv7) (bd_c (v := 1) (lo := 1) (hi := 1) (by decide)) (by decide))) (by decide)) (by decide)) (bd_le_hi (bd_le_lo (bd_any what) (h15 c17) (bd_c (v := 0) (lo := 0) (hi := 0) (by decide))) (h16 c17) (bd_c (v := 2) (lo := 2) (hi := 2) (by decide))) (by decide)) (by decide)) ?_
        refine J_topi (fun v18 qv18 => ?_)
        refine J_goto (tgt := 63) dX11_work_58 (by decide) ?_
        exact J_iret hq dX11_work_63 rfl wlen (Nat.le_refl _) (Nat.le_refl _) ⟨v18, u1, rfl, rfl, (fun c k0_ => (ms_c e2 k0_)), (fun j k0_ => (ms_i e2 k0_))⟩
