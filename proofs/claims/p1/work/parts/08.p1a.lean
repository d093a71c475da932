/-! small facts -/
theorem hkz {w : List MC} {L : Nat} (h : w.length = L) : 0 + L = w.length := by omega
theorem s_ne {h h2 : List MC} {a j : Nat} {c : MC} (e : h2 = h.set a c) (hj : j ≠ a) : h2[j]? = h[j]? := by rw [e, List.getElem?_set_ne (Ne.symm hj)]
theorem nq {t i j : Nat} (h : i ≠ j) : t + i ≠ t + j := by omega
theorem dj {n t f i j : Nat} (hap : t + n ≤ f ∨ f + n ≤ t) (hi : i < n) (hj : j < n) : f + i ≠ t + j := by omega
theorem dj2 {n t f i j : Nat} (hap : t + n ≤ f ∨ f + n ≤ t) (hi : i < n) (hj : j < n) : t + i ≠ f + j := by omega
theorem al {t i j : Nat} (h : i < j) : t + i < t + j := by omega
theorem ar {t i j n : Nat} (h : j + n ≤ i) : t + j + n ≤ t + i := by omega
theorem dr {t f i m n N : Nat} (hap : t + N ≤ f ∨ f + N ≤ t) (hi : i < N) (hm : m + n ≤ N) : f + i < t + m ∨ t + m + n ≤ f + i := by omega
theorem dr2 {t f i m n N : Nat} (hap : t + N ≤ f ∨ f + N ≤ t) (hi : i < N) (hm : m + n ≤ N) : t + i < f + m ∨ f + m + n ≤ t + i := by omega
theorem i_nlt {a b : Int32} (h : ¬ a < b) : b ≤ a := by rw [Int32.lt_iff_toInt_lt] at h; rw [Int32.le_iff_toInt_le]; omega
theorem i_nle {a b : Int32} (h : ¬ a ≤ b) : b < a := by rw [Int32.le_iff_toInt_le] at h; rw [Int32.lt_iff_toInt_lt]; omega
theorem nb0 (i : Int32) : (!decide (i < 0) && !decide ((0 : Int32) ≤ i)) = false := by
  by_cases h : i < 0
  · simp [h]
  · simp [i_nlt h]
theorem nb1 (i : Int32) : (!decide (i < 0) && !decide ((-1 : Int32) < i)) = false := by
  by_cases h : i < 0
  · simp [h]
  · have h2 : (-1 : Int32) < i := by
      have := i_nlt h
      rw [Int32.le_iff_toInt_le] at this
      rw [Int32.lt_iff_toInt_lt]
      have e : (-1 : Int32).toInt = -1 := by decide
      have e0 : (0 : Int32).toInt = 0 := by decide
      omega
    simp [h2]
theorem k703 : Cond.methodLink RX10 103 yX7_hasHill ∈ gt := gt_in 703 (by decide +kernel) (by decide +kernel)
theorem k704 : Cond.instanceMethod yX7_hasHill ∈ gt := gt_in 704 (by decide +kernel) (by decide +kernel)
theorem k705 : Cond.selects RX7 yX7_hasHill yX7_hasHill ∈ gt := gt_in 705 (by decide +kernel) (by decide +kernel)
theorem k706 : Cond.code yX7_hasHill cX7_hasHill 2 (some .boolean) ∈ gt := gt_in 706 (by decide +kernel) (by decide +kernel)
theorem np_X7_hasHill : yX7_hasHill.cls ≠ "java/lang/invoke/MethodHandle" ∧ yX7_hasHill.cls ≠ "java/lang/invoke/VarHandle" ∧ (parseMethodDescriptor yX7_hasHill.desc).map (fun d => d.parameters.length) = some 1 := by decide +kernel
theorem k723 : Cond.methodLink RX10 114 yX10_lays ∈ gt := gt_in 723 (by decide +kernel) (by decide +kernel)
theorem k725 : Cond.instanceMethod yX10_lays ∈ gt := gt_in 725 (by decide +kernel) (by decide +kernel)
theorem k12 : Cond.selects RX10 yX10_lays yX10_lays ∈ gt := gt_in 12 (by decide +kernel) (by decide +kernel)
theorem k87 : Cond.initialized RX10 ∈ gt := gt_in 87 (by decide +kernel) (by decide +kernel)
theorem k726 : Cond.code yX10_lays cX10_lays 3 (some .boolean) ∈ gt := gt_in 726 (by decide +kernel) (by decide +kernel)
theorem np_X10_lays : yX10_lays.cls ≠ "java/lang/invoke/MethodHandle" ∧ yX10_lays.cls ≠ "java/lang/invoke/VarHandle" ∧ (parseMethodDescriptor yX10_lays.desc).map (fun d => d.parameters.length) = some 2 := by decide +kernel
theorem k727 : Cond.methodLink RX10 127 yX7_hasPlan ∈ gt := gt_in 727 (by decide +kernel) (by decide +kernel)
theorem k728 : Cond.instanceMethod yX7_hasPlan ∈ gt := gt_in 728 (by decide +kernel) (by decide +kernel)
theorem k729 : Cond.selects RX7 yX7_hasPlan yX7_hasPlan ∈ gt := gt_in 729 (by decide +kernel) (by decide +kernel)
theorem k730 : Cond.code yX7_hasPlan cX7_hasPlan 2 (some .boolean) ∈ gt := gt_in 730 (by decide +kernel) (by decide +kernel)
theorem np_X7_hasPlan : yX7_hasPlan.cls ≠ "java/lang/invoke/MethodHandle" ∧ yX7_hasPlan.cls ≠ "java/lang/invoke/VarHandle" ∧ (parseMethodDescriptor yX7_hasPlan.desc).map (fun d => d.parameters.length) = some 1 := by decide +kernel
theorem k852 : Cond.methodLink RX10 156 yX10_looks ∈ gt := gt_in 852 (by decide +kernel) (by decide +kernel)
theorem k854 : Cond.instanceMethod yX10_looks ∈ gt := gt_in 854 (by decide +kernel) (by decide +kernel)
theorem k23 : Cond.selects RX10 yX10_looks yX10_looks ∈ gt := gt_in 23 (by decide +kernel) (by decide +kernel)
theorem k855 : Cond.code yX10_looks cX10_looks 3 (some .boolean) ∈ gt := gt_in 855 (by decide +kernel) (by decide +kernel)
theorem np_X10_looks : yX10_looks.cls ≠ "java/lang/invoke/MethodHandle" ∧ yX10_looks.cls ≠ "java/lang/invoke/VarHandle" ∧ (parseMethodDescriptor yX10_looks.desc).map (fun d => d.parameters.length) = some 2 := by decide +kernel
theorem k877 : Cond.constantLong RX10 159 (-1) ∈ gt := gt_in 877 (by decide +kernel) (by decide +kernel)
theorem k938 : Cond.methodLink RX10 204 yX10_canMend ∈ gt := gt_in 938 (by decide +kernel) (by decide +kernel)
theorem k940 : Cond.instanceMethod yX10_canMend ∈ gt := gt_in 940 (by decide +kernel) (by decide +kernel)
theorem k26 : Cond.selects RX10 yX10_canMend yX10_canMend ∈ gt := gt_in 26 (by decide +kernel) (by decide +kernel)
theorem k941 : Cond.code yX10_canMend cX10_canMend 6 (some .boolean) ∈ gt := gt_in 941 (by decide +kernel) (by decide +kernel)
theorem np_X10_canMend : yX10_canMend.cls ≠ "java/lang/invoke/MethodHandle" ∧ yX10_canMend.cls ≠ "java/lang/invoke/VarHandle" ∧ (parseMethodDescriptor yX10_canMend.desc).map (fun d => d.parameters.length) = some 5 := by decide +kernel
theorem k1005 : Cond.methodLink RX10 236 yX10_hasPond ∈ gt := gt_in 1005 (by decide +kernel) (by decide +kernel)
theorem k1007 : Cond.instanceMethod yX10_hasPond ∈ gt := gt_in 1007 (by decide +kernel) (by decide +kernel)
theorem k29 : Cond.selects RX10 yX10_hasPond yX10_hasPond ∈ gt := gt_in 29 (by decide +kernel) (by decide +kernel)
theorem k1008 : Cond.code yX10_hasPond cX10_hasPond 4 (some .boolean) ∈ gt := gt_in 1008 (by decide +kernel) (by decide +kernel)
theorem np_X10_hasPond : yX10_hasPond.cls ≠ "java/lang/invoke/MethodHandle" ∧ yX10_hasPond.cls ≠ "java/lang/invoke/VarHandle" ∧ (parseMethodDescriptor yX10_hasPond.desc).map (fun d => d.parameters.length) = some 3 := by decide +kernel
theorem k1028 : Cond.constantLong RX10 246 (-9223372036854775808) ∈ gt := gt_in 1028 (by decide +kernel) (by decide +kernel)
theorem k1036 : Cond.methodLink RX10 259 yX10_canFill ∈ gt := gt_in 1036 (by decide +kernel) (by decide +kernel)
theorem k1038 : Cond.instanceMethod yX10_canFill ∈ gt := gt_in 1038 (by decide +kernel) (by decide +kernel)
theorem k30 : Cond.selects RX10 yX10_canFill yX10_canFill ∈ gt := gt_in 30 (by decide +kernel) (by decide +kernel)
theorem k1039 : Cond.code yX10_canFill cX10_canFill 4 (some .boolean) ∈ gt := gt_in 1039 (by decide +kernel) (by decide +kernel)
theorem np_X10_canFill : yX10_canFill.cls ≠ "java/lang/invoke/MethodHandle" ∧ yX10_canFill.cls ≠ "java/lang/invoke/VarHandle" ∧ (parseMethodDescriptor yX10_canFill.desc).map (fun d => d.parameters.length) = some 3 := by decide +kernel
theorem dX10_alone_0 : decode cX10_alone 0 = .ok (.aload_n 0, 1) := by decide +kernel
theorem dX10_alone_1 : decode cX10_alone 1 = .ok (.iload_n 1, 1) := by decide +kernel
theorem dX10_alone_2 : decode cX10_alone 2 = .ok (.iload_n 2, 1) := by decide +kernel
theorem dX10_alone_3 : decode cX10_alone 3 = .ok (.invokevirtual 156, 3) := by decide +kernel
theorem dX10_alone_6 : decode cX10_alone 6 = .ok (.ifCond .eq 10, 3) := by decide +kernel
theorem dX10_alone_16 : decode cX10_alone 16 = .ok (.ldc2_w 159, 3) := by decide +kernel
theorem dX10_alone_19 : decode cX10_alone 19 = .ok (.lreturn, 1) := by decide +kernel
theorem dX10_around_0 : decode cX10_around 0 = .ok (.aload_n 0, 1) := by decide +kernel
theorem dX10_around_1 : decode cX10_around 1 = .ok (.iload_n 1, 1) := by decide +kernel
theorem dX10_around_2 : decode cX10_around 2 = .ok (.iload_n 2, 1) := by decide +kernel
theorem dX10_around_3 : decode cX10_around 3 = .ok (.invokevirtual 114, 3) := by decide +kernel
theorem dX10_around_6 : decode cX10_around 6 = .ok (.ifCond .ne 5, 3) := by decide +kernel
theorem dX10_around_9 : decode cX10_around 9 = .ok (.iconst (-1), 1) := by decide +kernel
theorem dX10_around_10 : decode cX10_around 10 = .ok (.ireturn, 1) := by decide +kernel
theorem dX10_best_0 : decode cX10_best 0 = .ok (.aload_n 0, 1) := by decide +kernel
theorem dX10_best_1 : decode cX10_best 1 = .ok (.iload_n 1, 1) := by decide +kernel
theorem dX10_best_2 : decode cX10_best 2 = .ok (.iload_n 2, 1) := by decide +kernel
theorem dX10_best_3 : decode cX10_best 3 = .ok (.iload_n 3, 1) := by decide +kernel
theorem dX10_best_4 : decode cX10_best 4 = .ok (.iload 4, 2) := by decide +kernel
theorem dX10_best_6 : decode cX10_best 6 = .ok (.sipush 9999, 3) := by decide +kernel
theorem dX10_best_9 : decode cX10_best 9 = .ok (.invokevirtual 204, 3) := by decide +kernel
theorem dX10_best_12 : decode cX10_best 12 = .ok (.ifCond .eq 23, 3) := by decide +kernel
theorem dX10_best_35 : decode cX10_best 35 = .ok (.iconst (-1), 1) := by decide +kernel
theorem dX10_best_36 : decode cX10_best 36 = .ok (.ireturn, 1) := by decide +kernel
theorem dX10_better_0 : decode cX10_better 0 = .ok (.aload_n 0, 1) := by decide +kernel
theorem dX10_better_1 : decode cX10_better 1 = .ok (.iload_n 1, 1) := by decide +kernel
theorem dX10_better_2 : decode cX10_better 2 = .ok (.iload_n 2, 1) := by decide +kernel
theorem dX10_better_3 : decode cX10_better 3 = .ok (.invokevirtual 114, 3) := by decide +kernel
theorem dX10_better_6 : decode cX10_better 6 = .ok (.ifCond .ne 5, 3) := by decide +kernel
theorem dX10_better_9 : decode cX10_better 9 = .ok (.iconst (-1), 1) := by decide +kernel
theorem dX10_better_10 : decode cX10_better 10 = .ok (.ireturn, 1) := by decide +kernel
theorem dX10_brings_0 : decode cX10_brings 0 = .ok (.aload_n 0, 1) := by decide +kernel
theorem dX10_brings_1 : decode cX10_brings 1 = .ok (.iload_n 1, 1) := by decide +kernel
theorem dX10_brings_2 : decode cX10_brings 2 = .ok (.iload_n 2, 1) := by decide +kernel
theorem dX10_brings_3 : decode cX10_brings 3 = .ok (.invokevirtual 114, 3) := by decide +kernel
theorem dX10_brings_6 : decode cX10_brings 6 = .ok (.ifCond .eq 32, 3) := by decide +kernel
theorem dX10_brings_38 : decode cX10_brings 38 = .ok (.iconst (-1), 1) := by decide +kernel
theorem dX10_brings_39 : decode cX10_brings 39 = .ok (.ireturn, 1) := by decide +kernel
theorem dX10_canFill_0 : decode cX10_canFill 0 = .ok (.aload_n 0, 1) := by decide +kernel
theorem dX10_canFill_1 : decode cX10_canFill 1 = .ok (.iload_n 1, 1) := by decide +kernel
theorem dX10_canFill_2 : decode cX10_canFill 2 = .ok (.iload_n 2, 1) := by decide +kernel
theorem dX10_canFill_3 : decode cX10_canFill 3 = .ok (.invokevirtual 114, 3) := by decide +kernel
theorem dX10_canFill_6 : decode cX10_canFill 6 = .ok (.ifCond .eq 33, 3) := by decide +kernel
theorem dX10_canFill_39 : decode cX10_canFill 39 = .ok (.iconst 0, 1) := by decide +kernel
theorem dX10_canFill_40 : decode cX10_canFill 40 = .ok (.ireturn, 1) := by decide +kernel
theorem dX10_canMend_0 : decode cX10_canMend 0 = .ok (.aload_n 0, 1) := by decide +kernel
theorem dX10_canMend_1 : decode cX10_canMend 1 = .ok (.iload_n 1, 1) := by decide +kernel
theorem dX10_canMend_2 : decode cX10_canMend 2 = .ok (.iload_n 2, 1) := by decide +kernel
theorem dX10_canMend_3 : decode cX10_canMend 3 = .ok (.invokevirtual 114, 3) := by decide +kernel
theorem dX10_canMend_6 : decode cX10_canMend 6 = .ok (.ifCond .eq 41, 3) := by decide +kernel
theorem dX10_canMend_47 : decode cX10_canMend 47 = .ok (.iconst 0, 1) := by decide +kernel
theorem dX10_canMend_48 : decode cX10_canMend 48 = .ok (.ireturn, 1) := by decide +kernel
theorem dX10_deep_0 : decode cX10_deep 0 = .ok (.aload_n 0, 1) := by decide +kernel
theorem dX10_deep_1 : decode cX10_deep 1 = .ok (.iload_n 1, 1) := by decide +kernel
theorem dX10_deep_2 : decode cX10_deep 2 = .ok (.iload_n 2, 1) := by decide +kernel
theorem dX10_deep_3 : decode cX10_deep 3 = .ok (.invokevirtual 156, 3) := by decide +kernel
theorem dX10_deep_6 : decode cX10_deep 6 = .ok (.ifCond .eq 13, 3) := by decide +kernel
theorem dX10_deep_19 : decode cX10_deep 19 = .ok (.iconst (-1), 1) := by decide +kernel
theorem dX10_deep_20 : decode cX10_deep 20 = .ok (.ireturn, 1) := by decide +kernel
theorem dX10_flood_0 : decode cX10_flood 0 = .ok (.aload_n 0, 1) := by decide +kernel
theorem dX10_flood_1 : decode cX10_flood 1 = .ok (.iload_n 1, 1) := by decide +kernel
theorem dX10_flood_2 : decode cX10_flood 2 = .ok (.iload_n 2, 1) := by decide +kernel
theorem dX10_flood_3 : decode cX10_flood 3 = .ok (.invokevirtual 156, 3) := by decide +kernel
theorem dX10_flood_6 : decode cX10_flood 6 = .ok (.ifCond .eq 13, 3) := by decide +kernel
theorem dX10_flood_19 : decode cX10_flood 19 = .ok (.iconst (-1), 1) := by decide +kernel
theorem dX10_flood_20 : decode cX10_flood 20 = .ok (.ireturn, 1) := by decide +kernel
theorem dX10_given_0 : decode cX10_given 0 = .ok (.aload_n 0, 1) := by decide +kernel
theorem dX10_given_1 : decode cX10_given 1 = .ok (.iload_n 1, 1) := by decide +kernel
theorem dX10_given_2 : decode cX10_given 2 = .ok (.iload_n 2, 1) := by decide +kernel
theorem dX10_given_3 : decode cX10_given 3 = .ok (.invokevirtual 156, 3) := by decide +kernel
theorem dX10_given_6 : decode cX10_given 6 = .ok (.ifCond .eq 32, 3) := by decide +kernel
theorem dX10_given_38 : decode cX10_given 38 = .ok (.ldc2_w 159, 3) := by decide +kernel
theorem dX10_given_41 : decode cX10_given 41 = .ok (.lreturn, 1) := by decide +kernel
theorem dX10_hasPond_0 : decode cX10_hasPond 0 = .ok (.aload_n 0, 1) := by decide +kernel
theorem dX10_hasPond_1 : decode cX10_hasPond 1 = .ok (.iload_n 1, 1) := by decide +kernel
theorem dX10_hasPond_2 : decode cX10_hasPond 2 = .ok (.iload_n 2, 1) := by decide +kernel
theorem dX10_hasPond_3 : decode cX10_hasPond 3 = .ok (.invokevirtual 114, 3) := by decide +kernel
theorem dX10_hasPond_6 : decode cX10_hasPond 6 = .ok (.ifCond .eq 21, 3) := by decide +kernel
theorem dX10_hasPond_27 : decode cX10_hasPond 27 = .ok (.iconst 0, 1) := by decide +kernel
theorem dX10_hasPond_28 : decode cX10_hasPond 28 = .ok (.ireturn, 1) := by decide +kernel
theorem dX10_hear_0 : decode cX10_hear 0 = .ok (.aload_n 0, 1) := by decide +kernel
theorem dX10_hear_1 : decode cX10_hear 1 = .ok (.iload_n 1, 1) := by decide +kernel
theorem dX10_hear_2 : decode cX10_hear 2 = .ok (.iload_n 2, 1) := by decide +kernel
theorem dX10_hear_3 : decode cX10_hear 3 = .ok (.iload_n 3, 1) := by decide +kernel
theorem dX10_hear_4 : decode cX10_hear 4 = .ok (.invokevirtual 236, 3) := by decide +kernel
theorem dX10_hear_7 : decode cX10_hear 7 = .ok (.ifCond .eq 15, 3) := by decide +kernel
theorem dX10_hear_22 : decode cX10_hear 22 = .ok (.ldc2_w 246, 3) := by decide +kernel
theorem dX10_hear_25 : decode cX10_hear 25 = .ok (.lreturn, 1) := by decide +kernel
theorem dX10_helps_0 : decode cX10_helps 0 = .ok (.aload_n 0, 1) := by decide +kernel
theorem dX10_helps_1 : decode cX10_helps 1 = .ok (.iload_n 1, 1) := by decide +kernel
theorem dX10_helps_2 : decode cX10_helps 2 = .ok (.iload_n 2, 1) := by decide +kernel
theorem dX10_helps_3 : decode cX10_helps 3 = .ok (.invokevirtual 156, 3) := by decide +kernel
theorem dX10_helps_6 : decode cX10_helps 6 = .ok (.ifCond .eq 18, 3) := by decide +kernel
theorem dX10_helps_24 : decode cX10_helps 24 = .ok (.ldc2_w 159, 3) := by decide +kernel
theorem dX10_helps_27 : decode cX10_helps 27 = .ok (.lreturn, 1) := by decide +kernel
theorem dX10_hill_0 : decode cX10_hill 0 = .ok (.aload_n 0, 1) := by decide +kernel
theorem dX10_hill_1 : decode cX10_hill 1 = .ok (.getfield 10, 3) := by decide +kernel
theorem dX10_hill_4 : decode cX10_hill 4 = .ok (.iload_n 1, 1) := by decide +kernel
theorem dX10_hill_5 : decode cX10_hill 5 = .ok (.invokevirtual 103, 3) := by decide +kernel
theorem dX10_hill_8 : decode cX10_hill 8 = .ok (.ifCond .eq 19, 3) := by decide +kernel
theorem dX10_hill_27 : decode cX10_hill 27 = .ok (.iconst (-1), 1) := by decide +kernel
theorem dX10_hill_28 : decode cX10_hill 28 = .ok (.ireturn, 1) := by decide +kernel
theorem dX10_joint_0 : decode cX10_joint 0 = .ok (.aload_n 0, 1) := by decide +kernel
theorem dX10_joint_1 : decode cX10_joint 1 = .ok (.iload_n 1, 1) := by decide +kernel
theorem dX10_joint_2 : decode cX10_joint 2 = .ok (.iload_n 2, 1) := by decide +kernel
theorem dX10_joint_3 : decode cX10_joint 3 = .ok (.invokevirtual 156, 3) := by decide +kernel
theorem dX10_joint_6 : decode cX10_joint 6 = .ok (.ifCond .eq 32, 3) := by decide +kernel
theorem dX10_joint_38 : decode cX10_joint 38 = .ok (.ldc2_w 159, 3) := by decide +kernel
theorem dX10_joint_41 : decode cX10_joint 41 = .ok (.lreturn, 1) := by decide +kernel
theorem dX10_lays_0 : decode cX10_lays 0 = .ok (.aload_n 0, 1) := by decide +kernel
theorem dX10_lays_1 : decode cX10_lays 1 = .ok (.getfield 10, 3) := by decide +kernel
theorem dX10_lays_4 : decode cX10_lays 4 = .ok (.iload_n 1, 1) := by decide +kernel
theorem dX10_lays_5 : decode cX10_lays 5 = .ok (.invokevirtual 103, 3) := by decide +kernel
theorem dX10_lays_8 : decode cX10_lays 8 = .ok (.ifCond .eq 19, 3) := by decide +kernel
theorem dX10_lays_27 : decode cX10_lays 27 = .ok (.iconst 0, 1) := by decide +kernel
theorem dX10_lays_28 : decode cX10_lays 28 = .ok (.ireturn, 1) := by decide +kernel
theorem dX10_likely_0 : decode cX10_likely 0 = .ok (.aload_n 0, 1) := by decide +kernel
theorem dX10_likely_1 : decode cX10_likely 1 = .ok (.iload_n 1, 1) := by decide +kernel
theorem dX10_likely_2 : decode cX10_likely 2 = .ok (.iload_n 2, 1) := by decide +kernel
theorem dX10_likely_3 : decode cX10_likely 3 = .ok (.invokevirtual 156, 3) := by decide +kernel
theorem dX10_likely_6 : decode cX10_likely 6 = .ok (.ifCond .eq 22, 3) := by decide +kernel
theorem dX10_likely_28 : decode cX10_likely 28 = .ok (.ldc2_w 159, 3) := by decide +kernel
theorem dX10_likely_31 : decode cX10_likely 31 = .ok (.lreturn, 1) := by decide +kernel
theorem dX10_looks_0 : decode cX10_looks 0 = .ok (.aload_n 0, 1) := by decide +kernel
theorem dX10_looks_1 : decode cX10_looks 1 = .ok (.iload_n 1, 1) := by decide +kernel
theorem dX10_looks_2 : decode cX10_looks 2 = .ok (.iload_n 2, 1) := by decide +kernel
theorem dX10_looks_3 : decode cX10_looks 3 = .ok (.invokevirtual 114, 3) := by decide +kernel
theorem dX10_looks_6 : decode cX10_looks 6 = .ok (.ifCond .ne 5, 3) := by decide +kernel
theorem dX10_looks_9 : decode cX10_looks 9 = .ok (.iconst 0, 1) := by decide +kernel
theorem dX10_looks_10 : decode cX10_looks 10 = .ok (.ireturn, 1) := by decide +kernel
theorem dX10_low_0 : decode cX10_low 0 = .ok (.aload_n 0, 1) := by decide +kernel
theorem dX10_low_1 : decode cX10_low 1 = .ok (.iload_n 1, 1) := by decide +kernel
theorem dX10_low_2 : decode cX10_low 2 = .ok (.iload_n 2, 1) := by decide +kernel
theorem dX10_low_3 : decode cX10_low 3 = .ok (.iload_n 3, 1) := by decide +kernel
theorem dX10_low_4 : decode cX10_low 4 = .ok (.invokevirtual 236, 3) := by decide +kernel
theorem dX10_low_7 : decode cX10_low 7 = .ok (.ifCond .eq 21, 3) := by decide +kernel
theorem dX10_low_28 : decode cX10_low 28 = .ok (.iconst (-1), 1) := by decide +kernel
theorem dX10_low_29 : decode cX10_low 29 = .ok (.ireturn, 1) := by decide +kernel
theorem dX10_may_0 : decode cX10_may 0 = .ok (.aload_n 0, 1) := by decide +kernel
theorem dX10_may_1 : decode cX10_may 1 = .ok (.iload_n 1, 1) := by decide +kernel
theorem dX10_may_2 : decode cX10_may 2 = .ok (.iload_n 2, 1) := by decide +kernel
theorem dX10_may_3 : decode cX10_may 3 = .ok (.iload_n 3, 1) := by decide +kernel
theorem dX10_may_4 : decode cX10_may 4 = .ok (.invokevirtual 259, 3) := by decide +kernel
theorem dX10_may_7 : decode cX10_may 7 = .ok (.ifCond .ne 7, 3) := by decide +kernel
theorem dX10_may_10 : decode cX10_may 10 = .ok (.ldc2_w 159, 3) := by decide +kernel
theorem dX10_may_13 : decode cX10_may 13 = .ok (.lreturn, 1) := by decide +kernel
theorem dX10_mean_0 : decode cX10_mean 0 = .ok (.aload_n 0, 1) := by decide +kernel
theorem dX10_mean_1 : decode cX10_mean 1 = .ok (.iload_n 1, 1) := by decide +kernel
theorem dX10_mean_2 : decode cX10_mean 2 = .ok (.iload_n 2, 1) := by decide +kernel
theorem dX10_mean_3 : decode cX10_mean 3 = .ok (.invokevirtual 156, 3) := by decide +kernel
theorem dX10_mean_6 : decode cX10_mean 6 = .ok (.ifCond .eq 15, 3) := by decide +kernel
theorem dX10_mean_21 : decode cX10_mean 21 = .ok (.ldc2_w 159, 3) := by decide +kernel
theorem dX10_mean_24 : decode cX10_mean 24 = .ok (.lreturn, 1) := by decide +kernel
theorem dX10_mended_0 : decode cX10_mended 0 = .ok (.aload_n 0, 1) := by decide +kernel
theorem dX10_mended_1 : decode cX10_mended 1 = .ok (.iload_n 1, 1) := by decide +kernel
theorem dX10_mended_2 : decode cX10_mended 2 = .ok (.iload_n 2, 1) := by decide +kernel
theorem dX10_mended_3 : decode cX10_mended 3 = .ok (.invokevirtual 156, 3) := by decide +kernel
theorem dX10_mended_6 : decode cX10_mended 6 = .ok (.ifCond .eq 17, 3) := by decide +kernel
theorem dX10_mended_23 : decode cX10_mended 23 = .ok (.ldc2_w 159, 3) := by decide +kernel
theorem dX10_mended_26 : decode cX10_mended 26 = .ok (.lreturn, 1) := by decide +kernel
theorem dX10_now_0 : decode cX10_now 0 = .ok (.aload_n 0, 1) := by decide +kernel
theorem dX10_now_1 : decode cX10_now 1 = .ok (.iload_n 1, 1) := by decide +kernel
theorem dX10_now_2 : decode cX10_now 2 = .ok (.iload_n 2, 1) := by decide +kernel
theorem dX10_now_3 : decode cX10_now 3 = .ok (.invokevirtual 114, 3) := by decide +kernel
theorem dX10_now_6 : decode cX10_now 6 = .ok (.ifCond .eq 20, 3) := by decide +kernel
theorem dX10_now_26 : decode cX10_now 26 = .ok (.iconst (-1), 1) := by decide +kernel
theorem dX10_now_27 : decode cX10_now 27 = .ok (.ireturn, 1) := by decide +kernel
theorem dX10_one_0 : decode cX10_one 0 = .ok (.aload_n 0, 1) := by decide +kernel
theorem dX10_one_1 : decode cX10_one 1 = .ok (.iload_n 1, 1) := by decide +kernel
theorem dX10_one_2 : decode cX10_one 2 = .ok (.iload_n 2, 1) := by decide +kernel
theorem dX10_one_3 : decode cX10_one 3 = .ok (.invokevirtual 114, 3) := by decide +kernel
theorem dX10_one_6 : decode cX10_one 6 = .ok (.ifCond .eq 16, 3) := by decide +kernel
theorem dX10_one_22 : decode cX10_one 22 = .ok (.ldc2_w 159, 3) := by decide +kernel
theorem dX10_one_25 : decode cX10_one 25 = .ok (.lreturn, 1) := by decide +kernel
theorem dX10_order_0 : decode cX10_order 0 = .ok (.aload_n 0, 1) := by decide +kernel
theorem dX10_order_1 : decode cX10_order 1 = .ok (.iload_n 1, 1) := by decide +kernel
theorem dX10_order_2 : decode cX10_order 2 = .ok (.iload_n 2, 1) := by decide +kernel
theorem dX10_order_3 : decode cX10_order 3 = .ok (.iload_n 3, 1) := by decide +kernel
theorem dX10_order_4 : decode cX10_order 4 = .ok (.invokevirtual 259, 3) := by decide +kernel
theorem dX10_order_7 : decode cX10_order 7 = .ok (.ifCond .eq 17, 3) := by decide +kernel
theorem dX10_order_24 : decode cX10_order 24 = .ok (.iconst (-1), 1) := by decide +kernel
theorem dX10_order_25 : decode cX10_order 25 = .ok (.ireturn, 1) := by decide +kernel
theorem dX10_plan_0 : decode cX10_plan 0 = .ok (.aload_n 0, 1) := by decide +kernel
theorem dX10_plan_1 : decode cX10_plan 1 = .ok (.iload_n 1, 1) := by decide +kernel
theorem dX10_plan_2 : decode cX10_plan 2 = .ok (.iload_n 2, 1) := by decide +kernel
theorem dX10_plan_3 : decode cX10_plan 3 = .ok (.invokevirtual 114, 3) := by decide +kernel
theorem dX10_plan_6 : decode cX10_plan 6 = .ok (.ifCond .ne 5, 3) := by decide +kernel
theorem dX10_plan_9 : decode cX10_plan 9 = .ok (.iconst (-1), 1) := by decide +kernel
theorem dX10_plan_10 : decode cX10_plan 10 = .ok (.ireturn, 1) := by decide +kernel
theorem dX10_pond_0 : decode cX10_pond 0 = .ok (.aload_n 0, 1) := by decide +kernel
theorem dX10_pond_1 : decode cX10_pond 1 = .ok (.iload_n 1, 1) := by decide +kernel
theorem dX10_pond_2 : decode cX10_pond 2 = .ok (.iload_n 2, 1) := by decide +kernel
theorem dX10_pond_3 : decode cX10_pond 3 = .ok (.invokevirtual 114, 3) := by decide +kernel
theorem dX10_pond_6 : decode cX10_pond 6 = .ok (.ifCond .eq 29, 3) := by decide +kernel
theorem dX10_pond_35 : decode cX10_pond 35 = .ok (.bipush (-2), 2) := by decide +kernel
theorem dX10_pond_37 : decode cX10_pond 37 = .ok (.ireturn, 1) := by decide +kernel
theorem dX10_rows_0 : decode cX10_rows 0 = .ok (.aload_n 0, 1) := by decide +kernel
theorem dX10_rows_1 : decode cX10_rows 1 = .ok (.iload_n 1, 1) := by decide +kernel
theorem dX10_rows_2 : decode cX10_rows 2 = .ok (.iload_n 2, 1) := by decide +kernel
theorem dX10_rows_3 : decode cX10_rows 3 = .ok (.invokevirtual 156, 3) := by decide +kernel
theorem dX10_rows_6 : decode cX10_rows 6 = .ok (.ifCond .ne 7, 3) := by decide +kernel
theorem dX10_rows_9 : decode cX10_rows 9 = .ok (.ldc2_w 159, 3) := by decide +kernel
theorem dX10_rows_12 : decode cX10_rows 12 = .ok (.lreturn, 1) := by decide +kernel
theorem dX10_runs_0 : decode cX10_runs 0 = .ok (.aload_n 0, 1) := by decide +kernel
theorem dX10_runs_1 : decode cX10_runs 1 = .ok (.iload_n 1, 1) := by decide +kernel
theorem dX10_runs_2 : decode cX10_runs 2 = .ok (.iload_n 2, 1) := by decide +kernel
theorem dX10_runs_3 : decode cX10_runs 3 = .ok (.iload_n 3, 1) := by decide +kernel
theorem dX10_runs_4 : decode cX10_runs 4 = .ok (.invokevirtual 236, 3) := by decide +kernel
theorem dX10_runs_7 : decode cX10_runs 7 = .ok (.ifCond .ne 5, 3) := by decide +kernel
theorem dX10_runs_10 : decode cX10_runs 10 = .ok (.iconst (-1), 1) := by decide +kernel
theorem dX10_runs_11 : decode cX10_runs 11 = .ok (.ireturn, 1) := by decide +kernel
theorem dX10_safe_0 : decode cX10_safe 0 = .ok (.aload_n 0, 1) := by decide +kernel
theorem dX10_safe_1 : decode cX10_safe 1 = .ok (.iload_n 1, 1) := by decide +kernel
theorem dX10_safe_2 : decode cX10_safe 2 = .ok (.iload_n 2, 1) := by decide +kernel
theorem dX10_safe_3 : decode cX10_safe 3 = .ok (.invokevirtual 114, 3) := by decide +kernel
theorem dX10_safe_6 : decode cX10_safe 6 = .ok (.ifCond .ne 5, 3) := by decide +kernel
theorem dX10_safe_9 : decode cX10_safe 9 = .ok (.iconst (-1), 1) := by decide +kernel
theorem dX10_safe_10 : decode cX10_safe 10 = .ok (.ireturn, 1) := by decide +kernel
theorem dX10_spared_0 : decode cX10_spared 0 = .ok (.aload_n 0, 1) := by decide +kernel
theorem dX10_spared_1 : decode cX10_spared 1 = .ok (.iload_n 1, 1) := by decide +kernel
theorem dX10_spared_2 : decode cX10_spared 2 = .ok (.iload_n 2, 1) := by decide +kernel
theorem dX10_spared_3 : decode cX10_spared 3 = .ok (.invokevirtual 114, 3) := by decide +kernel
theorem dX10_spared_6 : decode cX10_spared 6 = .ok (.ifCond .eq 17, 3) := by decide +kernel
theorem dX10_spared_23 : decode cX10_spared 23 = .ok (.iconst (-1), 1) := by decide +kernel
theorem dX10_spared_24 : decode cX10_spared 24 = .ok (.ireturn, 1) := by decide +kernel
theorem dX10_spend_0 : decode cX10_spend 0 = .ok (.aload_n 0, 1) := by decide +kernel
theorem dX10_spend_1 : decode cX10_spend 1 = .ok (.iload_n 1, 1) := by decide +kernel
theorem dX10_spend_2 : decode cX10_spend 2 = .ok (.iload_n 2, 1) := by decide +kernel
theorem dX10_spend_3 : decode cX10_spend 3 = .ok (.iload_n 3, 1) := by decide +kernel
theorem dX10_spend_4 : decode cX10_spend 4 = .ok (.iload 4, 2) := by decide +kernel
theorem dX10_spend_6 : decode cX10_spend 6 = .ok (.bipush 100, 2) := by decide +kernel
theorem dX10_spend_8 : decode cX10_spend 8 = .ok (.invokevirtual 204, 3) := by decide +kernel
theorem dX10_spend_11 : decode cX10_spend 11 = .ok (.ifCond .eq 23, 3) := by decide +kernel
theorem dX10_spend_34 : decode cX10_spend 34 = .ok (.iconst (-1), 1) := by decide +kernel
theorem dX10_spend_35 : decode cX10_spend 35 = .ok (.ireturn, 1) := by decide +kernel
theorem dX10_steps_0 : decode cX10_steps 0 = .ok (.aload_n 0, 1) := by decide +kernel
theorem dX10_steps_1 : decode cX10_steps 1 = .ok (.iload_n 1, 1) := by decide +kernel
theorem dX10_steps_2 : decode cX10_steps 2 = .ok (.iload_n 2, 1) := by decide +kernel
theorem dX10_steps_3 : decode cX10_steps 3 = .ok (.iload_n 3, 1) := by decide +kernel
theorem dX10_steps_4 : decode cX10_steps 4 = .ok (.iload 4, 2) := by decide +kernel
theorem dX10_steps_6 : decode cX10_steps 6 = .ok (.sipush 9999, 3) := by decide +kernel
theorem dX10_steps_9 : decode cX10_steps 9 = .ok (.invokevirtual 204, 3) := by decide +kernel
theorem dX10_steps_12 : decode cX10_steps 12 = .ok (.ifCond .eq 23, 3) := by decide +kernel
theorem dX10_steps_35 : decode cX10_steps 35 = .ok (.iconst (-1), 1) := by decide +kernel
theorem dX10_steps_36 : decode cX10_steps 36 = .ok (.ireturn, 1) := by decide +kernel
theorem dX10_storm_0 : decode cX10_storm 0 = .ok (.aload_n 0, 1) := by decide +kernel
theorem dX10_storm_1 : decode cX10_storm 1 = .ok (.iload_n 1, 1) := by decide +kernel
theorem dX10_storm_2 : decode cX10_storm 2 = .ok (.iload_n 2, 1) := by decide +kernel
theorem dX10_storm_3 : decode cX10_storm 3 = .ok (.invokevirtual 114, 3) := by decide +kernel
theorem dX10_storm_6 : decode cX10_storm 6 = .ok (.ifCond .eq 19, 3) := by decide +kernel
theorem dX10_storm_25 : decode cX10_storm 25 = .ok (.iconst (-1), 1) := by decide +kernel
theorem dX10_storm_26 : decode cX10_storm 26 = .ok (.ireturn, 1) := by decide +kernel
theorem dX10_think_0 : decode cX10_think 0 = .ok (.aload_n 0, 1) := by decide +kernel
theorem dX10_think_1 : decode cX10_think 1 = .ok (.iload_n 1, 1) := by decide +kernel
theorem dX10_think_2 : decode cX10_think 2 = .ok (.iload_n 2, 1) := by decide +kernel
theorem dX10_think_3 : decode cX10_think 3 = .ok (.iload_n 3, 1) := by decide +kernel
theorem dX10_think_4 : decode cX10_think 4 = .ok (.invokevirtual 236, 3) := by decide +kernel
theorem dX10_think_7 : decode cX10_think 7 = .ok (.ifCond .ne 5, 3) := by decide +kernel
theorem dX10_think_10 : decode cX10_think 10 = .ok (.iconst (-1), 1) := by decide +kernel
theorem dX10_think_11 : decode cX10_think 11 = .ok (.ireturn, 1) := by decide +kernel
theorem dX10_twice_0 : decode cX10_twice 0 = .ok (.aload_n 0, 1) := by decide +kernel
theorem dX10_twice_1 : decode cX10_twice 1 = .ok (.iload_n 1, 1) := by decide +kernel
theorem dX10_twice_2 : decode cX10_twice 2 = .ok (.iload_n 2, 1) := by decide +kernel
theorem dX10_twice_3 : decode cX10_twice 3 = .ok (.invokevirtual 114, 3) := by decide +kernel
theorem dX10_twice_6 : decode cX10_twice 6 = .ok (.ifCond .eq 36, 3) := by decide +kernel
theorem dX10_twice_42 : decode cX10_twice 42 = .ok (.iconst (-1), 1) := by decide +kernel
theorem dX10_twice_43 : decode cX10_twice 43 = .ok (.ireturn, 1) := by decide +kernel
theorem dX10_upon_0 : decode cX10_upon 0 = .ok (.aload_n 0, 1) := by decide +kernel
theorem dX10_upon_1 : decode cX10_upon 1 = .ok (.iload_n 1, 1) := by decide +kernel
theorem dX10_upon_2 : decode cX10_upon 2 = .ok (.iload_n 2, 1) := by decide +kernel
theorem dX10_upon_3 : decode cX10_upon 3 = .ok (.iload_n 3, 1) := by decide +kernel
theorem dX10_upon_4 : decode cX10_upon 4 = .ok (.invokevirtual 236, 3) := by decide +kernel
theorem dX10_upon_7 : decode cX10_upon 7 = .ok (.ifCond .ne 5, 3) := by decide +kernel
theorem dX10_upon_10 : decode cX10_upon 10 = .ok (.iconst (-1), 1) := by decide +kernel
theorem dX10_upon_11 : decode cX10_upon 11 = .ok (.ireturn, 1) := by decide +kernel
theorem dX10_weighs_0 : decode cX10_weighs 0 = .ok (.aload_n 0, 1) := by decide +kernel
theorem dX10_weighs_1 : decode cX10_weighs 1 = .ok (.iload_n 1, 1) := by decide +kernel
theorem dX10_weighs_2 : decode cX10_weighs 2 = .ok (.iload_n 2, 1) := by decide +kernel
theorem dX10_weighs_3 : decode cX10_weighs 3 = .ok (.invokevirtual 114, 3) := by decide +kernel
theorem dX10_weighs_6 : decode cX10_weighs 6 = .ok (.ifCond .eq 20, 3) := by decide +kernel
theorem dX10_weighs_26 : decode cX10_weighs 26 = .ok (.iconst (-1), 1) := by decide +kernel
theorem dX10_weighs_27 : decode cX10_weighs 27 = .ok (.ireturn, 1) := by decide +kernel
theorem dX10_work_0 : decode cX10_work 0 = .ok (.aload_n 0, 1) := by decide +kernel
theorem dX10_work_1 : decode cX10_work 1 = .ok (.getfield 10, 3) := by decide +kernel
theorem dX10_work_4 : decode cX10_work 4 = .ok (.iload_n 1, 1) := by decide +kernel
theorem dX10_work_5 : decode cX10_work 5 = .ok (.invokevirtual 127, 3) := by decide +kernel
theorem dX10_work_8 : decode cX10_work 8 = .ok (.ifCond .eq 20, 3) := by decide +kernel
theorem dX10_work_28 : decode cX10_work 28 = .ok (.bipush (-2), 2) := by decide +kernel
theorem dX10_work_30 : decode cX10_work 30 = .ok (.ireturn, 1) := by decide +kernel
theorem dX10_worst_0 : decode cX10_worst 0 = .ok (.aload_n 0, 1) := by decide +kernel
theorem dX10_worst_1 : decode cX10_worst 1 = .ok (.iload_n 1, 1) := by decide +kernel
theorem dX10_worst_2 : decode cX10_worst 2 = .ok (.iload_n 2, 1) := by decide +kernel
theorem dX10_worst_3 : decode cX10_worst 3 = .ok (.invokevirtual 156, 3) := by decide +kernel
theorem dX10_worst_6 : decode cX10_worst 6 = .ok (.ifCond .eq 14, 3) := by decide +kernel
theorem dX10_worst_20 : decode cX10_worst 20 = .ok (.ldc2_w 159, 3) := by decide +kernel
theorem dX10_worst_23 : decode cX10_worst 23 = .ok (.lreturn, 1) := by decide +kernel
theorem dX10_years_0 : decode cX10_years 0 = .ok (.aload_n 0, 1) := by decide +kernel
theorem dX10_years_1 : decode cX10_years 1 = .ok (.iload_n 1, 1) := by decide +kernel
theorem dX10_years_2 : decode cX10_years 2 = .ok (.iload_n 2, 1) := by decide +kernel
theorem dX10_years_3 : decode cX10_years 3 = .ok (.invokevirtual 114, 3) := by decide +kernel
theorem dX10_years_6 : decode cX10_years 6 = .ok (.ifCond .eq 16, 3) := by decide +kernel
theorem dX10_years_22 : decode cX10_years 22 = .ok (.ldc2_w 159, 3) := by decide +kernel
theorem dX10_years_25 : decode cX10_years 25 = .ok (.lreturn, 1) := by decide +kernel
theorem dX7_hasHill_0 : decode cX7_hasHill 0 = .ok (.iload_n 1, 1) := by decide +kernel
theorem dX7_hasHill_1 : decode cX7_hasHill 1 = .ok (.ifCond .lt 15, 3) := by decide +kernel
theorem dX7_hasHill_4 : decode cX7_hasHill 4 = .ok (.iload_n 1, 1) := by decide +kernel
theorem dX7_hasHill_5 : decode cX7_hasHill 5 = .ok (.aload_n 0, 1) := by decide +kernel
theorem dX7_hasHill_6 : decode cX7_hasHill 6 = .ok (.getfield 31, 3) := by decide +kernel
theorem dX7_hasHill_9 : decode cX7_hasHill 9 = .ok (.if_icmp .ge 7, 3) := by decide +kernel
theorem dX7_hasHill_16 : decode cX7_hasHill 16 = .ok (.iconst 0, 1) := by decide +kernel
theorem dX7_hasHill_17 : decode cX7_hasHill 17 = .ok (.ireturn, 1) := by decide +kernel
theorem dX7_hasPlan_0 : decode cX7_hasPlan 0 = .ok (.iload_n 1, 1) := by decide +kernel
theorem dX7_hasPlan_1 : decode cX7_hasPlan 1 = .ok (.ifCond .lt 15, 3) := by decide +kernel
theorem dX7_hasPlan_4 : decode cX7_hasPlan 4 = .ok (.iload_n 1, 1) := by decide +kernel
theorem dX7_hasPlan_5 : decode cX7_hasPlan 5 = .ok (.aload_n 0, 1) := by decide +kernel
theorem dX7_hasPlan_6 : decode cX7_hasPlan 6 = .ok (.getfield 40, 3) := by decide +kernel
theorem dX7_hasPlan_9 : decode cX7_hasPlan 9 = .ok (.if_icmp .ge 7, 3) := by decide +kernel
theorem dX7_hasPlan_16 : decode cX7_hasPlan 16 = .ok (.iconst 0, 1) := by decide +kernel
theorem dX7_hasPlan_17 : decode cX7_hasPlan 17 = .ok (.ireturn, 1) := by decide +kernel
set_option maxHeartbeats 4000000 in
set_option maxRecDepth 100000 in
theorem c_X7_hasHill0 {d : Nat} {h : List MC} {i : Int32} (hd : 0 ≤ d) (h1 : h[1]? = some (.inr (7, [.ref 2, .int 0, .int 0, .int (-1), .ref 3, .int 0, .ref 4, .int 0])))  : CT con0 d 0 0 yX7_hasHill cX7_hasHill 2 (some .boolean) [.ref 1, .int i] h (fun r h2 => r = some (.int 0) ∧ h2 = h) := by
  refine CT_of (by decide) (Nat.le_of_ble_eq_true rfl) (fun x hq => ?_)
  show J x yX7_hasHill cX7_hasHill 2 (some .boolean) d 0 0 h.length 0 [(0, .ref 1), (1, .int i)] [] h 0 0
  refine J_iload_n (i := 1) (j := 1) dX7_hasHill_0 rfl rfl ?_
  refine J_if_lt (tgt := 16) dX7_hasHill_1 (by decide) (fun c_1 => ?_) (fun c_1 => ?_)
  · refine J_iconst (v := 0) dX7_hasHill_16 (by decide) ?_
    exact J_zret hq dX7_hasHill_17 rfl rfl (hkz rfl) (Nat.le_refl _) (Nat.le_refl _) ⟨rfl, rfl⟩
  · refine J_iload_n (i := 1) (j := 1) dX7_hasHill_4 rfl rfl ?_
    refine J_aload_n (i := 0) (j := 0) dX7_hasHill_5 rfl rfl ?_
    refine J_get (C := RX7) (T := TX7) (Z := 8) (ci := 7) (f := 5) dX7_hasHill_6 inG7 rfl (by decide) k196 h1 rfl ?_
    refine J_icmp_ge (tgt := 16) dX7_hasHill_9 (by decide) (fun c_2 => ?_) (fun c_2 => ?_)
    · refine J_iconst (v := 0) dX7_hasHill_16 (by decide) ?_
      exact J_zret hq dX7_hasHill_17 rfl rfl (hkz rfl) (Nat.le_refl _) (Nat.le_refl _) ⟨rfl, rfl⟩
    · exact absurd (i_nlt c_1) c_2
set_option maxHeartbeats 4000000 in
set_option maxRecDepth 100000 in
theorem c_X7_hasPlan0 {d : Nat} {h : List MC} {i : Int32} (hd : 0 ≤ d) (h1 : h[1]? = some (.inr (7, [.ref 2, .int 0, .int 0, .int (-1), .ref 3, .int 0, .ref 4, .int 0])))  : CT con0 d 0 0 yX7_hasPlan cX7_hasPlan 2 (some .boolean) [.ref 1, .int i] h (fun r h2 => r = some (.int 0) ∧ h2 = h) := by
  refine CT_of (by decide) (Nat.le_of_ble_eq_true rfl) (fun x hq => ?_)
  show J x yX7_hasPlan cX7_hasPlan 2 (some .boolean) d 0 0 h.length 0 [(0, .ref 1), (1, .int i)] [] h 0 0
  refine J_iload_n (i := 1) (j := 1) dX7_hasPlan_0 rfl rfl ?_
  refine J_if_lt (tgt := 16) dX7_hasPlan_1 (by decide) (fun c_1 => ?_) (fun c_1 => ?_)
  · refine J_iconst (v := 0) dX7_hasPlan_16 (by decide) ?_
    exact J_zret hq dX7_hasPlan_17 rfl rfl (hkz rfl) (Nat.le_refl _) (Nat.le_refl _) ⟨rfl, rfl⟩
  · refine J_iload_n (i := 1) (j := 1) dX7_hasPlan_4 rfl rfl ?_
    refine J_aload_n (i := 0) (j := 0) dX7_hasPlan_5 rfl rfl ?_
    refine J_get (C := RX7) (T := TX7) (Z := 8) (ci := 7) (f := 7) dX7_hasPlan_6 inG7 rfl (by decide) k200 h1 rfl ?_
    refine J_icmp_ge (tgt := 16) dX7_hasPlan_9 (by decide) (fun c_2 => ?_) (fun c_2 => ?_)
    · refine J_iconst (v := 0) dX7_hasPlan_16 (by decide) ?_
      exact J_zret hq dX7_hasPlan_17 rfl rfl (hkz rfl) (Nat.le_refl _) (Nat.le_refl _) ⟨rfl, rfl⟩
    · exact absurd (i_nlt c_1) c_2
set_option maxHeartbeats 4000000 in
set_option maxRecDepth 100000 in
theorem c_X10_lays0 {d : Nat} {h : List MC} {i j : Int32} (hd : 1 ≤ d) (h0 : h[0]? = some (.inr (10, [.ref 1, .ref 27, .ref 28, .ref 29, .ref 43, .ref 49, .ref 53, .ref 56, .ref 57, .ref 79]))) (h1 : h[1]? = some (.inr (7, [.ref 2, .int 0, .int 0, .int (-1), .ref 3, .int 0, .ref 4, .int 0])))  : CT con0 d 0 0 yX10_lays cX10_lays 3 (some .boolean) [.ref 0, .int i, .int j] h (fun r h2 => r = some (.int 0) ∧ h2 = h) := by
  refine CT_of (by decide) (Nat.le_of_ble_eq_true rfl) (fun x hq => ?_)
  show J x yX10_lays cX10_lays 3 (some .boolean) d 0 0 h.length 0 [(0, .ref 0), (1, .int i), (2, .int j)] [] h 0 0
  refine J_aload_n (i := 0) (j := 0) dX10_lays_0 rfl rfl ?_
  refine J_get (C := RX10) (T := TX10) (Z := 10) (ci := 10) (f := 0) dX10_lays_1 inG10 rfl (by decide) k423 h0 rfl ?_
  refine J_iload_n (i := 1) (j := 1) dX10_lays_4 rfl rfl ?_
  refine J_callV (As := [.int i]) (rest := []) dX10_lays_5 (c_X7_hasHill0 (d := 0) (h := h)  (by decide) h1 ) hq.n k703 k704 k705 h1 rfl rfl k88 k706 np_X7_hasHill (Nat.le_trans (by decide) hd) (by decide) (Nat.le_refl _) (Nat.le_refl _) (hkz rfl) rfl (Nat.le_of_ble_eq_true rfl) (fun r_1 h_2 p_3 => ?_)
  obtain ⟨rfl, w_4⟩ := p_3
  refine J_w w_4 ?_
  refine J_if_eq (tgt := 27) dX10_lays_8 (by decide) (fun _ => ?_) (fun q => absurd (by decide) q)
  refine J_iconst (v := 0) dX10_lays_27 (by decide) ?_
  exact J_zret hq dX10_lays_28 rfl rfl (hkz rfl) (Nat.le_refl _) (Nat.le_refl _) ⟨rfl, rfl⟩
set_option maxHeartbeats 4000000 in
set_option maxRecDepth 100000 in
theorem c_X10_looks0 {d : Nat} {h : List MC} {a0 a1 : Int32} (hd : 2 ≤ d) (h0 : h[0]? = some (.inr (10, [.ref 1, .ref 27, .ref 28, .ref 29, .ref 43, .ref 49, .ref 53, .ref 56, .ref 57, .ref 79]))) (h1 : h[1]? = some (.inr (7, [.ref 2, .int 0, .int 0, .int (-1), .ref 3, .int 0, .ref 4, .int 0])))  : CT con0 d 0 0 yX10_looks cX10_looks 3 (some .boolean) [.ref 0, .int a0, .int a1] h (fun r h2 => r = some (.int 0) ∧ h2 = h) := by
  refine CT_of (by decide) (Nat.le_of_ble_eq_true rfl) (fun x hq => ?_)
  show J x yX10_looks cX10_looks 3 (some .boolean) d 0 0 h.length 0 [(0, .ref 0), (1, .int a0), (2, .int a1)] [] h 0 0
  refine J_aload_n (i := 0) (j := 0) dX10_looks_0 rfl rfl ?_
  refine J_iload_n (i := 1) (j := 1) dX10_looks_1 rfl rfl ?_
  refine J_iload_n (i := 2) (j := 2) dX10_looks_2 rfl rfl ?_
  refine J_callV (As := [.int a0, .int a1]) (rest := []) dX10_looks_3 (c_X10_lays0 (d := 1) (h := h)  (by decide) h0 h1 ) hq.n k723 k725 k12 h0 rfl rfl k87 k726 np_X10_lays (Nat.le_trans (by decide) hd) (by decide) (Nat.le_refl _) (Nat.le_refl _) (hkz rfl) rfl (Nat.le_of_ble_eq_true rfl) (fun r_1 h_2 p_3 => ?_)
  obtain ⟨rfl, w_4⟩ := p_3
  refine J_w w_4 ?_
  refine J_if_ne (tgt := 11) dX10_looks_6 (by decide) (fun q => absurd (by decide) q) (fun _ => ?_)
  refine J_iconst (v := 0) dX10_looks_9 (by decide) ?_
  exact J_zret hq dX10_looks_10 rfl rfl (hkz rfl) (Nat.le_refl _) (Nat.le_refl _) ⟨rfl, rfl⟩
set_option maxHeartbeats 4000000 in
set_option maxRecDepth 100000 in
theorem c_X10_hasPond0 {d : Nat} {h : List MC} {a0 a1 a2 : Int32} (hd : 2 ≤ d) (h0 : h[0]? = some (.inr (10, [.ref 1, .ref 27, .ref 28, .ref 29, .ref 43, .ref 49, .ref 53, .ref 56, .ref 57, .ref 79]))) (h1 : h[1]? = some (.inr (7, [.ref 2, .int 0, .int 0, .int (-1), .ref 3, .int 0, .ref 4, .int 0])))  : CT con0 d 0 0 yX10_hasPond cX10_hasPond 4 (some .boolean) [.ref 0, .int a0, .int a1, .int a2] h (fun r h2 => r = some (.int 0) ∧ h2 = h) := by
  refine CT_of (by decide) (Nat.le_of_ble_eq_true rfl) (fun x hq => ?_)
  show J x yX10_hasPond cX10_hasPond 4 (some .boolean) d 0 0 h.length 0 [(0, .ref 0), (1, .int a0), (2, .int a1), (3, .int a2)] [] h 0 0
  refine J_aload_n (i := 0) (j := 0) dX10_hasPond_0 rfl rfl ?_
  refine J_iload_n (i := 1) (j := 1) dX10_hasPond_1 rfl rfl ?_
  refine J_iload_n (i := 2) (j := 2) dX10_hasPond_2 rfl rfl ?_
  refine J_callV (As := [.int a0, .int a1]) (rest := []) dX10_hasPond_3 (c_X10_lays0 (d := 1) (h := h)  (by decide) h0 h1 ) hq.n k723 k725 k12 h0 rfl rfl k87 k726 np_X10_lays (Nat.le_trans (by decide) hd) (by decide) (Nat.le_refl _) (Nat.le_refl _) (hkz rfl) rfl (Nat.le_of_ble_eq_true rfl) (fun r_1 h_2 p_3 => ?_)
  obtain ⟨rfl, w_4⟩ := p_3
  refine J_w w_4 ?_
  refine J_if_eq (tgt := 27) dX10_hasPond_6 (by decide) (fun _ => ?_) (fun q => absurd (by decide) q)
  refine J_iconst (v := 0) dX10_hasPond_27 (by decide) ?_
  exact J_zret hq dX10_hasPond_28 rfl rfl (hkz rfl) (Nat.le_refl _) (Nat.le_refl _) ⟨rfl, rfl⟩
set_option maxHeartbeats 4000000 in
set_option maxRecDepth 100000 in
theorem c_X10_canMend0 {d : Nat} {h : List MC} {a0 a1 a2 a3 a4 : Int32} (hd : 2 ≤ d) (h0 : h[0]? = some (.inr (10, [.ref 1, .ref 27, .ref 28, .ref 29, .ref 43, .ref 49, .ref 53, .ref 56, .ref 57, .ref 79]))) (h1 : h[1]? = some (.inr (7, [.ref 2, .int 0, .int 0, .int (-1), .ref 3, .int 0, .ref 4, .int 0])))  : CT con0 d 0 0 yX10_canMend cX10_canMend 6 (some .boolean) [.ref 0, .int a0, .int a1, .int a2, .int a3, .int a4] h (fun r h2 => r = some (.int 0) ∧ h2 = h) := by
  refine CT_of (by decide) (Nat.le_of_ble_eq_true rfl) (fun x hq => ?_)
  show J x yX10_canMend cX10_canMend 6 (some .boolean) d 0 0 h.length 0 [(0, .ref 0), (1, .int a0), (2, .int a1), (3, .int a2), (4, .int a3), (5, .int a4)] [] h 0 0
  refine J_aload_n (i := 0) (j := 0) dX10_canMend_0 rfl rfl ?_
  refine J_iload_n (i := 1) (j := 1) dX10_canMend_1 rfl rfl ?_
  refine J_iload_n (i := 2) (j := 2) dX10_canMend_2 rfl rfl ?_
  refine J_callV (As := [.int a0, .int a1]) (rest := []) dX10_canMend_3 (c_X10_lays0 (d := 1) (h := h)  (by decide) h0 h1 ) hq.n k723 k725 k12 h0 rfl rfl k87 k726 np_X10_lays (Nat.le_trans (by decide) hd) (by decide) (Nat.le_refl _) (Nat.le_refl _) (hkz rfl) rfl (Nat.le_of_ble_eq_true rfl) (fun r_1 h_2 p_3 => ?_)
  obtain ⟨rfl, w_4⟩ := p_3
  refine J_w w_4 ?_
  refine J_if_eq (tgt := 47) dX10_canMend_6 (by decide) (fun _ => ?_) (fun q => absurd (by decide) q)
  refine J_iconst (v := 0) dX10_canMend_47 (by decide) ?_
  exact J_zret hq dX10_canMend_48 rfl rfl (hkz rfl) (Nat.le_refl _) (Nat.le_refl _) ⟨rfl, rfl⟩
set_option maxHeartbeats 4000000 in
set_option maxRecDepth 100000 in
theorem c_X10_canFill0 {d : Nat} {h : List MC} {a0 a1 a2 : Int32} (hd : 2 ≤ d) (h0 : h[0]? = some (.inr (10, [.ref 1, .ref 27, .ref 28, .ref 29, .ref 43, .ref 49, .ref 53, .ref 56, .ref 57, .ref 79]))) (h1 : h[1]? = some (.inr (7, [.ref 2, .int 0, .int 0, .int (-1), .ref 3, .int 0, .ref 4, .int 0])))  : CT con0 d 0 0 yX10_canFill cX10_canFill 4 (some .boolean) [.ref 0, .int a0, .int a1, .int a2] h (fun r h2 => r = some (.int 0) ∧ h2 = h) := by
  refine CT_of (by decide) (Nat.le_of_ble_eq_true rfl) (fun x hq => ?_)
  show J x yX10_canFill cX10_canFill 4 (some .boolean) d 0 0 h.length 0 [(0, .ref 0), (1, .int a0), (2, .int a1), (3, .int a2)] [] h 0 0
  refine J_aload_n (i := 0) (j := 0) dX10_canFill_0 rfl rfl ?_
  refine J_iload_n (i := 1) (j := 1) dX10_canFill_1 rfl rfl ?_
  refine J_iload_n (i := 2) (j := 2) dX10_canFill_2 rfl rfl ?_
  refine J_callV (As := [.int a0, .int a1]) (rest := []) dX10_canFill_3 (c_X10_lays0 (d := 1) (h := h)  (by decide) h0 h1 ) hq.n k723 k725 k12 h0 rfl rfl k87 k726 np_X10_lays (Nat.le_trans (by decide) hd) (by decide) (Nat.le_refl _) (Nat.le_refl _) (hkz rfl) rfl (Nat.le_of_ble_eq_true rfl) (fun r_1 h_2 p_3 => ?_)
  obtain ⟨rfl, w_4⟩ := p_3
  refine J_w w_4 ?_
  refine J_if_eq (tgt := 39) dX10_canFill_6 (by decide) (fun _ => ?_) (fun q => absurd (by decide) q)
  refine J_iconst (v := 0) dX10_canFill_39 (by decide) ?_
  exact J_zret hq dX10_canFill_40 rfl rfl (hkz rfl) (Nat.le_refl _) (Nat.le_refl _) ⟨rfl, rfl⟩
set_option maxHeartbeats 4000000 in
set_option maxRecDepth 100000 in
theorem c_X10_hill0 {d : Nat} {h : List MC} {a0 a1 : Int32} (hd : 3 ≤ d) (h0 : h[0]? = some (.inr (10, [.ref 1, .ref 27, .ref 28, .ref 29, .ref 43, .ref 49, .ref 53, .ref 56, .ref 57, .ref 79]))) (h1 : h[1]? = some (.inr (7, [.ref 2, .int 0, .int 0, .int (-1), .ref 3, .int 0, .ref 4, .int 0])))  : CT con0 d 0 0 yX10_hill cX10_hill 3 (some .int) [.ref 0, .int a0, .int a1] h (fun r h2 => r = some (.int (-1)) ∧ h2 = h) := by
  refine CT_of (by decide) (Nat.le_of_ble_eq_true rfl) (fun x hq => ?_)
  show J x yX10_hill cX10_hill 3 (some .int) d 0 0 h.length 0 [(0, .ref 0), (1, .int a0), (2, .int a1)] [] h 0 0
  refine J_aload_n (i := 0) (j := 0) dX10_hill_0 rfl rfl ?_
  refine J_get (C := RX10) (T := TX10) (Z := 10) (ci := 10) (f := 0) dX10_hill_1 inG10 rfl (by decide) k423 h0 rfl ?_
  refine J_iload_n (i := 1) (j := 1) dX10_hill_4 rfl rfl ?_
  refine J_callV (As := [.int a0]) (rest := []) dX10_hill_5 (c_X7_hasHill0 (d := 0) (h := h)  (by decide) h1 ) hq.n k703 k704 k705 h1 rfl rfl k88 k706 np_X7_hasHill (Nat.le_trans (by decide) hd) (by decide) (Nat.le_refl _) (Nat.le_refl _) (hkz rfl) rfl (Nat.le_of_ble_eq_true rfl) (fun r_1 h_2 p_3 => ?_)
  obtain ⟨rfl, w_4⟩ := p_3
  refine J_w w_4 ?_
  refine J_if_eq (tgt := 27) dX10_hill_8 (by decide) (fun _ => ?_) (fun q => absurd (by decide) q)
  refine J_iconst (v := (-1)) dX10_hill_27 (by decide) ?_
  exact J_iret hq dX10_hill_28 rfl (hkz rfl) (Nat.le_refl _) (Nat.le_refl _) ⟨rfl, rfl⟩
set_option maxHeartbeats 4000000 in
set_option maxRecDepth 100000 in
theorem c_X10_pond0 {d : Nat} {h : List MC} {a0 a1 a2 a3 : Int32} (hd : 3 ≤ d) (h0 : h[0]? = some (.inr (10, [.ref 1, .ref 27, .ref 28, .ref 29, .ref 43, .ref 49, .ref 53, .ref 56, .ref 57, .ref 79]))) (h1 : h[1]? = some (.inr (7, [.ref 2, .int 0, .int 0, .int (-1), .ref 3, .int 0, .ref 4, .int 0])))  : CT con0 d 0 0 yX10_pond cX10_pond 5 (some .int) [.ref 0, .int a0, .int a1, .int a2, .int a3] h (fun r h2 => r = some (.int (-2)) ∧ h2 = h) := by
  refine CT_of (by decide) (Nat.le_of_ble_eq_true rfl) (fun x hq => ?_)
  show J x yX10_pond cX10_pond 5 (some .int) d 0 0 h.length 0 [(0, .ref 0), (1, .int a0), (2, .int a1), (3, .int a2), (4, .int a3)] [] h 0 0
  refine J_aload_n (i := 0) (j := 0) dX10_pond_0 rfl rfl ?_
  refine J_iload_n (i := 1) (j := 1) dX10_pond_1 rfl rfl ?_
  refine J_iload_n (i := 2) (j := 2) dX10_pond_2 rfl rfl ?_
  refine J_callV (As := [.int a0, .int a1]) (rest := []) dX10_pond_3 (c_X10_lays0 (d := 1) (h := h)  (by decide) h0 h1 ) hq.n k723 k725 k12 h0 rfl rfl k87 k726 np_X10_lays (Nat.le_trans (by decide) hd) (by decide) (Nat.le_refl _) (Nat.le_refl _) (hkz rfl) rfl (Nat.le_of_ble_eq_true rfl) (fun r_1 h_2 p_3 => ?_)
  obtain ⟨rfl, w_4⟩ := p_3
  refine J_w w_4 ?_
  refine J_if_eq (tgt := 35) dX10_pond_6 (by decide) (fun _ => ?_) (fun q => absurd (by decide) q)
  refine J_bipush (v := (-2)) dX10_pond_35 (by decide) ?_
  exact J_iret hq dX10_pond_37 rfl (hkz rfl) (Nat.le_refl _) (Nat.le_refl _) ⟨rfl, rfl⟩
set_option maxHeartbeats 4000000 in
set_option maxRecDepth 100000 in
theorem c_X10_work0 {d : Nat} {h : List MC} {a0 a1 a2 : Int32} (hd : 3 ≤ d) (h0 : h[0]? = some (.inr (10, [.ref 1, .ref 27, .ref 28, .ref 29, .ref 43, .ref 49, .ref 53, .ref 56, .ref 57, .ref 79]))) (h1 : h[1]? = some (.inr (7, [.ref 2, .int 0, .int 0, .int (-1), .ref 3, .int 0, .ref 4, .int 0])))  : CT con0 d 0 0 yX10_work cX10_work 4 (some .int) [.ref 0, .int a0, .int a1, .int a2] h (fun r h2 => r = some (.int (-2)) ∧ h2 = h) := by
  refine CT_of (by decide) (Nat.le_of_ble_eq_true rfl) (fun x hq => ?_)
  show J x yX10_work cX10_work 4 (some .int) d 0 0 h.length 0 [(0, .ref 0), (1, .int a0), (2, .int a1), (3, .int a2)] [] h 0 0
  refine J_aload_n (i := 0) (j := 0) dX10_work_0 rfl rfl ?_
  refine J_get (C := RX10) (T := TX10) (Z := 10) (ci := 10) (f := 0) dX10_work_1 inG10 rfl (by decide) k423 h0 rfl ?_
  refine J_iload_n (i := 1) (j := 1) dX10_work_4 rfl rfl ?_
  refine J_callV (As := [.int a0]) (rest := []) dX10_work_5 (c_X7_hasPlan0 (d := 0) (h := h)  (by decide) h1 ) hq.n k727 k728 k729 h1 rfl rfl k88 k730 np_X7_hasPlan (Nat.le_trans (by decide) hd) (by decide) (Nat.le_refl _) (Nat.le_refl _) (hkz rfl) rfl (Nat.le_of_ble_eq_true rfl) (fun r_1 h_2 p_3 => ?_)
  obtain ⟨rfl, w_4⟩ := p_3
  refine J_w w_4 ?_
  refine J_if_eq (tgt := 28) dX10_work_8 (by decide) (fun _ => ?_) (fun q => absurd (by decide) q)
  refine J_bipush (v := (-2)) dX10_work_28 (by decide) ?_
  exact J_iret hq dX10_work_30 rfl (hkz rfl) (Nat.le_refl _) (Nat.le_refl _) ⟨rfl, rfl⟩
set_option maxHeartbeats 4000000 in
set_option maxRecDepth 100000 in
theorem c_X10_plan0 {d : Nat} {h : List MC} {a0 a1 a2 : Int32} (hd : 3 ≤ d) (h0 : h[0]? = some (.inr (10, [.ref 1, .ref 27, .ref 28, .ref 29, .ref 43, .ref 49, .ref 53, .ref 56, .ref 57, .ref 79]))) (h1 : h[1]? = some (.inr (7, [.ref 2, .int 0, .int 0, .int (-1), .ref 3, .int 0, .ref 4, .int 0])))  : CT con0 d 0 0 yX10_plan cX10_plan 4 (some .int) [.ref 0, .int a0, .int a1, .int a2] h (fun r h2 => r = some (.int (-1)) ∧ h2 = h) := by
  refine CT_of (by decide) (Nat.le_of_ble_eq_true rfl) (fun x hq => ?_)
  show J x yX10_plan cX10_plan 4 (some .int) d 0 0 h.length 0 [(0, .ref 0), (1, .int a0), (2, .int a1), (3, .int a2)] [] h 0 0
  refine J_aload_n (i := 0) (j := 0) dX10_plan_0 rfl rfl ?_
  refine J_iload_n (i := 1) (j := 1) dX10_plan_1 rfl rfl ?_
  refine J_iload_n (i := 2) (j := 2) dX10_plan_2 rfl rfl ?_
  refine J_callV (As := [.int a0, .int a1]) (rest := []) dX10_plan_3 (c_X10_lays0 (d := 1) (h := h)  (by decide) h0 h1 ) hq.n k723 k725 k12 h0 rfl rfl k87 k726 np_X10_lays (Nat.le_trans (by decide) hd) (by decide) (Nat.le_refl _) (Nat.le_refl _) (hkz rfl) rfl (Nat.le_of_ble_eq_true rfl) (fun r_1 h_2 p_3 => ?_)
  obtain ⟨rfl, w_4⟩ := p_3
  refine J_w w_4 ?_
  refine J_if_ne (tgt := 11) dX10_plan_6 (by decide) (fun q => absurd (by decide) q) (fun _ => ?_)
  refine J_iconst (v := (-1)) dX10_plan_9 (by decide) ?_
  exact J_iret hq dX10_plan_10 rfl (hkz rfl) (Nat.le_refl _) (Nat.le_refl _) ⟨rfl, rfl⟩
set_option maxHeartbeats 4000000 in
set_option maxRecDepth 100000 in
theorem c_X10_storm0 {d : Nat} {h : List MC} {a0 a1 a2 a3 a4 : Int32} (hd : 3 ≤ d) (h0 : h[0]? = some (.inr (10, [.ref 1, .ref 27, .ref 28, .ref 29, .ref 43, .ref 49, .ref 53, .ref 56, .ref 57, .ref 79]))) (h1 : h[1]? = some (.inr (7, [.ref 2, .int 0, .int 0, .int (-1), .ref 3, .int 0, .ref 4, .int 0])))  : CT con0 d 0 0 yX10_storm cX10_storm 6 (some .int) [.ref 0, .int a0, .int a1, .int a2, .int a3, .int a4] h (fun r h2 => r = some (.int (-1)) ∧ h2 = h) := by
  refine CT_of (by decide) (Nat.le_of_ble_eq_true rfl) (fun x hq => ?_)
  show J x yX10_storm cX10_storm 6 (some .int) d 0 0 h.length 0 [(0, .ref 0), (1, .int a0), (2, .int a1), (3, .int a2), (4, .int a3), (5, .int a4)] [] h 0 0
  refine J_aload_n (i := 0) (j := 0) dX10_storm_0 rfl rfl ?_
  refine J_iload_n (i := 1) (j := 1) dX10_storm_1 rfl rfl ?_
  refine J_iload_n (i := 2) (j := 2) dX10_storm_2 rfl rfl ?_
  refine J_callV (As := [.int a0, .int a1]) (rest := []) dX10_storm_3 (c_X10_lays0 (d := 1) (h := h)  (by decide) h0 h1 ) hq.n k723 k725 k12 h0 rfl rfl k87 k726 np_X10_lays (Nat.le_trans (by decide) hd) (by decide) (Nat.le_refl _) (Nat.le_refl _) (hkz rfl) rfl (Nat.le_of_ble_eq_true rfl) (fun r_1 h_2 p_3 => ?_)
  obtain ⟨rfl, w_4⟩ := p_3
  refine J_w w_4 ?_
  refine J_if_eq (tgt := 25) dX10_storm_6 (by decide) (fun _ => ?_) (fun q => absurd (by decide) q)
  refine J_iconst (v := (-1)) dX10_storm_25 (by decide) ?_
  exact J_iret hq dX10_storm_26 rfl (hkz rfl) (Nat.le_refl _) (Nat.le_refl _) ⟨rfl, rfl⟩
set_option maxHeartbeats 4000000 in
set_option maxRecDepth 100000 in
theorem c_X10_likely0 {d : Nat} {h : List MC} {a0 a1 a2 : Int32} (hd : 3 ≤ d) (h0 : h[0]? = some (.inr (10, [.ref 1, .ref 27, .ref 28, .ref 29, .ref 43, .ref 49, .ref 53, .ref 56, .ref 57, .ref 79]))) (h1 : h[1]? = some (.inr (7, [.ref 2, .int 0, .int 0, .int (-1), .ref 3, .int 0, .ref 4, .int 0])))  : CT con0 d 0 0 yX10_likely cX10_likely 4 (some .long) [.ref 0, .int a0, .int a1, .int a2] h (fun r h2 => r = some (.long (-1)) ∧ h2 = h) := by
  refine CT_of (by decide) (Nat.le_of_ble_eq_true rfl) (fun x hq => ?_)
  show J x yX10_likely cX10_likely 4 (some .long) d 0 0 h.length 0 [(0, .ref 0), (1, .int a0), (2, .int a1), (3, .int a2)] [] h 0 0
  refine J_aload_n (i := 0) (j := 0) dX10_likely_0 rfl rfl ?_
  refine J_iload_n (i := 1) (j := 1) dX10_likely_1 rfl rfl ?_
  refine J_iload_n (i := 2) (j := 2) dX10_likely_2 rfl rfl ?_
  refine J_callV (As := [.int a0, .int a1]) (rest := []) dX10_likely_3 (c_X10_looks0 (d := 2) (h := h)  (by decide) h0 h1 ) hq.n k852 k854 k23 h0 rfl rfl k87 k855 np_X10_looks (Nat.le_trans (by decide) hd) (by decide) (Nat.le_refl _) (Nat.le_refl _) (hkz rfl) rfl (Nat.le_of_ble_eq_true rfl) (fun r_1 h_2 p_3 => ?_)
  obtain ⟨rfl, w_4⟩ := p_3
  refine J_w w_4 ?_
  refine J_if_eq (tgt := 28) dX10_likely_6 (by decide) (fun _ => ?_) (fun q => absurd (by decide) q)
  refine J_ldc2 (v := (-1)) dX10_likely_28 k877 ?_
  exact J_lret hq dX10_likely_31 rfl (hkz rfl) (Nat.le_refl _) (Nat.le_refl _) ⟨rfl, rfl⟩
set_option maxHeartbeats 4000000 in
set_option maxRecDepth 100000 in
theorem c_X10_mean0 {d : Nat} {h : List MC} {a0 a1 a2 : Int32} (hd : 3 ≤ d) (h0 : h[0]? = some (.inr (10, [.ref 1, .ref 27, .ref 28, .ref 29, .ref 43, .ref 49, .ref 53, .ref 56, .ref 57, .ref 79]))) (h1 : h[1]? = some (.inr (7, [.ref 2, .int 0, .int 0, .int (-1), .ref 3, .int 0, .ref 4, .int 0])))  : CT con0 d 0 0 yX10_mean cX10_mean 4 (some .long) [.ref 0, .int a0, .int a1, .int a2] h (fun r h2 => r = some (.long (-1)) ∧ h2 = h) := by
  refine CT_of (by decide) (Nat.le_of_ble_eq_true rfl) (fun x hq => ?_)
  show J x yX10_mean cX10_mean 4 (some .long) d 0 0 h.length 0 [(0, .ref 0), (1, .int a0), (2, .int a1), (3, .int a2)] [] h 0 0
  refine J_aload_n (i := 0) (j := 0) dX10_mean_0 rfl rfl ?_
  refine J_iload_n (i := 1) (j := 1) dX10_mean_1 rfl rfl ?_
  refine J_iload_n (i := 2) (j := 2) dX10_mean_2 rfl rfl ?_
  refine J_callV (As := [.int a0, .int a1]) (rest := []) dX10_mean_3 (c_X10_looks0 (d := 2) (h := h)  (by decide) h0 h1 ) hq.n k852 k854 k23 h0 rfl rfl k87 k855 np_X10_looks (Nat.le_trans (by decide) hd) (by decide) (Nat.le_refl _) (Nat.le_refl _) (hkz rfl) rfl (Nat.le_of_ble_eq_true rfl) (fun r_1 h_2 p_3 => ?_)
  obtain ⟨rfl, w_4⟩ := p_3
  refine J_w w_4 ?_
  refine J_if_eq (tgt := 21) dX10_mean_6 (by decide) (fun _ => ?_) (fun q => absurd (by decide) q)
  refine J_ldc2 (v := (-1)) dX10_mean_21 k877 ?_
  exact J_lret hq dX10_mean_24 rfl (hkz rfl) (Nat.le_refl _) (Nat.le_refl _) ⟨rfl, rfl⟩
set_option maxHeartbeats 4000000 in
set_option maxRecDepth 100000 in
theorem c_X10_rows0 {d : Nat} {h : List MC} {a0 a1 a2 : Int32} (hd : 3 ≤ d) (h0 : h[0]? = some (.inr (10, [.ref 1, .ref 27, .ref 28, .ref 29, .ref 43, .ref 49, .ref 53, .ref 56, .ref 57, .ref 79]))) (h1 : h[1]? = some (.inr (7, [.ref 2, .int 0, .int 0, .int (-1), .ref 3, .int 0, .ref 4, .int 0])))  : CT con0 d 0 0 yX10_rows cX10_rows 5 (some .long) [.ref 0, .int a0, .int a1, .int a2] h (fun r h2 => r = some (.long (-1)) ∧ h2 = h) := by
  refine CT_of (by decide) (Nat.le_of_ble_eq_true rfl) (fun x hq => ?_)
  show J x yX10_rows cX10_rows 5 (some .long) d 0 0 h.length 0 [(0, .ref 0), (1, .int a0), (2, .int a1), (3, .int a2)] [] h 0 0
  refine J_aload_n (i := 0) (j := 0) dX10_rows_0 rfl rfl ?_
  refine J_iload_n (i := 1) (j := 1) dX10_rows_1 rfl rfl ?_
  refine J_iload_n (i := 2) (j := 2) dX10_rows_2 rfl rfl ?_
  refine J_callV (As := [.int a0, .int a1]) (rest := []) dX10_rows_3 (c_X10_looks0 (d := 2) (h := h)  (by decide) h0 h1 ) hq.n k852 k854 k23 h0 rfl rfl k87 k855 np_X10_looks (Nat.le_trans (by decide) hd) (by decide) (Nat.le_refl _) (Nat.le_refl _) (hkz rfl) rfl (Nat.le_of_ble_eq_true rfl) (fun r_1 h_2 p_3 => ?_)
  obtain ⟨rfl, w_4⟩ := p_3
  refine J_w w_4 ?_
  refine J_if_ne (tgt := 13) dX10_rows_6 (by decide) (fun q => absurd (by decide) q) (fun _ => ?_)
  refine J_ldc2 (v := (-1)) dX10_rows_9 k877 ?_
  exact J_lret hq dX10_rows_12 rfl (hkz rfl) (Nat.le_refl _) (Nat.le_refl _) ⟨rfl, rfl⟩
set_option maxHeartbeats 4000000 in
set_option maxRecDepth 100000 in
theorem c_X10_brings0 {d : Nat} {h : List MC} {a0 a1 a2 a3 : Int32} (hd : 3 ≤ d) (h0 : h[0]? = some (.inr (10, [.ref 1, .ref 27, .ref 28, .ref 29, .ref 43, .ref 49, .ref 53, .ref 56, .ref 57, .ref 79]))) (h1 : h[1]? = some (.inr (7, [.ref 2, .int 0, .int 0, .int (-1), .ref 3, .int 0, .ref 4, .int 0])))  : CT con0 d 0 0 yX10_brings cX10_brings 7 (some .int) [.ref 0, .int a0, .int a1, .int a2, .int a3] h (fun r h2 => r = some (.int (-1)) ∧ h2 = h) := by
  refine CT_of (by decide) (Nat.le_of_ble_eq_true rfl) (fun x hq => ?_)
  show J x yX10_brings cX10_brings 7 (some .int) d 0 0 h.length 0 [(0, .ref 0), (1, .int a0), (2, .int a1), (3, .int a2), (4, .int a3)] [] h 0 0
  refine J_aload_n (i := 0) (j := 0) dX10_brings_0 rfl rfl ?_
  refine J_iload_n (i := 1) (j := 1) dX10_brings_1 rfl rfl ?_
  refine J_iload_n (i := 2) (j := 2) dX10_brings_2 rfl rfl ?_
  refine J_callV (As := [.int a0, .int a1]) (rest := []) dX10_brings_3 (c_X10_lays0 (d := 1) (h := h)  (by decide) h0 h1 ) hq.n k723 k725 k12 h0 rfl rfl k87 k726 np_X10_lays (Nat.le_trans (by decide) hd) (by decide) (Nat.le_refl _) (Nat.le_refl _) (hkz rfl) rfl (Nat.le_of_ble_eq_true rfl) (fun r_1 h_2 p_3 => ?_)
  obtain ⟨rfl, w_4⟩ := p_3
  refine J_w w_4 ?_
  refine J_if_eq (tgt := 38) dX10_brings_6 (by decide) (fun _ => ?_) (fun q => absurd (by decide) q)
  refine J_iconst (v := (-1)) dX10_brings_38 (by decide) ?_
  exact J_iret hq dX10_brings_39 rfl (hkz rfl) (Nat.le_refl _) (Nat.le_refl _) ⟨rfl, rfl⟩
set_option maxHeartbeats 4000000 in
set_option maxRecDepth 100000 in
theorem c_X10_best0 {d : Nat} {h : List MC} {a0 a1 a2 a3 : Int32} (hd : 3 ≤ d) (h0 : h[0]? = some (.inr (10, [.ref 1, .ref 27, .ref 28, .ref 29, .ref 43, .ref 49, .ref 53, .ref 56, .ref 57, .ref 79]))) (h1 : h[1]? = some (.inr (7, [.ref 2, .int 0, .int 0, .int (-1), .ref 3, .int 0, .ref 4, .int 0])))  : CT con0 d 0 0 yX10_best cX10_best 5 (some .int) [.ref 0, .int a0, .int a1, .int a2, .int a3] h (fun r h2 => r = some (.int (-1)) ∧ h2 = h) := by
  refine CT_of (by decide) (Nat.le_of_ble_eq_true rfl) (fun x hq => ?_)
  show J x yX10_best cX10_best 5 (some .int) d 0 0 h.length 0 [(0, .ref 0), (1, .int a0), (2, .int a1), (3, .int a2), (4, .int a3)] [] h 0 0
  refine J_aload_n (i := 0) (j := 0) dX10_best_0 rfl rfl ?_
  refine J_iload_n (i := 1) (j := 1) dX10_best_1 rfl rfl ?_
  refine J_iload_n (i := 2) (j := 2) dX10_best_2 rfl rfl ?_
  refine J_iload_n (i := 3) (j := 3) dX10_best_3 rfl rfl ?_
  refine J_iload (i := 4) (j := 4) dX10_best_4 rfl ?_
  refine J_sipush (v := 9999) dX10_best_6 (by decide) ?_
  refine J_callV (As := [.int a0, .int a1, .int a2, .int a3, .int 9999]) (rest := []) dX10_best_9 (c_X10_canMend0 (d := 2) (h := h)  (by decide) h0 h1 ) hq.n k938 k940 k26 h0 rfl rfl k87 k941 np_X10_canMend (Nat.le_trans (by decide) hd) (by decide) (Nat.le_refl _) (Nat.le_refl _) (hkz rfl) rfl (Nat.le_of_ble_eq_true rfl) (fun r_1 h_2 p_3 => ?_)
  obtain ⟨rfl, w_4⟩ := p_3
  refine J_w w_4 ?_
  refine J_if_eq (tgt := 35) dX10_best_12 (by decide) (fun _ => ?_) (fun q => absurd (by decide) q)
  refine J_iconst (v := (-1)) dX10_best_35 (by decide) ?_
  exact J_iret hq dX10_best_36 rfl (hkz rfl) (Nat.le_refl _) (Nat.le_refl _) ⟨rfl, rfl⟩
set_option maxHeartbeats 4000000 in
set_option maxRecDepth 100000 in
theorem c_X10_steps0 {d : Nat} {h : List MC} {a0 a1 a2 a3 : Int32} (hd : 3 ≤ d) (h0 : h[0]? = some (.inr (10, [.ref 1, .ref 27, .ref 28, .ref 29, .ref 43, .ref 49, .ref 53, .ref 56, .ref 57, .ref 79]))) (h1 : h[1]? = some (.inr (7, [.ref 2, .int 0, .int 0, .int (-1), .ref 3, .int 0, .ref 4, .int 0])))  : CT con0 d 0 0 yX10_steps cX10_steps 5 (some .int) [.ref 0, .int a0, .int a1, .int a2, .int a3] h (fun r h2 => r = some (.int (-1)) ∧ h2 = h) := by
  refine CT_of (by decide) (Nat.le_of_ble_eq_true rfl) (fun x hq => ?_)
  show J x yX10_steps cX10_steps 5 (some .int) d 0 0 h.length 0 [(0, .ref 0), (1, .int a0), (2, .int a1), (3, .int a2), (4, .int a3)] [] h 0 0
  refine J_aload_n (i := 0) (j := 0) dX10_steps_0 rfl rfl ?_
  refine J_iload_n (i := 1) (j := 1) dX10_steps_1 rfl rfl ?_
  refine J_iload_n (i := 2) (j := 2) dX10_steps_2 rfl rfl ?_
  refine J_iload_n (i := 3) (j := 3) dX10_steps_3 rfl rfl ?_
  refine J_iload (i := 4) (j := 4) dX10_steps_4 rfl ?_
  refine J_sipush (v := 9999) dX10_steps_6 (by decide) ?_
  refine J_callV (As := [.int a0, .int a1, .int a2, .int a3, .int 9999]) (rest := []) dX10_steps_9 (c_X10_canMend0 (d := 2) (h := h)  (by decide) h0 h1 ) hq.n k938 k940 k26 h0 rfl rfl k87 k941 np_X10_canMend (Nat.le_trans (by decide) hd) (by decide) (Nat.le_refl _) (Nat.le_refl _) (hkz rfl) rfl (Nat.le_of_ble_eq_true rfl) (fun r_1 h_2 p_3 => ?_)
  obtain ⟨rfl, w_4⟩ := p_3
  refine J_w w_4 ?_
  refine J_if_eq (tgt := 35) dX10_steps_12 (by decide) (fun _ => ?_) (fun q => absurd (by decide) q)
  refine J_iconst (v := (-1)) dX10_steps_35 (by decide) ?_
  exact J_iret hq dX10_steps_36 rfl (hkz rfl) (Nat.le_refl _) (Nat.le_refl _) ⟨rfl, rfl⟩
set_option maxHeartbeats 4000000 in
set_option maxRecDepth 100000 in
theorem c_X10_mended0 {d : Nat} {h : List MC} {a0 a1 a2 : Int32} (hd : 3 ≤ d) (h0 : h[0]? = some (.inr (10, [.ref 1, .ref 27, .ref 28, .ref 29, .ref 43, .ref 49, .ref 53, .ref 56, .ref 57, .ref 79]))) (h1 : h[1]? = some (.inr (7, [.ref 2, .int 0, .int 0, .int (-1), .ref 3, .int 0, .ref 4, .int 0])))  : CT con0 d 0 0 yX10_mended cX10_mended 4 (some .long) [.ref 0, .int a0, .int a1, .int a2] h (fun r h2 => r = some (.long (-1)) ∧ h2 = h) := by
  refine CT_of (by decide) (Nat.le_of_ble_eq_true rfl) (fun x hq => ?_)
  show J x yX10_mended cX10_mended 4 (some .long) d 0 0 h.length 0 [(0, .ref 0), (1, .int a0), (2, .int a1), (3, .int a2)] [] h 0 0
  refine J_aload_n (i := 0) (j := 0) dX10_mended_0 rfl rfl ?_
  refine J_iload_n (i := 1) (j := 1) dX10_mended_1 rfl rfl ?_
  refine J_iload_n (i := 2) (j := 2) dX10_mended_2 rfl rfl ?_
  refine J_callV (As := [.int a0, .int a1]) (rest := []) dX10_mended_3 (c_X10_looks0 (d := 2) (h := h)  (by decide) h0 h1 ) hq.n k852 k854 k23 h0 rfl rfl k87 k855 np_X10_looks (Nat.le_trans (by decide) hd) (by decide) (Nat.le_refl _) (Nat.le_refl _) (hkz rfl) rfl (Nat.le_of_ble_eq_true rfl) (fun r_1 h_2 p_3 => ?_)
  obtain ⟨rfl, w_4⟩ := p_3
  refine J_w w_4 ?_
  refine J_if_eq (tgt := 23) dX10_mended_6 (by decide) (fun _ => ?_) (fun q => absurd (by decide) q)
  refine J_ldc2 (v := (-1)) dX10_mended_23 k877 ?_
  exact J_lret hq dX10_mended_26 rfl (hkz rfl) (Nat.le_refl _) (Nat.le_refl _) ⟨rfl, rfl⟩
set_option maxHeartbeats 4000000 in
set_option maxRecDepth 100000 in
theorem c_X10_one0 {d : Nat} {h : List MC} {a0 a1 a2 : Int32} (hd : 3 ≤ d) (h0 : h[0]? = some (.inr (10, [.ref 1, .ref 27, .ref 28, .ref 29, .ref 43, .ref 49, .ref 53, .ref 56, .ref 57, .ref 79]))) (h1 : h[1]? = some (.inr (7, [.ref 2, .int 0, .int 0, .int (-1), .ref 3, .int 0, .ref 4, .int 0])))  : CT con0 d 0 0 yX10_one cX10_one 4 (some .long) [.ref 0, .int a0, .int a1, .int a2] h (fun r h2 => r = some (.long (-1)) ∧ h2 = h) := by
  refine CT_of (by decide) (Nat.le_of_ble_eq_true rfl) (fun x hq => ?_)
  show J x yX10_one cX10_one 4 (some .long) d 0 0 h.length 0 [(0, .ref 0), (1, .int a0), (2, .int a1), (3, .int a2)] [] h 0 0
  refine J_aload_n (i := 0) (j := 0) dX10_one_0 rfl rfl ?_
  refine J_iload_n (i := 1) (j := 1) dX10_one_1 rfl rfl ?_
  refine J_iload_n (i := 2) (j := 2) dX10_one_2 rfl rfl ?_
  refine J_callV (As := [.int a0, .int a1]) (rest := []) dX10_one_3 (c_X10_lays0 (d := 1) (h := h)  (by decide) h0 h1 ) hq.n k723 k725 k12 h0 rfl rfl k87 k726 np_X10_lays (Nat.le_trans (by decide) hd) (by decide) (Nat.le_refl _) (Nat.le_refl _) (hkz rfl) rfl (Nat.le_of_ble_eq_true rfl) (fun r_1 h_2 p_3 => ?_)
  obtain ⟨rfl, w_4⟩ := p_3
  refine J_w w_4 ?_
  refine J_if_eq (tgt := 22) dX10_one_6 (by decide) (fun _ => ?_) (fun q => absurd (by decide) q)
  refine J_ldc2 (v := (-1)) dX10_one_22 k877 ?_
  exact J_lret hq dX10_one_25 rfl (hkz rfl) (Nat.le_refl _) (Nat.le_refl _) ⟨rfl, rfl⟩
set_option maxHeartbeats 4000000 in
set_option maxRecDepth 100000 in
theorem c_X10_low0 {d : Nat} {h : List MC} {a0 a1 a2 : Int32} (hd : 3 ≤ d) (h0 : h[0]? = some (.inr (10, [.ref 1, .ref 27, .ref 28, .ref 29, .ref 43, .ref 49, .ref 53, .ref 56, .ref 57, .ref 79]))) (h1 : h[1]? = some (.inr (7, [.ref 2, .int 0, .int 0, .int (-1), .ref 3, .int 0, .ref 4, .int 0])))  : CT con0 d 0 0 yX10_low cX10_low 4 (some .int) [.ref 0, .int a0, .int a1, .int a2] h (fun r h2 => r = some (.int (-1)) ∧ h2 = h) := by
  refine CT_of (by decide) (Nat.le_of_ble_eq_true rfl) (fun x hq => ?_)
  show J x yX10_low cX10_low 4 (some .int) d 0 0 h.length 0 [(0, .ref 0), (1, .int a0), (2, .int a1), (3, .int a2)] [] h 0 0
  refine J_aload_n (i := 0) (j := 0) dX10_low_0 rfl rfl ?_
  refine J_iload_n (i := 1) (j := 1) dX10_low_1 rfl rfl ?_
  refine J_iload_n (i := 2) (j := 2) dX10_low_2 rfl rfl ?_
  refine J_iload_n (i := 3) (j := 3) dX10_low_3 rfl rfl ?_
  refine J_callV (As := [.int a0, .int a1, .int a2]) (rest := []) dX10_low_4 (c_X10_hasPond0 (d := 2) (h := h)  (by decide) h0 h1 ) hq.n k1005 k1007 k29 h0 rfl rfl k87 k1008 np_X10_hasPond (Nat.le_trans (by decide) hd) (by decide) (Nat.le_refl _) (Nat.le_refl _) (hkz rfl) rfl (Nat.le_of_ble_eq_true rfl) (fun r_1 h_2 p_3 => ?_)
  obtain ⟨rfl, w_4⟩ := p_3
  refine J_w w_4 ?_
  refine J_if_eq (tgt := 28) dX10_low_7 (by decide) (fun _ => ?_) (fun q => absurd (by decide) q)
  refine J_iconst (v := (-1)) dX10_low_28 (by decide) ?_
  exact J_iret hq dX10_low_29 rfl (hkz rfl) (Nat.le_refl _) (Nat.le_refl _) ⟨rfl, rfl⟩
set_option maxHeartbeats 4000000 in
set_option maxRecDepth 100000 in
theorem c_X10_helps0 {d : Nat} {h : List MC} {a0 a1 a2 a3 : Int32} (hd : 3 ≤ d) (h0 : h[0]? = some (.inr (10, [.ref 1, .ref 27, .ref 28, .ref 29, .ref 43, .ref 49, .ref 53, .ref 56, .ref 57, .ref 79]))) (h1 : h[1]? = some (.inr (7, [.ref 2, .int 0, .int 0, .int (-1), .ref 3, .int 0, .ref 4, .int 0])))  : CT con0 d 0 0 yX10_helps cX10_helps 8 (some .long) [.ref 0, .int a0, .int a1, .int a2, .int a3] h (fun r h2 => r = some (.long (-1)) ∧ h2 = h) := by
  refine CT_of (by decide) (Nat.le_of_ble_eq_true rfl) (fun x hq => ?_)
  show J x yX10_helps cX10_helps 8 (some .long) d 0 0 h.length 0 [(0, .ref 0), (1, .int a0), (2, .int a1), (3, .int a2), (4, .int a3)] [] h 0 0
  refine J_aload_n (i := 0) (j := 0) dX10_helps_0 rfl rfl ?_
  refine J_iload_n (i := 1) (j := 1) dX10_helps_1 rfl rfl ?_
  refine J_iload_n (i := 2) (j := 2) dX10_helps_2 rfl rfl ?_
  refine J_callV (As := [.int a0, .int a1]) (rest := []) dX10_helps_3 (c_X10_looks0 (d := 2) (h := h)  (by decide) h0 h1 ) hq.n k852 k854 k23 h0 rfl rfl k87 k855 np_X10_looks (Nat.le_trans (by decide) hd) (by decide) (Nat.le_refl _) (Nat.le_refl _) (hkz rfl) rfl (Nat.le_of_ble_eq_true rfl) (fun r_1 h_2 p_3 => ?_)
  obtain ⟨rfl, w_4⟩ := p_3
  refine J_w w_4 ?_
  refine J_if_eq (tgt := 24) dX10_helps_6 (by decide) (fun _ => ?_) (fun q => absurd (by decide) q)
  refine J_ldc2 (v := (-1)) dX10_helps_24 k877 ?_
  exact J_lret hq dX10_helps_27 rfl (hkz rfl) (Nat.le_refl _) (Nat.le_refl _) ⟨rfl, rfl⟩
set_option maxHeartbeats 4000000 in
set_option maxRecDepth 100000 in
theorem c_X10_alone0 {d : Nat} {h : List MC} {a0 a1 a2 : Int32} (hd : 3 ≤ d) (h0 : h[0]? = some (.inr (10, [.ref 1, .ref 27, .ref 28, .ref 29, .ref 43, .ref 49, .ref 53, .ref 56, .ref 57, .ref 79]))) (h1 : h[1]? = some (.inr (7, [.ref 2, .int 0, .int 0, .int (-1), .ref 3, .int 0, .ref 4, .int 0])))  : CT con0 d 0 0 yX10_alone cX10_alone 5 (some .long) [.ref 0, .int a0, .int a1, .int a2] h (fun r h2 => r = some (.long (-1)) ∧ h2 = h) := by
  refine CT_of (by decide) (Nat.le_of_ble_eq_true rfl) (fun x hq => ?_)
  show J x yX10_alone cX10_alone 5 (some .long) d 0 0 h.length 0 [(0, .ref 0), (1, .int a0), (2, .int a1), (3, .int a2)] [] h 0 0
  refine J_aload_n (i := 0) (j := 0) dX10_alone_0 rfl rfl ?_
  refine J_iload_n (i := 1) (j := 1) dX10_alone_1 rfl rfl ?_
  refine J_iload_n (i := 2) (j := 2) dX10_alone_2 rfl rfl ?_
  refine J_callV (As := [.int a0, .int a1]) (rest := []) dX10_alone_3 (c_X10_looks0 (d := 2) (h := h)  (by decide) h0 h1 ) hq.n k852 k854 k23 h0 rfl rfl k87 k855 np_X10_looks (Nat.le_trans (by decide) hd) (by decide) (Nat.le_refl _) (Nat.le_refl _) (hkz rfl) rfl (Nat.le_of_ble_eq_true rfl) (fun r_1 h_2 p_3 => ?_)
  obtain ⟨rfl, w_4⟩ := p_3
  refine J_w w_4 ?_
  refine J_if_eq (tgt := 16) dX10_alone_6 (by decide) (fun _ => ?_) (fun q => absurd (by decide) q)
  refine J_ldc2 (v := (-1)) dX10_alone_16 k877 ?_
  exact J_lret hq dX10_alone_19 rfl (hkz rfl) (Nat.le_refl _) (Nat.le_refl _) ⟨rfl, rfl⟩
set_option maxHeartbeats 4000000 in
set_option maxRecDepth 100000 in
theorem c_X10_hear0 {d : Nat} {h : List MC} {a0 a1 a2 a3 : Int32} (hd : 3 ≤ d) (h0 : h[0]? = some (.inr (10, [.ref 1, .ref 27, .ref 28, .ref 29, .ref 43, .ref 49, .ref 53, .ref 56, .ref 57, .ref 79]))) (h1 : h[1]? = some (.inr (7, [.ref 2, .int 0, .int 0, .int (-1), .ref 3, .int 0, .ref 4, .int 0])))  : CT con0 d 0 0 yX10_hear cX10_hear 7 (some .long) [.ref 0, .int a0, .int a1, .int a2, .int a3] h (fun r h2 => r = some (.long (-9223372036854775808)) ∧ h2 = h) := by
  refine CT_of (by decide) (Nat.le_of_ble_eq_true rfl) (fun x hq => ?_)
  show J x yX10_hear cX10_hear 7 (some .long) d 0 0 h.length 0 [(0, .ref 0), (1, .int a0), (2, .int a1), (3, .int a2), (4, .int a3)] [] h 0 0
  refine J_aload_n (i := 0) (j := 0) dX10_hear_0 rfl rfl ?_
  refine J_iload_n (i := 1) (j := 1) dX10_hear_1 rfl rfl ?_
  refine J_iload_n (i := 2) (j := 2) dX10_hear_2 rfl rfl ?_
  refine J_iload_n (i := 3) (j := 3) dX10_hear_3 rfl rfl ?_
  refine J_callV (As := [.int a0, .int a1, .int a2]) (rest := []) dX10_hear_4 (c_X10_hasPond0 (d := 2) (h := h)  (by decide) h0 h1 ) hq.n k1005 k1007 k29 h0 rfl rfl k87 k1008 np_X10_hasPond (Nat.le_trans (by decide) hd) (by decide) (Nat.le_refl _) (Nat.le_refl _) (hkz rfl) rfl (Nat.le_of_ble_eq_true rfl) (fun r_1 h_2 p_3 => ?_)
  obtain ⟨rfl, w_4⟩ := p_3
  refine J_w w_4 ?_
  refine J_if_eq (tgt := 22) dX10_hear_7 (by decide) (fun _ => ?_) (fun q => absurd (by decide) q)
  refine J_ldc2 (v := (-9223372036854775808)) dX10_hear_22 k1028 ?_
  exact J_lret hq dX10_hear_25 rfl (hkz rfl) (Nat.le_refl _) (Nat.le_refl _) ⟨rfl, rfl⟩
set_option maxHeartbeats 4000000 in
set_option maxRecDepth 100000 in
theorem c_X10_may0 {d : Nat} {h : List MC} {a0 a1 a2 a3 : Int32} (hd : 3 ≤ d) (h0 : h[0]? = some (.inr (10, [.ref 1, .ref 27, .ref 28, .ref 29, .ref 43, .ref 49, .ref 53, .ref 56, .ref 57, .ref 79]))) (h1 : h[1]? = some (.inr (7, [.ref 2, .int 0, .int 0, .int (-1), .ref 3, .int 0, .ref 4, .int 0])))  : CT con0 d 0 0 yX10_may cX10_may 5 (some .long) [.ref 0, .int a0, .int a1, .int a2, .int a3] h (fun r h2 => r = some (.long (-1)) ∧ h2 = h) := by
  refine CT_of (by decide) (Nat.le_of_ble_eq_true rfl) (fun x hq => ?_)
  show J x yX10_may cX10_may 5 (some .long) d 0 0 h.length 0 [(0, .ref 0), (1, .int a0), (2, .int a1), (3, .int a2), (4, .int a3)] [] h 0 0
  refine J_aload_n (i := 0) (j := 0) dX10_may_0 rfl rfl ?_
  refine J_iload_n (i := 1) (j := 1) dX10_may_1 rfl rfl ?_
  refine J_iload_n (i := 2) (j := 2) dX10_may_2 rfl rfl ?_
  refine J_iload_n (i := 3) (j := 3) dX10_may_3 rfl rfl ?_
  refine J_callV (As := [.int a0, .int a1, .int a2]) (rest := []) dX10_may_4 (c_X10_canFill0 (d := 2) (h := h)  (by decide) h0 h1 ) hq.n k1036 k1038 k30 h0 rfl rfl k87 k1039 np_X10_canFill (Nat.le_trans (by decide) hd) (by decide) (Nat.le_refl _) (Nat.le_refl _) (hkz rfl) rfl (Nat.le_of_ble_eq_true rfl) (fun r_1 h_2 p_3 => ?_)
  obtain ⟨rfl, w_4⟩ := p_3
  refine J_w w_4 ?_
  refine J_if_ne (tgt := 14) dX10_may_7 (by decide) (fun q => absurd (by decide) q) (fun _ => ?_)
  refine J_ldc2 (v := (-1)) dX10_may_10 k877 ?_
  exact J_lret hq dX10_may_13 rfl (hkz rfl) (Nat.le_refl _) (Nat.le_refl _) ⟨rfl, rfl⟩
set_option maxHeartbeats 4000000 in
set_option maxRecDepth 100000 in
theorem c_X10_order0 {d : Nat} {h : List MC} {a0 a1 a2 a3 : Int32} (hd : 3 ≤ d) (h0 : h[0]? = some (.inr (10, [.ref 1, .ref 27, .ref 28, .ref 29, .ref 43, .ref 49, .ref 53, .ref 56, .ref 57, .ref 79]))) (h1 : h[1]? = some (.inr (7, [.ref 2, .int 0, .int 0, .int (-1), .ref 3, .int 0, .ref 4, .int 0])))  : CT con0 d 0 0 yX10_order cX10_order 5 (some .int) [.ref 0, .int a0, .int a1, .int a2, .int a3] h (fun r h2 => r = some (.int (-1)) ∧ h2 = h) := by
  refine CT_of (by decide) (Nat.le_of_ble_eq_true rfl) (fun x hq => ?_)
  show J x yX10_order cX10_order 5 (some .int) d 0 0 h.length 0 [(0, .ref 0), (1, .int a0), (2, .int a1), (3, .int a2), (4, .int a3)] [] h 0 0
  refine J_aload_n (i := 0) (j := 0) dX10_order_0 rfl rfl ?_
  refine J_iload_n (i := 1) (j := 1) dX10_order_1 rfl rfl ?_
  refine J_iload_n (i := 2) (j := 2) dX10_order_2 rfl rfl ?_
  refine J_iload_n (i := 3) (j := 3) dX10_order_3 rfl rfl ?_
  refine J_callV (As := [.int a0, .int a1, .int a2]) (rest := []) dX10_order_4 (c_X10_canFill0 (d := 2) (h := h)  (by decide) h0 h1 ) hq.n k1036 k1038 k30 h0 rfl rfl k87 k1039 np_X10_canFill (Nat.le_trans (by decide) hd) (by decide) (Nat.le_refl _) (Nat.le_refl _) (hkz rfl) rfl (Nat.le_of_ble_eq_true rfl) (fun r_1 h_2 p_3 => ?_)
  obtain ⟨rfl, w_4⟩ := p_3
  refine J_w w_4 ?_
  refine J_if_eq (tgt := 24) dX10_order_7 (by decide) (fun _ => ?_) (fun q => absurd (by decide) q)
  refine J_iconst (v := (-1)) dX10_order_24 (by decide) ?_
  exact J_iret hq dX10_order_25 rfl (hkz rfl) (Nat.le_refl _) (Nat.le_refl _) ⟨rfl, rfl⟩
set_option maxHeartbeats 4000000 in
set_option maxRecDepth 100000 in
theorem c_X10_think0 {d : Nat} {h : List MC} {a0 a1 a2 a3 : Int32} (hd : 3 ≤ d) (h0 : h[0]? = some (.inr (10, [.ref 1, .ref 27, .ref 28, .ref 29, .ref 43, .ref 49, .ref 53, .ref 56, .ref 57, .ref 79]))) (h1 : h[1]? = some (.inr (7, [.ref 2, .int 0, .int 0, .int (-1), .ref 3, .int 0, .ref 4, .int 0])))  : CT con0 d 0 0 yX10_think cX10_think 7 (some .int) [.ref 0, .int a0, .int a1, .int a2, .int a3] h (fun r h2 => r = some (.int (-1)) ∧ h2 = h) := by
  refine CT_of (by decide) (Nat.le_of_ble_eq_true rfl) (fun x hq => ?_)
  show J x yX10_think cX10_think 7 (some .int) d 0 0 h.length 0 [(0, .ref 0), (1, .int a0), (2, .int a1), (3, .int a2), (4, .int a3)] [] h 0 0
  refine J_aload_n (i := 0) (j := 0) dX10_think_0 rfl rfl ?_
  refine J_iload_n (i := 1) (j := 1) dX10_think_1 rfl rfl ?_
  refine J_iload_n (i := 2) (j := 2) dX10_think_2 rfl rfl ?_
  refine J_iload_n (i := 3) (j := 3) dX10_think_3 rfl rfl ?_
  refine J_callV (As := [.int a0, .int a1, .int a2]) (rest := []) dX10_think_4 (c_X10_hasPond0 (d := 2) (h := h)  (by decide) h0 h1 ) hq.n k1005 k1007 k29 h0 rfl rfl k87 k1008 np_X10_hasPond (Nat.le_trans (by decide) hd) (by decide) (Nat.le_refl _) (Nat.le_refl _) (hkz rfl) rfl (Nat.le_of_ble_eq_true rfl) (fun r_1 h_2 p_3 => ?_)
  obtain ⟨rfl, w_4⟩ := p_3
  refine J_w w_4 ?_
  refine J_if_ne (tgt := 12) dX10_think_7 (by decide) (fun q => absurd (by decide) q) (fun _ => ?_)
  refine J_iconst (v := (-1)) dX10_think_10 (by decide) ?_
  exact J_iret hq dX10_think_11 rfl (hkz rfl) (Nat.le_refl _) (Nat.le_refl _) ⟨rfl, rfl⟩
set_option maxHeartbeats 4000000 in
set_option maxRecDepth 100000 in
theorem c_X10_now0 {d : Nat} {h : List MC} {a0 a1 : Int32} (hd : 3 ≤ d) (h0 : h[0]? = some (.inr (10, [.ref 1, .ref 27, .ref 28, .ref 29, .ref 43, .ref 49, .ref 53, .ref 56, .ref 57, .ref 79]))) (h1 : h[1]? = some (.inr (7, [.ref 2, .int 0, .int 0, .int (-1), .ref 3, .int 0, .ref 4, .int 0])))  : CT con0 d 0 0 yX10_now cX10_now 3 (some .int) [.ref 0, .int a0, .int a1] h (fun r h2 => r = some (.int (-1)) ∧ h2 = h) := by
  refine CT_of (by decide) (Nat.le_of_ble_eq_true rfl) (fun x hq => ?_)
  show J x yX10_now cX10_now 3 (some .int) d 0 0 h.length 0 [(0, .ref 0), (1, .int a0), (2, .int a1)] [] h 0 0
  refine J_aload_n (i := 0) (j := 0) dX10_now_0 rfl rfl ?_
  refine J_iload_n (i := 1) (j := 1) dX10_now_1 rfl rfl ?_
  refine J_iload_n (i := 2) (j := 2) dX10_now_2 rfl rfl ?_
  refine J_callV (As := [.int a0, .int a1]) (rest := []) dX10_now_3 (c_X10_lays0 (d := 1) (h := h)  (by decide) h0 h1 ) hq.n k723 k725 k12 h0 rfl rfl k87 k726 np_X10_lays (Nat.le_trans (by decide) hd) (by decide) (Nat.le_refl _) (Nat.le_refl _) (hkz rfl) rfl (Nat.le_of_ble_eq_true rfl) (fun r_1 h_2 p_3 => ?_)
  obtain ⟨rfl, w_4⟩ := p_3
  refine J_w w_4 ?_
  refine J_if_eq (tgt := 26) dX10_now_6 (by decide) (fun _ => ?_) (fun q => absurd (by decide) q)
  refine J_iconst (v := (-1)) dX10_now_26 (by decide) ?_
  exact J_iret hq dX10_now_27 rfl (hkz rfl) (Nat.le_refl _) (Nat.le_refl _) ⟨rfl, rfl⟩
set_option maxHeartbeats 4000000 in
set_option maxRecDepth 100000 in
theorem c_X10_years0 {d : Nat} {h : List MC} {a0 a1 a2 a3 a4 : Int32} (hd : 3 ≤ d) (h0 : h[0]? = some (.inr (10, [.ref 1, .ref 27, .ref 28, .ref 29, .ref 43, .ref 49, .ref 53, .ref 56, .ref 57, .ref 79]))) (h1 : h[1]? = some (.inr (7, [.ref 2, .int 0, .int 0, .int (-1), .ref 3, .int 0, .ref 4, .int 0])))  : CT con0 d 0 0 yX10_years cX10_years 6 (some .long) [.ref 0, .int a0, .int a1, .int a2, .int a3, .int a4] h (fun r h2 => r = some (.long (-1)) ∧ h2 = h) := by
  refine CT_of (by decide) (Nat.le_of_ble_eq_true rfl) (fun x hq => ?_)
  show J x yX10_years cX10_years 6 (some .long) d 0 0 h.length 0 [(0, .ref 0), (1, .int a0), (2, .int a1), (3, .int a2), (4, .int a3), (5, .int a4)] [] h 0 0
  refine J_aload_n (i := 0) (j := 0) dX10_years_0 rfl rfl ?_
  refine J_iload_n (i := 1) (j := 1) dX10_years_1 rfl rfl ?_
  refine J_iload_n (i := 2) (j := 2) dX10_years_2 rfl rfl ?_
  refine J_callV (As := [.int a0, .int a1]) (rest := []) dX10_years_3 (c_X10_lays0 (d := 1) (h := h)  (by decide) h0 h1 ) hq.n k723 k725 k12 h0 rfl rfl k87 k726 np_X10_lays (Nat.le_trans (by decide) hd) (by decide) (Nat.le_refl _) (Nat.le_refl _) (hkz rfl) rfl (Nat.le_of_ble_eq_true rfl) (fun r_1 h_2 p_3 => ?_)
  obtain ⟨rfl, w_4⟩ := p_3
  refine J_w w_4 ?_
  refine J_if_eq (tgt := 22) dX10_years_6 (by decide) (fun _ => ?_) (fun q => absurd (by decide) q)
  refine J_ldc2 (v := (-1)) dX10_years_22 k877 ?_
  exact J_lret hq dX10_years_25 rfl (hkz rfl) (Nat.le_refl _) (Nat.le_refl _) ⟨rfl, rfl⟩
set_option maxHeartbeats 4000000 in
set_option maxRecDepth 100000 in
theorem c_X10_spared0 {d : Nat} {h : List MC} {a0 a1 a2 : Int32} (hd : 3 ≤ d) (h0 : h[0]? = some (.inr (10, [.ref 1, .ref 27, .ref 28, .ref 29, .ref 43, .ref 49, .ref 53, .ref 56, .ref 57, .ref 79]))) (h1 : h[1]? = some (.inr (7, [.ref 2, .int 0, .int 0, .int (-1), .ref 3, .int 0, .ref 4, .int 0])))  : CT con0 d 0 0 yX10_spared cX10_spared 6 (some .int) [.ref 0, .int a0, .int a1, .int a2] h (fun r h2 => r = some (.int (-1)) ∧ h2 = h) := by
  refine CT_of (by decide) (Nat.le_of_ble_eq_true rfl) (fun x hq => ?_)
  show J x yX10_spared cX10_spared 6 (some .int) d 0 0 h.length 0 [(0, .ref 0), (1, .int a0), (2, .int a1), (3, .int a2)] [] h 0 0
  refine J_aload_n (i := 0) (j := 0) dX10_spared_0 rfl rfl ?_
  refine J_iload_n (i := 1) (j := 1) dX10_spared_1 rfl rfl ?_
  refine J_iload_n (i := 2) (j := 2) dX10_spared_2 rfl rfl ?_
  refine J_callV (As := [.int a0, .int a1]) (rest := []) dX10_spared_3 (c_X10_lays0 (d := 1) (h := h)  (by decide) h0 h1 ) hq.n k723 k725 k12 h0 rfl rfl k87 k726 np_X10_lays (Nat.le_trans (by decide) hd) (by decide) (Nat.le_refl _) (Nat.le_refl _) (hkz rfl) rfl (Nat.le_of_ble_eq_true rfl) (fun r_1 h_2 p_3 => ?_)
  obtain ⟨rfl, w_4⟩ := p_3
  refine J_w w_4 ?_
  refine J_if_eq (tgt := 23) dX10_spared_6 (by decide) (fun _ => ?_) (fun q => absurd (by decide) q)
  refine J_iconst (v := (-1)) dX10_spared_23 (by decide) ?_
  exact J_iret hq dX10_spared_24 rfl (hkz rfl) (Nat.le_refl _) (Nat.le_refl _) ⟨rfl, rfl⟩
set_option maxHeartbeats 4000000 in
set_option maxRecDepth 100000 in
theorem c_X10_deep0 {d : Nat} {h : List MC} {a0 a1 : Int32} (hd : 3 ≤ d) (h0 : h[0]? = some (.inr (10, [.ref 1, .ref 27, .ref 28, .ref 29, .ref 43, .ref 49, .ref 53, .ref 56, .ref 57, .ref 79]))) (h1 : h[1]? = some (.inr (7, [.ref 2, .int 0, .int 0, .int (-1), .ref 3, .int 0, .ref 4, .int 0])))  : CT con0 d 0 0 yX10_deep cX10_deep 3 (some .int) [.ref 0, .int a0, .int a1] h (fun r h2 => r = some (.int (-1)) ∧ h2 = h) := by
  refine CT_of (by decide) (Nat.le_of_ble_eq_true rfl) (fun x hq => ?_)
  show J x yX10_deep cX10_deep 3 (some .int) d 0 0 h.length 0 [(0, .ref 0), (1, .int a0), (2, .int a1)] [] h 0 0
  refine J_aload_n (i := 0) (j := 0) dX10_deep_0 rfl rfl ?_
  refine J_iload_n (i := 1) (j := 1) dX10_deep_1 rfl rfl ?_
  refine J_iload_n (i := 2) (j := 2) dX10_deep_2 rfl rfl ?_
  refine J_callV (As := [.int a0, .int a1]) (rest := []) dX10_deep_3 (c_X10_looks0 (d := 2) (h := h)  (by decide) h0 h1 ) hq.n k852 k854 k23 h0 rfl rfl k87 k855 np_X10_looks (Nat.le_trans (by decide) hd) (by decide) (Nat.le_refl _) (Nat.le_refl _) (hkz rfl) rfl (Nat.le_of_ble_eq_true rfl) (fun r_1 h_2 p_3 => ?_)
  obtain ⟨rfl, w_4⟩ := p_3
  refine J_w w_4 ?_
  refine J_if_eq (tgt := 19) dX10_deep_6 (by decide) (fun _ => ?_) (fun q => absurd (by decide) q)
  refine J_iconst (v := (-1)) dX10_deep_19 (by decide) ?_
  exact J_iret hq dX10_deep_20 rfl (hkz rfl) (Nat.le_refl _) (Nat.le_refl _) ⟨rfl, rfl⟩
set_option maxHeartbeats 4000000 in
set_option maxRecDepth 100000 in
theorem c_X10_safe0 {d : Nat} {h : List MC} {a0 a1 : Int32} (hd : 3 ≤ d) (h0 : h[0]? = some (.inr (10, [.ref 1, .ref 27, .ref 28, .ref 29, .ref 43, .ref 49, .ref 53, .ref 56, .ref 57, .ref 79]))) (h1 : h[1]? = some (.inr (7, [.ref 2, .int 0, .int 0, .int (-1), .ref 3, .int 0, .ref 4, .int 0])))  : CT con0 d 0 0 yX10_safe cX10_safe 4 (some .int) [.ref 0, .int a0, .int a1] h (fun r h2 => r = some (.int (-1)) ∧ h2 = h) := by
  refine CT_of (by decide) (Nat.le_of_ble_eq_true rfl) (fun x hq => ?_)
  show J x yX10_safe cX10_safe 4 (some .int) d 0 0 h.length 0 [(0, .ref 0), (1, .int a0), (2, .int a1)] [] h 0 0
  refine J_aload_n (i := 0) (j := 0) dX10_safe_0 rfl rfl ?_
  refine J_iload_n (i := 1) (j := 1) dX10_safe_1 rfl rfl ?_
  refine J_iload_n (i := 2) (j := 2) dX10_safe_2 rfl rfl ?_
  refine J_callV (As := [.int a0, .int a1]) (rest := []) dX10_safe_3 (c_X10_lays0 (d := 1) (h := h)  (by decide) h0 h1 ) hq.n k723 k725 k12 h0 rfl rfl k87 k726 np_X10_lays (Nat.le_trans (by decide) hd) (by decide) (Nat.le_refl _) (Nat.le_refl _) (hkz rfl) rfl (Nat.le_of_ble_eq_true rfl) (fun r_1 h_2 p_3 => ?_)
  obtain ⟨rfl, w_4⟩ := p_3
  refine J_w w_4 ?_
  refine J_if_ne (tgt := 11) dX10_safe_6 (by decide) (fun q => absurd (by decide) q) (fun _ => ?_)
  refine J_iconst (v := (-1)) dX10_safe_9 (by decide) ?_
  exact J_iret hq dX10_safe_10 rfl (hkz rfl) (Nat.le_refl _) (Nat.le_refl _) ⟨rfl, rfl⟩
set_option maxHeartbeats 4000000 in
set_option maxRecDepth 100000 in
theorem c_X10_weighs0 {d : Nat} {h : List MC} {a0 a1 : Int32} (hd : 3 ≤ d) (h0 : h[0]? = some (.inr (10, [.ref 1, .ref 27, .ref 28, .ref 29, .ref 43, .ref 49, .ref 53, .ref 56, .ref 57, .ref 79]))) (h1 : h[1]? = some (.inr (7, [.ref 2, .int 0, .int 0, .int (-1), .ref 3, .int 0, .ref 4, .int 0])))  : CT con0 d 0 0 yX10_weighs cX10_weighs 3 (some .int) [.ref 0, .int a0, .int a1] h (fun r h2 => r = some (.int (-1)) ∧ h2 = h) := by
  refine CT_of (by decide) (Nat.le_of_ble_eq_true rfl) (fun x hq => ?_)
  show J x yX10_weighs cX10_weighs 3 (some .int) d 0 0 h.length 0 [(0, .ref 0), (1, .int a0), (2, .int a1)] [] h 0 0
  refine J_aload_n (i := 0) (j := 0) dX10_weighs_0 rfl rfl ?_
  refine J_iload_n (i := 1) (j := 1) dX10_weighs_1 rfl rfl ?_
  refine J_iload_n (i := 2) (j := 2) dX10_weighs_2 rfl rfl ?_
  refine J_callV (As := [.int a0, .int a1]) (rest := []) dX10_weighs_3 (c_X10_lays0 (d := 1) (h := h)  (by decide) h0 h1 ) hq.n k723 k725 k12 h0 rfl rfl k87 k726 np_X10_lays (Nat.le_trans (by decide) hd) (by decide) (Nat.le_refl _) (Nat.le_refl _) (hkz rfl) rfl (Nat.le_of_ble_eq_true rfl) (fun r_1 h_2 p_3 => ?_)
  obtain ⟨rfl, w_4⟩ := p_3
  refine J_w w_4 ?_
  refine J_if_eq (tgt := 26) dX10_weighs_6 (by decide) (fun _ => ?_) (fun q => absurd (by decide) q)
  refine J_iconst (v := (-1)) dX10_weighs_26 (by decide) ?_
  exact J_iret hq dX10_weighs_27 rfl (hkz rfl) (Nat.le_refl _) (Nat.le_refl _) ⟨rfl, rfl⟩
set_option maxHeartbeats 4000000 in
set_option maxRecDepth 100000 in
theorem c_X10_upon0 {d : Nat} {h : List MC} {a0 a1 a2 a3 : Int32} (hd : 3 ≤ d) (h0 : h[0]? = some (.inr (10, [.ref 1, .ref 27, .ref 28, .ref 29, .ref 43, .ref 49, .ref 53, .ref 56, .ref 57, .ref 79]))) (h1 : h[1]? = some (.inr (7, [.ref 2, .int 0, .int 0, .int (-1), .ref 3, .int 0, .ref 4, .int 0])))  : CT con0 d 0 0 yX10_upon cX10_upon 5 (some .int) [.ref 0, .int a0, .int a1, .int a2, .int a3] h (fun r h2 => r = some (.int (-1)) ∧ h2 = h) := by
  refine CT_of (by decide) (Nat.le_of_ble_eq_true rfl) (fun x hq => ?_)
  show J x yX10_upon cX10_upon 5 (some .int) d 0 0 h.length 0 [(0, .ref 0), (1, .int a0), (2, .int a1), (3, .int a2), (4, .int a3)] [] h 0 0
  refine J_aload_n (i := 0) (j := 0) dX10_upon_0 rfl rfl ?_
  refine J_iload_n (i := 1) (j := 1) dX10_upon_1 rfl rfl ?_
  refine J_iload_n (i := 2) (j := 2) dX10_upon_2 rfl rfl ?_
  refine J_iload_n (i := 3) (j := 3) dX10_upon_3 rfl rfl ?_
  refine J_callV (As := [.int a0, .int a1, .int a2]) (rest := []) dX10_upon_4 (c_X10_hasPond0 (d := 2) (h := h)  (by decide) h0 h1 ) hq.n k1005 k1007 k29 h0 rfl rfl k87 k1008 np_X10_hasPond (Nat.le_trans (by decide) hd) (by decide) (Nat.le_refl _) (Nat.le_refl _) (hkz rfl) rfl (Nat.le_of_ble_eq_true rfl) (fun r_1 h_2 p_3 => ?_)
  obtain ⟨rfl, w_4⟩ := p_3
  refine J_w w_4 ?_
  refine J_if_ne (tgt := 12) dX10_upon_7 (by decide) (fun q => absurd (by decide) q) (fun _ => ?_)
  refine J_iconst (v := (-1)) dX10_upon_10 (by decide) ?_
  exact J_iret hq dX10_upon_11 rfl (hkz rfl) (Nat.le_refl _) (Nat.le_refl _) ⟨rfl, rfl⟩
set_option maxHeartbeats 4000000 in
set_option maxRecDepth 100000 in
theorem c_X10_runs0 {d : Nat} {h : List MC} {a0 a1 a2 : Int32} (hd : 3 ≤ d) (h0 : h[0]? = some (.inr (10, [.ref 1, .ref 27, .ref 28, .ref 29, .ref 43, .ref 49, .ref 53, .ref 56, .ref 57, .ref 79]))) (h1 : h[1]? = some (.inr (7, [.ref 2, .int 0, .int 0, .int (-1), .ref 3, .int 0, .ref 4, .int 0])))  : CT con0 d 0 0 yX10_runs cX10_runs 5 (some .int) [.ref 0, .int a0, .int a1, .int a2] h (fun r h2 => r = some (.int (-1)) ∧ h2 = h) := by
  refine CT_of (by decide) (Nat.le_of_ble_eq_true rfl) (fun x hq => ?_)
  show J x yX10_runs cX10_runs 5 (some .int) d 0 0 h.length 0 [(0, .ref 0), (1, .int a0), (2, .int a1), (3, .int a2)] [] h 0 0
  refine J_aload_n (i := 0) (j := 0) dX10_runs_0 rfl rfl ?_
  refine J_iload_n (i := 1) (j := 1) dX10_runs_1 rfl rfl ?_
  refine J_iload_n (i := 2) (j := 2) dX10_runs_2 rfl rfl ?_
  refine J_iload_n (i := 3) (j := 3) dX10_runs_3 rfl rfl ?_
  refine J_callV (As := [.int a0, .int a1, .int a2]) (rest := []) dX10_runs_4 (c_X10_hasPond0 (d := 2) (h := h)  (by decide) h0 h1 ) hq.n k1005 k1007 k29 h0 rfl rfl k87 k1008 np_X10_hasPond (Nat.le_trans (by decide) hd) (by decide) (Nat.le_refl _) (Nat.le_refl _) (hkz rfl) rfl (Nat.le_of_ble_eq_true rfl) (fun r_1 h_2 p_3 => ?_)
  obtain ⟨rfl, w_4⟩ := p_3
  refine J_w w_4 ?_
  refine J_if_ne (tgt := 12) dX10_runs_7 (by decide) (fun q => absurd (by decide) q) (fun _ => ?_)
  refine J_iconst (v := (-1)) dX10_runs_10 (by decide) ?_
  exact J_iret hq dX10_runs_11 rfl (hkz rfl) (Nat.le_refl _) (Nat.le_refl _) ⟨rfl, rfl⟩
set_option maxHeartbeats 4000000 in
set_option maxRecDepth 100000 in
theorem c_X10_joint0 {d : Nat} {h : List MC} {a0 a1 a2 a3 : Int32} (hd : 3 ≤ d) (h0 : h[0]? = some (.inr (10, [.ref 1, .ref 27, .ref 28, .ref 29, .ref 43, .ref 49, .ref 53, .ref 56, .ref 57, .ref 79]))) (h1 : h[1]? = some (.inr (7, [.ref 2, .int 0, .int 0, .int (-1), .ref 3, .int 0, .ref 4, .int 0])))  : CT con0 d 0 0 yX10_joint cX10_joint 5 (some .long) [.ref 0, .int a0, .int a1, .int a2, .int a3] h (fun r h2 => r = some (.long (-1)) ∧ h2 = h) := by
  refine CT_of (by decide) (Nat.le_of_ble_eq_true rfl) (fun x hq => ?_)
  show J x yX10_joint cX10_joint 5 (some .long) d 0 0 h.length 0 [(0, .ref 0), (1, .int a0), (2, .int a1), (3, .int a2), (4, .int a3)] [] h 0 0
  refine J_aload_n (i := 0) (j := 0) dX10_joint_0 rfl rfl ?_
  refine J_iload_n (i := 1) (j := 1) dX10_joint_1 rfl rfl ?_
  refine J_iload_n (i := 2) (j := 2) dX10_joint_2 rfl rfl ?_
  refine J_callV (As := [.int a0, .int a1]) (rest := []) dX10_joint_3 (c_X10_looks0 (d := 2) (h := h)  (by decide) h0 h1 ) hq.n k852 k854 k23 h0 rfl rfl k87 k855 np_X10_looks (Nat.le_trans (by decide) hd) (by decide) (Nat.le_refl _) (Nat.le_refl _) (hkz rfl) rfl (Nat.le_of_ble_eq_true rfl) (fun r_1 h_2 p_3 => ?_)
  obtain ⟨rfl, w_4⟩ := p_3
  refine J_w w_4 ?_
  refine J_if_eq (tgt := 38) dX10_joint_6 (by decide) (fun _ => ?_) (fun q => absurd (by decide) q)
  refine J_ldc2 (v := (-1)) dX10_joint_38 k877 ?_
  exact J_lret hq dX10_joint_41 rfl (hkz rfl) (Nat.le_refl _) (Nat.le_refl _) ⟨rfl, rfl⟩
set_option maxHeartbeats 4000000 in
set_option maxRecDepth 100000 in
theorem c_X10_given0 {d : Nat} {h : List MC} {a0 a1 a2 a3 a4 : Int32} (hd : 3 ≤ d) (h0 : h[0]? = some (.inr (10, [.ref 1, .ref 27, .ref 28, .ref 29, .ref 43, .ref 49, .ref 53, .ref 56, .ref 57, .ref 79]))) (h1 : h[1]? = some (.inr (7, [.ref 2, .int 0, .int 0, .int (-1), .ref 3, .int 0, .ref 4, .int 0])))  : CT con0 d 0 0 yX10_given cX10_given 8 (some .long) [.ref 0, .int a0, .int a1, .int a2, .int a3, .int a4] h (fun r h2 => r = some (.long (-1)) ∧ h2 = h) := by
  refine CT_of (by decide) (Nat.le_of_ble_eq_true rfl) (fun x hq => ?_)
  show J x yX10_given cX10_given 8 (some .long) d 0 0 h.length 0 [(0, .ref 0), (1, .int a0), (2, .int a1), (3, .int a2), (4, .int a3), (5, .int a4)] [] h 0 0
  refine J_aload_n (i := 0) (j := 0) dX10_given_0 rfl rfl ?_
  refine J_iload_n (i := 1) (j := 1) dX10_given_1 rfl rfl ?_
  refine J_iload_n (i := 2) (j := 2) dX10_given_2 rfl rfl ?_
  refine J_callV (As := [.int a0, .int a1]) (rest := []) dX10_given_3 (c_X10_looks0 (d := 2) (h := h)  (by decide) h0 h1 ) hq.n k852 k854 k23 h0 rfl rfl k87 k855 np_X10_looks (Nat.le_trans (by decide) hd) (by decide) (Nat.le_refl _) (Nat.le_refl _) (hkz rfl) rfl (Nat.le_of_ble_eq_true rfl) (fun r_1 h_2 p_3 => ?_)
  obtain ⟨rfl, w_4⟩ := p_3
  refine J_w w_4 ?_
  refine J_if_eq (tgt := 38) dX10_given_6 (by decide) (fun _ => ?_) (fun q => absurd (by decide) q)
  refine J_ldc2 (v := (-1)) dX10_given_38 k877 ?_
  exact J_lret hq dX10_given_41 rfl (hkz rfl) (Nat.le_refl _) (Nat.le_refl _) ⟨rfl, rfl⟩
set_option maxHeartbeats 4000000 in
set_option maxRecDepth 100000 in
theorem c_X10_worst0 {d : Nat} {h : List MC} {a0 a1 a2 : Int32} (hd : 3 ≤ d) (h0 : h[0]? = some (.inr (10, [.ref 1, .ref 27, .ref 28, .ref 29, .ref 43, .ref 49, .ref 53, .ref 56, .ref 57, .ref 79]))) (h1 : h[1]? = some (.inr (7, [.ref 2, .int 0, .int 0, .int (-1), .ref 3, .int 0, .ref 4, .int 0])))  : CT con0 d 0 0 yX10_worst cX10_worst 4 (some .long) [.ref 0, .int a0, .int a1, .int a2] h (fun r h2 => r = some (.long (-1)) ∧ h2 = h) := by
  refine CT_of (by decide) (Nat.le_of_ble_eq_true rfl) (fun x hq => ?_)
  show J x yX10_worst cX10_worst 4 (some .long) d 0 0 h.length 0 [(0, .ref 0), (1, .int a0), (2, .int a1), (3, .int a2)] [] h 0 0
  refine J_aload_n (i := 0) (j := 0) dX10_worst_0 rfl rfl ?_
  refine J_iload_n (i := 1) (j := 1) dX10_worst_1 rfl rfl ?_
  refine J_iload_n (i := 2) (j := 2) dX10_worst_2 rfl rfl ?_
  refine J_callV (As := [.int a0, .int a1]) (rest := []) dX10_worst_3 (c_X10_looks0 (d := 2) (h := h)  (by decide) h0 h1 ) hq.n k852 k854 k23 h0 rfl rfl k87 k855 np_X10_looks (Nat.le_trans (by decide) hd) (by decide) (Nat.le_refl _) (Nat.le_refl _) (hkz rfl) rfl (Nat.le_of_ble_eq_true rfl) (fun r_1 h_2 p_3 => ?_)
  obtain ⟨rfl, w_4⟩ := p_3
  refine J_w w_4 ?_
  refine J_if_eq (tgt := 20) dX10_worst_6 (by decide) (fun _ => ?_) (fun q => absurd (by decide) q)
  refine J_ldc2 (v := (-1)) dX10_worst_20 k877 ?_
  exact J_lret hq dX10_worst_23 rfl (hkz rfl) (Nat.le_refl _) (Nat.le_refl _) ⟨rfl, rfl⟩
set_option maxHeartbeats 4000000 in
set_option maxRecDepth 100000 in
theorem c_X10_flood0 {d : Nat} {h : List MC} {a0 a1 : Int32} (hd : 3 ≤ d) (h0 : h[0]? = some (.inr (10, [.ref 1, .ref 27, .ref 28, .ref 29, .ref 43, .ref 49, .ref 53, .ref 56, .ref 57, .ref 79]))) (h1 : h[1]? = some (.inr (7, [.ref 2, .int 0, .int 0, .int (-1), .ref 3, .int 0, .ref 4, .int 0])))  : CT con0 d 0 0 yX10_flood cX10_flood 3 (some .int) [.ref 0, .int a0, .int a1] h (fun r h2 => r = some (.int (-1)) ∧ h2 = h) := by
  refine CT_of (by decide) (Nat.le_of_ble_eq_true rfl) (fun x hq => ?_)
  show J x yX10_flood cX10_flood 3 (some .int) d 0 0 h.length 0 [(0, .ref 0), (1, .int a0), (2, .int a1)] [] h 0 0
  refine J_aload_n (i := 0) (j := 0) dX10_flood_0 rfl rfl ?_
  refine J_iload_n (i := 1) (j := 1) dX10_flood_1 rfl rfl ?_
  refine J_iload_n (i := 2) (j := 2) dX10_flood_2 rfl rfl ?_
  refine J_callV (As := [.int a0, .int a1]) (rest := []) dX10_flood_3 (c_X10_looks0 (d := 2) (h := h)  (by decide) h0 h1 ) hq.n k852 k854 k23 h0 rfl rfl k87 k855 np_X10_looks (Nat.le_trans (by decide) hd) (by decide) (Nat.le_refl _) (Nat.le_refl _) (hkz rfl) rfl (Nat.le_of_ble_eq_true rfl) (fun r_1 h_2 p_3 => ?_)
  obtain ⟨rfl, w_4⟩ := p_3
  refine J_w w_4 ?_
  refine J_if_eq (tgt := 19) dX10_flood_6 (by decide) (fun _ => ?_) (fun q => absurd (by decide) q)
  refine J_iconst (v := (-1)) dX10_flood_19 (by decide) ?_
  exact J_iret hq dX10_flood_20 rfl (hkz rfl) (Nat.le_refl _) (Nat.le_refl _) ⟨rfl, rfl⟩
set_option maxHeartbeats 4000000 in
set_option maxRecDepth 100000 in
theorem c_X10_around0 {d : Nat} {h : List MC} {a0 a1 a2 : Int32} (hd : 3 ≤ d) (h0 : h[0]? = some (.inr (10, [.ref 1, .ref 27, .ref 28, .ref 29, .ref 43, .ref 49, .ref 53, .ref 56, .ref 57, .ref 79]))) (h1 : h[1]? = some (.inr (7, [.ref 2, .int 0, .int 0, .int (-1), .ref 3, .int 0, .ref 4, .int 0])))  : CT con0 d 0 0 yX10_around cX10_around 4 (some .int) [.ref 0, .int a0, .int a1, .int a2] h (fun r h2 => r = some (.int (-1)) ∧ h2 = h) := by
  refine CT_of (by decide) (Nat.le_of_ble_eq_true rfl) (fun x hq => ?_)
  show J x yX10_around cX10_around 4 (some .int) d 0 0 h.length 0 [(0, .ref 0), (1, .int a0), (2, .int a1), (3, .int a2)] [] h 0 0
  refine J_aload_n (i := 0) (j := 0) dX10_around_0 rfl rfl ?_
  refine J_iload_n (i := 1) (j := 1) dX10_around_1 rfl rfl ?_
  refine J_iload_n (i := 2) (j := 2) dX10_around_2 rfl rfl ?_
  refine J_callV (As := [.int a0, .int a1]) (rest := []) dX10_around_3 (c_X10_lays0 (d := 1) (h := h)  (by decide) h0 h1 ) hq.n k723 k725 k12 h0 rfl rfl k87 k726 np_X10_lays (Nat.le_trans (by decide) hd) (by decide) (Nat.le_refl _) (Nat.le_refl _) (hkz rfl) rfl (Nat.le_of_ble_eq_true rfl) (fun r_1 h_2 p_3 => ?_)
  obtain ⟨rfl, w_4⟩ := p_3
  refine J_w w_4 ?_
  refine J_if_ne (tgt := 11) dX10_around_6 (by decide) (fun q => absurd (by decide) q) (fun _ => ?_)
  refine J_iconst (v := (-1)) dX10_around_9 (by decide) ?_
  exact J_iret hq dX10_around_10 rfl (hkz rfl) (Nat.le_refl _) (Nat.le_refl _) ⟨rfl, rfl⟩
set_option maxHeartbeats 4000000 in
set_option maxRecDepth 100000 in
theorem c_X10_twice0 {d : Nat} {h : List MC} {a0 a1 a2 a3 a4 a5 a6 : Int32} (hd : 3 ≤ d) (h0 : h[0]? = some (.inr (10, [.ref 1, .ref 27, .ref 28, .ref 29, .ref 43, .ref 49, .ref 53, .ref 56, .ref 57, .ref 79]))) (h1 : h[1]? = some (.inr (7, [.ref 2, .int 0, .int 0, .int (-1), .ref 3, .int 0, .ref 4, .int 0])))  : CT con0 d 0 0 yX10_twice cX10_twice 8 (some .int) [.ref 0, .int a0, .int a1, .int a2, .int a3, .int a4, .int a5, .int a6] h (fun r h2 => r = some (.int (-1)) ∧ h2 = h) := by
  refine CT_of (by decide) (Nat.le_of_ble_eq_true rfl) (fun x hq => ?_)
  show J x yX10_twice cX10_twice 8 (some .int) d 0 0 h.length 0 [(0, .ref 0), (1, .int a0), (2, .int a1), (3, .int a2), (4, .int a3), (5, .int a4), (6, .int a5), (7, .int a6)] [] h 0 0
  refine J_aload_n (i := 0) (j := 0) dX10_twice_0 rfl rfl ?_
  refine J_iload_n (i := 1) (j := 1) dX10_twice_1 rfl rfl ?_
  refine J_iload_n (i := 2) (j := 2) dX10_twice_2 rfl rfl ?_
  refine J_callV (As := [.int a0, .int a1]) (rest := []) dX10_twice_3 (c_X10_lays0 (d := 1) (h := h)  (by decide) h0 h1 ) hq.n k723 k725 k12 h0 rfl rfl k87 k726 np_X10_lays (Nat.le_trans (by decide) hd) (by decide) (Nat.le_refl _) (Nat.le_refl _) (hkz rfl) rfl (Nat.le_of_ble_eq_true rfl) (fun r_1 h_2 p_3 => ?_)
  obtain ⟨rfl, w_4⟩ := p_3
  refine J_w w_4 ?_
  refine J_if_eq (tgt := 42) dX10_twice_6 (by decide) (fun _ => ?_) (fun q => absurd (by decide) q)
  refine J_iconst (v := (-1)) dX10_twice_42 (by decide) ?_
  exact J_iret hq dX10_twice_43 rfl (hkz rfl) (Nat.le_refl _) (Nat.le_refl _) ⟨rfl, rfl⟩
set_option maxHeartbeats 4000000 in
set_option maxRecDepth 100000 in
theorem c_X10_better0 {d : Nat} {h : List MC} {a0 a1 a2 : Int32} (hd : 3 ≤ d) (h0 : h[0]? = some (.inr (10, [.ref 1, .ref 27, .ref 28, .ref 29, .ref 43, .ref 49, .ref 53, .ref 56, .ref 57, .ref 79]))) (h1 : h[1]? = some (.inr (7, [.ref 2, .int 0, .int 0, .int (-1), .ref 3, .int 0, .ref 4, .int 0])))  : CT con0 d 0 0 yX10_better cX10_better 8 (some .int) [.ref 0, .int a0, .int a1, .int a2] h (fun r h2 => r = some (.int (-1)) ∧ h2 = h) := by
  refine CT_of (by decide) (Nat.le_of_ble_eq_true rfl) (fun x hq => ?_)
  show J x yX10_better cX10_better 8 (some .int) d 0 0 h.length 0 [(0, .ref 0), (1, .int a0), (2, .int a1), (3, .int a2)] [] h 0 0
  refine J_aload_n (i := 0) (j := 0) dX10_better_0 rfl rfl ?_
  refine J_iload_n (i := 1) (j := 1) dX10_better_1 rfl rfl ?_
  refine J_iload_n (i := 2) (j := 2) dX10_better_2 rfl rfl ?_
  refine J_callV (As := [.int a0, .int a1]) (rest := []) dX10_better_3 (c_X10_lays0 (d := 1) (h := h)  (by decide) h0 h1 ) hq.n k723 k725 k12 h0 rfl rfl k87 k726 np_X10_lays (Nat.le_trans (by decide) hd) (by decide) (Nat.le_refl _) (Nat.le_refl _) (hkz rfl) rfl (Nat.le_of_ble_eq_true rfl) (fun r_1 h_2 p_3 => ?_)
  obtain ⟨rfl, w_4⟩ := p_3
  refine J_w w_4 ?_
  refine J_if_ne (tgt := 11) dX10_better_6 (by decide) (fun q => absurd (by decide) q) (fun _ => ?_)
  refine J_iconst (v := (-1)) dX10_better_9 (by decide) ?_
  exact J_iret hq dX10_better_10 rfl (hkz rfl) (Nat.le_refl _) (Nat.le_refl _) ⟨rfl, rfl⟩
set_option maxHeartbeats 4000000 in
set_option maxRecDepth 100000 in
theorem c_X10_spend0 {d : Nat} {h : List MC} {a0 a1 a2 a3 : Int32} (hd : 3 ≤ d) (h0 : h[0]? = some (.inr (10, [.ref 1, .ref 27, .ref 28, .ref 29, .ref 43, .ref 49, .ref 53, .ref 56, .ref 57, .ref 79]))) (h1 : h[1]? = some (.inr (7, [.ref 2, .int 0, .int 0, .int (-1), .ref 3, .int 0, .ref 4, .int 0])))  : CT con0 d 0 0 yX10_spend cX10_spend 5 (some .int) [.ref 0, .int a0, .int a1, .int a2, .int a3] h (fun r h2 => r = some (.int (-1)) ∧ h2 = h) := by
  refine CT_of (by decide) (Nat.le_of_ble_eq_true rfl) (fun x hq => ?_)
  show J x yX10_spend cX10_spend 5 (some .int) d 0 0 h.length 0 [(0, .ref 0), (1, .int a0), (2, .int a1), (3, .int a2), (4, .int a3)] [] h 0 0
  refine J_aload_n (i := 0) (j := 0) dX10_spend_0 rfl rfl ?_
  refine J_iload_n (i := 1) (j := 1) dX10_spend_1 rfl rfl ?_
  refine J_iload_n (i := 2) (j := 2) dX10_spend_2 rfl rfl ?_
  refine J_iload_n (i := 3) (j := 3) dX10_spend_3 rfl rfl ?_
  refine J_iload (i := 4) (j := 4) dX10_spend_4 rfl ?_
  refine J_bipush (v := 100) dX10_spend_6 (by decide) ?_
  refine J_callV (As := [.int a0, .int a1, .int a2, .int a3, .int 100]) (rest := []) dX10_spend_8 (c_X10_canMend0 (d := 2) (h := h)  (by decide) h0 h1 ) hq.n k938 k940 k26 h0 rfl rfl k87 k941 np_X10_canMend (Nat.le_trans (by decide) hd) (by decide) (Nat.le_refl _) (Nat.le_refl _) (hkz rfl) rfl (Nat.le_of_ble_eq_true rfl) (fun r_1 h_2 p_3 => ?_)
  obtain ⟨rfl, w_4⟩ := p_3
  refine J_w w_4 ?_
  refine J_if_eq (tgt := 34) dX10_spend_11 (by decide) (fun _ => ?_) (fun q => absurd (by decide) q)
  refine J_iconst (v := (-1)) dX10_spend_34 (by decide) ?_
  exact J_iret hq dX10_spend_35 rfl (hkz rfl) (Nat.le_refl _) (Nat.le_refl _) ⟨rfl, rfl⟩
