theorem k800 : Cond.methodLink RX1 50 yX1_all ∈ gt := gt_3_9 (i := 18) rfl rfl
theorem k801 : Cond.instanceMethod yX1_all ∈ gt := gt_3_9 (i := 19) rfl rfl
theorem k802 : Cond.selects RX1 yX1_all yX1_all ∈ gt := gt_3_9 (i := 20) rfl rfl
theorem k803 : Cond.code yX1_all cX1_all 1 (some .int) ∈ gt := gt_3_9 (i := 21) rfl rfl
theorem np_X1_all : yX1_all.cls ≠ "java/lang/invoke/MethodHandle" ∧ yX1_all.cls ≠ "java/lang/invoke/VarHandle" ∧ (parseMethodDescriptor yX1_all.desc).map (fun d => d.parameters.length) = some 0 := ⟨cq_RX1.1, cq_RX1.2, pd_1⟩
theorem k711 : Cond.methodLink RX1 54 yX1_hasRain ∈ gt := gt_3_6 (i := 1) rfl rfl
theorem k712 : Cond.instanceMethod yX1_hasRain ∈ gt := gt_3_6 (i := 2) rfl rfl
theorem k713 : Cond.selects RX1 yX1_hasRain yX1_hasRain ∈ gt := gt_3_6 (i := 3) rfl rfl
theorem k714 : Cond.code yX1_hasRain cX1_hasRain 2 (some .boolean) ∈ gt := gt_3_6 (i := 4) rfl rfl
theorem np_X1_hasRain : yX1_hasRain.cls ≠ "java/lang/invoke/MethodHandle" ∧ yX1_hasRain.cls ≠ "java/lang/invoke/VarHandle" ∧ (parseMethodDescriptor yX1_hasRain.desc).map (fun d => d.parameters.length) = some 1 := ⟨cq_RX1.1, cq_RX1.2, pd_10⟩
theorem k796 : Cond.methodLink RX1 58 yX1_hasSet ∈ gt := gt_3_9 (i := 14) rfl rfl
theorem k797 : Cond.instanceMethod yX1_hasSet ∈ gt := gt_3_9 (i := 15) rfl rfl
theorem k798 : Cond.selects RX1 yX1_hasSet yX1_hasSet ∈ gt := gt_3_9 (i := 16) rfl rfl
theorem k799 : Cond.code yX1_hasSet cX1_hasSet 2 (some .boolean) ∈ gt := gt_3_9 (i := 17) rfl rfl
theorem np_X1_hasSet : yX1_hasSet.cls ≠ "java/lang/invoke/MethodHandle" ∧ yX1_hasSet.cls ≠ "java/lang/invoke/VarHandle" ∧ (parseMethodDescriptor yX1_hasSet.desc).map (fun d => d.parameters.length) = some 1 := ⟨cq_RX1.1, cq_RX1.2, pd_10⟩
theorem k748 : Cond.methodLink RX1 61 yX1_of ∈ gt := gt_3_7 (i := 14) rfl rfl
theorem k749 : Cond.instanceMethod yX1_of ∈ gt := gt_3_7 (i := 15) rfl rfl
theorem k750 : Cond.selects RX1 yX1_of yX1_of ∈ gt := gt_3_7 (i := 16) rfl rfl
theorem k751 : Cond.code yX1_of cX1_of 3 (some .int) ∈ gt := gt_3_7 (i := 17) rfl rfl
theorem np_X1_of : yX1_of.cls ≠ "java/lang/invoke/MethodHandle" ∧ yX1_of.cls ≠ "java/lang/invoke/VarHandle" ∧ (parseMethodDescriptor yX1_of.desc).map (fun d => d.parameters.length) = some 2 := ⟨cq_RX1.1, cq_RX1.2, pd_11⟩
theorem k649 : Cond.methodLink RX1 46 yX1_put ∈ gt := gt_3_3 (i := 11) rfl rfl
theorem k650 : Cond.instanceMethod yX1_put ∈ gt := gt_3_3 (i := 12) rfl rfl
theorem k651 : Cond.selects RX1 yX1_put yX1_put ∈ gt := gt_3_3 (i := 13) rfl rfl
theorem k652 : Cond.code yX1_put cX1_put 4 none ∈ gt := gt_3_3 (i := 14) rfl rfl
theorem np_X1_put : yX1_put.cls ≠ "java/lang/invoke/MethodHandle" ∧ yX1_put.cls ≠ "java/lang/invoke/VarHandle" ∧ (parseMethodDescriptor yX1_put.desc).map (fun d => d.parameters.length) = some 3 := ⟨cq_RX1.1, cq_RX1.2, pd_17⟩
theorem k672 : Cond.methodLink RX1 65 yX1_chanceOf ∈ gt := gt_3_4 (i := 10) rfl rfl
theorem k673 : Cond.instanceMethod yX1_chanceOf ∈ gt := gt_3_4 (i := 11) rfl rfl
theorem k674 : Cond.selects RX1 yX1_chanceOf yX1_chanceOf ∈ gt := gt_3_4 (i := 12) rfl rfl
theorem k675 : Cond.code yX1_chanceOf cX1_chanceOf 2 (some .int) ∈ gt := gt_3_4 (i := 13) rfl rfl
theorem np_X1_chanceOf : yX1_chanceOf.cls ≠ "java/lang/invoke/MethodHandle" ∧ yX1_chanceOf.cls ≠ "java/lang/invoke/VarHandle" ∧ (parseMethodDescriptor yX1_chanceOf.desc).map (fun d => d.parameters.length) = some 1 := ⟨cq_RX1.1, cq_RX1.2, pd_6⟩
theorem k715 : Cond.methodLink RX1 69 yX1_stepsOf ∈ gt := gt_3_6 (i := 5) rfl rfl
theorem k716 : Cond.instanceMethod yX1_stepsOf ∈ gt := gt_3_6 (i := 6) rfl rfl
theorem k717 : Cond.selects RX1 yX1_stepsOf yX1_stepsOf ∈ gt := gt_3_6 (i := 7) rfl rfl
theorem k718 : Cond.code yX1_stepsOf cX1_stepsOf 2 (some .int) ∈ gt := gt_3_6 (i := 8) rfl rfl
theorem np_X1_stepsOf : yX1_stepsOf.cls ≠ "java/lang/invoke/MethodHandle" ∧ yX1_stepsOf.cls ≠ "java/lang/invoke/VarHandle" ∧ (parseMethodDescriptor yX1_stepsOf.desc).map (fun d => d.parameters.length) = some 1 := ⟨cq_RX1.1, cq_RX1.2, pd_6⟩
theorem k860 : Cond.methodLinkNest RX1 72 yX10_bit "PondStair" ∈ nt := nt_4_2 (i := 6) rfl rfl
theorem k819 : Cond.static yX10_bit ∈ gt := gt_4_0 (i := 13) rfl rfl
theorem k87 : Cond.initialized RX10 ∈ gt := gt_1_0 (i := 1) rfl rfl
theorem k820 : Cond.code yX10_bit cX10_bit 1 (some .int) ∈ gt := gt_4_0 (i := 14) rfl rfl
theorem np_X10_bit : yX10_bit.cls ≠ "java/lang/invoke/MethodHandle" ∧ yX10_bit.cls ≠ "java/lang/invoke/VarHandle" ∧ (parseMethodDescriptor yX10_bit.desc).map (fun d => d.parameters.length) = some 1 := ⟨cq_RX10.1, cq_RX10.2, pd_6⟩
theorem k839 : Cond.methodLinkNest RX1 75 yX10_isIn "PondStair" ∈ nt := nt_4_1 (i := 9) rfl rfl
theorem k816 : Cond.static yX10_isIn ∈ gt := gt_4_0 (i := 10) rfl rfl
theorem k817 : Cond.code yX10_isIn cX10_isIn 2 (some .boolean) ∈ gt := gt_4_0 (i := 11) rfl rfl
theorem np_X10_isIn : yX10_isIn.cls ≠ "java/lang/invoke/MethodHandle" ∧ yX10_isIn.cls ≠ "java/lang/invoke/VarHandle" ∧ (parseMethodDescriptor yX10_isIn.desc).map (fun d => d.parameters.length) = some 2 := ⟨cq_RX10.1, cq_RX10.2, pd_14⟩
theorem k1170 : Cond.methodLink RX1 79 yX1_nextOf ∈ gt := gt_5_5 (i := 4) rfl rfl
theorem k1171 : Cond.instanceMethod yX1_nextOf ∈ gt := gt_5_5 (i := 5) rfl rfl
theorem k1172 : Cond.selects RX1 yX1_nextOf yX1_nextOf ∈ gt := gt_5_5 (i := 6) rfl rfl
theorem k1173 : Cond.code yX1_nextOf cX1_nextOf 2 (some .int) ∈ gt := gt_5_5 (i := 7) rfl rfl
theorem np_X1_nextOf : yX1_nextOf.cls ≠ "java/lang/invoke/MethodHandle" ∧ yX1_nextOf.cls ≠ "java/lang/invoke/VarHandle" ∧ (parseMethodDescriptor yX1_nextOf.desc).map (fun d => d.parameters.length) = some 1 := ⟨cq_RX1.1, cq_RX1.2, pd_6⟩
theorem k1082 : Cond.methodLink RX1 82 yX1_seenAndGoes ∈ gt := gt_5_1 (i := 12) rfl rfl
theorem k1075 : Cond.instanceMethod yX1_seenAndGoes ∈ gt := gt_5_1 (i := 5) rfl rfl
theorem k1076 : Cond.selects RX1 yX1_seenAndGoes yX1_seenAndGoes ∈ gt := gt_5_1 (i := 6) rfl rfl
theorem k1077 : Cond.code yX1_seenAndGoes cX1_seenAndGoes 2 (some .int) ∈ gt := gt_5_1 (i := 7) rfl rfl
theorem np_X1_seenAndGoes : yX1_seenAndGoes.cls ≠ "java/lang/invoke/MethodHandle" ∧ yX1_seenAndGoes.cls ≠ "java/lang/invoke/VarHandle" ∧ (parseMethodDescriptor yX1_seenAndGoes.desc).map (fun d => d.parameters.length) = some 1 := ⟨cq_RX1.1, cq_RX1.2, pd_6⟩
theorem dX10_isIn_0 : decode cX10_isIn 0 = .ok (.iload_n 0, 1) := dqn_26 (k := 14) qh_cX10_isIn rfl rfl
theorem dX10_isIn_1 : decode cX10_isIn 1 = .ok (.iload_n 1, 1) := dqn_27 (k := 13) qh_cX10_isIn rfl rfl
theorem dX10_isIn_2 : decode cX10_isIn 2 = .ok (.ishr, 1) := dqn_122 (k := 12) qh_cX10_isIn rfl rfl
theorem dX10_isIn_3 : decode cX10_isIn 3 = .ok (.iconst 1, 1) := dqn_4 (k := 11) qh_cX10_isIn rfl rfl
theorem dX10_isIn_4 : decode cX10_isIn 4 = .ok (.iand, 1) := dqn_126 (k := 10) qh_cX10_isIn rfl rfl
theorem dX10_isIn_5 : decode cX10_isIn 5 = .ok (.iconst 1, 1) := dqn_4 (k := 9) qh_cX10_isIn rfl rfl
theorem dX10_isIn_6 : decode cX10_isIn 6 = .ok (.if_icmp .ne 7, 3) := dqn_160 (k := 6) (u := 7) qh_cX10_isIn rfl rfl rfl (sg_p rfl rfl)
theorem dX10_isIn_9 : decode cX10_isIn 9 = .ok (.iconst 1, 1) := dqn_4 (k := 5) qh_cX10_isIn rfl rfl
theorem dX10_isIn_10 : decode cX10_isIn 10 = .ok (.goto 4, 3) := dqn_167 (k := 2) (u := 4) qh_cX10_isIn rfl rfl rfl (sg_p rfl rfl)
theorem dX10_isIn_13 : decode cX10_isIn 13 = .ok (.iconst 0, 1) := dqn_3 (k := 1) qh_cX10_isIn rfl rfl
theorem dX10_isIn_14 : decode cX10_isIn 14 = .ok (.ireturn, 1) := dqn_172 (k := 0) qh_cX10_isIn rfl rfl
theorem dX10_bit_0 : decode cX10_bit 0 = .ok (.iload_n 0, 1) := dqn_26 (k := 11) qh_cX10_bit rfl rfl
theorem dX10_bit_1 : decode cX10_bit 1 = .ok (.ifCond .ge 7, 3) := dqn_156 (k := 8) (u := 7) qh_cX10_bit rfl rfl rfl (sg_p rfl rfl)
theorem dX10_bit_4 : decode cX10_bit 4 = .ok (.iconst 0, 1) := dqn_3 (k := 7) qh_cX10_bit rfl rfl
theorem dX10_bit_5 : decode cX10_bit 5 = .ok (.goto 6, 3) := dqn_167 (k := 4) (u := 6) qh_cX10_bit rfl rfl rfl (sg_p rfl rfl)
theorem dX10_bit_8 : decode cX10_bit 8 = .ok (.iconst 1, 1) := dqn_4 (k := 3) qh_cX10_bit rfl rfl
theorem dX10_bit_9 : decode cX10_bit 9 = .ok (.iload_n 0, 1) := dqn_26 (k := 2) qh_cX10_bit rfl rfl
theorem dX10_bit_10 : decode cX10_bit 10 = .ok (.ishl, 1) := dqn_120 (k := 1) qh_cX10_bit rfl rfl
theorem dX10_bit_11 : decode cX10_bit 11 = .ok (.ireturn, 1) := dqn_172 (k := 0) qh_cX10_bit rfl rfl
theorem dX10_isOwner_0 : decode cX10_isOwner 0 = .ok (.iload_n 0, 1) := dqn_26 (k := 14) qh_cX10_isOwner rfl rfl
theorem dX10_isOwner_1 : decode cX10_isOwner 1 = .ok (.ifCond .lt 12, 3) := dqn_155 (k := 11) (u := 12) qh_cX10_isOwner rfl rfl rfl (sg_p rfl rfl)
theorem dX10_isOwner_4 : decode cX10_isOwner 4 = .ok (.iload_n 0, 1) := dqn_26 (k := 10) qh_cX10_isOwner rfl rfl
theorem dX10_isOwner_5 : decode cX10_isOwner 5 = .ok (.iconst 4, 1) := dqn_7 (k := 9) qh_cX10_isOwner rfl rfl
theorem dX10_isOwner_6 : decode cX10_isOwner 6 = .ok (.if_icmp .ge 7, 3) := dqn_162 (k := 6) (u := 7) qh_cX10_isOwner rfl rfl rfl (sg_p rfl rfl)
theorem dX10_isOwner_9 : decode cX10_isOwner 9 = .ok (.iconst 1, 1) := dqn_4 (k := 5) qh_cX10_isOwner rfl rfl
theorem dX10_isOwner_10 : decode cX10_isOwner 10 = .ok (.goto 4, 3) := dqn_167 (k := 2) (u := 4) qh_cX10_isOwner rfl rfl rfl (sg_p rfl rfl)
theorem dX10_isOwner_13 : decode cX10_isOwner 13 = .ok (.iconst 0, 1) := dqn_3 (k := 1) qh_cX10_isOwner rfl rfl
theorem dX10_isOwner_14 : decode cX10_isOwner 14 = .ok (.ireturn, 1) := dqn_172 (k := 0) qh_cX10_isOwner rfl rfl
theorem dX1_has_0 : decode cX1_has 0 = .ok (.iload_n 1, 1) := dqn_27 (k := 17) qh_cX1_has rfl rfl
theorem dX1_has_1 : decode cX1_has 1 = .ok (.ifCond .lt 15, 3) := dqn_155 (k := 14) (u := 15) qh_cX1_has rfl rfl rfl (sg_p rfl rfl)
theorem dX1_has_4 : decode cX1_has 4 = .ok (.iload_n 1, 1) := dqn_27 (k := 13) qh_cX1_has rfl rfl
theorem dX1_has_5 : decode cX1_has 5 = .ok (.aload_n 0, 1) := dqn_42 (k := 12) qh_cX1_has rfl rfl
theorem dX1_has_6 : decode cX1_has 6 = .ok (.getfield 9, 3) := dqn_180 (k := 9) qh_cX1_has rfl rfl rfl
theorem dX1_has_9 : decode cX1_has 9 = .ok (.if_icmp .ge 7, 3) := dqn_162 (k := 6) (u := 7) qh_cX1_has rfl rfl rfl (sg_p rfl rfl)
theorem dX1_has_12 : decode cX1_has 12 = .ok (.iconst 1, 1) := dqn_4 (k := 5) qh_cX1_has rfl rfl
theorem dX1_has_13 : decode cX1_has 13 = .ok (.goto 4, 3) := dqn_167 (k := 2) (u := 4) qh_cX1_has rfl rfl rfl (sg_p rfl rfl)
theorem dX1_has_16 : decode cX1_has 16 = .ok (.iconst 0, 1) := dqn_3 (k := 1) qh_cX1_has rfl rfl
theorem dX1_has_17 : decode cX1_has 17 = .ok (.ireturn, 1) := dqn_172 (k := 0) qh_cX1_has rfl rfl
theorem dX1_all_0 : decode cX1_all 0 = .ok (.iconst 1, 1) := dqn_4 (k := 8) qh_cX1_all rfl rfl
theorem dX1_all_1 : decode cX1_all 1 = .ok (.aload_n 0, 1) := dqn_42 (k := 7) qh_cX1_all rfl rfl
theorem dX1_all_2 : decode cX1_all 2 = .ok (.getfield 9, 3) := dqn_180 (k := 4) qh_cX1_all rfl rfl rfl
theorem dX1_all_5 : decode cX1_all 5 = .ok (.ishl, 1) := dqn_120 (k := 3) qh_cX1_all rfl rfl
theorem dX1_all_6 : decode cX1_all 6 = .ok (.iconst 1, 1) := dqn_4 (k := 2) qh_cX1_all rfl rfl
theorem dX1_all_7 : decode cX1_all 7 = .ok (.isub, 1) := dqn_100 (k := 1) qh_cX1_all rfl rfl
theorem dX1_all_8 : decode cX1_all 8 = .ok (.ireturn, 1) := dqn_172 (k := 0) qh_cX1_all rfl rfl
theorem dX1_hasSet_0 : decode cX1_hasSet 0 = .ok (.iload_n 1, 1) := dqn_27 (k := 17) qh_cX1_hasSet rfl rfl
theorem dX1_hasSet_1 : decode cX1_hasSet 1 = .ok (.ifCond .lt 15, 3) := dqn_155 (k := 14) (u := 15) qh_cX1_hasSet rfl rfl rfl (sg_p rfl rfl)
theorem dX1_hasSet_4 : decode cX1_hasSet 4 = .ok (.iload_n 1, 1) := dqn_27 (k := 13) qh_cX1_hasSet rfl rfl
theorem dX1_hasSet_5 : decode cX1_hasSet 5 = .ok (.aload_n 0, 1) := dqn_42 (k := 12) qh_cX1_hasSet rfl rfl
theorem dX1_hasSet_6 : decode cX1_hasSet 6 = .ok (.invokevirtual 50, 3) := dqn_182 (k := 9) qh_cX1_hasSet rfl rfl rfl
theorem dX1_hasSet_9 : decode cX1_hasSet 9 = .ok (.if_icmp .gt 7, 3) := dqn_163 (k := 6) (u := 7) qh_cX1_hasSet rfl rfl rfl (sg_p rfl rfl)
theorem dX1_hasSet_12 : decode cX1_hasSet 12 = .ok (.iconst 1, 1) := dqn_4 (k := 5) qh_cX1_hasSet rfl rfl
theorem dX1_hasSet_13 : decode cX1_hasSet 13 = .ok (.goto 4, 3) := dqn_167 (k := 2) (u := 4) qh_cX1_hasSet rfl rfl rfl (sg_p rfl rfl)
theorem dX1_hasSet_16 : decode cX1_hasSet 16 = .ok (.iconst 0, 1) := dqn_3 (k := 1) qh_cX1_hasSet rfl rfl
theorem dX1_hasSet_17 : decode cX1_hasSet 17 = .ok (.ireturn, 1) := dqn_172 (k := 0) qh_cX1_hasSet rfl rfl
theorem dX1_hasRain_0 : decode cX1_hasRain 0 = .ok (.iload_n 1, 1) := dqn_27 (k := 17) qh_cX1_hasRain rfl rfl
theorem dX1_hasRain_1 : decode cX1_hasRain 1 = .ok (.ifCond .lt 15, 3) := dqn_155 (k := 14) (u := 15) qh_cX1_hasRain rfl rfl rfl (sg_p rfl rfl)
theorem dX1_hasRain_4 : decode cX1_hasRain 4 = .ok (.iload_n 1, 1) := dqn_27 (k := 13) qh_cX1_hasRain rfl rfl
theorem dX1_hasRain_5 : decode cX1_hasRain 5 = .ok (.aload_n 0, 1) := dqn_42 (k := 12) qh_cX1_hasRain rfl rfl
theorem dX1_hasRain_6 : decode cX1_hasRain 6 = .ok (.getfield 19, 3) := dqn_180 (k := 9) qh_cX1_hasRain rfl rfl rfl
theorem dX1_hasRain_9 : decode cX1_hasRain 9 = .ok (.if_icmp .ge 7, 3) := dqn_162 (k := 6) (u := 7) qh_cX1_hasRain rfl rfl rfl (sg_p rfl rfl)
theorem dX1_hasRain_12 : decode cX1_hasRain 12 = .ok (.iconst 1, 1) := dqn_4 (k := 5) qh_cX1_hasRain rfl rfl
theorem dX1_hasRain_13 : decode cX1_hasRain 13 = .ok (.goto 4, 3) := dqn_167 (k := 2) (u := 4) qh_cX1_hasRain rfl rfl rfl (sg_p rfl rfl)
theorem dX1_hasRain_16 : decode cX1_hasRain 16 = .ok (.iconst 0, 1) := dqn_3 (k := 1) qh_cX1_hasRain rfl rfl
theorem dX1_hasRain_17 : decode cX1_hasRain 17 = .ok (.ireturn, 1) := dqn_172 (k := 0) qh_cX1_hasRain rfl rfl
theorem dX1_hasStorm_0 : decode cX1_hasStorm 0 = .ok (.aload_n 0, 1) := dqn_42 (k := 21) qh_cX1_hasStorm rfl rfl
theorem dX1_hasStorm_1 : decode cX1_hasStorm 1 = .ok (.iload_n 1, 1) := dqn_27 (k := 20) qh_cX1_hasStorm rfl rfl
theorem dX1_hasStorm_2 : decode cX1_hasStorm 2 = .ok (.invokevirtual 54, 3) := dqn_182 (k := 17) qh_cX1_hasStorm rfl rfl rfl
theorem dX1_hasStorm_5 : decode cX1_hasStorm 5 = .ok (.ifCond .eq 15, 3) := dqn_153 (k := 14) (u := 15) qh_cX1_hasStorm rfl rfl rfl (sg_p rfl rfl)
theorem dX1_hasStorm_8 : decode cX1_hasStorm 8 = .ok (.aload_n 0, 1) := dqn_42 (k := 13) qh_cX1_hasStorm rfl rfl
theorem dX1_hasStorm_9 : decode cX1_hasStorm 9 = .ok (.iload_n 2, 1) := dqn_28 (k := 12) qh_cX1_hasStorm rfl rfl
theorem dX1_hasStorm_10 : decode cX1_hasStorm 10 = .ok (.invokevirtual 58, 3) := dqn_182 (k := 9) qh_cX1_hasStorm rfl rfl rfl
theorem dX1_hasStorm_13 : decode cX1_hasStorm 13 = .ok (.ifCond .eq 7, 3) := dqn_153 (k := 6) (u := 7) qh_cX1_hasStorm rfl rfl rfl (sg_p rfl rfl)
theorem dX1_hasStorm_16 : decode cX1_hasStorm 16 = .ok (.iconst 1, 1) := dqn_4 (k := 5) qh_cX1_hasStorm rfl rfl
theorem dX1_hasStorm_17 : decode cX1_hasStorm 17 = .ok (.goto 4, 3) := dqn_167 (k := 2) (u := 4) qh_cX1_hasStorm rfl rfl rfl (sg_p rfl rfl)
theorem dX1_hasStorm_20 : decode cX1_hasStorm 20 = .ok (.iconst 0, 1) := dqn_3 (k := 1) qh_cX1_hasStorm rfl rfl
theorem dX1_hasStorm_21 : decode cX1_hasStorm 21 = .ok (.ireturn, 1) := dqn_172 (k := 0) qh_cX1_hasStorm rfl rfl
theorem dX1_of_0 : decode cX1_of 0 = .ok (.iload_n 1, 1) := dqn_27 (k := 33) qh_cX1_of rfl rfl
theorem dX1_of_1 : decode cX1_of 1 = .ok (.ifCond .lt 19, 3) := dqn_155 (k := 30) (u := 19) qh_cX1_of rfl rfl rfl (sg_p rfl rfl)
theorem dX1_of_4 : decode cX1_of 4 = .ok (.iload_n 1, 1) := dqn_27 (k := 29) qh_cX1_of rfl rfl
theorem dX1_of_5 : decode cX1_of 5 = .ok (.bipush 9, 2) := dqn_16 (k := 27) (u := 9) qh_cX1_of rfl rfl rfl (by decide)
theorem dX1_of_7 : decode cX1_of 7 = .ok (.if_icmp .ge 13, 3) := dqn_162 (k := 24) (u := 13) qh_cX1_of rfl rfl rfl (sg_p rfl rfl)
theorem dX1_of_10 : decode cX1_of 10 = .ok (.iload_n 2, 1) := dqn_28 (k := 23) qh_cX1_of rfl rfl
theorem dX1_of_11 : decode cX1_of 11 = .ok (.ifCond .lt 9, 3) := dqn_155 (k := 20) (u := 9) qh_cX1_of rfl rfl rfl (sg_p rfl rfl)
theorem dX1_of_14 : decode cX1_of 14 = .ok (.iload_n 2, 1) := dqn_28 (k := 19) qh_cX1_of rfl rfl
theorem dX1_of_15 : decode cX1_of 15 = .ok (.bipush 16, 2) := dqn_16 (k := 17) (u := 16) qh_cX1_of rfl rfl rfl (by decide)
theorem dX1_of_17 : decode cX1_of 17 = .ok (.if_icmp .lt 5, 3) := dqn_161 (k := 14) (u := 5) qh_cX1_of rfl rfl rfl (sg_p rfl rfl)
theorem dX1_of_20 : decode cX1_of 20 = .ok (.iconst 0, 1) := dqn_3 (k := 13) qh_cX1_of rfl rfl
theorem dX1_of_21 : decode cX1_of 21 = .ok (.ireturn, 1) := dqn_172 (k := 12) qh_cX1_of rfl rfl
theorem dX1_of_22 : decode cX1_of 22 = .ok (.aload_n 0, 1) := dqn_42 (k := 11) qh_cX1_of rfl rfl
theorem dX1_of_23 : decode cX1_of 23 = .ok (.getfield 15, 3) := dqn_180 (k := 8) qh_cX1_of rfl rfl rfl
theorem dX1_of_26 : decode cX1_of 26 = .ok (.iload_n 1, 1) := dqn_27 (k := 7) qh_cX1_of rfl rfl
theorem dX1_of_27 : decode cX1_of 27 = .ok (.bipush 16, 2) := dqn_16 (k := 5) (u := 16) qh_cX1_of rfl rfl rfl (by decide)
theorem dX1_of_29 : decode cX1_of 29 = .ok (.imul, 1) := dqn_104 (k := 4) qh_cX1_of rfl rfl
theorem dX1_of_30 : decode cX1_of 30 = .ok (.iload_n 2, 1) := dqn_28 (k := 3) qh_cX1_of rfl rfl
theorem dX1_of_31 : decode cX1_of 31 = .ok (.iadd, 1) := dqn_96 (k := 2) qh_cX1_of rfl rfl
theorem dX1_of_32 : decode cX1_of 32 = .ok (.iaload, 1) := dqn_46 (k := 1) qh_cX1_of rfl rfl
theorem dX1_of_33 : decode cX1_of 33 = .ok (.ireturn, 1) := dqn_172 (k := 0) qh_cX1_of rfl rfl
theorem dX1_put_0 : decode cX1_put 0 = .ok (.iload_n 1, 1) := dqn_27 (k := 32) qh_cX1_put rfl rfl
theorem dX1_put_1 : decode cX1_put 1 = .ok (.ifCond .lt 31, 3) := dqn_155 (k := 29) (u := 31) qh_cX1_put rfl rfl rfl (sg_p rfl rfl)
theorem dX1_put_4 : decode cX1_put 4 = .ok (.iload_n 1, 1) := dqn_27 (k := 28) qh_cX1_put rfl rfl
theorem dX1_put_5 : decode cX1_put 5 = .ok (.bipush 9, 2) := dqn_16 (k := 26) (u := 9) qh_cX1_put rfl rfl rfl (by decide)
theorem dX1_put_7 : decode cX1_put 7 = .ok (.if_icmp .ge 25, 3) := dqn_162 (k := 23) (u := 25) qh_cX1_put rfl rfl rfl (sg_p rfl rfl)
theorem dX1_put_10 : decode cX1_put 10 = .ok (.iload_n 2, 1) := dqn_28 (k := 22) qh_cX1_put rfl rfl
theorem dX1_put_11 : decode cX1_put 11 = .ok (.ifCond .lt 21, 3) := dqn_155 (k := 19) (u := 21) qh_cX1_put rfl rfl rfl (sg_p rfl rfl)
theorem dX1_put_14 : decode cX1_put 14 = .ok (.iload_n 2, 1) := dqn_28 (k := 18) qh_cX1_put rfl rfl
theorem dX1_put_15 : decode cX1_put 15 = .ok (.bipush 16, 2) := dqn_16 (k := 16) (u := 16) qh_cX1_put rfl rfl rfl (by decide)
theorem dX1_put_17 : decode cX1_put 17 = .ok (.if_icmp .ge 15, 3) := dqn_162 (k := 13) (u := 15) qh_cX1_put rfl rfl rfl (sg_p rfl rfl)
theorem dX1_put_20 : decode cX1_put 20 = .ok (.aload_n 0, 1) := dqn_42 (k := 12) qh_cX1_put rfl rfl
theorem dX1_put_21 : decode cX1_put 21 = .ok (.getfield 15, 3) := dqn_180 (k := 9) qh_cX1_put rfl rfl rfl
theorem dX1_put_24 : decode cX1_put 24 = .ok (.iload_n 1, 1) := dqn_27 (k := 8) qh_cX1_put rfl rfl
theorem dX1_put_25 : decode cX1_put 25 = .ok (.bipush 16, 2) := dqn_16 (k := 6) (u := 16) qh_cX1_put rfl rfl rfl (by decide)
theorem dX1_put_27 : decode cX1_put 27 = .ok (.imul, 1) := dqn_104 (k := 5) qh_cX1_put rfl rfl
theorem dX1_put_28 : decode cX1_put 28 = .ok (.iload_n 2, 1) := dqn_28 (k := 4) qh_cX1_put rfl rfl
theorem dX1_put_29 : decode cX1_put 29 = .ok (.iadd, 1) := dqn_96 (k := 3) qh_cX1_put rfl rfl
theorem dX1_put_30 : decode cX1_put 30 = .ok (.iload_n 3, 1) := dqn_29 (k := 2) qh_cX1_put rfl rfl
theorem dX1_put_31 : decode cX1_put 31 = .ok (.iastore, 1) := dqn_79 (k := 1) qh_cX1_put rfl rfl
theorem dX1_put_32 : decode cX1_put 32 = .ok (.return_, 1) := dqn_177 (k := 0) qh_cX1_put rfl rfl
theorem dX1_isOut_0 : decode cX1_isOut 0 = .ok (.aload_n 0, 1) := dqn_42 (k := 16) qh_cX1_isOut rfl rfl
theorem dX1_isOut_1 : decode cX1_isOut 1 = .ok (.iload_n 1, 1) := dqn_27 (k := 15) qh_cX1_isOut rfl rfl
theorem dX1_isOut_2 : decode cX1_isOut 2 = .ok (.bipush 15, 2) := dqn_16 (k := 13) (u := 15) qh_cX1_isOut rfl rfl rfl (by decide)
theorem dX1_isOut_4 : decode cX1_isOut 4 = .ok (.invokevirtual 61, 3) := dqn_182 (k := 10) qh_cX1_isOut rfl rfl rfl
theorem dX1_isOut_7 : decode cX1_isOut 7 = .ok (.iconst 1, 1) := dqn_4 (k := 9) qh_cX1_isOut rfl rfl
theorem dX1_isOut_8 : decode cX1_isOut 8 = .ok (.if_icmp .ne 7, 3) := dqn_160 (k := 6) (u := 7) qh_cX1_isOut rfl rfl rfl (sg_p rfl rfl)
theorem dX1_isOut_11 : decode cX1_isOut 11 = .ok (.iconst 1, 1) := dqn_4 (k := 5) qh_cX1_isOut rfl rfl
theorem dX1_isOut_12 : decode cX1_isOut 12 = .ok (.goto 4, 3) := dqn_167 (k := 2) (u := 4) qh_cX1_isOut rfl rfl rfl (sg_p rfl rfl)
theorem dX1_isOut_15 : decode cX1_isOut 15 = .ok (.iconst 0, 1) := dqn_3 (k := 1) qh_cX1_isOut rfl rfl
theorem dX1_isOut_16 : decode cX1_isOut 16 = .ok (.ireturn, 1) := dqn_172 (k := 0) qh_cX1_isOut rfl rfl
theorem dX1_takeOut_0 : decode cX1_takeOut 0 = .ok (.aload_n 0, 1) := dqn_42 (k := 29) qh_cX1_takeOut rfl rfl
theorem dX1_takeOut_1 : decode cX1_takeOut 1 = .ok (.iload_n 1, 1) := dqn_27 (k := 28) qh_cX1_takeOut rfl rfl
theorem dX1_takeOut_2 : decode cX1_takeOut 2 = .ok (.bipush 15, 2) := dqn_16 (k := 26) (u := 15) qh_cX1_takeOut rfl rfl rfl (by decide)
theorem dX1_takeOut_4 : decode cX1_takeOut 4 = .ok (.iconst 1, 1) := dqn_4 (k := 25) qh_cX1_takeOut rfl rfl
theorem dX1_takeOut_5 : decode cX1_takeOut 5 = .ok (.invokevirtual 46, 3) := dqn_182 (k := 22) qh_cX1_takeOut rfl rfl rfl
theorem dX1_takeOut_8 : decode cX1_takeOut 8 = .ok (.aload_n 0, 1) := dqn_42 (k := 21) qh_cX1_takeOut rfl rfl
theorem dX1_takeOut_9 : decode cX1_takeOut 9 = .ok (.iload_n 1, 1) := dqn_27 (k := 20) qh_cX1_takeOut rfl rfl
theorem dX1_takeOut_10 : decode cX1_takeOut 10 = .ok (.iconst 1, 1) := dqn_4 (k := 19) qh_cX1_takeOut rfl rfl
theorem dX1_takeOut_11 : decode cX1_takeOut 11 = .ok (.iconst 0, 1) := dqn_3 (k := 18) qh_cX1_takeOut rfl rfl
theorem dX1_takeOut_12 : decode cX1_takeOut 12 = .ok (.invokevirtual 46, 3) := dqn_182 (k := 15) qh_cX1_takeOut rfl rfl rfl
theorem dX1_takeOut_15 : decode cX1_takeOut 15 = .ok (.aload_n 0, 1) := dqn_42 (k := 14) qh_cX1_takeOut rfl rfl
theorem dX1_takeOut_16 : decode cX1_takeOut 16 = .ok (.iload_n 1, 1) := dqn_27 (k := 13) qh_cX1_takeOut rfl rfl
theorem dX1_takeOut_17 : decode cX1_takeOut 17 = .ok (.iconst 0, 1) := dqn_3 (k := 12) qh_cX1_takeOut rfl rfl
theorem dX1_takeOut_18 : decode cX1_takeOut 18 = .ok (.iconst 0, 1) := dqn_3 (k := 11) qh_cX1_takeOut rfl rfl
theorem dX1_takeOut_19 : decode cX1_takeOut 19 = .ok (.invokevirtual 46, 3) := dqn_182 (k := 8) qh_cX1_takeOut rfl rfl rfl
theorem dX1_takeOut_22 : decode cX1_takeOut 22 = .ok (.aload_n 0, 1) := dqn_42 (k := 7) qh_cX1_takeOut rfl rfl
theorem dX1_takeOut_23 : decode cX1_takeOut 23 = .ok (.iload_n 1, 1) := dqn_27 (k := 6) qh_cX1_takeOut rfl rfl
theorem dX1_takeOut_24 : decode cX1_takeOut 24 = .ok (.iconst 4, 1) := dqn_7 (k := 5) qh_cX1_takeOut rfl rfl
theorem dX1_takeOut_25 : decode cX1_takeOut 25 = .ok (.iconst 0, 1) := dqn_3 (k := 4) qh_cX1_takeOut rfl rfl
theorem dX1_takeOut_26 : decode cX1_takeOut 26 = .ok (.invokevirtual 46, 3) := dqn_182 (k := 1) qh_cX1_takeOut rfl rfl rfl
theorem dX1_takeOut_29 : decode cX1_takeOut 29 = .ok (.return_, 1) := dqn_177 (k := 0) qh_cX1_takeOut rfl rfl
theorem dX1_stepsOf_0 : decode cX1_stepsOf 0 = .ok (.iload_n 1, 1) := dqn_27 (k := 22) qh_cX1_stepsOf rfl rfl
theorem dX1_stepsOf_1 : decode cX1_stepsOf 1 = .ok (.ifCond .lt 20, 3) := dqn_155 (k := 19) (u := 20) qh_cX1_stepsOf rfl rfl rfl (sg_p rfl rfl)
theorem dX1_stepsOf_4 : decode cX1_stepsOf 4 = .ok (.iload_n 1, 1) := dqn_27 (k := 18) qh_cX1_stepsOf rfl rfl
theorem dX1_stepsOf_5 : decode cX1_stepsOf 5 = .ok (.aload_n 0, 1) := dqn_42 (k := 17) qh_cX1_stepsOf rfl rfl
theorem dX1_stepsOf_6 : decode cX1_stepsOf 6 = .ok (.getfield 19, 3) := dqn_180 (k := 14) qh_cX1_stepsOf rfl rfl rfl
theorem dX1_stepsOf_9 : decode cX1_stepsOf 9 = .ok (.if_icmp .ge 12, 3) := dqn_162 (k := 11) (u := 12) qh_cX1_stepsOf rfl rfl rfl (sg_p rfl rfl)
theorem dX1_stepsOf_12 : decode cX1_stepsOf 12 = .ok (.aload_n 0, 1) := dqn_42 (k := 10) qh_cX1_stepsOf rfl rfl
theorem dX1_stepsOf_13 : decode cX1_stepsOf 13 = .ok (.getfield 22, 3) := dqn_180 (k := 7) qh_cX1_stepsOf rfl rfl rfl
theorem dX1_stepsOf_16 : decode cX1_stepsOf 16 = .ok (.iload_n 1, 1) := dqn_27 (k := 6) qh_cX1_stepsOf rfl rfl
theorem dX1_stepsOf_17 : decode cX1_stepsOf 17 = .ok (.iaload, 1) := dqn_46 (k := 5) qh_cX1_stepsOf rfl rfl
theorem dX1_stepsOf_18 : decode cX1_stepsOf 18 = .ok (.goto 4, 3) := dqn_167 (k := 2) (u := 4) qh_cX1_stepsOf rfl rfl rfl (sg_p rfl rfl)
theorem dX1_stepsOf_21 : decode cX1_stepsOf 21 = .ok (.iconst 0, 1) := dqn_3 (k := 1) qh_cX1_stepsOf rfl rfl
theorem dX1_stepsOf_22 : decode cX1_stepsOf 22 = .ok (.ireturn, 1) := dqn_172 (k := 0) qh_cX1_stepsOf rfl rfl
theorem dX1_chanceOf_0 : decode cX1_chanceOf 0 = .ok (.iload_n 1, 1) := dqn_27 (k := 22) qh_cX1_chanceOf rfl rfl
theorem dX1_chanceOf_1 : decode cX1_chanceOf 1 = .ok (.ifCond .lt 20, 3) := dqn_155 (k := 19) (u := 20) qh_cX1_chanceOf rfl rfl rfl (sg_p rfl rfl)
theorem dX1_chanceOf_4 : decode cX1_chanceOf 4 = .ok (.iload_n 1, 1) := dqn_27 (k := 18) qh_cX1_chanceOf rfl rfl
theorem dX1_chanceOf_5 : decode cX1_chanceOf 5 = .ok (.aload_n 0, 1) := dqn_42 (k := 17) qh_cX1_chanceOf rfl rfl
theorem dX1_chanceOf_6 : decode cX1_chanceOf 6 = .ok (.getfield 19, 3) := dqn_180 (k := 14) qh_cX1_chanceOf rfl rfl rfl
theorem dX1_chanceOf_9 : decode cX1_chanceOf 9 = .ok (.if_icmp .ge 12, 3) := dqn_162 (k := 11) (u := 12) qh_cX1_chanceOf rfl rfl rfl (sg_p rfl rfl)
theorem dX1_chanceOf_12 : decode cX1_chanceOf 12 = .ok (.aload_n 0, 1) := dqn_42 (k := 10) qh_cX1_chanceOf rfl rfl
theorem dX1_chanceOf_13 : decode cX1_chanceOf 13 = .ok (.getfield 25, 3) := dqn_180 (k := 7) qh_cX1_chanceOf rfl rfl rfl
theorem dX1_chanceOf_16 : decode cX1_chanceOf 16 = .ok (.iload_n 1, 1) := dqn_27 (k := 6) qh_cX1_chanceOf rfl rfl
theorem dX1_chanceOf_17 : decode cX1_chanceOf 17 = .ok (.iaload, 1) := dqn_46 (k := 5) qh_cX1_chanceOf rfl rfl
theorem dX1_chanceOf_18 : decode cX1_chanceOf 18 = .ok (.goto 4, 3) := dqn_167 (k := 2) (u := 4) qh_cX1_chanceOf rfl rfl rfl (sg_p rfl rfl)
theorem dX1_chanceOf_21 : decode cX1_chanceOf 21 = .ok (.iconst 0, 1) := dqn_3 (k := 1) qh_cX1_chanceOf rfl rfl
theorem dX1_chanceOf_22 : decode cX1_chanceOf 22 = .ok (.ireturn, 1) := dqn_172 (k := 0) qh_cX1_chanceOf rfl rfl
theorem dX1_chancesTogether_0 : decode cX1_chancesTogether 0 = .ok (.iconst 0, 1) := dqn_3 (k := 27) qh_cX1_chancesTogether rfl rfl
theorem dX1_chancesTogether_1 : decode cX1_chancesTogether 1 = .ok (.istore_n 1, 1) := dqn_60 (k := 26) qh_cX1_chancesTogether rfl rfl
theorem dX1_chancesTogether_2 : decode cX1_chancesTogether 2 = .ok (.iconst 0, 1) := dqn_3 (k := 25) qh_cX1_chancesTogether rfl rfl
theorem dX1_chancesTogether_3 : decode cX1_chancesTogether 3 = .ok (.istore_n 2, 1) := dqn_61 (k := 24) qh_cX1_chancesTogether rfl rfl
theorem dX1_chancesTogether_4 : decode cX1_chancesTogether 4 = .ok (.iload_n 2, 1) := dqn_28 (k := 23) qh_cX1_chancesTogether rfl rfl
theorem dX1_chancesTogether_5 : decode cX1_chancesTogether 5 = .ok (.aload_n 0, 1) := dqn_42 (k := 22) qh_cX1_chancesTogether rfl rfl
theorem dX1_chancesTogether_6 : decode cX1_chancesTogether 6 = .ok (.getfield 19, 3) := dqn_180 (k := 19) qh_cX1_chancesTogether rfl rfl rfl
theorem dX1_chancesTogether_9 : decode cX1_chancesTogether 9 = .ok (.if_icmp .ge 17, 3) := dqn_162 (k := 16) (u := 17) qh_cX1_chancesTogether rfl rfl rfl (sg_p rfl rfl)
theorem dX1_chancesTogether_12 : decode cX1_chancesTogether 12 = .ok (.iload_n 1, 1) := dqn_27 (k := 15) qh_cX1_chancesTogether rfl rfl
theorem dX1_chancesTogether_13 : decode cX1_chancesTogether 13 = .ok (.aload_n 0, 1) := dqn_42 (k := 14) qh_cX1_chancesTogether rfl rfl
theorem dX1_chancesTogether_14 : decode cX1_chancesTogether 14 = .ok (.iload_n 2, 1) := dqn_28 (k := 13) qh_cX1_chancesTogether rfl rfl
theorem dX1_chancesTogether_15 : decode cX1_chancesTogether 15 = .ok (.invokevirtual 65, 3) := dqn_182 (k := 10) qh_cX1_chancesTogether rfl rfl rfl
theorem dX1_chancesTogether_18 : decode cX1_chancesTogether 18 = .ok (.iadd, 1) := dqn_96 (k := 9) qh_cX1_chancesTogether rfl rfl
theorem dX1_chancesTogether_19 : decode cX1_chancesTogether 19 = .ok (.istore_n 1, 1) := dqn_60 (k := 8) qh_cX1_chancesTogether rfl rfl
theorem dX1_chancesTogether_20 : decode cX1_chancesTogether 20 = .ok (.iinc 2 1, 3) := dqn_132 (k := 5) (u := 1) qh_cX1_chancesTogether rfl rfl rfl rfl (by decide)
theorem dX1_chancesTogether_23 : decode cX1_chancesTogether 23 = .ok (.goto (-19), 3) := dqn_167 (k := 2) (u := 65517) qh_cX1_chancesTogether rfl rfl rfl (sg_n (k := 19) rfl rfl rfl)
theorem dX1_chancesTogether_26 : decode cX1_chancesTogether 26 = .ok (.iload_n 1, 1) := dqn_27 (k := 1) qh_cX1_chancesTogether rfl rfl
theorem dX1_chancesTogether_27 : decode cX1_chancesTogether 27 = .ok (.ireturn, 1) := dqn_172 (k := 0) qh_cX1_chancesTogether rfl rfl
theorem dX1_told_0 : decode cX1_told 0 = .ok (.iload_n 1, 1) := dqn_27 (k := 93) qh_cX1_told rfl rfl
theorem dX1_told_1 : decode cX1_told 1 = .ok (.ifCond .ne 8, 3) := dqn_154 (k := 90) (u := 8) qh_cX1_told rfl rfl rfl (sg_p rfl rfl)
theorem dX1_told_4 : decode cX1_told 4 = .ok (.aload_n 0, 1) := dqn_42 (k := 89) qh_cX1_told rfl rfl
theorem dX1_told_5 : decode cX1_told 5 = .ok (.getfield 9, 3) := dqn_180 (k := 86) qh_cX1_told rfl rfl rfl
theorem dX1_told_8 : decode cX1_told 8 = .ok (.ireturn, 1) := dqn_172 (k := 85) qh_cX1_told rfl rfl
theorem dX1_told_9 : decode cX1_told 9 = .ok (.iload_n 1, 1) := dqn_27 (k := 84) qh_cX1_told rfl rfl
theorem dX1_told_10 : decode cX1_told 10 = .ok (.iconst 1, 1) := dqn_4 (k := 83) qh_cX1_told rfl rfl
theorem dX1_told_11 : decode cX1_told 11 = .ok (.if_icmp .ne 8, 3) := dqn_160 (k := 80) (u := 8) qh_cX1_told rfl rfl rfl (sg_p rfl rfl)
theorem dX1_told_14 : decode cX1_told 14 = .ok (.aload_n 0, 1) := dqn_42 (k := 79) qh_cX1_told rfl rfl
theorem dX1_told_15 : decode cX1_told 15 = .ok (.getfield 19, 3) := dqn_180 (k := 76) qh_cX1_told rfl rfl rfl
theorem dX1_told_18 : decode cX1_told 18 = .ok (.ireturn, 1) := dqn_172 (k := 75) qh_cX1_told rfl rfl
theorem dX1_told_19 : decode cX1_told 19 = .ok (.iload_n 1, 1) := dqn_27 (k := 74) qh_cX1_told rfl rfl
theorem dX1_told_20 : decode cX1_told 20 = .ok (.iconst 2, 1) := dqn_5 (k := 73) qh_cX1_told rfl rfl
theorem dX1_told_21 : decode cX1_told 21 = .ok (.if_icmp .lt 17, 3) := dqn_161 (k := 70) (u := 17) qh_cX1_told rfl rfl rfl (sg_p rfl rfl)
theorem dX1_told_24 : decode cX1_told 24 = .ok (.iload_n 1, 1) := dqn_27 (k := 69) qh_cX1_told rfl rfl
theorem dX1_told_25 : decode cX1_told 25 = .ok (.iconst 4, 1) := dqn_7 (k := 68) qh_cX1_told rfl rfl
theorem dX1_told_26 : decode cX1_told 26 = .ok (.if_icmp .gt 12, 3) := dqn_163 (k := 65) (u := 12) qh_cX1_told rfl rfl rfl (sg_p rfl rfl)
theorem dX1_told_29 : decode cX1_told 29 = .ok (.aload_n 0, 1) := dqn_42 (k := 64) qh_cX1_told rfl rfl
theorem dX1_told_30 : decode cX1_told 30 = .ok (.getfield 28, 3) := dqn_180 (k := 61) qh_cX1_told rfl rfl rfl
theorem dX1_told_33 : decode cX1_told 33 = .ok (.iload_n 1, 1) := dqn_27 (k := 60) qh_cX1_told rfl rfl
theorem dX1_told_34 : decode cX1_told 34 = .ok (.iconst 2, 1) := dqn_5 (k := 59) qh_cX1_told rfl rfl
theorem dX1_told_35 : decode cX1_told 35 = .ok (.isub, 1) := dqn_100 (k := 58) qh_cX1_told rfl rfl
theorem dX1_told_36 : decode cX1_told 36 = .ok (.iaload, 1) := dqn_46 (k := 57) qh_cX1_told rfl rfl
theorem dX1_told_37 : decode cX1_told 37 = .ok (.ireturn, 1) := dqn_172 (k := 56) qh_cX1_told rfl rfl
theorem dX1_told_38 : decode cX1_told 38 = .ok (.iload_n 1, 1) := dqn_27 (k := 55) qh_cX1_told rfl rfl
theorem dX1_told_39 : decode cX1_told 39 = .ok (.bipush 10, 2) := dqn_16 (k := 53) (u := 10) qh_cX1_told rfl rfl rfl (by decide)
theorem dX1_told_41 : decode cX1_told 41 = .ok (.if_icmp .lt 23, 3) := dqn_161 (k := 50) (u := 23) qh_cX1_told rfl rfl rfl (sg_p rfl rfl)
theorem dX1_told_44 : decode cX1_told 44 = .ok (.aload_n 0, 1) := dqn_42 (k := 49) qh_cX1_told rfl rfl
theorem dX1_told_45 : decode cX1_told 45 = .ok (.iload_n 1, 1) := dqn_27 (k := 48) qh_cX1_told rfl rfl
theorem dX1_told_46 : decode cX1_told 46 = .ok (.bipush 10, 2) := dqn_16 (k := 46) (u := 10) qh_cX1_told rfl rfl rfl (by decide)
theorem dX1_told_48 : decode cX1_told 48 = .ok (.isub, 1) := dqn_100 (k := 45) qh_cX1_told rfl rfl
theorem dX1_told_49 : decode cX1_told 49 = .ok (.invokevirtual 54, 3) := dqn_182 (k := 42) qh_cX1_told rfl rfl rfl
theorem dX1_told_52 : decode cX1_told 52 = .ok (.ifCond .eq 12, 3) := dqn_153 (k := 39) (u := 12) qh_cX1_told rfl rfl rfl (sg_p rfl rfl)
theorem dX1_told_55 : decode cX1_told 55 = .ok (.aload_n 0, 1) := dqn_42 (k := 38) qh_cX1_told rfl rfl
theorem dX1_told_56 : decode cX1_told 56 = .ok (.iload_n 1, 1) := dqn_27 (k := 37) qh_cX1_told rfl rfl
theorem dX1_told_57 : decode cX1_told 57 = .ok (.bipush 10, 2) := dqn_16 (k := 35) (u := 10) qh_cX1_told rfl rfl rfl (by decide)
theorem dX1_told_59 : decode cX1_told 59 = .ok (.isub, 1) := dqn_100 (k := 34) qh_cX1_told rfl rfl
theorem dX1_told_60 : decode cX1_told 60 = .ok (.invokevirtual 69, 3) := dqn_182 (k := 31) qh_cX1_told rfl rfl rfl
theorem dX1_told_63 : decode cX1_told 63 = .ok (.ireturn, 1) := dqn_172 (k := 30) qh_cX1_told rfl rfl
theorem dX1_told_64 : decode cX1_told 64 = .ok (.iload_n 1, 1) := dqn_27 (k := 29) qh_cX1_told rfl rfl
theorem dX1_told_65 : decode cX1_told 65 = .ok (.bipush 20, 2) := dqn_16 (k := 27) (u := 20) qh_cX1_told rfl rfl rfl (by decide)
theorem dX1_told_67 : decode cX1_told 67 = .ok (.if_icmp .lt 25, 3) := dqn_161 (k := 24) (u := 25) qh_cX1_told rfl rfl rfl (sg_p rfl rfl)
theorem dX1_told_70 : decode cX1_told 70 = .ok (.aload_n 0, 1) := dqn_42 (k := 23) qh_cX1_told rfl rfl
theorem dX1_told_71 : decode cX1_told 71 = .ok (.iload_n 1, 1) := dqn_27 (k := 22) qh_cX1_told rfl rfl
theorem dX1_told_72 : decode cX1_told 72 = .ok (.bipush 20, 2) := dqn_16 (k := 20) (u := 20) qh_cX1_told rfl rfl rfl (by decide)
theorem dX1_told_74 : decode cX1_told 74 = .ok (.isub, 1) := dqn_100 (k := 19) qh_cX1_told rfl rfl
theorem dX1_told_75 : decode cX1_told 75 = .ok (.invokevirtual 54, 3) := dqn_182 (k := 16) qh_cX1_told rfl rfl rfl
theorem dX1_told_78 : decode cX1_told 78 = .ok (.ifCond .eq 14, 3) := dqn_153 (k := 13) (u := 14) qh_cX1_told rfl rfl rfl (sg_p rfl rfl)
theorem dX1_told_81 : decode cX1_told 81 = .ok (.aload_n 0, 1) := dqn_42 (k := 12) qh_cX1_told rfl rfl
theorem dX1_told_82 : decode cX1_told 82 = .ok (.iload_n 1, 1) := dqn_27 (k := 11) qh_cX1_told rfl rfl
theorem dX1_told_83 : decode cX1_told 83 = .ok (.bipush 20, 2) := dqn_16 (k := 9) (u := 20) qh_cX1_told rfl rfl rfl (by decide)
theorem dX1_told_85 : decode cX1_told 85 = .ok (.isub, 1) := dqn_100 (k := 8) qh_cX1_told rfl rfl
theorem dX1_told_86 : decode cX1_told 86 = .ok (.invokevirtual 65, 3) := dqn_182 (k := 5) qh_cX1_told rfl rfl rfl
theorem dX1_told_89 : decode cX1_told 89 = .ok (.goto 4, 3) := dqn_167 (k := 2) (u := 4) qh_cX1_told rfl rfl rfl (sg_p rfl rfl)
theorem dX1_told_92 : decode cX1_told 92 = .ok (.iconst (-1), 1) := dqn_2 (k := 1) qh_cX1_told rfl rfl
theorem dX1_told_93 : decode cX1_told 93 = .ok (.ireturn, 1) := dqn_172 (k := 0) qh_cX1_told rfl rfl
theorem dX1_ownedBy_0 : decode cX1_ownedBy 0 = .ok (.iconst 0, 1) := dqn_3 (k := 37) qh_cX1_ownedBy rfl rfl
theorem dX1_ownedBy_1 : decode cX1_ownedBy 1 = .ok (.istore_n 2, 1) := dqn_61 (k := 36) qh_cX1_ownedBy rfl rfl
theorem dX1_ownedBy_2 : decode cX1_ownedBy 2 = .ok (.iconst 0, 1) := dqn_3 (k := 35) qh_cX1_ownedBy rfl rfl
theorem dX1_ownedBy_3 : decode cX1_ownedBy 3 = .ok (.istore_n 3, 1) := dqn_62 (k := 34) qh_cX1_ownedBy rfl rfl
theorem dX1_ownedBy_4 : decode cX1_ownedBy 4 = .ok (.iload_n 3, 1) := dqn_29 (k := 33) qh_cX1_ownedBy rfl rfl
theorem dX1_ownedBy_5 : decode cX1_ownedBy 5 = .ok (.aload_n 0, 1) := dqn_42 (k := 32) qh_cX1_ownedBy rfl rfl
theorem dX1_ownedBy_6 : decode cX1_ownedBy 6 = .ok (.getfield 9, 3) := dqn_180 (k := 29) qh_cX1_ownedBy rfl rfl rfl
theorem dX1_ownedBy_9 : decode cX1_ownedBy 9 = .ok (.if_icmp .ge 27, 3) := dqn_162 (k := 26) (u := 27) qh_cX1_ownedBy rfl rfl rfl (sg_p rfl rfl)
theorem dX1_ownedBy_12 : decode cX1_ownedBy 12 = .ok (.aload_n 0, 1) := dqn_42 (k := 25) qh_cX1_ownedBy rfl rfl
theorem dX1_ownedBy_13 : decode cX1_ownedBy 13 = .ok (.iload_n 3, 1) := dqn_29 (k := 24) qh_cX1_ownedBy rfl rfl
theorem dX1_ownedBy_14 : decode cX1_ownedBy 14 = .ok (.bipush 6, 2) := dqn_16 (k := 22) (u := 6) qh_cX1_ownedBy rfl rfl rfl (by decide)
theorem dX1_ownedBy_16 : decode cX1_ownedBy 16 = .ok (.invokevirtual 61, 3) := dqn_182 (k := 19) qh_cX1_ownedBy rfl rfl rfl
theorem dX1_ownedBy_19 : decode cX1_ownedBy 19 = .ok (.iload_n 1, 1) := dqn_27 (k := 18) qh_cX1_ownedBy rfl rfl
theorem dX1_ownedBy_20 : decode cX1_ownedBy 20 = .ok (.if_icmp .ne 10, 3) := dqn_160 (k := 15) (u := 10) qh_cX1_ownedBy rfl rfl rfl (sg_p rfl rfl)
theorem dX1_ownedBy_23 : decode cX1_ownedBy 23 = .ok (.iload_n 2, 1) := dqn_28 (k := 14) qh_cX1_ownedBy rfl rfl
theorem dX1_ownedBy_24 : decode cX1_ownedBy 24 = .ok (.iload_n 3, 1) := dqn_29 (k := 13) qh_cX1_ownedBy rfl rfl
theorem dX1_ownedBy_25 : decode cX1_ownedBy 25 = .ok (.invokestatic 72, 3) := dqn_184 (k := 10) qh_cX1_ownedBy rfl rfl rfl
theorem dX1_ownedBy_28 : decode cX1_ownedBy 28 = .ok (.ior, 1) := dqn_128 (k := 9) qh_cX1_ownedBy rfl rfl
theorem dX1_ownedBy_29 : decode cX1_ownedBy 29 = .ok (.istore_n 2, 1) := dqn_61 (k := 8) qh_cX1_ownedBy rfl rfl
theorem dX1_ownedBy_30 : decode cX1_ownedBy 30 = .ok (.iinc 3 1, 3) := dqn_132 (k := 5) (u := 1) qh_cX1_ownedBy rfl rfl rfl rfl (by decide)
theorem dX1_ownedBy_33 : decode cX1_ownedBy 33 = .ok (.goto (-29), 3) := dqn_167 (k := 2) (u := 65507) qh_cX1_ownedBy rfl rfl rfl (sg_n (k := 29) rfl rfl rfl)
theorem dX1_ownedBy_36 : decode cX1_ownedBy 36 = .ok (.iload_n 2, 1) := dqn_28 (k := 1) qh_cX1_ownedBy rfl rfl
theorem dX1_ownedBy_37 : decode cX1_ownedBy 37 = .ok (.ireturn, 1) := dqn_172 (k := 0) qh_cX1_ownedBy rfl rfl
theorem dX1_weak_0 : decode cX1_weak 0 = .ok (.iconst 0, 1) := dqn_3 (k := 35) qh_cX1_weak rfl rfl
theorem dX1_weak_1 : decode cX1_weak 1 = .ok (.istore_n 1, 1) := dqn_60 (k := 34) qh_cX1_weak rfl rfl
theorem dX1_weak_2 : decode cX1_weak 2 = .ok (.iconst 0, 1) := dqn_3 (k := 33) qh_cX1_weak rfl rfl
theorem dX1_weak_3 : decode cX1_weak 3 = .ok (.istore_n 2, 1) := dqn_61 (k := 32) qh_cX1_weak rfl rfl
theorem dX1_weak_4 : decode cX1_weak 4 = .ok (.iload_n 2, 1) := dqn_28 (k := 31) qh_cX1_weak rfl rfl
theorem dX1_weak_5 : decode cX1_weak 5 = .ok (.aload_n 0, 1) := dqn_42 (k := 30) qh_cX1_weak rfl rfl
theorem dX1_weak_6 : decode cX1_weak 6 = .ok (.getfield 9, 3) := dqn_180 (k := 27) qh_cX1_weak rfl rfl rfl
theorem dX1_weak_9 : decode cX1_weak 9 = .ok (.if_icmp .ge 25, 3) := dqn_162 (k := 24) (u := 25) qh_cX1_weak rfl rfl rfl (sg_p rfl rfl)
theorem dX1_weak_12 : decode cX1_weak 12 = .ok (.aload_n 0, 1) := dqn_42 (k := 23) qh_cX1_weak rfl rfl
theorem dX1_weak_13 : decode cX1_weak 13 = .ok (.iload_n 2, 1) := dqn_28 (k := 22) qh_cX1_weak rfl rfl
theorem dX1_weak_14 : decode cX1_weak 14 = .ok (.iconst 4, 1) := dqn_7 (k := 21) qh_cX1_weak rfl rfl
theorem dX1_weak_15 : decode cX1_weak 15 = .ok (.invokevirtual 61, 3) := dqn_182 (k := 18) qh_cX1_weak rfl rfl rfl
theorem dX1_weak_18 : decode cX1_weak 18 = .ok (.ifCond .le 10, 3) := dqn_158 (k := 15) (u := 10) qh_cX1_weak rfl rfl rfl (sg_p rfl rfl)
theorem dX1_weak_21 : decode cX1_weak 21 = .ok (.iload_n 1, 1) := dqn_27 (k := 14) qh_cX1_weak rfl rfl
theorem dX1_weak_22 : decode cX1_weak 22 = .ok (.iload_n 2, 1) := dqn_28 (k := 13) qh_cX1_weak rfl rfl
theorem dX1_weak_23 : decode cX1_weak 23 = .ok (.invokestatic 72, 3) := dqn_184 (k := 10) qh_cX1_weak rfl rfl rfl
theorem dX1_weak_26 : decode cX1_weak 26 = .ok (.ior, 1) := dqn_128 (k := 9) qh_cX1_weak rfl rfl
theorem dX1_weak_27 : decode cX1_weak 27 = .ok (.istore_n 1, 1) := dqn_60 (k := 8) qh_cX1_weak rfl rfl
theorem dX1_weak_28 : decode cX1_weak 28 = .ok (.iinc 2 1, 3) := dqn_132 (k := 5) (u := 1) qh_cX1_weak rfl rfl rfl rfl (by decide)
theorem dX1_weak_31 : decode cX1_weak 31 = .ok (.goto (-27), 3) := dqn_167 (k := 2) (u := 65509) qh_cX1_weak rfl rfl rfl (sg_n (k := 27) rfl rfl rfl)
theorem dX1_weak_34 : decode cX1_weak 34 = .ok (.iload_n 1, 1) := dqn_27 (k := 1) qh_cX1_weak rfl rfl
theorem dX1_weak_35 : decode cX1_weak 35 = .ok (.ireturn, 1) := dqn_172 (k := 0) qh_cX1_weak rfl rfl
theorem dX1_daysToMend_0 : decode cX1_daysToMend 0 = .ok (.iconst 0, 1) := dqn_3 (k := 43) qh_cX1_daysToMend rfl rfl
theorem dX1_daysToMend_1 : decode cX1_daysToMend 1 = .ok (.istore_n 2, 1) := dqn_61 (k := 42) qh_cX1_daysToMend rfl rfl
theorem dX1_daysToMend_2 : decode cX1_daysToMend 2 = .ok (.iconst 0, 1) := dqn_3 (k := 41) qh_cX1_daysToMend rfl rfl
theorem dX1_daysToMend_3 : decode cX1_daysToMend 3 = .ok (.istore_n 3, 1) := dqn_62 (k := 40) qh_cX1_daysToMend rfl rfl
theorem dX1_daysToMend_4 : decode cX1_daysToMend 4 = .ok (.iload_n 3, 1) := dqn_29 (k := 39) qh_cX1_daysToMend rfl rfl
theorem dX1_daysToMend_5 : decode cX1_daysToMend 5 = .ok (.aload_n 0, 1) := dqn_42 (k := 38) qh_cX1_daysToMend rfl rfl
theorem dX1_daysToMend_6 : decode cX1_daysToMend 6 = .ok (.getfield 9, 3) := dqn_180 (k := 35) qh_cX1_daysToMend rfl rfl rfl
theorem dX1_daysToMend_9 : decode cX1_daysToMend 9 = .ok (.if_icmp .ge 33, 3) := dqn_162 (k := 32) (u := 33) qh_cX1_daysToMend rfl rfl rfl (sg_p rfl rfl)
theorem dX1_daysToMend_12 : decode cX1_daysToMend 12 = .ok (.iload_n 1, 1) := dqn_27 (k := 31) qh_cX1_daysToMend rfl rfl
theorem dX1_daysToMend_13 : decode cX1_daysToMend 13 = .ok (.iload_n 3, 1) := dqn_29 (k := 30) qh_cX1_daysToMend rfl rfl
theorem dX1_daysToMend_14 : decode cX1_daysToMend 14 = .ok (.invokestatic 75, 3) := dqn_184 (k := 27) qh_cX1_daysToMend rfl rfl rfl
theorem dX1_daysToMend_17 : decode cX1_daysToMend 17 = .ok (.ifCond .eq 19, 3) := dqn_153 (k := 24) (u := 19) qh_cX1_daysToMend rfl rfl rfl (sg_p rfl rfl)
theorem dX1_daysToMend_20 : decode cX1_daysToMend 20 = .ok (.iload_n 2, 1) := dqn_28 (k := 23) qh_cX1_daysToMend rfl rfl
theorem dX1_daysToMend_21 : decode cX1_daysToMend 21 = .ok (.aload_n 0, 1) := dqn_42 (k := 22) qh_cX1_daysToMend rfl rfl
theorem dX1_daysToMend_22 : decode cX1_daysToMend 22 = .ok (.getfield 28, 3) := dqn_180 (k := 19) qh_cX1_daysToMend rfl rfl rfl
theorem dX1_daysToMend_25 : decode cX1_daysToMend 25 = .ok (.iconst 0, 1) := dqn_3 (k := 18) qh_cX1_daysToMend rfl rfl
theorem dX1_daysToMend_26 : decode cX1_daysToMend 26 = .ok (.iaload, 1) := dqn_46 (k := 17) qh_cX1_daysToMend rfl rfl
theorem dX1_daysToMend_27 : decode cX1_daysToMend 27 = .ok (.aload_n 0, 1) := dqn_42 (k := 16) qh_cX1_daysToMend rfl rfl
theorem dX1_daysToMend_28 : decode cX1_daysToMend 28 = .ok (.iload_n 3, 1) := dqn_29 (k := 15) qh_cX1_daysToMend rfl rfl
theorem dX1_daysToMend_29 : decode cX1_daysToMend 29 = .ok (.iconst 4, 1) := dqn_7 (k := 14) qh_cX1_daysToMend rfl rfl
theorem dX1_daysToMend_30 : decode cX1_daysToMend 30 = .ok (.invokevirtual 61, 3) := dqn_182 (k := 11) qh_cX1_daysToMend rfl rfl rfl
theorem dX1_daysToMend_33 : decode cX1_daysToMend 33 = .ok (.imul, 1) := dqn_104 (k := 10) qh_cX1_daysToMend rfl rfl
theorem dX1_daysToMend_34 : decode cX1_daysToMend 34 = .ok (.iadd, 1) := dqn_96 (k := 9) qh_cX1_daysToMend rfl rfl
theorem dX1_daysToMend_35 : decode cX1_daysToMend 35 = .ok (.istore_n 2, 1) := dqn_61 (k := 8) qh_cX1_daysToMend rfl rfl
theorem dX1_daysToMend_36 : decode cX1_daysToMend 36 = .ok (.iinc 3 1, 3) := dqn_132 (k := 5) (u := 1) qh_cX1_daysToMend rfl rfl rfl rfl (by decide)
theorem dX1_daysToMend_39 : decode cX1_daysToMend 39 = .ok (.goto (-35), 3) := dqn_167 (k := 2) (u := 65501) qh_cX1_daysToMend rfl rfl rfl (sg_n (k := 35) rfl rfl rfl)
theorem dX1_daysToMend_42 : decode cX1_daysToMend 42 = .ok (.iload_n 2, 1) := dqn_28 (k := 1) qh_cX1_daysToMend rfl rfl
theorem dX1_daysToMend_43 : decode cX1_daysToMend 43 = .ok (.ireturn, 1) := dqn_172 (k := 0) qh_cX1_daysToMend rfl rfl
theorem dX1_harmOf_0 : decode cX1_harmOf 0 = .ok (.iconst 0, 1) := dqn_3 (k := 36) qh_cX1_harmOf rfl rfl
theorem dX1_harmOf_1 : decode cX1_harmOf 1 = .ok (.istore_n 2, 1) := dqn_61 (k := 35) qh_cX1_harmOf rfl rfl
theorem dX1_harmOf_2 : decode cX1_harmOf 2 = .ok (.iconst 0, 1) := dqn_3 (k := 34) qh_cX1_harmOf rfl rfl
theorem dX1_harmOf_3 : decode cX1_harmOf 3 = .ok (.istore_n 3, 1) := dqn_62 (k := 33) qh_cX1_harmOf rfl rfl
theorem dX1_harmOf_4 : decode cX1_harmOf 4 = .ok (.iload_n 3, 1) := dqn_29 (k := 32) qh_cX1_harmOf rfl rfl
theorem dX1_harmOf_5 : decode cX1_harmOf 5 = .ok (.aload_n 0, 1) := dqn_42 (k := 31) qh_cX1_harmOf rfl rfl
theorem dX1_harmOf_6 : decode cX1_harmOf 6 = .ok (.getfield 9, 3) := dqn_180 (k := 28) qh_cX1_harmOf rfl rfl rfl
theorem dX1_harmOf_9 : decode cX1_harmOf 9 = .ok (.if_icmp .ge 26, 3) := dqn_162 (k := 25) (u := 26) qh_cX1_harmOf rfl rfl rfl (sg_p rfl rfl)
theorem dX1_harmOf_12 : decode cX1_harmOf 12 = .ok (.iload_n 1, 1) := dqn_27 (k := 24) qh_cX1_harmOf rfl rfl
theorem dX1_harmOf_13 : decode cX1_harmOf 13 = .ok (.iload_n 3, 1) := dqn_29 (k := 23) qh_cX1_harmOf rfl rfl
theorem dX1_harmOf_14 : decode cX1_harmOf 14 = .ok (.invokestatic 75, 3) := dqn_184 (k := 20) qh_cX1_harmOf rfl rfl rfl
theorem dX1_harmOf_17 : decode cX1_harmOf 17 = .ok (.ifCond .eq 12, 3) := dqn_153 (k := 17) (u := 12) qh_cX1_harmOf rfl rfl rfl (sg_p rfl rfl)
theorem dX1_harmOf_20 : decode cX1_harmOf 20 = .ok (.iload_n 2, 1) := dqn_28 (k := 16) qh_cX1_harmOf rfl rfl
theorem dX1_harmOf_21 : decode cX1_harmOf 21 = .ok (.aload_n 0, 1) := dqn_42 (k := 15) qh_cX1_harmOf rfl rfl
theorem dX1_harmOf_22 : decode cX1_harmOf 22 = .ok (.iload_n 3, 1) := dqn_29 (k := 14) qh_cX1_harmOf rfl rfl
theorem dX1_harmOf_23 : decode cX1_harmOf 23 = .ok (.iconst 5, 1) := dqn_8 (k := 13) qh_cX1_harmOf rfl rfl
theorem dX1_harmOf_24 : decode cX1_harmOf 24 = .ok (.invokevirtual 61, 3) := dqn_182 (k := 10) qh_cX1_harmOf rfl rfl rfl
theorem dX1_harmOf_27 : decode cX1_harmOf 27 = .ok (.iadd, 1) := dqn_96 (k := 9) qh_cX1_harmOf rfl rfl
theorem dX1_harmOf_28 : decode cX1_harmOf 28 = .ok (.istore_n 2, 1) := dqn_61 (k := 8) qh_cX1_harmOf rfl rfl
theorem dX1_harmOf_29 : decode cX1_harmOf 29 = .ok (.iinc 3 1, 3) := dqn_132 (k := 5) (u := 1) qh_cX1_harmOf rfl rfl rfl rfl (by decide)
theorem dX1_harmOf_32 : decode cX1_harmOf 32 = .ok (.goto (-28), 3) := dqn_167 (k := 2) (u := 65508) qh_cX1_harmOf rfl rfl rfl (sg_n (k := 28) rfl rfl rfl)
theorem dX1_harmOf_35 : decode cX1_harmOf 35 = .ok (.iload_n 2, 1) := dqn_28 (k := 1) qh_cX1_harmOf rfl rfl
theorem dX1_harmOf_36 : decode cX1_harmOf 36 = .ok (.ireturn, 1) := dqn_172 (k := 0) qh_cX1_harmOf rfl rfl
theorem dX1_nextOf_0 : decode cX1_nextOf 0 = .ok (.aload_n 0, 1) := dqn_42 (k := 21) qh_cX1_nextOf rfl rfl
theorem dX1_nextOf_1 : decode cX1_nextOf 1 = .ok (.iload_n 1, 1) := dqn_27 (k := 20) qh_cX1_nextOf rfl rfl
theorem dX1_nextOf_2 : decode cX1_nextOf 2 = .ok (.bipush 8, 2) := dqn_16 (k := 18) (u := 8) qh_cX1_nextOf rfl rfl rfl (by decide)
theorem dX1_nextOf_4 : decode cX1_nextOf 4 = .ok (.invokevirtual 61, 3) := dqn_182 (k := 15) qh_cX1_nextOf rfl rfl rfl
theorem dX1_nextOf_7 : decode cX1_nextOf 7 = .ok (.invokestatic 72, 3) := dqn_184 (k := 12) qh_cX1_nextOf rfl rfl rfl
theorem dX1_nextOf_10 : decode cX1_nextOf 10 = .ok (.aload_n 0, 1) := dqn_42 (k := 11) qh_cX1_nextOf rfl rfl
theorem dX1_nextOf_11 : decode cX1_nextOf 11 = .ok (.iload_n 1, 1) := dqn_27 (k := 10) qh_cX1_nextOf rfl rfl
theorem dX1_nextOf_12 : decode cX1_nextOf 12 = .ok (.bipush 9, 2) := dqn_16 (k := 8) (u := 9) qh_cX1_nextOf rfl rfl rfl (by decide)
theorem dX1_nextOf_14 : decode cX1_nextOf 14 = .ok (.invokevirtual 61, 3) := dqn_182 (k := 5) qh_cX1_nextOf rfl rfl rfl
theorem dX1_nextOf_17 : decode cX1_nextOf 17 = .ok (.invokestatic 72, 3) := dqn_184 (k := 2) qh_cX1_nextOf rfl rfl rfl
theorem dX1_nextOf_20 : decode cX1_nextOf 20 = .ok (.ior, 1) := dqn_128 (k := 1) qh_cX1_nextOf rfl rfl
theorem dX1_nextOf_21 : decode cX1_nextOf 21 = .ok (.ireturn, 1) := dqn_172 (k := 0) qh_cX1_nextOf rfl rfl
theorem dX1_reachedFrom_0 : decode cX1_reachedFrom 0 = .ok (.iload_n 1, 1) := dqn_27 (k := 45) qh_cX1_reachedFrom rfl rfl
theorem dX1_reachedFrom_1 : decode cX1_reachedFrom 1 = .ok (.invokestatic 72, 3) := dqn_184 (k := 42) qh_cX1_reachedFrom rfl rfl rfl
theorem dX1_reachedFrom_4 : decode cX1_reachedFrom 4 = .ok (.istore_n 2, 1) := dqn_61 (k := 41) qh_cX1_reachedFrom rfl rfl
theorem dX1_reachedFrom_5 : decode cX1_reachedFrom 5 = .ok (.iload_n 1, 1) := dqn_27 (k := 40) qh_cX1_reachedFrom rfl rfl
theorem dX1_reachedFrom_6 : decode cX1_reachedFrom 6 = .ok (.istore_n 3, 1) := dqn_62 (k := 39) qh_cX1_reachedFrom rfl rfl
theorem dX1_reachedFrom_7 : decode cX1_reachedFrom 7 = .ok (.iload_n 3, 1) := dqn_29 (k := 38) qh_cX1_reachedFrom rfl rfl
theorem dX1_reachedFrom_8 : decode cX1_reachedFrom 8 = .ok (.aload_n 0, 1) := dqn_42 (k := 37) qh_cX1_reachedFrom rfl rfl
theorem dX1_reachedFrom_9 : decode cX1_reachedFrom 9 = .ok (.getfield 9, 3) := dqn_180 (k := 34) qh_cX1_reachedFrom rfl rfl rfl
theorem dX1_reachedFrom_12 : decode cX1_reachedFrom 12 = .ok (.if_icmp .ge 25, 3) := dqn_162 (k := 31) (u := 25) qh_cX1_reachedFrom rfl rfl rfl (sg_p rfl rfl)
theorem dX1_reachedFrom_15 : decode cX1_reachedFrom 15 = .ok (.iload_n 2, 1) := dqn_28 (k := 30) qh_cX1_reachedFrom rfl rfl
theorem dX1_reachedFrom_16 : decode cX1_reachedFrom 16 = .ok (.iload_n 3, 1) := dqn_29 (k := 29) qh_cX1_reachedFrom rfl rfl
theorem dX1_reachedFrom_17 : decode cX1_reachedFrom 17 = .ok (.invokestatic 75, 3) := dqn_184 (k := 26) qh_cX1_reachedFrom rfl rfl rfl
theorem dX1_reachedFrom_20 : decode cX1_reachedFrom 20 = .ok (.ifCond .eq 11, 3) := dqn_153 (k := 23) (u := 11) qh_cX1_reachedFrom rfl rfl rfl (sg_p rfl rfl)
theorem dX1_reachedFrom_23 : decode cX1_reachedFrom 23 = .ok (.iload_n 2, 1) := dqn_28 (k := 22) qh_cX1_reachedFrom rfl rfl
theorem dX1_reachedFrom_24 : decode cX1_reachedFrom 24 = .ok (.aload_n 0, 1) := dqn_42 (k := 21) qh_cX1_reachedFrom rfl rfl
theorem dX1_reachedFrom_25 : decode cX1_reachedFrom 25 = .ok (.iload_n 3, 1) := dqn_29 (k := 20) qh_cX1_reachedFrom rfl rfl
theorem dX1_reachedFrom_26 : decode cX1_reachedFrom 26 = .ok (.invokevirtual 79, 3) := dqn_182 (k := 17) qh_cX1_reachedFrom rfl rfl rfl
theorem dX1_reachedFrom_29 : decode cX1_reachedFrom 29 = .ok (.ior, 1) := dqn_128 (k := 16) qh_cX1_reachedFrom rfl rfl
theorem dX1_reachedFrom_30 : decode cX1_reachedFrom 30 = .ok (.istore_n 2, 1) := dqn_61 (k := 15) qh_cX1_reachedFrom rfl rfl
theorem dX1_reachedFrom_31 : decode cX1_reachedFrom 31 = .ok (.iinc 3 1, 3) := dqn_132 (k := 12) (u := 1) qh_cX1_reachedFrom rfl rfl rfl rfl (by decide)
theorem dX1_reachedFrom_34 : decode cX1_reachedFrom 34 = .ok (.goto (-27), 3) := dqn_167 (k := 9) (u := 65509) qh_cX1_reachedFrom rfl rfl rfl (sg_n (k := 27) rfl rfl rfl)
theorem dX1_reachedFrom_37 : decode cX1_reachedFrom 37 = .ok (.iload_n 2, 1) := dqn_28 (k := 8) qh_cX1_reachedFrom rfl rfl
theorem dX1_reachedFrom_38 : decode cX1_reachedFrom 38 = .ok (.iload_n 1, 1) := dqn_27 (k := 7) qh_cX1_reachedFrom rfl rfl
theorem dX1_reachedFrom_39 : decode cX1_reachedFrom 39 = .ok (.invokestatic 72, 3) := dqn_184 (k := 4) qh_cX1_reachedFrom rfl rfl rfl
theorem dX1_reachedFrom_42 : decode cX1_reachedFrom 42 = .ok (.iconst (-1), 1) := dqn_2 (k := 3) qh_cX1_reachedFrom rfl rfl
theorem dX1_reachedFrom_43 : decode cX1_reachedFrom 43 = .ok (.ixor, 1) := dqn_130 (k := 2) qh_cX1_reachedFrom rfl rfl
theorem dX1_reachedFrom_44 : decode cX1_reachedFrom 44 = .ok (.iand, 1) := dqn_126 (k := 1) qh_cX1_reachedFrom rfl rfl
theorem dX1_reachedFrom_45 : decode cX1_reachedFrom 45 = .ok (.ireturn, 1) := dqn_172 (k := 0) qh_cX1_reachedFrom rfl rfl
theorem dX1_reaching_0 : decode cX1_reaching 0 = .ok (.iload_n 1, 1) := dqn_27 (k := 44) qh_cX1_reaching rfl rfl
theorem dX1_reaching_1 : decode cX1_reaching 1 = .ok (.invokestatic 72, 3) := dqn_184 (k := 41) qh_cX1_reaching rfl rfl rfl
theorem dX1_reaching_4 : decode cX1_reaching 4 = .ok (.istore_n 2, 1) := dqn_61 (k := 40) qh_cX1_reaching rfl rfl
theorem dX1_reaching_5 : decode cX1_reaching 5 = .ok (.iload_n 1, 1) := dqn_27 (k := 39) qh_cX1_reaching rfl rfl
theorem dX1_reaching_6 : decode cX1_reaching 6 = .ok (.iconst 1, 1) := dqn_4 (k := 38) qh_cX1_reaching rfl rfl
theorem dX1_reaching_7 : decode cX1_reaching 7 = .ok (.isub, 1) := dqn_100 (k := 37) qh_cX1_reaching rfl rfl
theorem dX1_reaching_8 : decode cX1_reaching 8 = .ok (.istore_n 3, 1) := dqn_62 (k := 36) qh_cX1_reaching rfl rfl
theorem dX1_reaching_9 : decode cX1_reaching 9 = .ok (.iload_n 3, 1) := dqn_29 (k := 35) qh_cX1_reaching rfl rfl
theorem dX1_reaching_10 : decode cX1_reaching 10 = .ok (.ifCond .lt 26, 3) := dqn_155 (k := 32) (u := 26) qh_cX1_reaching rfl rfl rfl (sg_p rfl rfl)
theorem dX1_reaching_13 : decode cX1_reaching 13 = .ok (.aload_n 0, 1) := dqn_42 (k := 31) qh_cX1_reaching rfl rfl
theorem dX1_reaching_14 : decode cX1_reaching 14 = .ok (.iload_n 3, 1) := dqn_29 (k := 30) qh_cX1_reaching rfl rfl
theorem dX1_reaching_15 : decode cX1_reaching 15 = .ok (.invokevirtual 79, 3) := dqn_182 (k := 27) qh_cX1_reaching rfl rfl rfl
theorem dX1_reaching_18 : decode cX1_reaching 18 = .ok (.iload_n 2, 1) := dqn_28 (k := 26) qh_cX1_reaching rfl rfl
theorem dX1_reaching_19 : decode cX1_reaching 19 = .ok (.iand, 1) := dqn_126 (k := 25) qh_cX1_reaching rfl rfl
theorem dX1_reaching_20 : decode cX1_reaching 20 = .ok (.ifCond .eq 10, 3) := dqn_153 (k := 22) (u := 10) qh_cX1_reaching rfl rfl rfl (sg_p rfl rfl)
theorem dX1_reaching_23 : decode cX1_reaching 23 = .ok (.iload_n 2, 1) := dqn_28 (k := 21) qh_cX1_reaching rfl rfl
theorem dX1_reaching_24 : decode cX1_reaching 24 = .ok (.iload_n 3, 1) := dqn_29 (k := 20) qh_cX1_reaching rfl rfl
theorem dX1_reaching_25 : decode cX1_reaching 25 = .ok (.invokestatic 72, 3) := dqn_184 (k := 17) qh_cX1_reaching rfl rfl rfl
theorem dX1_reaching_28 : decode cX1_reaching 28 = .ok (.ior, 1) := dqn_128 (k := 16) qh_cX1_reaching rfl rfl
theorem dX1_reaching_29 : decode cX1_reaching 29 = .ok (.istore_n 2, 1) := dqn_61 (k := 15) qh_cX1_reaching rfl rfl
theorem dX1_reaching_30 : decode cX1_reaching 30 = .ok (.iinc 3 (-1), 3) := dqn_132 (k := 12) (u := 255) qh_cX1_reaching rfl rfl rfl rfl (by decide)
theorem dX1_reaching_33 : decode cX1_reaching 33 = .ok (.goto (-24), 3) := dqn_167 (k := 9) (u := 65512) qh_cX1_reaching rfl rfl rfl (sg_n (k := 24) rfl rfl rfl)
theorem dX1_reaching_36 : decode cX1_reaching 36 = .ok (.iload_n 2, 1) := dqn_28 (k := 8) qh_cX1_reaching rfl rfl
theorem dX1_reaching_37 : decode cX1_reaching 37 = .ok (.iload_n 1, 1) := dqn_27 (k := 7) qh_cX1_reaching rfl rfl
theorem dX1_reaching_38 : decode cX1_reaching 38 = .ok (.invokestatic 72, 3) := dqn_184 (k := 4) qh_cX1_reaching rfl rfl rfl
theorem dX1_reaching_41 : decode cX1_reaching 41 = .ok (.iconst (-1), 1) := dqn_2 (k := 3) qh_cX1_reaching rfl rfl
theorem dX1_reaching_42 : decode cX1_reaching 42 = .ok (.ixor, 1) := dqn_130 (k := 2) qh_cX1_reaching rfl rfl
theorem dX1_reaching_43 : decode cX1_reaching 43 = .ok (.iand, 1) := dqn_126 (k := 1) qh_cX1_reaching rfl rfl
theorem dX1_reaching_44 : decode cX1_reaching 44 = .ok (.ireturn, 1) := dqn_172 (k := 0) qh_cX1_reaching rfl rfl
theorem dX1_seenAndGoes_0 : decode cX1_seenAndGoes 0 = .ok (.aload_n 0, 1) := dqn_42 (k := 14) qh_cX1_seenAndGoes rfl rfl
theorem dX1_seenAndGoes_1 : decode cX1_seenAndGoes 1 = .ok (.iload_n 1, 1) := dqn_27 (k := 13) qh_cX1_seenAndGoes rfl rfl
theorem dX1_seenAndGoes_2 : decode cX1_seenAndGoes 2 = .ok (.iconst 4, 1) := dqn_7 (k := 12) qh_cX1_seenAndGoes rfl rfl
theorem dX1_seenAndGoes_3 : decode cX1_seenAndGoes 3 = .ok (.invokevirtual 61, 3) := dqn_182 (k := 9) qh_cX1_seenAndGoes rfl rfl rfl
theorem dX1_seenAndGoes_6 : decode cX1_seenAndGoes 6 = .ok (.aload_n 0, 1) := dqn_42 (k := 8) qh_cX1_seenAndGoes rfl rfl
theorem dX1_seenAndGoes_7 : decode cX1_seenAndGoes 7 = .ok (.iload_n 1, 1) := dqn_27 (k := 7) qh_cX1_seenAndGoes rfl rfl
theorem dX1_seenAndGoes_8 : decode cX1_seenAndGoes 8 = .ok (.bipush 13, 2) := dqn_16 (k := 5) (u := 13) qh_cX1_seenAndGoes rfl rfl rfl (by decide)
theorem dX1_seenAndGoes_10 : decode cX1_seenAndGoes 10 = .ok (.invokevirtual 61, 3) := dqn_182 (k := 2) qh_cX1_seenAndGoes rfl rfl rfl
theorem dX1_seenAndGoes_13 : decode cX1_seenAndGoes 13 = .ok (.imul, 1) := dqn_104 (k := 1) qh_cX1_seenAndGoes rfl rfl
theorem dX1_seenAndGoes_14 : decode cX1_seenAndGoes 14 = .ok (.ireturn, 1) := dqn_172 (k := 0) qh_cX1_seenAndGoes rfl rfl
theorem dX1_seen_0 : decode cX1_seen 0 = .ok (.aload_n 0, 1) := dqn_42 (k := 23) qh_cX1_seen rfl rfl
theorem dX1_seen_1 : decode cX1_seen 1 = .ok (.iload_n 1, 1) := dqn_27 (k := 22) qh_cX1_seen rfl rfl
theorem dX1_seen_2 : decode cX1_seen 2 = .ok (.invokevirtual 82, 3) := dqn_182 (k := 19) qh_cX1_seen rfl rfl rfl
theorem dX1_seen_5 : decode cX1_seen 5 = .ok (.bipush 10, 2) := dqn_16 (k := 17) (u := 10) qh_cX1_seen rfl rfl rfl (by decide)
theorem dX1_seen_7 : decode cX1_seen 7 = .ok (.aload_n 0, 1) := dqn_42 (k := 16) qh_cX1_seen rfl rfl
theorem dX1_seen_8 : decode cX1_seen 8 = .ok (.iload_n 1, 1) := dqn_27 (k := 15) qh_cX1_seen rfl rfl
theorem dX1_seen_9 : decode cX1_seen 9 = .ok (.iconst 4, 1) := dqn_7 (k := 14) qh_cX1_seen rfl rfl
theorem dX1_seen_10 : decode cX1_seen 10 = .ok (.invokevirtual 61, 3) := dqn_182 (k := 11) qh_cX1_seen rfl rfl rfl
theorem dX1_seen_13 : decode cX1_seen 13 = .ok (.isub, 1) := dqn_100 (k := 10) qh_cX1_seen rfl rfl
theorem dX1_seen_14 : decode cX1_seen 14 = .ok (.aload_n 0, 1) := dqn_42 (k := 9) qh_cX1_seen rfl rfl
theorem dX1_seen_15 : decode cX1_seen 15 = .ok (.iload_n 1, 1) := dqn_27 (k := 8) qh_cX1_seen rfl rfl
theorem dX1_seen_16 : decode cX1_seen 16 = .ok (.bipush 14, 2) := dqn_16 (k := 6) (u := 14) qh_cX1_seen rfl rfl rfl (by decide)
theorem dX1_seen_18 : decode cX1_seen 18 = .ok (.invokevirtual 61, 3) := dqn_182 (k := 3) qh_cX1_seen rfl rfl rfl
theorem dX1_seen_21 : decode cX1_seen 21 = .ok (.imul, 1) := dqn_104 (k := 2) qh_cX1_seen rfl rfl
theorem dX1_seen_22 : decode cX1_seen 22 = .ok (.iadd, 1) := dqn_96 (k := 1) qh_cX1_seen rfl rfl
theorem dX1_seen_23 : decode cX1_seen 23 = .ok (.ireturn, 1) := dqn_172 (k := 0) qh_cX1_seen rfl rfl
theorem dX1_addRain_0 : decode cX1_addRain 0 = .ok (.aload_n 0, 1) := dqn_42 (k := 41) qh_cX1_addRain rfl rfl
theorem dX1_addRain_1 : decode cX1_addRain 1 = .ok (.getfield 19, 3) := dqn_180 (k := 38) qh_cX1_addRain rfl rfl rfl
theorem dX1_addRain_4 : decode cX1_addRain 4 = .ok (.iconst 4, 1) := dqn_7 (k := 37) qh_cX1_addRain rfl rfl
theorem dX1_addRain_5 : decode cX1_addRain 5 = .ok (.if_icmp .lt 5, 3) := dqn_161 (k := 34) (u := 5) qh_cX1_addRain rfl rfl rfl (sg_p rfl rfl)
theorem dX1_addRain_8 : decode cX1_addRain 8 = .ok (.iconst 0, 1) := dqn_3 (k := 33) qh_cX1_addRain rfl rfl
theorem dX1_addRain_9 : decode cX1_addRain 9 = .ok (.ireturn, 1) := dqn_172 (k := 32) qh_cX1_addRain rfl rfl
theorem dX1_addRain_10 : decode cX1_addRain 10 = .ok (.aload_n 0, 1) := dqn_42 (k := 31) qh_cX1_addRain rfl rfl
theorem dX1_addRain_11 : decode cX1_addRain 11 = .ok (.getfield 22, 3) := dqn_180 (k := 28) qh_cX1_addRain rfl rfl rfl
theorem dX1_addRain_14 : decode cX1_addRain 14 = .ok (.aload_n 0, 1) := dqn_42 (k := 27) qh_cX1_addRain rfl rfl
theorem dX1_addRain_15 : decode cX1_addRain 15 = .ok (.getfield 19, 3) := dqn_180 (k := 24) qh_cX1_addRain rfl rfl rfl
theorem dX1_addRain_18 : decode cX1_addRain 18 = .ok (.iload_n 1, 1) := dqn_27 (k := 23) qh_cX1_addRain rfl rfl
theorem dX1_addRain_19 : decode cX1_addRain 19 = .ok (.iastore, 1) := dqn_79 (k := 22) qh_cX1_addRain rfl rfl
theorem dX1_addRain_20 : decode cX1_addRain 20 = .ok (.aload_n 0, 1) := dqn_42 (k := 21) qh_cX1_addRain rfl rfl
theorem dX1_addRain_21 : decode cX1_addRain 21 = .ok (.getfield 25, 3) := dqn_180 (k := 18) qh_cX1_addRain rfl rfl rfl
theorem dX1_addRain_24 : decode cX1_addRain 24 = .ok (.aload_n 0, 1) := dqn_42 (k := 17) qh_cX1_addRain rfl rfl
theorem dX1_addRain_25 : decode cX1_addRain 25 = .ok (.getfield 19, 3) := dqn_180 (k := 14) qh_cX1_addRain rfl rfl rfl
theorem dX1_addRain_28 : decode cX1_addRain 28 = .ok (.iload_n 2, 1) := dqn_28 (k := 13) qh_cX1_addRain rfl rfl
theorem dX1_addRain_29 : decode cX1_addRain 29 = .ok (.iastore, 1) := dqn_79 (k := 12) qh_cX1_addRain rfl rfl
theorem dX1_addRain_30 : decode cX1_addRain 30 = .ok (.aload_n 0, 1) := dqn_42 (k := 11) qh_cX1_addRain rfl rfl
theorem dX1_addRain_31 : decode cX1_addRain 31 = .ok (.dup, 1) := dqn_89 (k := 10) qh_cX1_addRain rfl rfl
theorem dX1_addRain_32 : decode cX1_addRain 32 = .ok (.getfield 19, 3) := dqn_180 (k := 7) qh_cX1_addRain rfl rfl rfl
theorem dX1_addRain_35 : decode cX1_addRain 35 = .ok (.iconst 1, 1) := dqn_4 (k := 6) qh_cX1_addRain rfl rfl
theorem dX1_addRain_36 : decode cX1_addRain 36 = .ok (.iadd, 1) := dqn_96 (k := 5) qh_cX1_addRain rfl rfl
theorem dX1_addRain_37 : decode cX1_addRain 37 = .ok (.putfield 19, 3) := dqn_181 (k := 2) qh_cX1_addRain rfl rfl rfl
theorem dX1_addRain_40 : decode cX1_addRain 40 = .ok (.iconst 1, 1) := dqn_4 (k := 1) qh_cX1_addRain rfl rfl
theorem dX1_addRain_41 : decode cX1_addRain 41 = .ok (.ireturn, 1) := dqn_172 (k := 0) qh_cX1_addRain rfl rfl
set_option maxHeartbeats 4000000 in
set_option maxRecDepth 100000 in
theorem c_isIn {d : Nat} {u : Nat → Nat → Int32} {g : Nat → Nat → Int64} {ex : List MC} {set : Int32} {pond : Int32} (hd : 0 ≤ d)  : CT con0 d 0 0 yX10_isIn cX10_isIn 2 (some .boolean) [.int set, .int pond] (Wd u g ex) (fun r h2 => ∃ (z : Bool), r = some (.int (bI z)) ∧ h2 = Wd u g ex) := by
  refine CT_of (by decide) (Nat.le_of_ble_eq_true rfl) (fun x hq => ?_)
  show J x yX10_isIn cX10_isIn 2 (some .boolean) d 0 0 (Wd u g ex).length 0 [(0, .int set), (1, .int pond)] [] (Wd u g ex) 0 0
  refine J_iload_n (i := 0) (j := 0) dX10_isIn_0 rfl rfl ?_
  refine J_iload_n (i := 1) (j := 1) dX10_isIn_1 rfl rfl ?_
  refine J_ishr dX10_isIn_2 ?_
  refine J_iconst (v := 1) dX10_isIn_3 (by decide) ?_
  refine J_iand dX10_isIn_4 ?_
  refine J_iconst (v := 1) dX10_isIn_5 (by decide) ?_
  refine J_icmp_ne (tgt := 13) dX10_isIn_6 (by decide) (fun c1 => ?_) (fun c1 => ?_)
  · refine J_iconst (v := 0) dX10_isIn_13 (by decide) ?_
    exact J_zret hq dX10_isIn_14 rfl rfl wlen (Nat.le_refl _) (Nat.le_refl _) ⟨false, rfl, rfl⟩
  · refine J_iconst (v := 1) dX10_isIn_9 (by decide) ?_
    refine J_goto (tgt := 14) dX10_isIn_10 (by decide) ?_
    exact J_zret hq dX10_isIn_14 rfl rfl wlen (Nat.le_refl _) (Nat.le_refl _) ⟨true, rfl, rfl⟩
set_option maxHeartbeats 4000000 in
set_option maxRecDepth 100000 in
theorem c_bit3 {d : Nat} {u : Nat → Nat → Int32} {g : Nat → Nat → Int64} {ex : List MC} {pond : Int32} (hd : 0 ≤ d) (hp0 : Bd (-1) 3 pond) : CT con0 d 0 0 yX10_bit cX10_bit 1 (some .int) [.int pond] (Wd u g ex) (fun r h2 => ∃ (z : Int32), r = some (.int z) ∧ h2 = Wd u g ex ∧ Bd 0 8 z) := by
  refine CT_of (by decide) (Nat.le_of_ble_eq_true rfl) (fun x hq => ?_)
  show J x yX10_bit cX10_bit 1 (some .int) d 0 0 (Wd u g ex).length 0 [(0, .int pond)] [] (Wd u g ex) 0 0
  refine J_iload_n (i := 0) (j := 0) dX10_bit_0 rfl rfl ?_
  refine J_if_ge (tgt := 8) dX10_bit_1 (by decide) (fun c1 => ?_) (fun c1 => ?_)
  · refine J_iconst (v := 1) dX10_bit_8 (by decide) ?_
    refine J_iload_n (i := 0) (j := 0) dX10_bit_9 rfl rfl ?_
    refine J_ishl dX10_bit_10 ?_
    exact J_iret hq dX10_bit_11 rfl wlen (Nat.le_refl _) (Nat.le_refl _) ⟨((1 : Int32) <<< (pond &&& 31)), rfl, rfl, (bd_w (l := 0) (h := 8) (bd_shl (lo := 0) (hi := 3) (l := 1) (h := 8) (bd_le_lo hp0 c1 (bd_c (v := 0) (lo := 0) (hi := 0) (by decide))) (by decide)) (by decide))⟩
  · refine J_iconst (v := 0) dX10_bit_4 (by decide) ?_
    refine J_goto (tgt := 11) dX10_bit_5 (by decide) ?_
    exact J_iret hq dX10_bit_11 rfl wlen (Nat.le_refl _) (Nat.le_refl _) ⟨(0 : Int32), rfl, rfl, (bd_w (l := 0) (h := 8) (bd_c (v := 0) (lo := 0) (hi := 0) (by decide)) (by decide))⟩
set_option maxHeartbeats 4000000 in
set_option maxRecDepth 100000 in
theorem c_bit9 {d : Nat} {u : Nat → Nat → Int32} {g : Nat → Nat → Int64} {ex : List MC} {pond : Int32} (hd : 0 ≤ d) (hp0 : Bd (-1) 8 pond) : CT con0 d 0 0 yX10_bit cX10_bit 1 (some .int) [.int pond] (Wd u g ex) (fun r h2 => ∃ (z : Int32), r = some (.int z) ∧ h2 = Wd u g ex ∧ Bd 0 256 z) := by
  refine CT_of (by decide) (Nat.le_of_ble_eq_true rfl) (fun x hq => ?_)
  show J x yX10_bit cX10_bit 1 (some .int) d 0 0 (Wd u g ex).length 0 [(0, .int pond)] [] (Wd u g ex) 0 0
  refine J_iload_n (i := 0) (j := 0) dX10_bit_0 rfl rfl ?_
  refine J_if_ge (tgt := 8) dX10_bit_1 (by decide) (fun c1 => ?_) (fun c1 => ?_)
  · refine J_iconst (v := 1) dX10_bit_8 (by decide) ?_
    refine J_iload_n (i := 0) (j := 0) dX10_bit_9 rfl rfl ?_
    refine J_ishl dX10_bit_10 ?_
    exact J_iret hq dX10_bit_11 rfl wlen (Nat.le_refl _) (Nat.le_refl _) ⟨((1 : Int32) <<< (pond &&& 31)), rfl, rfl, (bd_w (l := 0) (h := 256) (bd_shl (lo := 0) (hi := 8) (l := 1) (h := 256) (bd_le_lo hp0 c1 (bd_c (v := 0) (lo := 0) (hi := 0) (by decide))) (by decide)) (by decide))⟩
  · refine J_iconst (v := 0) dX10_bit_4 (by decide) ?_
    refine J_goto (tgt := 11) dX10_bit_5 (by decide) ?_
    exact J_iret hq dX10_bit_11 rfl wlen (Nat.le_refl _) (Nat.le_refl _) ⟨(0 : Int32), rfl, rfl, (bd_w (l := 0) (h := 256) (bd_c (v := 0) (lo := 0) (hi := 0) (by decide)) (by decide))⟩
set_option maxHeartbeats 4000000 in
set_option maxRecDepth 100000 in
theorem c_bit {d : Nat} {u : Nat → Nat → Int32} {g : Nat → Nat → Int64} {ex : List MC} {pond : Int32} (hd : 0 ≤ d)  : CT con0 d 0 0 yX10_bit cX10_bit 1 (some .int) [.int pond] (Wd u g ex) (fun r h2 => ∃ (z : Int32), r = some (.int z) ∧ h2 = Wd u g ex) := by
  refine CT_of (by decide) (Nat.le_of_ble_eq_true rfl) (fun x hq => ?_)
  show J x yX10_bit cX10_bit 1 (some .int) d 0 0 (Wd u g ex).length 0 [(0, .int pond)] [] (Wd u g ex) 0 0
  refine J_iload_n (i := 0) (j := 0) dX10_bit_0 rfl rfl ?_
  refine J_if_ge (tgt := 8) dX10_bit_1 (by decide) (fun c1 => ?_) (fun c1 => ?_)
  · refine J_iconst (v := 1) dX10_bit_8 (by decide) ?_
    refine J_iload_n (i := 0) (j := 0) dX10_bit_9 rfl rfl ?_
    refine J_ishl dX10_bit_10 ?_
    exact J_iret hq dX10_bit_11 rfl wlen (Nat.le_refl _) (Nat.le_refl _) ⟨((1 : Int32) <<< (pond &&& 31)), rfl, rfl⟩
  · refine J_iconst (v := 0) dX10_bit_4 (by decide) ?_
    refine J_goto (tgt := 11) dX10_bit_5 (by decide) ?_
    exact J_iret hq dX10_bit_11 rfl wlen (Nat.le_refl _) (Nat.le_refl _) ⟨(0 : Int32), rfl, rfl⟩
set_option maxHeartbeats 4000000 in
set_option maxRecDepth 100000 in
theorem c_isOwner {d : Nat} {u : Nat → Nat → Int32} {g : Nat → Nat → Int64} {ex : List MC} {owner : Int32} (hd : 0 ≤ d)  : CT con0 d 0 0 yX10_isOwner cX10_isOwner 1 (some .boolean) [.int owner] (Wd u g ex) (fun r h2 => ∃ (z : Bool), r = some (.int (bI z)) ∧ h2 = Wd u g ex) := by
  refine CT_of (by decide) (Nat.le_of_ble_eq_true rfl) (fun x hq => ?_)
  show J x yX10_isOwner cX10_isOwner 1 (some .boolean) d 0 0 (Wd u g ex).length 0 [(0, .int owner)] [] (Wd u g ex) 0 0
  refine J_iload_n (i := 0) (j := 0) dX10_isOwner_0 rfl rfl ?_
  refine J_if_lt (tgt := 13) dX10_isOwner_1 (by decide) (fun c1 => ?_) (fun c1 => ?_)
  · refine J_iconst (v := 0) dX10_isOwner_13 (by decide) ?_
    exact J_zret hq dX10_isOwner_14 rfl rfl wlen (Nat.le_refl _) (Nat.le_refl _) ⟨false, rfl, rfl⟩
  · refine J_iload_n (i := 0) (j := 0) dX10_isOwner_4 rfl rfl ?_
    refine J_iconst (v := 4) dX10_isOwner_5 (by decide) ?_
    refine J_icmp_ge (tgt := 13) dX10_isOwner_6 (by decide) (fun c2 => ?_) (fun c2 => ?_)
    · refine J_iconst (v := 0) dX10_isOwner_13 (by decide) ?_
      exact J_zret hq dX10_isOwner_14 rfl rfl wlen (Nat.le_refl _) (Nat.le_refl _) ⟨false, rfl, rfl⟩
    · refine J_iconst (v := 1) dX10_isOwner_9 (by decide) ?_
      refine J_goto (tgt := 14) dX10_isOwner_10 (by decide) ?_
      exact J_zret hq dX10_isOwner_14 rfl rfl wlen (Nat.le_refl _) (Nat.le_refl _) ⟨true, rfl, rfl⟩
set_option maxHeartbeats 4000000 in
set_option maxRecDepth 100000 in
theorem c_H_has {d : Nat} {u : Nat → Nat → Int32} {g : Nat → Nat → Int64} {ex : List MC} {pond : Int32} {t : Nat} (hd : 0 ≤ d) (hs_t : t ∈ hl) (hp0 : Bd 0 9 (u t 0)) (hp1 : Bd 0 4 (u t 2)) : CT con0 d 0 0 yX1_has cX1_has 2 (some .boolean) [.ref t, .int pond] (Wd u g ex) (fun r h2 => ∃ (z : Bool), r = some (.int (bI z)) ∧ h2 = Wd u g ex ∧ (z = true → Bd 0 8 pond)) := by
  refine CT_of (by decide) (Nat.le_of_ble_eq_true rfl) (fun x hq => ?_)
  show J x yX1_has cX1_has 2 (some .boolean) d 0 0 (Wd u g ex).length 0 [(0, .ref t), (1, .int pond)] [] (Wd u g ex) 0 0
  refine J_iload_n (i := 1) (j := 1) dX1_has_0 rfl rfl ?_
  refine J_if_lt (tgt := 16) dX1_has_1 (by decide) (fun c1 => ?_) (fun c1 => ?_)
  · refine J_iconst (v := 0) dX1_has_16 (by decide) ?_
    exact J_zret hq dX1_has_17 rfl rfl wlen (Nat.le_refl _) (Nat.le_refl _) ⟨false, rfl, rfl, (fun q => absurd q (by decide))⟩
  · refine J_iload_n (i := 1) (j := 1) dX1_has_4 rfl rfl ?_
    refine J_aload_n (i := 0) (j := 0) dX1_has_5 rfl rfl ?_
    refine J_get (C := RX1) (T := TX1) (Z := 6) (ci := 1) (f := 0) dX1_has_6 inG1 rfl (by decide) k130 (zh0c hs_t) rfl ?_
    refine J_icmp_ge (tgt := 16) dX1_has_9 (by decide) (fun c2 => ?_) (fun c2 => ?_)
    · refine J_iconst (v := 0) dX1_has_16 (by decide) ?_
      exact J_zret hq dX1_has_17 rfl rfl wlen (Nat.le_refl _) (Nat.le_refl _) ⟨false, rfl, rfl, (fun q => absurd q (by decide))⟩
    · refine J_iconst (v := 1) dX1_has_12 (by decide) ?_
      refine J_goto (tgt := 17) dX1_has_13 (by decide) ?_
      exact J_zret hq dX1_has_17 rfl rfl wlen (Nat.le_refl _) (Nat.le_refl _) ⟨true, rfl, rfl, (fun qb => (bd_lt_hi (bd_le_lo (bd_any pond) (i_nlt c1) (bd_c (v := 0) (lo := 0) (hi := 0) (by decide))) (i_nle c2) hp0))⟩
set_option maxHeartbeats 4000000 in
set_option maxRecDepth 100000 in
theorem c_H_all {d : Nat} {u : Nat → Nat → Int32} {g : Nat → Nat → Int64} {ex : List MC} {t : Nat} (hd : 0 ≤ d) (hs_t : t ∈ hl) (hp0 : Bd 0 9 (u t 0)) (hp1 : Bd 0 4 (u t 2)) : CT con0 d 0 0 yX1_all cX1_all 1 (some .int) [.ref t] (Wd u g ex) (fun r h2 => ∃ (z : Int32), r = some (.int z) ∧ h2 = Wd u g ex ∧ Bd 0 511 z) := by
  refine CT_of (by decide) (Nat.le_of_ble_eq_true rfl) (fun x hq => ?_)
  show J x yX1_all cX1_all 1 (some .int) d 0 0 (Wd u g ex).length 0 [(0, .ref t)] [] (Wd u g ex) 0 0
  refine J_iconst (v := 1) dX1_all_0 (by decide) ?_
  refine J_aload_n (i := 0) (j := 0) dX1_all_1 rfl rfl ?_
  refine J_get (C := RX1) (T := TX1) (Z := 6) (ci := 1) (f := 0) dX1_all_2 inG1 rfl (by decide) k130 (zh0c hs_t) rfl ?_
  refine J_ishl dX1_all_5 ?_
  refine J_iconst (v := 1) dX1_all_6 (by decide) ?_
  refine J_isub dX1_all_7 ?_
  exact J_iret hq dX1_all_8 rfl wlen (Nat.le_refl _) (Nat.le_refl _) ⟨(((1 : Int32) <<< ((u t 0) &&& 31)) - 1), rfl, rfl, (bd_sub (l := 0) (h := 511) (bd_shl (lo := 0) (hi := 9) (l := 1) (h := 512) hp0 (by decide)) (bd_c (v := 1) (lo := 1) (hi := 1) (by decide)) (by decide))⟩
set_option maxHeartbeats 4000000 in
set_option maxRecDepth 100000 in
theorem c_H_hasSet {d : Nat} {u : Nat → Nat → Int32} {g : Nat → Nat → Int64} {ex : List MC} {set : Int32} {t : Nat} (hd : 1 ≤ d) (hs_t : t ∈ hl) (hp0 : Bd 0 9 (u t 0)) (hp1 : Bd 0 4 (u t 2)) : CT con0 d 0 0 yX1_hasSet cX1_hasSet 2 (some .boolean) [.ref t, .int set] (Wd u g ex) (fun r h2 => ∃ (z : Bool), r = some (.int (bI z)) ∧ h2 = Wd u g ex ∧ (z = true → Bd 0 511 set)) := by
  refine CT_of (by decide) (Nat.le_of_ble_eq_true rfl) (fun x hq => ?_)
  show J x yX1_hasSet cX1_hasSet 2 (some .boolean) d 0 0 (Wd u g ex).length 0 [(0, .ref t), (1, .int set)] [] (Wd u g ex) 0 0
  refine J_iload_n (i := 1) (j := 1) dX1_hasSet_0 rfl rfl ?_
  refine J_if_lt (tgt := 16) dX1_hasSet_1 (by decide) (fun c1 => ?_) (fun c1 => ?_)
  · refine J_iconst (v := 0) dX1_hasSet_16 (by decide) ?_
    exact J_zret hq dX1_hasSet_17 rfl rfl wlen (Nat.le_refl _) (Nat.le_refl _) ⟨false, rfl, rfl, (fun q => absurd q (by decide))⟩
  · refine J_iload_n (i := 1) (j := 1) dX1_hasSet_4 rfl rfl ?_
    refine J_aload_n (i := 0) (j := 0) dX1_hasSet_5 rfl rfl ?_
    refine J_callV (As := []) (rest := [.int set]) dX1_hasSet_6 (c_H_all (d := 0) (u := u) (g := g) (ex := ex)  (t := t) (by decide) hs_t hp0 hp1) hq.n k800 k801 k802 (zh0c hs_t) rfl rfl k89 k803 np_X1_all (Nat.le_trans (by decide) hd) (by decide) (Nat.le_refl _) (Nat.le_refl _) wlen rfl (Nat.le_of_ble_eq_true rfl) (fun r_ h_ p2 => ?_)
    obtain ⟨v3, rfl, rfl, h4⟩ := p2
    refine J_icmp_gt (tgt := 16) dX1_hasSet_9 (by decide) (fun c5 => ?_) (fun c5 => ?_)
    · refine J_iconst (v := 0) dX1_hasSet_16 (by decide) ?_
      exact J_zret hq dX1_hasSet_17 rfl rfl wlen (Nat.le_refl _) (Nat.le_refl _) ⟨false, rfl, rfl, (fun q => absurd q (by decide))⟩
    · refine J_iconst (v := 1) dX1_hasSet_12 (by decide) ?_
      refine J_goto (tgt := 17) dX1_hasSet_13 (by decide) ?_
      exact J_zret hq dX1_hasSet_17 rfl rfl wlen (Nat.le_refl _) (Nat.le_refl _) ⟨true, rfl, rfl, (fun qb => (bd_le_hi (bd_le_lo (bd_any set) (i_nlt c1) (bd_c (v := 0) (lo := 0) (hi := 0) (by decide))) (i_nlt c5) h4))⟩
set_option maxHeartbeats 4000000 in
set_option maxRecDepth 100000 in
theorem c_H_hasRain {d : Nat} {u : Nat → Nat → Int32} {g : Nat → Nat → Int64} {ex : List MC} {rain : Int32} {t : Nat} (hd : 0 ≤ d) (hs_t : t ∈ hl) (hp0 : Bd 0 9 (u t 0)) (hp1 : Bd 0 4 (u t 2)) : CT con0 d 0 0 yX1_hasRain cX1_hasRain 2 (some .boolean) [.ref t, .int rain] (Wd u g ex) (fun r h2 => ∃ (z : Bool), r = some (.int (bI z)) ∧ h2 = Wd u g ex ∧ (z = true → Bd 0 3 rain)) := by
  refine CT_of (by decide) (Nat.le_of_ble_eq_true rfl) (fun x hq => ?_)
  show J x yX1_hasRain cX1_hasRain 2 (some .boolean) d 0 0 (Wd u g ex).length 0 [(0, .ref t), (1, .int rain)] [] (Wd u g ex) 0 0
  refine J_iload_n (i := 1) (j := 1) dX1_hasRain_0 rfl rfl ?_
  refine J_if_lt (tgt := 16) dX1_hasRain_1 (by decide) (fun c1 => ?_) (fun c1 => ?_)
  · refine J_iconst (v := 0) dX1_hasRain_16 (by decide) ?_
    exact J_zret hq dX1_hasRain_17 rfl rfl wlen (Nat.le_refl _) (Nat.le_refl _) ⟨false, rfl, rfl, (fun q => absurd q (by decide))⟩
  · refine J_iload_n (i := 1) (j := 1) dX1_hasRain_4 rfl rfl ?_
    refine J_aload_n (i := 0) (j := 0) dX1_hasRain_5 rfl rfl ?_
    refine J_get (C := RX1) (T := TX1) (Z := 6) (ci := 1) (f := 2) dX1_hasRain_6 inG1 rfl (by decide) k138 (zh0c hs_t) rfl ?_
    refine J_icmp_ge (tgt := 16) dX1_hasRain_9 (by decide) (fun c2 => ?_) (fun c2 => ?_)
    · refine J_iconst (v := 0) dX1_hasRain_16 (by decide) ?_
      exact J_zret hq dX1_hasRain_17 rfl rfl wlen (Nat.le_refl _) (Nat.le_refl _) ⟨false, rfl, rfl, (fun q => absurd q (by decide))⟩
    · refine J_iconst (v := 1) dX1_hasRain_12 (by decide) ?_
      refine J_goto (tgt := 17) dX1_hasRain_13 (by decide) ?_
      exact J_zret hq dX1_hasRain_17 rfl rfl wlen (Nat.le_refl _) (Nat.le_refl _) ⟨true, rfl, rfl, (fun qb => (bd_lt_hi (bd_le_lo (bd_any rain) (i_nlt c1) (bd_c (v := 0) (lo := 0) (hi := 0) (by decide))) (i_nle c2) hp1))⟩
set_option maxHeartbeats 4000000 in
set_option maxRecDepth 100000 in
theorem c_H_hasStorm {d : Nat} {u : Nat → Nat → Int32} {g : Nat → Nat → Int64} {ex : List MC} {rain : Int32} {banks : Int32} {t : Nat} (hd : 2 ≤ d) (hs_t : t ∈ hl) (hp0 : Bd 0 9 (u t 0)) (hp1 : Bd 0 4 (u t 2)) : CT con0 d 0 0 yX1_hasStorm cX1_hasStorm 3 (some .boolean) [.ref t, .int rain, .int banks] (Wd u g ex) (fun r h2 => ∃ (z : Bool), r = some (.int (bI z)) ∧ h2 = Wd u g ex ∧ (z = true → Bd 0 3 rain) ∧ (z = true → Bd 0 511 banks)) := by
  refine CT_of (by decide) (Nat.le_of_ble_eq_true rfl) (fun x hq => ?_)
  show J x yX1_hasStorm cX1_hasStorm 3 (some .boolean) d 0 0 (Wd u g ex).length 0 [(0, .ref t), (1, .int rain), (2, .int banks)] [] (Wd u g ex) 0 0
  refine J_aload_n (i := 0) (j := 0) dX1_hasStorm_0 rfl rfl ?_
  refine J_iload_n (i := 1) (j := 1) dX1_hasStorm_1 rfl rfl ?_
  refine J_callV (As := [.int rain]) (rest := []) dX1_hasStorm_2 (c_H_hasRain (d := 0) (u := u) (g := g) (ex := ex) (rain := rain) (t := t) (by decide) hs_t hp0 hp1) hq.n k711 k712 k713 (zh0c hs_t) rfl rfl k89 k714 np_X1_hasRain (Nat.le_trans (by decide) hd) (by decide) (Nat.le_refl _) (Nat.le_refl _) wlen rfl (Nat.le_of_ble_eq_true rfl) (fun r_ h_ p1 => ?_)
  obtain ⟨t2, rfl, rfl, h3⟩ := p1
  refine J_ifB_eq (tgt := 20) dX1_hasStorm_5 (by decide) (fun c4 => ?_) (fun c4 => ?_)
  · refine J_iconst (v := 0) dX1_hasStorm_20 (by decide) ?_
    exact J_zret hq dX1_hasStorm_21 rfl rfl wlen (Nat.le_refl _) (Nat.le_refl _) ⟨false, rfl, rfl, (fun q => absurd q (by decide)), (fun q => absurd q (by decide))⟩
  · refine J_aload_n (i := 0) (j := 0) dX1_hasStorm_8 rfl rfl ?_
    refine J_iload_n (i := 2) (j := 2) dX1_hasStorm_9 rfl rfl ?_
    refine J_callV (As := [.int banks]) (rest := []) dX1_hasStorm_10 (c_H_hasSet (d := 1) (u := u) (g := g) (ex := ex) (set := banks) (t := t) (by decide) hs_t hp0 hp1) hq.n k796 k797 k798 (zh0c hs_t) rfl rfl k89 k799 np_X1_hasSet (Nat.le_trans (by decide) hd) (by decide) (Nat.le_refl _) (Nat.le_refl _) wlen rfl (Nat.le_of_ble_eq_true rfl) (fun r_ h_ p5 => ?_)
    obtain ⟨t6, rfl, rfl, h7⟩ := p5
    refine J_ifB_eq (tgt := 20) dX1_hasStorm_13 (by decide) (fun c8 => ?_) (fun c8 => ?_)
    · refine J_iconst (v := 0) dX1_hasStorm_20 (by decide) ?_
      exact J_zret hq dX1_hasStorm_21 rfl rfl wlen (Nat.le_refl _) (Nat.le_refl _) ⟨false, rfl, rfl, (fun q => absurd q (by decide)), (fun q => absurd q (by decide))⟩
    · refine J_iconst (v := 1) dX1_hasStorm_16 (by decide) ?_
      refine J_goto (tgt := 21) dX1_hasStorm_17 (by decide) ?_
      exact J_zret hq dX1_hasStorm_21 rfl rfl wlen (Nat.le_refl _) (Nat.le_refl _) ⟨true, rfl, rfl, (fun qb => (h3 c4)), (fun qb => (h7 c8))⟩
set_option maxHeartbeats 4000000 in
set_option maxRecDepth 100000 in
theorem c_H_of {d : Nat} {u : Nat → Nat → Int32} {g : Nat → Nat → Int64} {ex : List MC} {pond : Int32} {column : Int32} {t : Nat} (hd : 0 ≤ d) (hs_t : t ∈ hl) : CT con0 d 0 0 yX1_of cX1_of 3 (some .int) [.ref t, .int pond, .int column] (Wd u g ex) (fun r h2 => r = some (.int (hof u t pond column)) ∧ h2 = Wd u g ex) := by
  refine CT_of (by decide) (Nat.le_of_ble_eq_true rfl) (fun x hq => ?_)
  show J x yX1_of cX1_of 3 (some .int) d 0 0 (Wd u g ex).length 0 [(0, .ref t), (1, .int pond), (2, .int column)] [] (Wd u g ex) 0 0
  refine J_iload_n (i := 1) (j := 1) dX1_of_0 rfl rfl ?_
  refine J_if_lt (tgt := 20) dX1_of_1 (by decide) (fun c1 => ?_) (fun c1 => ?_)
  · refine J_iconst (v := 0) dX1_of_20 (by decide) ?_
    exact J_iret hq dX1_of_21 rfl wlen (Nat.le_refl _) (Nat.le_refl _) ⟨(congrArg (fun z => some (Value.int z)) (hof_1 c1)), rfl⟩
  · refine J_iload_n (i := 1) (j := 1) dX1_of_4 rfl rfl ?_
    refine J_bipush (v := 9) dX1_of_5 (by decide) ?_
    refine J_icmp_ge (tgt := 20) dX1_of_7 (by decide) (fun c2 => ?_) (fun c2 => ?_)
    · refine J_iconst (v := 0) dX1_of_20 (by decide) ?_
      exact J_iret hq dX1_of_21 rfl wlen (Nat.le_refl _) (Nat.le_refl _) ⟨(congrArg (fun z => some (Value.int z)) (hof_2 c2)), rfl⟩
    · refine J_iload_n (i := 2) (j := 2) dX1_of_10 rfl rfl ?_
      refine J_if_lt (tgt := 20) dX1_of_11 (by decide) (fun c3 => ?_) (fun c3 => ?_)
      · refine J_iconst (v := 0) dX1_of_20 (by decide) ?_
        exact J_iret hq dX1_of_21 rfl wlen (Nat.le_refl _) (Nat.le_refl _) ⟨(congrArg (fun z => some (Value.int z)) (hof_3 c3)), rfl⟩
      · refine J_iload_n (i := 2) (j := 2) dX1_of_14 rfl rfl ?_
        refine J_bipush (v := 16) dX1_of_15 (by decide) ?_
        refine J_icmp_lt (tgt := 22) dX1_of_17 (by decide) (fun c4 => ?_) (fun c4 => ?_)
        · refine J_aload_n (i := 0) (j := 0) dX1_of_22 rfl rfl ?_
          refine J_get (C := RX1) (T := TX1) (Z := 6) (ci := 1) (f := 1) dX1_of_23 inG1 rfl (by decide) k137 (zh0c hs_t) rfl ?_
          refine J_iload_n (i := 1) (j := 1) dX1_of_26 rfl rfl ?_
          refine J_bipush (v := 16) dX1_of_27 (by decide) ?_
          refine J_imul dX1_of_29 ?_
          refine J_iload_n (i := 2) (j := 2) dX1_of_30 rfl rfl ?_
          refine J_iadd dX1_of_31 ?_
          refine J_iald dX1_of_32 (zh1c hs_t) (vin (bd_add (l := 0) (h := 143) (bd_mul (l := 0) (h := 128) (bd_lt_hi (bd_le_lo (bd_any pond) (i_nlt c1) (bd_c (v := 0) (lo := 0) (hi := 0) (by decide))) (i_nle c2) (bd_c (v := 9) (lo := 9) (hi := 9) (by decide))) (bd_c (v := 16) (lo := 16) (hi := 16) (by decide)) (by decide)) (bd_lt_hi (bd_le_lo (bd_any column) (i_nlt c3) (bd_c (v := 0) (lo := 0) (hi := 0) (by decide))) c4 (bd_c (v := 16) (lo := 16) (hi := 16) (by decide))) (by decide)) (by decide)) ?_
          refine J_topi (fun v5 qv5 => ?_)
          exact J_iret hq dX1_of_33 rfl wlen (Nat.le_refl _) (Nat.le_refl _) ⟨(congrArg (fun z => some (Value.int z)) (hof_5 (i_nlt c1) (i_nle c2) (i_nlt c3) c4 qv5)), rfl⟩
        · refine J_iconst (v := 0) dX1_of_20 (by decide) ?_
          exact J_iret hq dX1_of_21 rfl wlen (Nat.le_refl _) (Nat.le_refl _) ⟨(congrArg (fun z => some (Value.int z)) (hof_4 (i_nlt c4))), rfl⟩
set_option maxHeartbeats 4000000 in
set_option maxRecDepth 100000 in
theorem c_H_putB {d : Nat} {u : Nat → Nat → Int32} {g : Nat → Nat → Int64} {ex : List MC} {pond : Int32} {column : Int32} {value : Int32} {t : Nat} (hd : 0 ≤ d) (hs_t : t ∈ hl) (hp0 : AB u (t + 1) (-1) 999) (hp1 : Bd (-1) 999 value) : CT con0 d 0 0 yX1_put cX1_put 4 none [.ref t, .int pond, .int column, .int value] (Wd u g ex) (fun r h2 => ∃ (u2 : Nat → Nat → Int32), r = none ∧ h2 = Wd u2 g ex ∧ AB u2 (t + 1) (-1) 999 ∧ (∀ c, c ≠ t + 1 → u2 c = u c)) := by
  refine CT_of (by decide) (Nat.le_of_ble_eq_true rfl) (fun x hq => ?_)
  show J x yX1_put cX1_put 4 none d 0 0 (Wd u g ex).length 0 [(0, .ref t), (1, .int pond), (2, .int column), (3, .int value)] [] (Wd u g ex) 0 0
  refine J_iload_n (i := 1) (j := 1) dX1_put_0 rfl rfl ?_
  refine J_if_lt (tgt := 32) dX1_put_1 (by decide) (fun c1 => ?_) (fun c1 => ?_)
  · exact J_vret hq dX1_put_32 rfl wlen (Nat.le_refl _) (Nat.le_refl _) ⟨u, rfl, rfl, hp0, (fun c k0_ => rfl)⟩
  · refine J_iload_n (i := 1) (j := 1) dX1_put_4 rfl rfl ?_
    refine J_bipush (v := 9) dX1_put_5 (by decide) ?_
    refine J_icmp_ge (tgt := 32) dX1_put_7 (by decide) (fun c2 => ?_) (fun c2 => ?_)
    · exact J_vret hq dX1_put_32 rfl wlen (Nat.le_refl _) (Nat.le_refl _) ⟨u, rfl, rfl, hp0, (fun c k0_ => rfl)⟩
    · refine J_iload_n (i := 2) (j := 2) dX1_put_10 rfl rfl ?_
      refine J_if_lt (tgt := 32) dX1_put_11 (by decide) (fun c3 => ?_) (fun c3 => ?_)
      · exact J_vret hq dX1_put_32 rfl wlen (Nat.le_refl _) (Nat.le_refl _) ⟨u, rfl, rfl, hp0, (fun c k0_ => rfl)⟩
      · refine J_iload_n (i := 2) (j := 2) dX1_put_14 rfl rfl ?_
        refine J_bipush (v := 16) dX1_put_15 (by decide) ?_
        refine J_icmp_ge (tgt := 32) dX1_put_17 (by decide) (fun c4 => ?_) (fun c4 => ?_)
        · exact J_vret hq dX1_put_32 rfl wlen (Nat.le_refl _) (Nat.le_refl _) ⟨u, rfl, rfl, hp0, (fun c k0_ => rfl)⟩
        · refine J_aload_n (i := 0) (j := 0) dX1_put_20 rfl rfl ?_
          refine J_get (C := RX1) (T := TX1) (Z := 6) (ci := 1) (f := 1) dX1_put_21 inG1 rfl (by decide) k137 (zh0c hs_t) rfl ?_
          refine J_iload_n (i := 1) (j := 1) dX1_put_24 rfl rfl ?_
          refine J_bipush (v := 16) dX1_put_25 (by decide) ?_
          refine J_imul dX1_put_27 ?_
          refine J_iload_n (i := 2) (j := 2) dX1_put_28 rfl rfl ?_
          refine J_iadd dX1_put_29 ?_
          refine J_iload_n (i := 3) (j := 3) dX1_put_30 rfl rfl ?_
          obtain ⟨u5, e6⟩ : ∃ z, z = ms u (t + 1) (((pond * 16) + column).toNatClampNeg) value := ⟨_, rfl⟩
          refine J_iast dX1_put_31 (zh1c hs_t) (vin (bd_add (l := 0) (h := 143) (bd_mul (l := 0) (h := 128) (bd_lt_hi (bd_le_lo (bd_any pond) (i_nlt c1) (bd_c (v := 0) (lo := 0) (hi := 0) (by decide))) (i_nle c2) (bd_c (v := 9) (lo := 9) (hi := 9) (by decide))) (bd_c (v := 16) (lo := 16) (hi := 16) (by decide)) (by decide)) (bd_lt_hi (bd_le_lo (bd_any column) (i_nlt c3) (bd_c (v := 0) (lo := 0) (hi := 0) (by decide))) (i_nle c4) (bd_c (v := 16) (lo := 16) (hi := 16) (by decide))) (by decide)) (by decide)) (ws e6 (zh1 hs_t) rfl) ?_
          exact J_vret hq dX1_put_32 rfl wlen (Nat.le_refl _) (Nat.le_refl _) ⟨u5, rfl, rfl, (ab_s e6 hp0 hp1), (fun c k0_ => (ms_c e6 k0_))⟩
set_option maxHeartbeats 4000000 in
set_option maxRecDepth 100000 in
theorem c_H_put {d : Nat} {u : Nat → Nat → Int32} {g : Nat → Nat → Int64} {ex : List MC} {pond : Int32} {column : Int32} {value : Int32} {t : Nat} (hd : 0 ≤ d) (hs_t : t ∈ hl) : CT con0 d 0 0 yX1_put cX1_put 4 none [.ref t, .int pond, .int column, .int value] (Wd u g ex) (fun r h2 => ∃ (u2 : Nat → Nat → Int32), r = none ∧ h2 = Wd u2 g ex ∧ (∀ c, c ≠ t + 1 → u2 c = u c)) := by
  refine CT_of (by decide) (Nat.le_of_ble_eq_true rfl) (fun x hq => ?_)
  show J x yX1_put cX1_put 4 none d 0 0 (Wd u g ex).length 0 [(0, .ref t), (1, .int pond), (2, .int column), (3, .int value)] [] (Wd u g ex) 0 0
  refine J_iload_n (i := 1) (j := 1) dX1_put_0 rfl rfl ?_
  refine J_if_lt (tgt := 32) dX1_put_1 (by decide) (fun c1 => ?_) (fun c1 => ?_)
  · exact J_vret hq dX1_put_32 rfl wlen (Nat.le_refl _) (Nat.le_refl _) ⟨u, rfl, rfl, (fun c k0_ => rfl)⟩
  · refine J_iload_n (i := 1) (j := 1) dX1_put_4 rfl rfl ?_
    refine J_bipush (v := 9) dX1_put_5 (by decide) ?_
    refine J_icmp_ge (tgt := 32) dX1_put_7 (by decide) (fun c2 => ?_) (fun c2 => ?_)
    · exact J_vret hq dX1_put_32 rfl wlen (Nat.le_refl _) (Nat.le_refl _) ⟨u, rfl, rfl, (fun c k0_ => rfl)⟩
    · refine J_iload_n (i := 2) (j := 2) dX1_put_10 rfl rfl ?_
      refine J_if_lt (tgt := 32) dX1_put_11 (by decide) (fun c3 => ?_) (fun c3 => ?_)
      · exact J_vret hq dX1_put_32 rfl wlen (Nat.le_refl _) (Nat.le_refl _) ⟨u, rfl, rfl, (fun c k0_ => rfl)⟩
      · refine J_iload_n (i := 2) (j := 2) dX1_put_14 rfl rfl ?_
        refine J_bipush (v := 16) dX1_put_15 (by decide) ?_
        refine J_icmp_ge (tgt := 32) dX1_put_17 (by decide) (fun c4 => ?_) (fun c4 => ?_)
        · exact J_vret hq dX1_put_32 rfl wlen (Nat.le_refl _) (Nat.le_refl _) ⟨u, rfl, rfl, (fun c k0_ => rfl)⟩
        · refine J_aload_n (i := 0) (j := 0) dX1_put_20 rfl rfl ?_
          refine J_get (C := RX1) (T := TX1) (Z := 6) (ci := 1) (f := 1) dX1_put_21 inG1 rfl (by decide) k137 (zh0c hs_t) rfl ?_
          refine J_iload_n (i := 1) (j := 1) dX1_put_24 rfl rfl ?_
          refine J_bipush (v := 16) dX1_put_25 (by decide) ?_
          refine J_imul dX1_put_27 ?_
          refine J_iload_n (i := 2) (j := 2) dX1_put_28 rfl rfl ?_
          refine J_iadd dX1_put_29 ?_
          refine J_iload_n (i := 3) (j := 3) dX1_put_30 rfl rfl ?_
          obtain ⟨u5, e6⟩ : ∃ z, z = ms u (t + 1) (((pond * 16) + column).toNatClampNeg) value := ⟨_, rfl⟩
          refine J_iast dX1_put_31 (zh1c hs_t) (vin (bd_add (l := 0) (h := 143) (bd_mul (l := 0) (h := 128) (bd_lt_hi (bd_le_lo (bd_any pond) (i_nlt c1) (bd_c (v := 0) (lo := 0) (hi := 0) (by decide))) (i_nle c2) (bd_c (v := 9) (lo := 9) (hi := 9) (by decide))) (bd_c (v := 16) (lo := 16) (hi := 16) (by decide)) (by decide)) (bd_lt_hi (bd_le_lo (bd_any column) (i_nlt c3) (bd_c (v := 0) (lo := 0) (hi := 0) (by decide))) (i_nle c4) (bd_c (v := 16) (lo := 16) (hi := 16) (by decide))) (by decide)) (by decide)) (ws e6 (zh1 hs_t) rfl) ?_
          exact J_vret hq dX1_put_32 rfl wlen (Nat.le_refl _) (Nat.le_refl _) ⟨u5, rfl, rfl, (fun c k0_ => (ms_c e6 k0_))⟩
set_option maxHeartbeats 4000000 in
set_option maxRecDepth 100000 in
theorem c_H_isOut {d : Nat} {u : Nat → Nat → Int32} {g : Nat → Nat → Int64} {ex : List MC} {pond : Int32} {t : Nat} (hd : 1 ≤ d) (hs_t : t ∈ hl) : CT con0 d 0 0 yX1_isOut cX1_isOut 2 (some .boolean) [.ref t, .int pond] (Wd u g ex) (fun r h2 => ∃ (z : Bool), r = some (.int (bI z)) ∧ h2 = Wd u g ex) := by
  refine CT_of (by decide) (Nat.le_of_ble_eq_true rfl) (fun x hq => ?_)
  show J x yX1_isOut cX1_isOut 2 (some .boolean) d 0 0 (Wd u g ex).length 0 [(0, .ref t), (1, .int pond)] [] (Wd u g ex) 0 0
  refine J_aload_n (i := 0) (j := 0) dX1_isOut_0 rfl rfl ?_
  refine J_iload_n (i := 1) (j := 1) dX1_isOut_1 rfl rfl ?_
  refine J_bipush (v := 15) dX1_isOut_2 (by decide) ?_
  refine J_callV (As := [.int pond, .int 15]) (rest := []) dX1_isOut_4 (c_H_of (d := 0) (u := u) (g := g) (ex := ex) (pond := pond) (column := 15) (t := t) (by decide) hs_t) hq.n k748 k749 k750 (zh0c hs_t) rfl rfl k89 k751 np_X1_of (Nat.le_trans (by decide) hd) (by decide) (Nat.le_refl _) (Nat.le_refl _) wlen rfl (Nat.le_of_ble_eq_true rfl) (fun r_ h_ p1 => ?_)
  obtain ⟨rfl, rfl⟩ := p1
  refine J_iconst (v := 1) dX1_isOut_7 (by decide) ?_
  refine J_icmp_ne (tgt := 15) dX1_isOut_8 (by decide) (fun c2 => ?_) (fun c2 => ?_)
  · refine J_iconst (v := 0) dX1_isOut_15 (by decide) ?_
    exact J_zret hq dX1_isOut_16 rfl rfl wlen (Nat.le_refl _) (Nat.le_refl _) ⟨false, rfl, rfl⟩
  · refine J_iconst (v := 1) dX1_isOut_11 (by decide) ?_
    refine J_goto (tgt := 16) dX1_isOut_12 (by decide) ?_
    exact J_zret hq dX1_isOut_16 rfl rfl wlen (Nat.le_refl _) (Nat.le_refl _) ⟨true, rfl, rfl⟩
set_option maxHeartbeats 4000000 in
set_option maxRecDepth 100000 in
theorem c_H_takeOutB {d : Nat} {u : Nat → Nat → Int32} {g : Nat → Nat → Int64} {ex : List MC} {pond : Int32} {t : Nat} (hd : 1 ≤ d) (hs_t : t ∈ hl) (hp0 : AB u (t + 1) (-1) 999) : CT con0 d 0 0 yX1_takeOut cX1_takeOut 2 none [.ref t, .int pond] (Wd u g ex) (fun r h2 => ∃ (u2 : Nat → Nat → Int32), r = none ∧ h2 = Wd u2 g ex ∧ AB u2 (t + 1) (-1) 999 ∧ (∀ c, c ≠ t + 1 → u2 c = u c)) := by
  refine CT_of (by decide) (Nat.le_of_ble_eq_true rfl) (fun x hq => ?_)
  show J x yX1_takeOut cX1_takeOut 2 none d 0 0 (Wd u g ex).length 0 [(0, .ref t), (1, .int pond)] [] (Wd u g ex) 0 0
  refine J_aload_n (i := 0) (j := 0) dX1_takeOut_0 rfl rfl ?_
  refine J_iload_n (i := 1) (j := 1) dX1_takeOut_1 rfl rfl ?_
  refine J_bipush (v := 15) dX1_takeOut_2 (by decide) ?_
  refine J_iconst (v := 1) dX1_takeOut_4 (by decide) ?_
  refine J_callV (As := [.int pond, .int 15, .int 1]) (rest := []) dX1_takeOut_5 (c_H_putB (d := 0) (u := u) (g := g) (ex := ex) (pond := pond) (column := 15) (value := 1) (t := t) (by decide) hs_t hp0 (bd_w (l := (-1)) (h := 999) (bd_c (v := 1) (lo := 1) (hi := 1) (by decide)) (by decide))) hq.n k649 k650 k651 (zh0c hs_t) rfl rfl k89 k652 np_X1_put (Nat.le_trans (by decide) hd) (by decide) (Nat.le_refl _) (Nat.le_refl _) wlen rfl (Nat.le_of_ble_eq_true rfl) (fun r_ h_ p1 => ?_)
  obtain ⟨u2, rfl, rfl, h3, fr4⟩ := p1
  refine J_aload_n (i := 0) (j := 0) dX1_takeOut_8 rfl rfl ?_
  refine J_iload_n (i := 1) (j := 1) dX1_takeOut_9 rfl rfl ?_
  refine J_iconst (v := 1) dX1_takeOut_10 (by decide) ?_
  refine J_iconst (v := 0) dX1_takeOut_11 (by decide) ?_
  refine J_callV (As := [.int pond, .int 1, .int 0]) (rest := []) dX1_takeOut_12 (c_H_putB (d := 0) (u := u2) (g := g) (ex := ex) (pond := pond) (column := 1) (value := 0) (t := t) (by decide) hs_t h3 (bd_w (l := (-1)) (h := 999) (bd_c (v := 0) (lo := 0) (hi := 0) (by decide)) (by decide))) hq.n k649 k650 k651 (zh0c hs_t) rfl rfl k89 k652 np_X1_put (Nat.le_trans (by decide) hd) (by decide) (Nat.le_refl _) (Nat.le_refl _) wlen rfl (Nat.le_of_ble_eq_true rfl) (fun r_ h_ p5 => ?_)
  obtain ⟨u6, rfl, rfl, h7, fr8⟩ := p5
  refine J_aload_n (i := 0) (j := 0) dX1_takeOut_15 rfl rfl ?_
  refine J_iload_n (i := 1) (j := 1) dX1_takeOut_16 rfl rfl ?_
  refine J_iconst (v := 0) dX1_takeOut_17 (by decide) ?_
  refine J_iconst (v := 0) dX1_takeOut_18 (by decide) ?_
  refine J_callV (As := [.int pond, .int 0, .int 0]) (rest := []) dX1_takeOut_19 (c_H_putB (d := 0) (u := u6) (g := g) (ex := ex) (pond := pond) (column := 0) (value := 0) (t := t) (by decide) hs_t h7 (bd_w (l := (-1)) (h := 999) (bd_c (v := 0) (lo := 0) (hi := 0) (by decide)) (by decide))) hq.n k649 k650 k651 (zh0c hs_t) rfl rfl k89 k652 np_X1_put (Nat.le_trans (by decide) hd) (by decide) (Nat.le_refl _) (Nat.le_refl _) wlen rfl (Nat.le_of_ble_eq_true rfl) (fun r_ h_ p9 => ?_)
  obtain ⟨u10, rfl, rfl, h11, fr12⟩ := p9
  refine J_aload_n (i := 0) (j := 0) dX1_takeOut_22 rfl rfl ?_
  refine J_iload_n (i := 1) (j := 1) dX1_takeOut_23 rfl rfl ?_
  refine J_iconst (v := 4) dX1_takeOut_24 (by decide) ?_
  refine J_iconst (v := 0) dX1_takeOut_25 (by decide) ?_
  refine J_callV (As := [.int pond, .int 4, .int 0]) (rest := []) dX1_takeOut_26 (c_H_putB (d := 0) (u := u10) (g := g) (ex := ex) (pond := pond) (column := 4) (value := 0) (t := t) (by decide) hs_t h11 (bd_w (l := (-1)) (h := 999) (bd_c (v := 0) (lo := 0) (hi := 0) (by decide)) (by decide))) hq.n k649 k650 k651 (zh0c hs_t) rfl rfl k89 k652 np_X1_put (Nat.le_trans (by decide) hd) (by decide) (Nat.le_refl _) (Nat.le_refl _) wlen rfl (Nat.le_of_ble_eq_true rfl) (fun r_ h_ p13 => ?_)
  obtain ⟨u14, rfl, rfl, h15, fr16⟩ := p13
  exact J_vret hq dX1_takeOut_29 rfl wlen (Nat.le_refl _) (Nat.le_refl _) ⟨u14, rfl, rfl, h15, (fun c k0_ => ((fr16 c k0_).trans ((fr12 c k0_).trans ((fr8 c k0_).trans (fr4 c k0_)))))⟩
set_option maxHeartbeats 4000000 in
set_option maxRecDepth 100000 in
theorem c_H_takeOut {d : Nat} {u : Nat → Nat → Int32} {g : Nat → Nat → Int64} {ex : List MC} {pond : Int32} {t : Nat} (hd : 1 ≤ d) (hs_t : t ∈ hl) : CT con0 d 0 0 yX1_takeOut cX1_takeOut 2 none [.ref t, .int pond] (Wd u g ex) (fun r h2 => ∃ (u2 : Nat → Nat → Int32), r = none ∧ h2 = Wd u2 g ex ∧ (∀ c, c ≠ t + 1 → u2 c = u c)) := by
  refine CT_of (by decide) (Nat.le_of_ble_eq_true rfl) (fun x hq => ?_)
  show J x yX1_takeOut cX1_takeOut 2 none d 0 0 (Wd u g ex).length 0 [(0, .ref t), (1, .int pond)] [] (Wd u g ex) 0 0
  refine J_aload_n (i := 0) (j := 0) dX1_takeOut_0 rfl rfl ?_
  refine J_iload_n (i := 1) (j := 1) dX1_takeOut_1 rfl rfl ?_
  refine J_bipush (v := 15) dX1_takeOut_2 (by decide) ?_
  refine J_iconst (v := 1) dX1_takeOut_4 (by decide) ?_
  refine J_callV (As := [.int pond, .int 15, .int 1]) (rest := []) dX1_takeOut_5 (c_H_put (d := 0) (u := u) (g := g) (ex := ex) (pond := pond) (column := 15) (value := 1) (t := t) (by decide) hs_t) hq.n k649 k650 k651 (zh0c hs_t) rfl rfl k89 k652 np_X1_put (Nat.le_trans (by decide) hd) (by decide) (Nat.le_refl _) (Nat.le_refl _) wlen rfl (Nat.le_of_ble_eq_true rfl) (fun r_ h_ p1 => ?_)
  obtain ⟨u2, rfl, rfl, fr3⟩ := p1
  refine J_aload_n (i := 0) (j := 0) dX1_takeOut_8 rfl rfl ?_
  refine J_iload_n (i := 1) (j := 1) dX1_takeOut_9 rfl rfl ?_
  refine J_iconst (v := 1) dX1_takeOut_10 (by decide) ?_
  refine J_iconst (v := 0) dX1_takeOut_11 (by decide) ?_
  refine J_callV (As := [.int pond, .int 1, .int 0]) (rest := []) dX1_takeOut_12 (c_H_put (d := 0) (u := u2) (g := g) (ex := ex) (pond := pond) (column := 1) (value := 0) (t := t) (by decide) hs_t) hq.n k649 k650 k651 (zh0c hs_t) rfl rfl k89 k652 np_X1_put (Nat.le_trans (by decide) hd) (by decide) (Nat.le_refl _) (Nat.le_refl _) wlen rfl (Nat.le_of_ble_eq_true rfl) (fun r_ h_ p4 => ?_)
  obtain ⟨u5, rfl, rfl, fr6⟩ := p4
  refine J_aload_n (i := 0) (j := 0) dX1_takeOut_15 rfl rfl ?_
  refine J_iload_n (i := 1) (j := 1) dX1_takeOut_16 rfl rfl ?_
  refine J_iconst (v := 0) dX1_takeOut_17 (by decide) ?_
  refine J_iconst (v := 0) dX1_takeOut_18 (by decide) ?_
  refine J_callV (As := [.int pond, .int 0, .int 0]) (rest := []) dX1_takeOut_19 (c_H_put (d := 0) (u := u5) (g := g) (ex := ex) (pond := pond) (column := 0) (value := 0) (t := t) (by decide) hs_t) hq.n k649 k650 k651 (zh0c hs_t) rfl rfl k89 k652 np_X1_put (Nat.le_trans (by decide) hd) (by decide) (Nat.le_refl _) (Nat.le_refl _) wlen rfl (Nat.le_of_ble_eq_true rfl) (fun r_ h_ p7 => ?_)
  obtain ⟨u8, rfl, rfl, fr9⟩ := p7
  refine J_aload_n (i := 0) (j := 0) dX1_takeOut_22 rfl rfl ?_
  refine J_iload_n (i := 1) (j := 1) dX1_takeOut_23 rfl rfl ?_
  refine J_iconst (v := 4) dX1_takeOut_24 (by decide) ?_
  refine J_iconst (v := 0) dX1_takeOut_25 (by decide) ?_
  refine J_callV (As := [.int pond, .int 4, .int 0]) (rest := []) dX1_takeOut_26 (c_H_put (d := 0) (u := u8) (g := g) (ex := ex) (pond := pond) (column := 4) (value := 0) (t := t) (by decide) hs_t) hq.n k649 k650 k651 (zh0c hs_t) rfl rfl k89 k652 np_X1_put (Nat.le_trans (by decide) hd) (by decide) (Nat.le_refl _) (Nat.le_refl _) wlen rfl (Nat.le_of_ble_eq_true rfl) (fun r_ h_ p10 => ?_)
  obtain ⟨u11, rfl, rfl, fr12⟩ := p10
  exact J_vret hq dX1_takeOut_29 rfl wlen (Nat.le_refl _) (Nat.le_refl _) ⟨u11, rfl, rfl, (fun c k0_ => ((fr12 c k0_).trans ((fr9 c k0_).trans ((fr6 c k0_).trans (fr3 c k0_)))))⟩
set_option maxHeartbeats 4000000 in
set_option maxRecDepth 100000 in
theorem c_H_stepsOf {d : Nat} {u : Nat → Nat → Int32} {g : Nat → Nat → Int64} {ex : List MC} {rain : Int32} {t : Nat} (hd : 0 ≤ d) (hs_t : t ∈ hl) (hp0 : Bd 0 9 (u t 0)) (hp1 : Bd 0 4 (u t 2)) : CT con0 d 0 0 yX1_stepsOf cX1_stepsOf 2 (some .int) [.ref t, .int rain] (Wd u g ex) (fun r h2 => ∃ (z : Int32), r = some (.int z) ∧ h2 = Wd u g ex) := by
  refine CT_of (by decide) (Nat.le_of_ble_eq_true rfl) (fun x hq => ?_)
  show J x yX1_stepsOf cX1_stepsOf 2 (some .int) d 0 0 (Wd u g ex).length 0 [(0, .ref t), (1, .int rain)] [] (Wd u g ex) 0 0
  refine J_iload_n (i := 1) (j := 1) dX1_stepsOf_0 rfl rfl ?_
  refine J_if_lt (tgt := 21) dX1_stepsOf_1 (by decide) (fun c1 => ?_) (fun c1 => ?_)
  · refine J_iconst (v := 0) dX1_stepsOf_21 (by decide) ?_
    exact J_iret hq dX1_stepsOf_22 rfl wlen (Nat.le_refl _) (Nat.le_refl _) ⟨(0 : Int32), rfl, rfl⟩
  · refine J_iload_n (i := 1) (j := 1) dX1_stepsOf_4 rfl rfl ?_
    refine J_aload_n (i := 0) (j := 0) dX1_stepsOf_5 rfl rfl ?_
    refine J_get (C := RX1) (T := TX1) (Z := 6) (ci := 1) (f := 2) dX1_stepsOf_6 inG1 rfl (by decide) k138 (zh0c hs_t) rfl ?_
    refine J_icmp_ge (tgt := 21) dX1_stepsOf_9 (by decide) (fun c2 => ?_) (fun c2 => ?_)
    · refine J_iconst (v := 0) dX1_stepsOf_21 (by decide) ?_
      exact J_iret hq dX1_stepsOf_22 rfl wlen (Nat.le_refl _) (Nat.le_refl _) ⟨(0 : Int32), rfl, rfl⟩
    · refine J_aload_n (i := 0) (j := 0) dX1_stepsOf_12 rfl rfl ?_
      refine J_get (C := RX1) (T := TX1) (Z := 6) (ci := 1) (f := 3) dX1_stepsOf_13 inG1 rfl (by decide) k143 (zh0c hs_t) rfl ?_
      refine J_iload_n (i := 1) (j := 1) dX1_stepsOf_16 rfl rfl ?_
      refine J_iald dX1_stepsOf_17 (zh2c hs_t) (vin (bd_lt_hi (bd_le_lo (bd_any rain) (i_nlt c1) (bd_c (v := 0) (lo := 0) (hi := 0) (by decide))) (i_nle c2) hp1) (by decide)) ?_
      refine J_topi (fun v3 qv3 => ?_)
      refine J_goto (tgt := 22) dX1_stepsOf_18 (by decide) ?_
      exact J_iret hq dX1_stepsOf_22 rfl wlen (Nat.le_refl _) (Nat.le_refl _) ⟨v3, rfl, rfl⟩
set_option maxHeartbeats 4000000 in
set_option maxRecDepth 100000 in
theorem c_H_chanceOf {d : Nat} {u : Nat → Nat → Int32} {g : Nat → Nat → Int64} {ex : List MC} {rain : Int32} {t : Nat} (hd : 0 ≤ d) (hs_t : t ∈ hl) (hp0 : Bd 0 9 (u t 0)) (hp1 : Bd 0 4 (u t 2)) : CT con0 d 0 0 yX1_chanceOf cX1_chanceOf 2 (some .int) [.ref t, .int rain] (Wd u g ex) (fun r h2 => ∃ (z : Int32), r = some (.int z) ∧ h2 = Wd u g ex) := by
  refine CT_of (by decide) (Nat.le_of_ble_eq_true rfl) (fun x hq => ?_)
  show J x yX1_chanceOf cX1_chanceOf 2 (some .int) d 0 0 (Wd u g ex).length 0 [(0, .ref t), (1, .int rain)] [] (Wd u g ex) 0 0
  refine J_iload_n (i := 1) (j := 1) dX1_chanceOf_0 rfl rfl ?_
  refine J_if_lt (tgt := 21) dX1_chanceOf_1 (by decide) (fun c1 => ?_) (fun c1 => ?_)
  · refine J_iconst (v := 0) dX1_chanceOf_21 (by decide) ?_
    exact J_iret hq dX1_chanceOf_22 rfl wlen (Nat.le_refl _) (Nat.le_refl _) ⟨(0 : Int32), rfl, rfl⟩
  · refine J_iload_n (i := 1) (j := 1) dX1_chanceOf_4 rfl rfl ?_
    refine J_aload_n (i := 0) (j := 0) dX1_chanceOf_5 rfl rfl ?_
    refine J_get (C := RX1) (T := TX1) (Z := 6) (ci := 1) (f := 2) dX1_chanceOf_6 inG1 rfl (by decide) k138 (zh0c hs_t) rfl ?_
    refine J_icmp_ge (tgt := 21) dX1_chanceOf_9 (by decide) (fun c2 => ?_) (fun c2 => ?_)
    · refine J_iconst (v := 0) dX1_chanceOf_21 (by decide) ?_
      exact J_iret hq dX1_chanceOf_22 rfl wlen (Nat.le_refl _) (Nat.le_refl _) ⟨(0 : Int32), rfl, rfl⟩
    · refine J_aload_n (i := 0) (j := 0) dX1_chanceOf_12 rfl rfl ?_
      refine J_get (C := RX1) (T := TX1) (Z := 6) (ci := 1) (f := 4) dX1_chanceOf_13 inG1 rfl (by decide) k144 (zh0c hs_t) rfl ?_
      refine J_iload_n (i := 1) (j := 1) dX1_chanceOf_16 rfl rfl ?_
      refine J_iald dX1_chanceOf_17 (zh3c hs_t) (vin (bd_lt_hi (bd_le_lo (bd_any rain) (i_nlt c1) (bd_c (v := 0) (lo := 0) (hi := 0) (by decide))) (i_nle c2) hp1) (by decide)) ?_
      refine J_topi (fun v3 qv3 => ?_)
      refine J_goto (tgt := 22) dX1_chanceOf_18 (by decide) ?_
      exact J_iret hq dX1_chanceOf_22 rfl wlen (Nat.le_refl _) (Nat.le_refl _) ⟨v3, rfl, rfl⟩
set_option maxHeartbeats 4000000 in
set_option maxRecDepth 100000 in
theorem c_H_told {d : Nat} {u : Nat → Nat → Int32} {g : Nat → Nat → Int64} {ex : List MC} {what : Int32} {t : Nat} (hd : 1 ≤ d) (hs_t : t ∈ hl) (hp0 : Bd 0 9 (u t 0)) (hp1 : Bd 0 4 (u t 2)) : CT con0 d 0 0 yX1_told cX1_told 2 (some .int) [.ref t, .int what] (Wd u g ex) (fun r h2 => ∃ (z : Int32), r = some (.int z) ∧ h2 = Wd u g ex) := by
  refine CT_of (by decide) (Nat.le_of_ble_eq_true rfl) (fun x hq => ?_)
  show J x yX1_told cX1_told 2 (some .int) d 0 0 (Wd u g ex).length 0 [(0, .ref t), (1, .int what)] [] (Wd u g ex) 0 0
  refine J_iload_n (i := 1) (j := 1) dX1_told_0 rfl rfl ?_
  refine J_if_ne (tgt := 9) dX1_told_1 (by decide) (fun c1 => ?_) (fun c1 => ?_)
  · refine J_iload_n (i := 1) (j := 1) dX1_told_9 rfl rfl ?_
    refine J_iconst (v := 1) dX1_told_10 (by decide) ?_
    refine J_icmp_ne (tgt := 19) dX1_told_11 (by decide) (fun c2 => ?_) (fun c2 => ?_)
    · refine J_iload_n (i := 1) (j := 1) dX1_told_19 rfl rfl ?_
      refine J_iconst (v := 2) dX1_told_20 (by decide) ?_
      refine J_icmp_lt (tgt := 38) dX1_told_21 (by decide) (fun c3 => ?_) (fun c3 => ?_)
      · refine J_iload_n (i := 1) (j := 1) dX1_told_38 rfl rfl ?_
        refine J_bipush (v := 10) dX1_told_39 (by decide) ?_
        refine J_icmp_lt (tgt := 64) dX1_told_41 (by decide) (fun c4 => ?_) (fun c4 => ?_)
        · refine J_iload_n (i := 1) (j := 1) dX1_told_64 rfl rfl ?_
          refine J_bipush (v := 20) dX1_told_65 (by decide) ?_
          refine J_icmp_lt (tgt := 92) dX1_told_67 (by decide) (fun c5 => ?_) (fun c5 => ?_)
          · refine J_iconst (v := (-1)) dX1_told_92 (by decide) ?_
            exact J_iret hq dX1_told_93 rfl wlen (Nat.le_refl _) (Nat.le_refl _) ⟨((-1) : Int32), rfl, rfl⟩
          · exact (bd_no (bd_le_lo (bd_lt_hi (bd_any what) c3 (bd_c (v := 2) (lo := 2) (hi := 2) (by decide))) (i_nlt c5) (bd_c (v := 20) (lo := 20) (hi := 20) (by decide))) (by decide)).elim
        · exact (bd_no (bd_le_lo (bd_lt_hi (bd_any what) c3 (bd_c (v := 2) (lo := 2) (hi := 2) (by decide))) (i_nlt c4) (bd_c (v := 10) (lo := 10) (hi := 10) (by decide))) (by decide)).elim
      · refine J_iload_n (i := 1) (j := 1) dX1_told_24 rfl rfl ?_
        refine J_iconst (v := 4) dX1_told_25 (by decide) ?_
        refine J_icmp_gt (tgt := 38) dX1_told_26 (by decide) (fun c6 => ?_) (fun c6 => ?_)
        · refine J_iload_n (i := 1) (j := 1) dX1_told_38 rfl rfl ?_
          refine J_bipush (v := 10) dX1_told_39 (by decide) ?_
          refine J_icmp_lt (tgt := 64) dX1_told_41 (by decide) (fun c7 => ?_) (fun c7 => ?_)
          · refine J_iload_n (i := 1) (j := 1) dX1_told_64 rfl rfl ?_
            refine J_bipush (v := 20) dX1_told_65 (by decide) ?_
            refine J_icmp_lt (tgt := 92) dX1_told_67 (by decide) (fun c8 => ?_) (fun c8 => ?_)
            · refine J_iconst (v := (-1)) dX1_told_92 (by decide) ?_
              exact J_iret hq dX1_told_93 rfl wlen (Nat.le_refl _) (Nat.le_refl _) ⟨((-1) : Int32), rfl, rfl⟩
            · exact (bd_no (bd_le_lo (bd_lt_hi (bd_lt_lo (bd_le_lo (bd_any what) (i_nlt c3) (bd_c (v := 2) (lo := 2) (hi := 2) (by decide))) c6 (bd_c (v := 4) (lo := 4) (hi := 4) (by decide))) c7 (bd_c (v := 10) (lo := 10) (hi := 10) (by decide))) (i_nlt c8) (bd_c (v := 20) (lo := 20) (hi := 20) (by decide))) (by decide)).elim
          · refine J_aload_n (i := 0) (j := 0) dX1_told_44 rfl rfl ?_
            refine J_iload_n (i := 1) (j := 1) dX1_told_45 rfl rfl ?_
            refine J_bipush (v := 10) dX1_told_46 (by decide) ?_
            refine J_isub dX1_told_48 ?_
            refine J_callV (As := [.int (what - 10)]) (rest := []) dX1_told_49 (c_H_hasRain (d := 0) (u := u) (g := g) (ex := ex) (rain := (what - 10)) (t := t) (by decide) hs_t hp0 hp1) hq.n k711 k712 k713 (zh0c hs_t) rfl rfl k89 k714 np_X1_hasRain (Nat.le_trans (by decide) hd) (by decide) (Nat.le_refl _) (Nat.le_refl _) wlen rfl (Nat.le_of_ble_eq_true rfl) (fun r_ h_ p9 => ?_)
            obtain ⟨t10, rfl, rfl, h11⟩ := p9
            refine J_ifB_eq (tgt := 64) dX1_told_52 (by decide) (fun c12 => ?_) (fun c12 => ?_)
            · refine J_iload_n (i := 1) (j := 1) dX1_told_64 rfl rfl ?_
              refine J_bipush (v := 20) dX1_told_65 (by decide) ?_
              refine J_icmp_lt (tgt := 92) dX1_told_67 (by decide) (fun c13 => ?_) (fun c13 => ?_)
              · refine J_iconst (v := (-1)) dX1_told_92 (by decide) ?_
                exact J_iret hq dX1_told_93 rfl wlen (Nat.le_refl _) (Nat.le_refl _) ⟨((-1) : Int32), rfl, rfl⟩
              · refine J_aload_n (i := 0) (j := 0) dX1_told_70 rfl rfl ?_
                refine J_iload_n (i := 1) (j := 1) dX1_told_71 rfl rfl ?_
                refine J_bipush (v := 20) dX1_told_72 (by decide) ?_
                refine J_isub dX1_told_74 ?_
                refine J_callV (As := [.int (what - 20)]) (rest := []) dX1_told_75 (c_H_hasRain (d := 0) (u := u) (g := g) (ex := ex) (rain := (what - 20)) (t := t) (by decide) hs_t hp0 hp1) hq.n k711 k712 k713 (zh0c hs_t) rfl rfl k89 k714 np_X1_hasRain (Nat.le_trans (by decide) hd) (by decide) (Nat.le_refl _) (Nat.le_refl _) wlen rfl (Nat.le_of_ble_eq_true rfl) (fun r_ h_ p14 => ?_)
                obtain ⟨t15, rfl, rfl, h16⟩ := p14
                refine J_ifB_eq (tgt := 92) dX1_told_78 (by decide) (fun c17 => ?_) (fun c17 => ?_)
                · refine J_iconst (v := (-1)) dX1_told_92 (by decide) ?_
                  exact J_iret hq dX1_told_93 rfl wlen (Nat.le_refl _) (Nat.le_refl _) ⟨((-1) : Int32), rfl, rfl⟩
                · refine J_aload_n (i := 0) (j := 0) dX1_told_81 rfl rfl ?_
                  refine J_iload_n (i := 1) (j := 1) dX1_told_82 rfl rfl ?_
                  refine J_bipush (v := 20) dX1_told_83 (by decide) ?_
                  refine J_isub dX1_told_85 ?_
                  refine J_callV (As := [.int (what - 20)]) (rest := []) dX1_told_86 (c_H_chanceOf (d := 0) (u := u) (g := g) (ex := ex) (rain := (what - 20)) (t := t) (by decide) hs_t hp0 hp1) hq.n k672 k673 k674 (zh0c hs_t) rfl rfl k89 k675 np_X1_chanceOf (Nat.le_trans (by decide) hd) (by decide) (Nat.le_refl _) (Nat.le_refl _) wlen rfl (Nat.le_of_ble_eq_true rfl) (fun r_ h_ p18 => ?_)
                  obtain ⟨v19, rfl, rfl⟩ := p18
                  refine J_goto (tgt := 93) dX1_told_89 (by decide) ?_
                  exact J_iret hq dX1_told_93 rfl wlen (Nat.le_refl _) (Nat.le_refl _) ⟨v19, rfl, rfl⟩
            · refine J_aload_n (i := 0) (j := 0) dX1_told_55 rfl rfl ?_
              refine J_iload_n (i := 1) (j := 1) dX1_told_56 rfl rfl ?_
              refine J_bipush (v := 10) dX1_told_57 (by decide) ?_
              refine J_isub dX1_told_59 ?_
              refine J_callV (As := [.int (what - 10)]) (rest := []) dX1_told_60 (c_H_stepsOf (d := 0) (u := u) (g := g) (ex := ex) (rain := (what - 10)) (t := t) (by decide) hs_t hp0 hp1) hq.n k715 k716 k717 (zh0c hs_t) rfl rfl k89 k718 np_X1_stepsOf (Nat.le_trans (by decide) hd) (by decide) (Nat.le_refl _) (Nat.le_refl _) wlen rfl (Nat.le_of_ble_eq_true rfl) (fun r_ h_ p20 => ?_)
              obtain ⟨v21, rfl, rfl⟩ := p20
              exact J_iret hq dX1_told_63 rfl wlen (Nat.le_refl _) (Nat.le_refl _) ⟨v21, rfl, rfl⟩
        · refine J_aload_n (i := 0) (j := 0) dX1_told_29 rfl rfl ?_
          refine J_get (C := RX1) (T := TX1) (Z := 6) (ci := 1) (f := 5) dX1_told_30 inG1 rfl (by decide) k145 (zh0c hs_t) rfl ?_
          refine J_iload_n (i := 1) (j := 1) dX1_told_33 rfl rfl ?_
          refine J_iconst (v := 2) dX1_told_34 (by decide) ?_
          refine J_isub dX1_told_35 ?_
          refine J_iald dX1_told_36 (zh4c hs_t) (vin (bd_sub (l := 0) (h := 2) (bd_le_hi (bd_le_lo (bd_any what) (i_nlt c3) (bd_c (v := 2) (lo := 2) (hi := 2) (by decide))) (i_nlt c6) (bd_c (v := 4) (lo := 4) (hi := 4) (by decide))) (bd_c (v := 2) (lo := 2) (hi := 2) (by decide)) (by decide)) (by decide)) ?_
          refine J_topi (fun v22 qv22 => ?_)
          exact J_iret hq dX1_told_37 rfl wlen (Nat.le_refl _) (Nat.le_refl _) ⟨v22, rfl, rfl⟩
    · refine J_aload_n (i := 0) (j := 0) dX1_told_14 rfl rfl ?_
      refine J_get (C := RX1) (T := TX1) (Z := 6) (ci := 1) (f := 2) dX1_told_15 inG1 rfl (by decide) k138 (zh0c hs_t) rfl ?_
      exact J_iret hq dX1_told_18 rfl wlen (Nat.le_refl _) (Nat.le_refl _) ⟨(u t 2), rfl, rfl⟩
  · refine J_aload_n (i := 0) (j := 0) dX1_told_4 rfl rfl ?_
    refine J_get (C := RX1) (T := TX1) (Z := 6) (ci := 1) (f := 0) dX1_told_5 inG1 rfl (by decide) k130 (zh0c hs_t) rfl ?_
    exact J_iret hq dX1_told_8 rfl wlen (Nat.le_refl _) (Nat.le_refl _) ⟨(u t 0), rfl, rfl⟩
set_option maxHeartbeats 4000000 in
set_option maxRecDepth 100000 in
theorem c_H_ownedBy {d : Nat} {u : Nat → Nat → Int32} {g : Nat → Nat → Int64} {ex : List MC} {owner : Int32} {t : Nat} (hd : 1 ≤ d) (hs_t : t ∈ hl) (hp0 : Bd 0 9 (u t 0)) (hp1 : Bd 0 4 (u t 2)) : CT con0 d 0 0 yX1_ownedBy cX1_ownedBy 4 (some .int) [.ref t, .int owner] (Wd u g ex) (fun r h2 => ∃ (z : Int32), r = some (.int z) ∧ h2 = Wd u g ex ∧ Bd 0 511 z) := by
  refine CT_of (by decide) (Nat.le_of_ble_eq_true rfl) (fun x hq => ?_)
  show J x yX1_ownedBy cX1_ownedBy 4 (some .int) d 0 0 (Wd u g ex).length 0 [(0, .ref t), (1, .int owner)] [] (Wd u g ex) 0 0
  refine J_iconst (v := 0) dX1_ownedBy_0 (by decide) ?_
  refine J_istore_n (i := 2) (lw := [(2, .int 0), (0, .ref t), (1, .int owner)]) dX1_ownedBy_1 rfl (by decide) rfl ?_
  refine J_iconst (v := 0) dX1_ownedBy_2 (by decide) ?_
  refine J_istore_n (i := 3) (lw := [(3, .int 0), (2, .int 0), (0, .ref t), (1, .int owner)]) dX1_ownedBy_3 rfl (by decide) rfl ?_
  have lp91 : ∀ (n92 : Nat) (w68 : Int32) (w69 : Int32), Bd 0 511 w68 → Bd 0 9 w69 → (9 - w69.toInt).toNat < n92 → J x yX1_ownedBy cX1_ownedBy 4 (some .int) d 0 0 (Wd u g ex).length 4 [(0, .ref t), (1, .int owner), (2, .int w68), (3, .int w69)] [] (Wd u g ex) 0 0 := by
    intro n92
    induction n92 with
    | zero => intro w68 w69 bw68 bw69 hm94; exact absurd hm94 (Nat.not_lt_zero _)
    | succ n92 ih93 =>
      intro w68 w69 bw68 bw69 hm94
      refine J_iload_n (i := 3) (j := 3) dX1_ownedBy_4 rfl rfl ?_
      refine J_aload_n (i := 0) (j := 0) dX1_ownedBy_5 rfl rfl ?_
      refine J_get (C := RX1) (T := TX1) (Z := 6) (ci := 1) (f := 0) dX1_ownedBy_6 inG1 rfl (by decide) k130 (zh0c hs_t) rfl ?_
      refine J_icmp_ge (tgt := 36) dX1_ownedBy_9 (by decide) (fun c95 => ?_) (fun c95 => ?_)
      · refine J_iload_n (i := 2) (j := 2) dX1_ownedBy_36 rfl rfl ?_
        exact J_iret hq dX1_ownedBy_37 rfl wlen (Nat.le_refl _) (Nat.le_refl _) ⟨w68, rfl, rfl, bw68⟩
      · refine J_aload_n (i := 0) (j := 0) dX1_ownedBy_12 rfl rfl ?_
        refine J_iload_n (i := 3) (j := 3) dX1_ownedBy_13 rfl rfl ?_
        refine J_bipush (v := 6) dX1_ownedBy_14 (by decide) ?_
        refine J_callV (As := [.int w69, .int 6]) (rest := []) dX1_ownedBy_16 (c_H_of (d := 0) (u := u) (g := g) (ex := ex) (pond := w69) (column := 6) (t := t) (by decide) hs_t) hq.n k748 k749 k750 (zh0c hs_t) rfl rfl k89 k751 np_X1_of (Nat.le_trans (by decide) hd) (by decide) (Nat.le_refl _) (Nat.le_refl _) wlen rfl (Nat.le_of_ble_eq_true rfl) (fun r_ h_ p106 => ?_)
        obtain ⟨rfl, rfl⟩ := p106
        refine J_iload_n (i := 1) (j := 1) dX1_ownedBy_19 rfl rfl ?_
        have jn112 : ∀ (w111 : Int32), Bd 0 511 w111 → J x yX1_ownedBy cX1_ownedBy 4 (some .int) d 0 0 (Wd u g ex).length 30 [(0, .ref t), (1, .int owner), (2, .int w111), (3, .int w69)] [] (Wd u g ex) 0 0 := by
          intro w111 bw111
          refine J_iinc (i := 3) (j := 3) (v := (w69 + 1)) (lw := [(3, .int (w69 + 1)), (0, .ref t), (1, .int owner), (2, .int w111)]) dX1_ownedBy_30 rfl rfl (by decide) rfl ?_
          refine J_goto (tgt := 4) dX1_ownedBy_33 (by decide) ?_
          refine J_lv [1, 2, 3, 0] rfl ?_
          exact ih93 w111 (w69 + 1) bw111 (bd_w (l := 0) (h := 9) (bd_add (l := 1) (h := 9) (bd_lt_hi bw69 (i_nle c95) hp0) (bd_c (v := 1) (lo := 1) (hi := 1) (by decide)) (by decide)) (by decide)) (mu_up 1 bw69 rfl (by decide) (bd_w (l := 1) (h := 9) (bd_add (l := 1) (h := 9) (bd_lt_hi bw69 (i_nle c95) hp0) (bd_c (v := 1) (lo := 1) (hi := 1) (by decide)) (by decide)) (by decide)) hm94)
        refine J_icmp_ne (tgt := 30) dX1_ownedBy_20 (by decide) (fun c107 => ?_) (fun c107 => ?_)
        · refine J_lv [0, 1, 2, 3] rfl ?_
          exact jn112 w68 bw68
        · refine J_iload_n (i := 2) (j := 2) dX1_ownedBy_23 rfl rfl ?_
          refine J_iload_n (i := 3) (j := 3) dX1_ownedBy_24 rfl rfl ?_
          refine J_callSN (As := [.int w69]) (rest := [.int w68]) dX1_ownedBy_25 (c_bit9 (d := 0) (u := u) (g := g) (ex := ex) (pond := w69)  (by decide) (bd_w (l := (-1)) (h := 8) (bd_lt_hi bw69 (i_nle c95) hp0) (by decide))) hq.n k860 k819 k87 k820 np_X10_bit (Nat.le_trans (by decide) hd) (by decide) (Nat.le_refl _) (Nat.le_refl _) wlen rfl (Nat.le_of_ble_eq_true rfl) (fun r_ h_ p113 => ?_)
          obtain ⟨v114, rfl, rfl, h115⟩ := p113
          refine J_ior dX1_ownedBy_28 ?_
          refine J_istore_n (i := 2) (lw := [(2, .int (w68 ||| v114)), (0, .ref t), (1, .int owner), (3, .int w69)]) dX1_ownedBy_29 rfl (by decide) rfl ?_
          refine J_lv [1, 2, 0, 3] rfl ?_
          exact jn112 (w68 ||| v114) (bd_or (k := 9) (h := 511) bw68 h115 (by decide))
  refine J_lv [2, 3, 1, 0] rfl ?_
  exact lp91 _ (0 : Int32) (0 : Int32) (bd_w (l := 0) (h := 511) (bd_c (v := 0) (lo := 0) (hi := 0) (by decide)) (by decide)) (bd_w (l := 0) (h := 9) (bd_c (v := 0) (lo := 0) (hi := 0) (by decide)) (by decide)) (Nat.lt_succ_self _)
set_option maxHeartbeats 4000000 in
set_option maxRecDepth 100000 in
theorem c_H_weak {d : Nat} {u : Nat → Nat → Int32} {g : Nat → Nat → Int64} {ex : List MC} {t : Nat} (hd : 1 ≤ d) (hs_t : t ∈ hl) (hp0 : Bd 0 9 (u t 0)) (hp1 : Bd 0 4 (u t 2)) : CT con0 d 0 0 yX1_weak cX1_weak 3 (some .int) [.ref t] (Wd u g ex) (fun r h2 => ∃ (z : Int32), r = some (.int z) ∧ h2 = Wd u g ex ∧ Bd 0 511 z) := by
  refine CT_of (by decide) (Nat.le_of_ble_eq_true rfl) (fun x hq => ?_)
  show J x yX1_weak cX1_weak 3 (some .int) d 0 0 (Wd u g ex).length 0 [(0, .ref t)] [] (Wd u g ex) 0 0
  refine J_iconst (v := 0) dX1_weak_0 (by decide) ?_
  refine J_istore_n (i := 1) (lw := [(1, .int 0), (0, .ref t)]) dX1_weak_1 rfl (by decide) rfl ?_
  refine J_iconst (v := 0) dX1_weak_2 (by decide) ?_
  refine J_istore_n (i := 2) (lw := [(2, .int 0), (1, .int 0), (0, .ref t)]) dX1_weak_3 rfl (by decide) rfl ?_
  have lp91 : ∀ (n92 : Nat) (w68 : Int32) (w69 : Int32), Bd 0 511 w68 → Bd 0 9 w69 → (9 - w69.toInt).toNat < n92 → J x yX1_weak cX1_weak 3 (some .int) d 0 0 (Wd u g ex).length 4 [(0, .ref t), (1, .int w68), (2, .int w69)] [] (Wd u g ex) 0 0 := by
    intro n92
    induction n92 with
    | zero => intro w68 w69 bw68 bw69 hm94; exact absurd hm94 (Nat.not_lt_zero _)
    | succ n92 ih93 =>
      intro w68 w69 bw68 bw69 hm94
      refine J_iload_n (i := 2) (j := 2) dX1_weak_4 rfl rfl ?_
      refine J_aload_n (i := 0) (j := 0) dX1_weak_5 rfl rfl ?_
      refine J_get (C := RX1) (T := TX1) (Z := 6) (ci := 1) (f := 0) dX1_weak_6 inG1 rfl (by decide) k130 (zh0c hs_t) rfl ?_
      refine J_icmp_ge (tgt := 34) dX1_weak_9 (by decide) (fun c95 => ?_) (fun c95 => ?_)
      · refine J_iload_n (i := 1) (j := 1) dX1_weak_34 rfl rfl ?_
        exact J_iret hq dX1_weak_35 rfl wlen (Nat.le_refl _) (Nat.le_refl _) ⟨w68, rfl, rfl, bw68⟩
      · refine J_aload_n (i := 0) (j := 0) dX1_weak_12 rfl rfl ?_
        refine J_iload_n (i := 2) (j := 2) dX1_weak_13 rfl rfl ?_
        refine J_iconst (v := 4) dX1_weak_14 (by decide) ?_
        refine J_callV (As := [.int w69, .int 4]) (rest := []) dX1_weak_15 (c_H_of (d := 0) (u := u) (g := g) (ex := ex) (pond := w69) (column := 4) (t := t) (by decide) hs_t) hq.n k748 k749 k750 (zh0c hs_t) rfl rfl k89 k751 np_X1_of (Nat.le_trans (by decide) hd) (by decide) (Nat.le_refl _) (Nat.le_refl _) wlen rfl (Nat.le_of_ble_eq_true rfl) (fun r_ h_ p106 => ?_)
        obtain ⟨rfl, rfl⟩ := p106
        have jn112 : ∀ (w111 : Int32), Bd 0 511 w111 → J x yX1_weak cX1_weak 3 (some .int) d 0 0 (Wd u g ex).length 28 [(0, .ref t), (1, .int w111), (2, .int w69)] [] (Wd u g ex) 0 0 := by
          intro w111 bw111
          refine J_iinc (i := 2) (j := 2) (v := (w69 + 1)) (lw := [(2, .int (w69 + 1)), (0, .ref t), (1, .int w111)]) dX1_weak_28 rfl rfl (by decide) rfl ?_
          refine J_goto (tgt := 4) dX1_weak_31 (by decide) ?_
          refine J_lv [1, 2, 0] rfl ?_
          exact ih93 w111 (w69 + 1) bw111 (bd_w (l := 0) (h := 9) (bd_add (l := 1) (h := 9) (bd_lt_hi bw69 (i_nle c95) hp0) (bd_c (v := 1) (lo := 1) (hi := 1) (by decide)) (by decide)) (by decide)) (mu_up 1 bw69 rfl (by decide) (bd_w (l := 1) (h := 9) (bd_add (l := 1) (h := 9) (bd_lt_hi bw69 (i_nle c95) hp0) (bd_c (v := 1) (lo := 1) (hi := 1) (by decide)) (by decide)) (by decide)) hm94)
        refine J_if_le (tgt := 28) dX1_weak_18 (by decide) (fun c107 => ?_) (fun c107 => ?_)
        · refine J_lv [0, 1, 2] rfl ?_
          exact jn112 w68 bw68
        · refine J_iload_n (i := 1) (j := 1) dX1_weak_21 rfl rfl ?_
          refine J_iload_n (i := 2) (j := 2) dX1_weak_22 rfl rfl ?_
          refine J_callSN (As := [.int w69]) (rest := [.int w68]) dX1_weak_23 (c_bit9 (d := 0) (u := u) (g := g) (ex := ex) (pond := w69)  (by decide) (bd_w (l := (-1)) (h := 8) (bd_lt_hi bw69 (i_nle c95) hp0) (by decide))) hq.n k860 k819 k87 k820 np_X10_bit (Nat.le_trans (by decide) hd) (by decide) (Nat.le_refl _) (Nat.le_refl _) wlen rfl (Nat.le_of_ble_eq_true rfl) (fun r_ h_ p113 => ?_)
          obtain ⟨v114, rfl, rfl, h115⟩ := p113
          refine J_ior dX1_weak_26 ?_
          refine J_istore_n (i := 1) (lw := [(1, .int (w68 ||| v114)), (0, .ref t), (2, .int w69)]) dX1_weak_27 rfl (by decide) rfl ?_
          refine J_lv [1, 0, 2] rfl ?_
          exact jn112 (w68 ||| v114) (bd_or (k := 9) (h := 511) bw68 h115 (by decide))
  refine J_lv [2, 1, 0] rfl ?_
  exact lp91 _ (0 : Int32) (0 : Int32) (bd_w (l := 0) (h := 511) (bd_c (v := 0) (lo := 0) (hi := 0) (by decide)) (by decide)) (bd_w (l := 0) (h := 9) (bd_c (v := 0) (lo := 0) (hi := 0) (by decide)) (by decide)) (Nat.lt_succ_self _)
set_option maxHeartbeats 4000000 in
set_option maxRecDepth 100000 in
theorem c_H_daysToMend {d : Nat} {u : Nat → Nat → Int32} {g : Nat → Nat → Int64} {ex : List MC} {set : Int32} {t : Nat} (hd : 1 ≤ d) (hs_t : t ∈ hl) (hp0 : Bd 0 9 (u t 0)) (hp1 : Bd 0 4 (u t 2)) : CT con0 d 0 0 yX1_daysToMend cX1_daysToMend 4 (some .int) [.ref t, .int set] (Wd u g ex) (fun r h2 => ∃ (z : Int32), r = some (.int z) ∧ h2 = Wd u g ex) := by
  refine CT_of (by decide) (Nat.le_of_ble_eq_true rfl) (fun x hq => ?_)
  show J x yX1_daysToMend cX1_daysToMend 4 (some .int) d 0 0 (Wd u g ex).length 0 [(0, .ref t), (1, .int set)] [] (Wd u g ex) 0 0
  refine J_iconst (v := 0) dX1_daysToMend_0 (by decide) ?_
  refine J_istore_n (i := 2) (lw := [(2, .int 0), (0, .ref t), (1, .int set)]) dX1_daysToMend_1 rfl (by decide) rfl ?_
  refine J_iconst (v := 0) dX1_daysToMend_2 (by decide) ?_
  refine J_istore_n (i := 3) (lw := [(3, .int 0), (2, .int 0), (0, .ref t), (1, .int set)]) dX1_daysToMend_3 rfl (by decide) rfl ?_
  have lp50 : ∀ (n51 : Nat) (w33 : Int32) (w34 : Int32), Bd 0 9 w34 → (9 - w34.toInt).toNat < n51 → J x yX1_daysToMend cX1_daysToMend 4 (some .int) d 0 0 (Wd u g ex).length 4 [(0, .ref t), (1, .int set), (2, .int w33), (3, .int w34)] [] (Wd u g ex) 0 0 := by
    intro n51
    induction n51 with
    | zero => intro w33 w34 bw34 hm53; exact absurd hm53 (Nat.not_lt_zero _)
    | succ n51 ih52 =>
      intro w33 w34 bw34 hm53
      refine J_iload_n (i := 3) (j := 3) dX1_daysToMend_4 rfl rfl ?_
      refine J_aload_n (i := 0) (j := 0) dX1_daysToMend_5 rfl rfl ?_
      refine J_get (C := RX1) (T := TX1) (Z := 6) (ci := 1) (f := 0) dX1_daysToMend_6 inG1 rfl (by decide) k130 (zh0c hs_t) rfl ?_
      refine J_icmp_ge (tgt := 42) dX1_daysToMend_9 (by decide) (fun c54 => ?_) (fun c54 => ?_)
      · refine J_iload_n (i := 2) (j := 2) dX1_daysToMend_42 rfl rfl ?_
        exact J_iret hq dX1_daysToMend_43 rfl wlen (Nat.le_refl _) (Nat.le_refl _) ⟨w33, rfl, rfl⟩
      · refine J_iload_n (i := 1) (j := 1) dX1_daysToMend_12 rfl rfl ?_
        refine J_iload_n (i := 3) (j := 3) dX1_daysToMend_13 rfl rfl ?_
        refine J_callSN (As := [.int set, .int w34]) (rest := []) dX1_daysToMend_14 (c_isIn (d := 0) (u := u) (g := g) (ex := ex) (set := set) (pond := w34)  (by decide) ) hq.n k839 k816 k87 k817 np_X10_isIn (Nat.le_trans (by decide) hd) (by decide) (Nat.le_refl _) (Nat.le_refl _) wlen rfl (Nat.le_of_ble_eq_true rfl) (fun r_ h_ p62 => ?_)
        obtain ⟨t63, rfl, rfl⟩ := p62
        have jn67 : ∀ (w66 : Int32), J x yX1_daysToMend cX1_daysToMend 4 (some .int) d 0 0 (Wd u g ex).length 36 [(0, .ref t), (1, .int set), (2, .int w66), (3, .int w34)] [] (Wd u g ex) 0 0 := by
          intro w66
          refine J_iinc (i := 3) (j := 3) (v := (w34 + 1)) (lw := [(3, .int (w34 + 1)), (0, .ref t), (1, .int set), (2, .int w66)]) dX1_daysToMend_36 rfl rfl (by decide) rfl ?_
          refine J_goto (tgt := 4) dX1_daysToMend_39 (by decide) ?_
          refine J_lv [1, 2, 3, 0] rfl ?_
          exact ih52 w66 (w34 + 1) (bd_w (l := 0) (h := 9) (bd_add (l := 1) (h := 9) (bd_lt_hi bw34 (i_nle c54) hp0) (bd_c (v := 1) (lo := 1) (hi := 1) (by decide)) (by decide)) (by decide)) (mu_up 1 bw34 rfl (by decide) (bd_w (l := 1) (h := 9) (bd_add (l := 1) (h := 9) (bd_lt_hi bw34 (i_nle c54) hp0) (bd_c (v := 1) (lo := 1) (hi := 1) (by decide)) (by decide)) (by decide)) hm53)
        refine J_ifB_eq (tgt := 36) dX1_daysToMend_17 (by decide) (fun c64 => ?_) (fun c64 => ?_)
        · refine J_lv [0, 1, 2, 3] rfl ?_
          exact jn67 w33 
        · refine J_iload_n (i := 2) (j := 2) dX1_daysToMend_20 rfl rfl ?_
          refine J_aload_n (i := 0) (j := 0) dX1_daysToMend_21 rfl rfl ?_
          refine J_get (C := RX1) (T := TX1) (Z := 6) (ci := 1) (f := 5) dX1_daysToMend_22 inG1 rfl (by decide) k145 (zh0c hs_t) rfl ?_
          refine J_iconst (v := 0) dX1_daysToMend_25 (by decide) ?_
          refine J_iald dX1_daysToMend_26 (zh4c hs_t) (vin (bd_c (v := 0) (lo := 0) (hi := 0) (by decide)) (by decide)) ?_
          refine J_ci (v := u (t + 4) 0) rfl ?_
          refine J_aload_n (i := 0) (j := 0) dX1_daysToMend_27 rfl rfl ?_
          refine J_iload_n (i := 3) (j := 3) dX1_daysToMend_28 rfl rfl ?_
          refine J_iconst (v := 4) dX1_daysToMend_29 (by decide) ?_
          refine J_callV (As := [.int w34, .int 4]) (rest := [.int (u (t + 4) 0), .int w33]) dX1_daysToMend_30 (c_H_of (d := 0) (u := u) (g := g) (ex := ex) (pond := w34) (column := 4) (t := t) (by decide) hs_t) hq.n k748 k749 k750 (zh0c hs_t) rfl rfl k89 k751 np_X1_of (Nat.le_trans (by decide) hd) (by decide) (Nat.le_refl _) (Nat.le_refl _) wlen rfl (Nat.le_of_ble_eq_true rfl) (fun r_ h_ p68 => ?_)
          obtain ⟨rfl, rfl⟩ := p68
          refine J_imul dX1_daysToMend_33 ?_
          refine J_iadd dX1_daysToMend_34 ?_
          refine J_istore_n (i := 2) (lw := [(2, .int (w33 + ((u (t + 4) 0) * (hof u t w34 (4 : Int32))))), (0, .ref t), (1, .int set), (3, .int w34)]) dX1_daysToMend_35 rfl (by decide) rfl ?_
          refine J_lv [1, 2, 0, 3] rfl ?_
          exact jn67 (w33 + ((u (t + 4) 0) * (hof u t w34 (4 : Int32)))) 
  refine J_lv [2, 3, 1, 0] rfl ?_
  exact lp50 _ (0 : Int32) (0 : Int32) (bd_w (l := 0) (h := 9) (bd_c (v := 0) (lo := 0) (hi := 0) (by decide)) (by decide)) (Nat.lt_succ_self _)
set_option maxHeartbeats 4000000 in
set_option maxRecDepth 100000 in
theorem c_H_harmOf {d : Nat} {u : Nat → Nat → Int32} {g : Nat → Nat → Int64} {ex : List MC} {set : Int32} {t : Nat} (hd : 1 ≤ d) (hs_t : t ∈ hl) (hp0 : Bd 0 9 (u t 0)) (hp1 : Bd 0 4 (u t 2)) : CT con0 d 0 0 yX1_harmOf cX1_harmOf 4 (some .int) [.ref t, .int set] (Wd u g ex) (fun r h2 => ∃ (z : Int32), r = some (.int z) ∧ h2 = Wd u g ex) := by
  refine CT_of (by decide) (Nat.le_of_ble_eq_true rfl) (fun x hq => ?_)
  show J x yX1_harmOf cX1_harmOf 4 (some .int) d 0 0 (Wd u g ex).length 0 [(0, .ref t), (1, .int set)] [] (Wd u g ex) 0 0
  refine J_iconst (v := 0) dX1_harmOf_0 (by decide) ?_
  refine J_istore_n (i := 2) (lw := [(2, .int 0), (0, .ref t), (1, .int set)]) dX1_harmOf_1 rfl (by decide) rfl ?_
  refine J_iconst (v := 0) dX1_harmOf_2 (by decide) ?_
  refine J_istore_n (i := 3) (lw := [(3, .int 0), (2, .int 0), (0, .ref t), (1, .int set)]) dX1_harmOf_3 rfl (by decide) rfl ?_
  have lp50 : ∀ (n51 : Nat) (w33 : Int32) (w34 : Int32), Bd 0 9 w34 → (9 - w34.toInt).toNat < n51 → J x yX1_harmOf cX1_harmOf 4 (some .int) d 0 0 (Wd u g ex).length 4 [(0, .ref t), (1, .int set), (2, .int w33), (3, .int w34)] [] (Wd u g ex) 0 0 := by
    intro n51
    induction n51 with
    | zero => intro w33 w34 bw34 hm53; exact absurd hm53 (Nat.not_lt_zero _)
    | succ n51 ih52 =>
      intro w33 w34 bw34 hm53
      refine J_iload_n (i := 3) (j := 3) dX1_harmOf_4 rfl rfl ?_
      refine J_aload_n (i := 0) (j := 0) dX1_harmOf_5 rfl rfl ?_
      refine J_get (C := RX1) (T := TX1) (Z := 6) (ci := 1) (f := 0) dX1_harmOf_6 inG1 rfl (by decide) k130 (zh0c hs_t) rfl ?_
      refine J_icmp_ge (tgt := 35) dX1_harmOf_9 (by decide) (fun c54 => ?_) (fun c54 => ?_)
      · refine J_iload_n (i := 2) (j := 2) dX1_harmOf_35 rfl rfl ?_
        exact J_iret hq dX1_harmOf_36 rfl wlen (Nat.le_refl _) (Nat.le_refl _) ⟨w33, rfl, rfl⟩
      · refine J_iload_n (i := 1) (j := 1) dX1_harmOf_12 rfl rfl ?_
        refine J_iload_n (i := 3) (j := 3) dX1_harmOf_13 rfl rfl ?_
        refine J_callSN (As := [.int set, .int w34]) (rest := []) dX1_harmOf_14 (c_isIn (d := 0) (u := u) (g := g) (ex := ex) (set := set) (pond := w34)  (by decide) ) hq.n k839 k816 k87 k817 np_X10_isIn (Nat.le_trans (by decide) hd) (by decide) (Nat.le_refl _) (Nat.le_refl _) wlen rfl (Nat.le_of_ble_eq_true rfl) (fun r_ h_ p62 => ?_)
        obtain ⟨t63, rfl, rfl⟩ := p62
        have jn67 : ∀ (w66 : Int32), J x yX1_harmOf cX1_harmOf 4 (some .int) d 0 0 (Wd u g ex).length 29 [(0, .ref t), (1, .int set), (2, .int w66), (3, .int w34)] [] (Wd u g ex) 0 0 := by
          intro w66
          refine J_iinc (i := 3) (j := 3) (v := (w34 + 1)) (lw := [(3, .int (w34 + 1)), (0, .ref t), (1, .int set), (2, .int w66)]) dX1_harmOf_29 rfl rfl (by decide) rfl ?_
          refine J_goto (tgt := 4) dX1_harmOf_32 (by decide) ?_
          refine J_lv [1, 2, 3, 0] rfl ?_
          exact ih52 w66 (w34 + 1) (bd_w (l := 0) (h := 9) (bd_add (l := 1) (h := 9) (bd_lt_hi bw34 (i_nle c54) hp0) (bd_c (v := 1) (lo := 1) (hi := 1) (by decide)) (by decide)) (by decide)) (mu_up 1 bw34 rfl (by decide) (bd_w (l := 1) (h := 9) (bd_add (l := 1) (h := 9) (bd_lt_hi bw34 (i_nle c54) hp0) (bd_c (v := 1) (lo := 1) (hi := 1) (by decide)) (by decide)) (by decide)) hm53)
        refine J_ifB_eq (tgt := 29) dX1_harmOf_17 (by decide) (fun c64 => ?_) (fun c64 => ?_)
        · refine J_lv [0, 1, 2, 3] rfl ?_
          exact jn67 w33 
        · refine J_iload_n (i := 2) (j := 2) dX1_harmOf_20 rfl rfl ?_
          refine J_aload_n (i := 0) (j := 0) dX1_harmOf_21 rfl rfl ?_
          refine J_iload_n (i := 3) (j := 3) dX1_harmOf_22 rfl rfl ?_
          refine J_iconst (v := 5) dX1_harmOf_23 (by decide) ?_
          refine J_callV (As := [.int w34, .int 5]) (rest := [.int w33]) dX1_harmOf_24 (c_H_of (d := 0) (u := u) (g := g) (ex := ex) (pond := w34) (column := 5) (t := t) (by decide) hs_t) hq.n k748 k749 k750 (zh0c hs_t) rfl rfl k89 k751 np_X1_of (Nat.le_trans (by decide) hd) (by decide) (Nat.le_refl _) (Nat.le_refl _) wlen rfl (Nat.le_of_ble_eq_true rfl) (fun r_ h_ p68 => ?_)
          obtain ⟨rfl, rfl⟩ := p68
          refine J_iadd dX1_harmOf_27 ?_
          refine J_istore_n (i := 2) (lw := [(2, .int (w33 + (hof u t w34 (5 : Int32)))), (0, .ref t), (1, .int set), (3, .int w34)]) dX1_harmOf_28 rfl (by decide) rfl ?_
          refine J_lv [1, 2, 0, 3] rfl ?_
          exact jn67 (w33 + (hof u t w34 (5 : Int32))) 
  refine J_lv [2, 3, 1, 0] rfl ?_
  exact lp50 _ (0 : Int32) (0 : Int32) (bd_w (l := 0) (h := 9) (bd_c (v := 0) (lo := 0) (hi := 0) (by decide)) (by decide)) (Nat.lt_succ_self _)
set_option maxHeartbeats 4000000 in
set_option maxRecDepth 100000 in
theorem c_H_nextOf {d : Nat} {u : Nat → Nat → Int32} {g : Nat → Nat → Int64} {ex : List MC} {pond : Int32} {t : Nat} (hd : 1 ≤ d) (hs_t : t ∈ hl) : CT con0 d 0 0 yX1_nextOf cX1_nextOf 2 (some .int) [.ref t, .int pond] (Wd u g ex) (fun r h2 => ∃ (z : Int32), r = some (.int z) ∧ h2 = Wd u g ex) := by
  refine CT_of (by decide) (Nat.le_of_ble_eq_true rfl) (fun x hq => ?_)
  show J x yX1_nextOf cX1_nextOf 2 (some .int) d 0 0 (Wd u g ex).length 0 [(0, .ref t), (1, .int pond)] [] (Wd u g ex) 0 0
  refine J_aload_n (i := 0) (j := 0) dX1_nextOf_0 rfl rfl ?_
  refine J_iload_n (i := 1) (j := 1) dX1_nextOf_1 rfl rfl ?_
  refine J_bipush (v := 8) dX1_nextOf_2 (by decide) ?_
  refine J_callV (As := [.int pond, .int 8]) (rest := []) dX1_nextOf_4 (c_H_of (d := 0) (u := u) (g := g) (ex := ex) (pond := pond) (column := 8) (t := t) (by decide) hs_t) hq.n k748 k749 k750 (zh0c hs_t) rfl rfl k89 k751 np_X1_of (Nat.le_trans (by decide) hd) (by decide) (Nat.le_refl _) (Nat.le_refl _) wlen rfl (Nat.le_of_ble_eq_true rfl) (fun r_ h_ p1 => ?_)
  obtain ⟨rfl, rfl⟩ := p1
  refine J_callSN (As := [.int (hof u t pond (8 : Int32))]) (rest := []) dX1_nextOf_7 (c_bit (d := 0) (u := u) (g := g) (ex := ex) (pond := (hof u t pond (8 : Int32)))  (by decide) ) hq.n k860 k819 k87 k820 np_X10_bit (Nat.le_trans (by decide) hd) (by decide) (Nat.le_refl _) (Nat.le_refl _) wlen rfl (Nat.le_of_ble_eq_true rfl) (fun r_ h_ p2 => ?_)
  obtain ⟨v3, rfl, rfl⟩ := p2
  refine J_aload_n (i := 0) (j := 0) dX1_nextOf_10 rfl rfl ?_
  refine J_iload_n (i := 1) (j := 1) dX1_nextOf_11 rfl rfl ?_
  refine J_bipush (v := 9) dX1_nextOf_12 (by decide) ?_
  refine J_callV (As := [.int pond, .int 9]) (rest := [.int v3]) dX1_nextOf_14 (c_H_of (d := 0) (u := u) (g := g) (ex := ex) (pond := pond) (column := 9) (t := t) (by decide) hs_t) hq.n k748 k749 k750 (zh0c hs_t) rfl rfl k89 k751 np_X1_of (Nat.le_trans (by decide) hd) (by decide) (Nat.le_refl _) (Nat.le_refl _) wlen rfl (Nat.le_of_ble_eq_true rfl) (fun r_ h_ p4 => ?_)
  obtain ⟨rfl, rfl⟩ := p4
  refine J_callSN (As := [.int (hof u t pond (9 : Int32))]) (rest := [.int v3]) dX1_nextOf_17 (c_bit (d := 0) (u := u) (g := g) (ex := ex) (pond := (hof u t pond (9 : Int32)))  (by decide) ) hq.n k860 k819 k87 k820 np_X10_bit (Nat.le_trans (by decide) hd) (by decide) (Nat.le_refl _) (Nat.le_refl _) wlen rfl (Nat.le_of_ble_eq_true rfl) (fun r_ h_ p5 => ?_)
  obtain ⟨v6, rfl, rfl⟩ := p5
  refine J_ior dX1_nextOf_20 ?_
  exact J_iret hq dX1_nextOf_21 rfl wlen (Nat.le_refl _) (Nat.le_refl _) ⟨(v3 ||| v6), rfl, rfl⟩
set_option maxHeartbeats 4000000 in
set_option maxRecDepth 100000 in
theorem c_H_reachedFrom {d : Nat} {u : Nat → Nat → Int32} {g : Nat → Nat → Int64} {ex : List MC} {pond : Int32} {t : Nat} (hd : 2 ≤ d) (hs_t : t ∈ hl) (hp0 : Bd 0 9 (u t 0)) (hp1 : Bd 0 4 (u t 2)) (hp2 : Bd 0 8 pond) : CT con0 d 0 0 yX1_reachedFrom cX1_reachedFrom 4 (some .int) [.ref t, .int pond] (Wd u g ex) (fun r h2 => ∃ (z : Int32), r = some (.int z) ∧ h2 = Wd u g ex) := by
  refine CT_of (by decide) (Nat.le_of_ble_eq_true rfl) (fun x hq => ?_)
  show J x yX1_reachedFrom cX1_reachedFrom 4 (some .int) d 0 0 (Wd u g ex).length 0 [(0, .ref t), (1, .int pond)] [] (Wd u g ex) 0 0
  refine J_iload_n (i := 1) (j := 1) dX1_reachedFrom_0 rfl rfl ?_
  refine J_callSN (As := [.int pond]) (rest := []) dX1_reachedFrom_1 (c_bit9 (d := 0) (u := u) (g := g) (ex := ex) (pond := pond)  (by decide) (bd_w (l := (-1)) (h := 8) hp2 (by decide))) hq.n k860 k819 k87 k820 np_X10_bit (Nat.le_trans (by decide) hd) (by decide) (Nat.le_refl _) (Nat.le_refl _) wlen rfl (Nat.le_of_ble_eq_true rfl) (fun r_ h_ p1 => ?_)
  obtain ⟨v2, rfl, rfl, h3⟩ := p1
  refine J_istore_n (i := 2) (lw := [(2, .int v2), (0, .ref t), (1, .int pond)]) dX1_reachedFrom_4 rfl (by decide) rfl ?_
  refine J_iload_n (i := 1) (j := 2) dX1_reachedFrom_5 rfl rfl ?_
  refine J_istore_n (i := 3) (lw := [(3, .int pond), (2, .int v2), (0, .ref t), (1, .int pond)]) dX1_reachedFrom_6 rfl (by decide) rfl ?_
  have lp50 : ∀ (n51 : Nat) (w26 : Int32) (w27 : Int32), Bd 0 9 w27 → (9 - w27.toInt).toNat < n51 → J x yX1_reachedFrom cX1_reachedFrom 4 (some .int) d 0 0 (Wd u g ex).length 7 [(0, .ref t), (1, .int pond), (2, .int w26), (3, .int w27)] [] (Wd u g ex) 0 0 := by
    intro n51
    induction n51 with
    | zero => intro w26 w27 bw27 hm53; exact absurd hm53 (Nat.not_lt_zero _)
    | succ n51 ih52 =>
      intro w26 w27 bw27 hm53
      refine J_iload_n (i := 3) (j := 3) dX1_reachedFrom_7 rfl rfl ?_
      refine J_aload_n (i := 0) (j := 0) dX1_reachedFrom_8 rfl rfl ?_
      refine J_get (C := RX1) (T := TX1) (Z := 6) (ci := 1) (f := 0) dX1_reachedFrom_9 inG1 rfl (by decide) k130 (zh0c hs_t) rfl ?_
      refine J_icmp_ge (tgt := 37) dX1_reachedFrom_12 (by decide) (fun c54 => ?_) (fun c54 => ?_)
      · refine J_iload_n (i := 2) (j := 2) dX1_reachedFrom_37 rfl rfl ?_
        refine J_iload_n (i := 1) (j := 1) dX1_reachedFrom_38 rfl rfl ?_
        refine J_callSN (As := [.int pond]) (rest := [.int w26]) dX1_reachedFrom_39 (c_bit9 (d := 0) (u := u) (g := g) (ex := ex) (pond := pond)  (by decide) (bd_w (l := (-1)) (h := 8) hp2 (by decide))) hq.n k860 k819 k87 k820 np_X10_bit (Nat.le_trans (by decide) hd) (by decide) (Nat.le_refl _) (Nat.le_refl _) wlen rfl (Nat.le_of_ble_eq_true rfl) (fun r_ h_ p64 => ?_)
        obtain ⟨v65, rfl, rfl, h66⟩ := p64
        refine J_iconst (v := (-1)) dX1_reachedFrom_42 (by decide) ?_
        refine J_ixor dX1_reachedFrom_43 ?_
        refine J_iand dX1_reachedFrom_44 ?_
        exact J_iret hq dX1_reachedFrom_45 rfl wlen (Nat.le_refl _) (Nat.le_refl _) ⟨(w26 &&& (v65 ^^^ (-1))), rfl, rfl⟩
      · refine J_iload_n (i := 2) (j := 2) dX1_reachedFrom_15 rfl rfl ?_
        refine J_iload_n (i := 3) (j := 3) dX1_reachedFrom_16 rfl rfl ?_
        refine J_callSN (As := [.int w26, .int w27]) (rest := []) dX1_reachedFrom_17 (c_isIn (d := 0) (u := u) (g := g) (ex := ex) (set := w26) (pond := w27)  (by decide) ) hq.n k839 k816 k87 k817 np_X10_isIn (Nat.le_trans (by decide) hd) (by decide) (Nat.le_refl _) (Nat.le_refl _) wlen rfl (Nat.le_of_ble_eq_true rfl) (fun r_ h_ p67 => ?_)
        obtain ⟨t68, rfl, rfl⟩ := p67
        have jn73 : ∀ (w72 : Int32), J x yX1_reachedFrom cX1_reachedFrom 4 (some .int) d 0 0 (Wd u g ex).length 31 [(0, .ref t), (1, .int pond), (2, .int w72), (3, .int w27)] [] (Wd u g ex) 0 0 := by
          intro w72
          refine J_iinc (i := 3) (j := 3) (v := (w27 + 1)) (lw := [(3, .int (w27 + 1)), (0, .ref t), (1, .int pond), (2, .int w72)]) dX1_reachedFrom_31 rfl rfl (by decide) rfl ?_
          refine J_goto (tgt := 7) dX1_reachedFrom_34 (by decide) ?_
          refine J_lv [1, 2, 3, 0] rfl ?_
          exact ih52 w72 (w27 + 1) (bd_w (l := 0) (h := 9) (bd_add (l := 1) (h := 9) (bd_lt_hi bw27 (i_nle c54) hp0) (bd_c (v := 1) (lo := 1) (hi := 1) (by decide)) (by decide)) (by decide)) (mu_up 1 bw27 rfl (by decide) (bd_w (l := 1) (h := 9) (bd_add (l := 1) (h := 9) (bd_lt_hi bw27 (i_nle c54) hp0) (bd_c (v := 1) (lo := 1) (hi := 1) (by decide)) (by decide)) (by decide)) hm53)
        refine J_ifB_eq (tgt := 31) dX1_reachedFrom_20 (by decide) (fun c69 => ?_) (fun c69 => ?_)
        · refine J_lv [0, 1, 2, 3] rfl ?_
          exact jn73 w26 
        · refine J_iload_n (i := 2) (j := 2) dX1_reachedFrom_23 rfl rfl ?_
          refine J_aload_n (i := 0) (j := 0) dX1_reachedFrom_24 rfl rfl ?_
          refine J_iload_n (i := 3) (j := 3) dX1_reachedFrom_25 rfl rfl ?_
          refine J_callV (As := [.int w27]) (rest := [.int w26]) dX1_reachedFrom_26 (c_H_nextOf (d := 1) (u := u) (g := g) (ex := ex) (pond := w27) (t := t) (by decide) hs_t) hq.n k1170 k1171 k1172 (zh0c hs_t) rfl rfl k89 k1173 np_X1_nextOf (Nat.le_trans (by decide) hd) (by decide) (Nat.le_refl _) (Nat.le_refl _) wlen rfl (Nat.le_of_ble_eq_true rfl) (fun r_ h_ p74 => ?_)
          obtain ⟨v75, rfl, rfl⟩ := p74
          refine J_ior dX1_reachedFrom_29 ?_
          refine J_istore_n (i := 2) (lw := [(2, .int (w26 ||| v75)), (0, .ref t), (1, .int pond), (3, .int w27)]) dX1_reachedFrom_30 rfl (by decide) rfl ?_
          refine J_lv [1, 2, 0, 3] rfl ?_
          exact jn73 (w26 ||| v75) 
  refine J_lv [2, 3, 1, 0] rfl ?_
  exact lp50 _ v2 pond (bd_w (l := 0) (h := 9) hp2 (by decide)) (Nat.lt_succ_self _)
set_option maxHeartbeats 4000000 in
set_option maxRecDepth 100000 in
theorem c_H_reaching {d : Nat} {u : Nat → Nat → Int32} {g : Nat → Nat → Int64} {ex : List MC} {pond : Int32} {t : Nat} (hd : 2 ≤ d) (hs_t : t ∈ hl) (hp0 : Bd 0 9 (u t 0)) (hp1 : Bd 0 4 (u t 2)) (hp2 : Bd 0 8 pond) : CT con0 d 0 0 yX1_reaching cX1_reaching 4 (some .int) [.ref t, .int pond] (Wd u g ex) (fun r h2 => ∃ (z : Int32), r = some (.int z) ∧ h2 = Wd u g ex) := by
  refine CT_of (by decide) (Nat.le_of_ble_eq_true rfl) (fun x hq => ?_)
  show J x yX1_reaching cX1_reaching 4 (some .int) d 0 0 (Wd u g ex).length 0 [(0, .ref t), (1, .int pond)] [] (Wd u g ex) 0 0
  refine J_iload_n (i := 1) (j := 1) dX1_reaching_0 rfl rfl ?_
  refine J_callSN (As := [.int pond]) (rest := []) dX1_reaching_1 (c_bit9 (d := 0) (u := u) (g := g) (ex := ex) (pond := pond)  (by decide) (bd_w (l := (-1)) (h := 8) hp2 (by decide))) hq.n k860 k819 k87 k820 np_X10_bit (Nat.le_trans (by decide) hd) (by decide) (Nat.le_refl _) (Nat.le_refl _) wlen rfl (Nat.le_of_ble_eq_true rfl) (fun r_ h_ p1 => ?_)
  obtain ⟨v2, rfl, rfl, h3⟩ := p1
  refine J_istore_n (i := 2) (lw := [(2, .int v2), (0, .ref t), (1, .int pond)]) dX1_reaching_4 rfl (by decide) rfl ?_
  refine J_iload_n (i := 1) (j := 2) dX1_reaching_5 rfl rfl ?_
  refine J_iconst (v := 1) dX1_reaching_6 (by decide) ?_
  refine J_isub dX1_reaching_7 ?_
  refine J_istore_n (i := 3) (lw := [(3, .int (pond - 1)), (2, .int v2), (0, .ref t), (1, .int pond)]) dX1_reaching_8 rfl (by decide) rfl ?_
  have lp58 : ∀ (n59 : Nat) (w30 : Int32) (w31 : Int32), Bd 0 511 w30 → Bd (-1) 7 w31 → (w31.toInt - (-1)).toNat < n59 → J x yX1_reaching cX1_reaching 4 (some .int) d 0 0 (Wd u g ex).length 9 [(0, .ref t), (1, .int pond), (2, .int w30), (3, .int w31)] [] (Wd u g ex) 0 0 := by
    intro n59
    induction n59 with
    | zero => intro w30 w31 bw30 bw31 hm61; exact absurd hm61 (Nat.not_lt_zero _)
    | succ n59 ih60 =>
      intro w30 w31 bw30 bw31 hm61
      refine J_iload_n (i := 3) (j := 3) dX1_reaching_9 rfl rfl ?_
      refine J_if_lt (tgt := 36) dX1_reaching_10 (by decide) (fun c62 => ?_) (fun c62 => ?_)
      · refine J_iload_n (i := 2) (j := 2) dX1_reaching_36 rfl rfl ?_
        refine J_iload_n (i := 1) (j := 1) dX1_reaching_37 rfl rfl ?_
        refine J_callSN (As := [.int pond]) (rest := [.int w30]) dX1_reaching_38 (c_bit9 (d := 0) (u := u) (g := g) (ex := ex) (pond := pond)  (by decide) (bd_w (l := (-1)) (h := 8) hp2 (by decide))) hq.n k860 k819 k87 k820 np_X10_bit (Nat.le_trans (by decide) hd) (by decide) (Nat.le_refl _) (Nat.le_refl _) wlen rfl (Nat.le_of_ble_eq_true rfl) (fun r_ h_ p74 => ?_)
        obtain ⟨v75, rfl, rfl, h76⟩ := p74
        refine J_iconst (v := (-1)) dX1_reaching_41 (by decide) ?_
        refine J_ixor dX1_reaching_42 ?_
        refine J_iand dX1_reaching_43 ?_
        exact J_iret hq dX1_reaching_44 rfl wlen (Nat.le_refl _) (Nat.le_refl _) ⟨(w30 &&& (v75 ^^^ (-1))), rfl, rfl⟩
      · refine J_aload_n (i := 0) (j := 0) dX1_reaching_13 rfl rfl ?_
        refine J_iload_n (i := 3) (j := 3) dX1_reaching_14 rfl rfl ?_
        refine J_callV (As := [.int w31]) (rest := []) dX1_reaching_15 (c_H_nextOf (d := 1) (u := u) (g := g) (ex := ex) (pond := w31) (t := t) (by decide) hs_t) hq.n k1170 k1171 k1172 (zh0c hs_t) rfl rfl k89 k1173 np_X1_nextOf (Nat.le_trans (by decide) hd) (by decide) (Nat.le_refl _) (Nat.le_refl _) wlen rfl (Nat.le_of_ble_eq_true rfl) (fun r_ h_ p77 => ?_)
        obtain ⟨v78, rfl, rfl⟩ := p77
        refine J_iload_n (i := 2) (j := 2) dX1_reaching_18 rfl rfl ?_
        refine J_iand dX1_reaching_19 ?_
        have jn84 : ∀ (w83 : Int32), Bd 0 511 w83 → J x yX1_reaching cX1_reaching 4 (some .int) d 0 0 (Wd u g ex).length 30 [(0, .ref t), (1, .int pond), (2, .int w83), (3, .int w31)] [] (Wd u g ex) 0 0 := by
          intro w83 bw83
          refine J_iinc (i := 3) (j := 3) (v := (w31 + (-1))) (lw := [(3, .int (w31 + (-1))), (0, .ref t), (1, .int pond), (2, .int w83)]) dX1_reaching_30 rfl rfl (by decide) rfl ?_
          refine J_goto (tgt := 9) dX1_reaching_33 (by decide) ?_
          refine J_lv [1, 2, 3, 0] rfl ?_
          exact ih60 w83 (w31 + (-1)) bw83 (bd_w (l := (-1)) (h := 7) (bd_add (l := (-1)) (h := 6) (bd_le_lo bw31 (i_nlt c62) (bd_c (v := 0) (lo := 0) (hi := 0) (by decide))) (bd_c (v := (-1)) (lo := (-1)) (hi := (-1)) (by decide)) (by decide)) (by decide)) (mu_dn (-1) bw31 rfl (by decide) (bd_w (l := (-1)) (h := 6) (bd_add (l := (-1)) (h := 6) (bd_le_lo bw31 (i_nlt c62) (bd_c (v := 0) (lo := 0) (hi := 0) (by decide))) (bd_c (v := (-1)) (lo := (-1)) (hi := (-1)) (by decide)) (by decide)) (by decide)) hm61)
        refine J_if_eq (tgt := 30) dX1_reaching_20 (by decide) (fun c79 => ?_) (fun c79 => ?_)
        · refine J_lv [0, 1, 2, 3] rfl ?_
          exact jn84 w30 bw30
        · refine J_iload_n (i := 2) (j := 2) dX1_reaching_23 rfl rfl ?_
          refine J_iload_n (i := 3) (j := 3) dX1_reaching_24 rfl rfl ?_
          refine J_callSN (As := [.int w31]) (rest := [.int w30]) dX1_reaching_25 (c_bit9 (d := 0) (u := u) (g := g) (ex := ex) (pond := w31)  (by decide) (bd_w (l := (-1)) (h := 8) (bd_le_lo bw31 (i_nlt c62) (bd_c (v := 0) (lo := 0) (hi := 0) (by decide))) (by decide))) hq.n k860 k819 k87 k820 np_X10_bit (Nat.le_trans (by decide) hd) (by decide) (Nat.le_refl _) (Nat.le_refl _) wlen rfl (Nat.le_of_ble_eq_true rfl) (fun r_ h_ p85 => ?_)
          obtain ⟨v86, rfl, rfl, h87⟩ := p85
          refine J_ior dX1_reaching_28 ?_
          refine J_istore_n (i := 2) (lw := [(2, .int (w30 ||| v86)), (0, .ref t), (1, .int pond), (3, .int w31)]) dX1_reaching_29 rfl (by decide) rfl ?_
          refine J_lv [1, 2, 0, 3] rfl ?_
          exact jn84 (w30 ||| v86) (bd_or (k := 9) (h := 511) bw30 h87 (by decide))
  refine J_lv [2, 3, 1, 0] rfl ?_
  exact lp58 _ v2 (pond - 1) (bd_w (l := 0) (h := 511) h3 (by decide)) (bd_sub (l := (-1)) (h := 7) hp2 (bd_c (v := 1) (lo := 1) (hi := 1) (by decide)) (by decide)) (Nat.lt_succ_self _)
set_option maxHeartbeats 4000000 in
set_option maxRecDepth 100000 in
theorem c_H_seenAndGoes {d : Nat} {u : Nat → Nat → Int32} {g : Nat → Nat → Int64} {ex : List MC} {pond : Int32} {t : Nat} (hd : 1 ≤ d) (hs_t : t ∈ hl) : CT con0 d 0 0 yX1_seenAndGoes cX1_seenAndGoes 2 (some .int) [.ref t, .int pond] (Wd u g ex) (fun r h2 => ∃ (z : Int32), r = some (.int z) ∧ h2 = Wd u g ex) := by
  refine CT_of (by decide) (Nat.le_of_ble_eq_true rfl) (fun x hq => ?_)
  show J x yX1_seenAndGoes cX1_seenAndGoes 2 (some .int) d 0 0 (Wd u g ex).length 0 [(0, .ref t), (1, .int pond)] [] (Wd u g ex) 0 0
  refine J_aload_n (i := 0) (j := 0) dX1_seenAndGoes_0 rfl rfl ?_
  refine J_iload_n (i := 1) (j := 1) dX1_seenAndGoes_1 rfl rfl ?_
  refine J_iconst (v := 4) dX1_seenAndGoes_2 (by decide) ?_
  refine J_callV (As := [.int pond, .int 4]) (rest := []) dX1_seenAndGoes_3 (c_H_of (d := 0) (u := u) (g := g) (ex := ex) (pond := pond) (column := 4) (t := t) (by decide) hs_t) hq.n k748 k749 k750 (zh0c hs_t) rfl rfl k89 k751 np_X1_of (Nat.le_trans (by decide) hd) (by decide) (Nat.le_refl _) (Nat.le_refl _) wlen rfl (Nat.le_of_ble_eq_true rfl) (fun r_ h_ p1 => ?_)
  obtain ⟨rfl, rfl⟩ := p1
  refine J_aload_n (i := 0) (j := 0) dX1_seenAndGoes_6 rfl rfl ?_
  refine J_iload_n (i := 1) (j := 1) dX1_seenAndGoes_7 rfl rfl ?_
  refine J_bipush (v := 13) dX1_seenAndGoes_8 (by decide) ?_
  refine J_callV (As := [.int pond, .int 13]) (rest := [.int (hof u t pond (4 : Int32))]) dX1_seenAndGoes_10 (c_H_of (d := 0) (u := u) (g := g) (ex := ex) (pond := pond) (column := 13) (t := t) (by decide) hs_t) hq.n k748 k749 k750 (zh0c hs_t) rfl rfl k89 k751 np_X1_of (Nat.le_trans (by decide) hd) (by decide) (Nat.le_refl _) (Nat.le_refl _) wlen rfl (Nat.le_of_ble_eq_true rfl) (fun r_ h_ p2 => ?_)
  obtain ⟨rfl, rfl⟩ := p2
  refine J_imul dX1_seenAndGoes_13 ?_
  exact J_iret hq dX1_seenAndGoes_14 rfl wlen (Nat.le_refl _) (Nat.le_refl _) ⟨((hof u t pond (4 : Int32)) * (hof u t pond (13 : Int32))), rfl, rfl⟩
set_option maxHeartbeats 4000000 in
set_option maxRecDepth 100000 in
theorem c_H_seen {d : Nat} {u : Nat → Nat → Int32} {g : Nat → Nat → Int64} {ex : List MC} {pond : Int32} {t : Nat} (hd : 2 ≤ d) (hs_t : t ∈ hl) : CT con0 d 0 0 yX1_seen cX1_seen 2 (some .int) [.ref t, .int pond] (Wd u g ex) (fun r h2 => ∃ (z : Int32), r = some (.int z) ∧ h2 = Wd u g ex) := by
  refine CT_of (by decide) (Nat.le_of_ble_eq_true rfl) (fun x hq => ?_)
  show J x yX1_seen cX1_seen 2 (some .int) d 0 0 (Wd u g ex).length 0 [(0, .ref t), (1, .int pond)] [] (Wd u g ex) 0 0
  refine J_aload_n (i := 0) (j := 0) dX1_seen_0 rfl rfl ?_
  refine J_iload_n (i := 1) (j := 1) dX1_seen_1 rfl rfl ?_
  refine J_callV (As := [.int pond]) (rest := []) dX1_seen_2 (c_H_seenAndGoes (d := 1) (u := u) (g := g) (ex := ex) (pond := pond) (t := t) (by decide) hs_t) hq.n k1082 k1075 k1076 (zh0c hs_t) rfl rfl k89 k1077 np_X1_seenAndGoes (Nat.le_trans (by decide) hd) (by decide) (Nat.le_refl _) (Nat.le_refl _) wlen rfl (Nat.le_of_ble_eq_true rfl) (fun r_ h_ p1 => ?_)
  obtain ⟨v2, rfl, rfl⟩ := p1
  refine J_bipush (v := 10) dX1_seen_5 (by decide) ?_
  refine J_aload_n (i := 0) (j := 0) dX1_seen_7 rfl rfl ?_
  refine J_iload_n (i := 1) (j := 1) dX1_seen_8 rfl rfl ?_
  refine J_iconst (v := 4) dX1_seen_9 (by decide) ?_
  refine J_callV (As := [.int pond, .int 4]) (rest := [.int 10, .int v2]) dX1_seen_10 (c_H_of (d := 0) (u := u) (g := g) (ex := ex) (pond := pond) (column := 4) (t := t) (by decide) hs_t) hq.n k748 k749 k750 (zh0c hs_t) rfl rfl k89 k751 np_X1_of (Nat.le_trans (by decide) hd) (by decide) (Nat.le_refl _) (Nat.le_refl _) wlen rfl (Nat.le_of_ble_eq_true rfl) (fun r_ h_ p3 => ?_)
  obtain ⟨rfl, rfl⟩ := p3
  refine J_isub dX1_seen_13 ?_
  refine J_aload_n (i := 0) (j := 0) dX1_seen_14 rfl rfl ?_
  refine J_iload_n (i := 1) (j := 1) dX1_seen_15 rfl rfl ?_
  refine J_bipush (v := 14) dX1_seen_16 (by decide) ?_
  refine J_callV (As := [.int pond, .int 14]) (rest := [.int ((10 : Int32) - (hof u t pond (4 : Int32))), .int v2]) dX1_seen_18 (c_H_of (d := 0) (u := u) (g := g) (ex := ex) (pond := pond) (column := 14) (t := t) (by decide) hs_t) hq.n k748 k749 k750 (zh0c hs_t) rfl rfl k89 k751 np_X1_of (Nat.le_trans (by decide) hd) (by decide) (Nat.le_refl _) (Nat.le_refl _) wlen rfl (Nat.le_of_ble_eq_true rfl) (fun r_ h_ p4 => ?_)
  obtain ⟨rfl, rfl⟩ := p4
  refine J_imul dX1_seen_21 ?_
  refine J_iadd dX1_seen_22 ?_
  exact J_iret hq dX1_seen_23 rfl wlen (Nat.le_refl _) (Nat.le_refl _) ⟨(v2 + (((10 : Int32) - (hof u t pond (4 : Int32))) * (hof u t pond (14 : Int32)))), rfl, rfl⟩
set_option maxHeartbeats 4000000 in
set_option maxRecDepth 100000 in
theorem c_H_addRain {d : Nat} {u : Nat → Nat → Int32} {g : Nat → Nat → Int64} {ex : List MC} {steps : Int32} {chance : Int32} {t : Nat} (hd : 0 ≤ d) (hs_t : t ∈ hl) (hp0 : Bd 0 9 (u t 0)) (hp1 : Bd 0 4 (u t 2)) : CT con0 d 0 0 yX1_addRain cX1_addRain 3 (some .boolean) [.ref t, .int steps, .int chance] (Wd u g ex) (fun r h2 => ∃ (z : Bool) (u2 : Nat → Nat → Int32), r = some (.int (bI z)) ∧ h2 = Wd u2 g ex ∧ Bd 0 4 (u2 t 2) ∧ (∀ c, c ≠ t → c ≠ t + 2 → c ≠ t + 3 → u2 c = u c) ∧ (∀ j, j ≠ 2 → u2 t j = u t j)) := by
  refine CT_of (by decide) (Nat.le_of_ble_eq_true rfl) (fun x hq => ?_)
  show J x yX1_addRain cX1_addRain 3 (some .boolean) d 0 0 (Wd u g ex).length 0 [(0, .ref t), (1, .int steps), (2, .int chance)] [] (Wd u g ex) 0 0
  refine J_aload_n (i := 0) (j := 0) dX1_addRain_0 rfl rfl ?_
  refine J_get (C := RX1) (T := TX1) (Z := 6) (ci := 1) (f := 2) dX1_addRain_1 inG1 rfl (by decide) k138 (zh0c hs_t) rfl ?_
  refine J_iconst (v := 4) dX1_addRain_4 (by decide) ?_
  refine J_icmp_lt (tgt := 10) dX1_addRain_5 (by decide) (fun c1 => ?_) (fun c1 => ?_)
  · refine J_aload_n (i := 0) (j := 0) dX1_addRain_10 rfl rfl ?_
    refine J_get (C := RX1) (T := TX1) (Z := 6) (ci := 1) (f := 3) dX1_addRain_11 inG1 rfl (by decide) k143 (zh0c hs_t) rfl ?_
    refine J_aload_n (i := 0) (j := 0) dX1_addRain_14 rfl rfl ?_
    refine J_get (C := RX1) (T := TX1) (Z := 6) (ci := 1) (f := 2) dX1_addRain_15 inG1 rfl (by decide) k138 (zh0c hs_t) rfl ?_
    refine J_iload_n (i := 1) (j := 1) dX1_addRain_18 rfl rfl ?_
    obtain ⟨u2, e3⟩ : ∃ z, z = ms u (t + 2) ((u t 2).toNatClampNeg) steps := ⟨_, rfl⟩
    refine J_iast dX1_addRain_19 (zh2c hs_t) (vin (bd_lt_hi hp1 c1 (bd_c (v := 4) (lo := 4) (hi := 4) (by decide))) (by decide)) (ws e3 (zh2 hs_t) rfl) ?_
    refine J_aload_n (i := 0) (j := 0) dX1_addRain_20 rfl rfl ?_
    refine J_get (C := RX1) (T := TX1) (Z := 6) (ci := 1) (f := 4) dX1_addRain_21 inG1 rfl (by decide) k144 (zh0c hs_t) rfl ?_
    refine J_aload_n (i := 0) (j := 0) dX1_addRain_24 rfl rfl ?_
    refine J_get (C := RX1) (T := TX1) (Z := 6) (ci := 1) (f := 2) dX1_addRain_25 inG1 rfl (by decide) k138 (zh0c hs_t) rfl ?_
    refine J_ci (v := u t 2) (congrFun (ms_c e3 (by omega)) 2) ?_
    refine J_iload_n (i := 2) (j := 2) dX1_addRain_28 rfl rfl ?_
    obtain ⟨u4, e5⟩ : ∃ z, z = ms u2 (t + 3) ((u t 2).toNatClampNeg) chance := ⟨_, rfl⟩
    refine J_iast dX1_addRain_29 (zh3c hs_t) (vin (bd_lt_hi hp1 c1 (bd_c (v := 4) (lo := 4) (hi := 4) (by decide))) (by decide)) (ws e5 (zh3 hs_t) rfl) ?_
    refine J_aload_n (i := 0) (j := 0) dX1_addRain_30 rfl rfl ?_
    refine J_dup dX1_addRain_31 rfl ?_
    refine J_get (C := RX1) (T := TX1) (Z := 6) (ci := 1) (f := 2) dX1_addRain_32 inG1 rfl (by decide) k138 (zh0c hs_t) rfl ?_
    refine J_ci (v := u t 2) ((congrFun (ms_c e5 (by omega)) 2).trans (congrFun (ms_c e3 (by omega)) 2)) ?_
    refine J_iconst (v := 1) dX1_addRain_35 (by decide) ?_
    refine J_iadd dX1_addRain_36 ?_
    obtain ⟨u6, e7⟩ : ∃ z, z = ms u4 t 2 ((u t 2) + 1) := ⟨_, rfl⟩
    refine J_put (C := RX1) (T := TX1) (Z := 6) (ci := 1) (f := 2) (ty0 := tyX1) dX1_addRain_37 inG1 rfl tyX1_ok nmX1 (by decide) k138 rfl rfl (zh0c hs_t) (Nat.le_of_ble_eq_true rfl) (fun _ _ => ⟨rfl, rfl⟩) (ws e7 (zh0 hs_t) rfl) ?_
    refine J_iconst (v := 1) dX1_addRain_40 (by decide) ?_
    exact J_zret hq dX1_addRain_41 rfl rfl wlen (Nat.le_refl _) (Nat.le_refl _) ⟨true, u6, rfl, rfl, (bd_r (ms_e e7) (bd_w (l := 0) (h := 4) (bd_add (l := 1) (h := 4) (bd_lt_hi hp1 c1 (bd_c (v := 4) (lo := 4) (hi := 4) (by decide))) (bd_c (v := 1) (lo := 1) (hi := 1) (by decide)) (by decide)) (by decide))), (fun c k0_ k1_ k2_ => ((ms_c e7 k0_).trans ((ms_c e5 k2_).trans (ms_c e3 k1_)))), (fun j k2_ => ((ms_i e7 k2_).trans ((congrFun (ms_c e5 (by omega)) j).trans (congrFun (ms_c e3 (by omega)) j))))⟩
  · refine J_iconst (v := 0) dX1_addRain_8 (by decide) ?_
    exact J_zret hq dX1_addRain_9 rfl rfl wlen (Nat.le_refl _) (Nat.le_refl _) ⟨false, u, rfl, rfl, (bd_w (l := 0) (h := 4) (bd_le_lo hp1 (i_nlt c1) (bd_c (v := 4) (lo := 4) (hi := 4) (by decide))) (by decide)), (fun c k0_ k1_ k2_ => rfl), (fun j k2_ => rfl)⟩
