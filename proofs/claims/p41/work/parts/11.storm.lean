theorem k646 : Cond.methodLink RJ7 13 yJ7_rangeCheck_23922 ∈ gt := gt_3_3 (i := 8) rfl rfl
theorem k647 : Cond.static yJ7_rangeCheck_23922 ∈ gt := gt_3_3 (i := 9) rfl rfl
theorem k98 : Cond.initialized RJ7 ∈ gt := gt_1_0 (i := 12) rfl rfl
theorem k648 : Cond.code yJ7_rangeCheck_23922 cJ7_rangeCheck_23922 3 none ∈ gt := gt_3_3 (i := 10) rfl rfl
theorem np_J7_rangeCheck_23922 : yJ7_rangeCheck_23922.cls ≠ "java/lang/invoke/MethodHandle" ∧ yJ7_rangeCheck_23922.cls ≠ "java/lang/invoke/VarHandle" ∧ (parseMethodDescriptor yJ7_rangeCheck_23922.desc).map (fun d => d.parameters.length) = some 3 := ⟨cq_RJ7.1, cq_RJ7.2, pd_17⟩
theorem k931 : Cond.constant RJ6 265 1431655765 ∈ gt := gt_4_5 (i := 5) rfl rfl
theorem k932 : Cond.constant RJ6 266 858993459 ∈ gt := gt_4_5 (i := 6) rfl rfl
theorem k933 : Cond.constant RJ6 267 252645135 ∈ gt := gt_4_5 (i := 7) rfl rfl
theorem k482 : Cond.methodLink RX1 31 yJ7_fill_53178 ∈ gt := gt_2_6 (i := 12) rfl rfl
theorem k483 : Cond.static yJ7_fill_53178 ∈ gt := gt_2_6 (i := 13) rfl rfl
theorem k484 : Cond.code yJ7_fill_53178 cJ7_fill_53178 4 none ∈ gt := gt_2_6 (i := 14) rfl rfl
theorem np_J7_fill_53178 : yJ7_fill_53178.cls ≠ "java/lang/invoke/MethodHandle" ∧ yJ7_fill_53178.cls ≠ "java/lang/invoke/VarHandle" ∧ (parseMethodDescriptor yJ7_fill_53178.desc).map (fun d => d.parameters.length) = some 2 := ⟨cq_RJ7.1, cq_RJ7.2, pd_62⟩
theorem k643 : Cond.methodLink RX1 43 yJ7_fill_fda19 ∈ gt := gt_3_3 (i := 5) rfl rfl
theorem k644 : Cond.static yJ7_fill_fda19 ∈ gt := gt_3_3 (i := 6) rfl rfl
theorem k645 : Cond.code yJ7_fill_fda19 cJ7_fill_fda19 5 none ∈ gt := gt_3_3 (i := 7) rfl rfl
theorem np_J7_fill_fda19 : yJ7_fill_fda19.cls ≠ "java/lang/invoke/MethodHandle" ∧ yJ7_fill_fda19.cls ≠ "java/lang/invoke/VarHandle" ∧ (parseMethodDescriptor yJ7_fill_fda19.desc).map (fun d => d.parameters.length) = some 4 := ⟨cq_RJ7.1, cq_RJ7.2, pd_63⟩
theorem k684 : Cond.methodLink RX1 37 arraycopyName ∈ gt := gt_3_4 (i := 22) rfl rfl
theorem k686 : Cond.native arraycopyName ∈ gt := gt_3_5 (i := 0) rfl rfl
theorem k685 : Cond.static arraycopyName ∈ gt := gt_3_4 (i := 23) rfl rfl
theorem k104 : Cond.initialized RJ10 ∈ gt := gt_1_0 (i := 18) rfl rfl
theorem k694 : Cond.methodLink RX8 25 arraycopyName ∈ gt := gt_3_5 (i := 8) rfl rfl
theorem k814 : Cond.methodLink RX5 47 yX1_of ∈ gt := gt_4_0 (i := 8) rfl rfl
theorem k815 : Cond.methodLinkNest RX5 70 yX10_isIn "PondStair" ∈ nt := nt_4_0 (i := 9) rfl rfl
theorem k829 : Cond.methodLink RX5 74 Lib.Math.max.name ∈ gt := gt_4_0 (i := 23) rfl rfl
theorem k688 : Cond.static Lib.Math.max.name ∈ gt := gt_3_5 (i := 2) rfl rfl
theorem k99 : Cond.initialized RJ9 ∈ gt := gt_1_0 (i := 13) rfl rfl
theorem k689 : Cond.code Lib.Math.max.name Lib.Math.max.code 2 (some .int) ∈ gt := gt_3_5 (i := 3) rfl rfl
theorem k834 : Cond.methodLink RX5 79 yX1_has ∈ gt := gt_4_1 (i := 4) rfl rfl
theorem k741 : Cond.instanceMethod yX1_has ∈ gt := gt_3_7 (i := 7) rfl rfl
theorem k742 : Cond.selects RX1 yX1_has yX1_has ∈ gt := gt_3_7 (i := 8) rfl rfl
theorem k743 : Cond.code yX1_has cX1_has 2 (some .boolean) ∈ gt := gt_3_7 (i := 9) rfl rfl
theorem np_X1_has : yX1_has.cls ≠ "java/lang/invoke/MethodHandle" ∧ yX1_has.cls ≠ "java/lang/invoke/VarHandle" ∧ (parseMethodDescriptor yX1_has.desc).map (fun d => d.parameters.length) = some 1 := ⟨cq_RX1.1, cq_RX1.2, pd_10⟩
theorem k131 : Cond.fieldLinkNest RX5 34 "PondStair$Hill" "ponds" "I" "PondStair" ∈ nt := nt_1_1 (i := 21) rfl rfl
theorem k809 : Cond.methodLink RX5 37 yJ7_fill_53178 ∈ gt := gt_4_0 (i := 3) rfl rfl
theorem k810 : Cond.methodLink RX5 43 yX5_hears ∈ gt := gt_4_0 (i := 4) rfl rfl
theorem k812 : Cond.instanceMethod yX5_hears ∈ gt := gt_4_0 (i := 6) rfl rfl
theorem k18 : Cond.selects RX5 yX5_hears yX5_hears ∈ gt := gs_2 (i := 2) rfl rfl
theorem k813 : Cond.code yX5_hears cX5_hears 6 (some .boolean) ∈ gt := gt_4_0 (i := 7) rfl rfl
theorem np_X5_hears : yX5_hears.cls ≠ "java/lang/invoke/MethodHandle" ∧ yX5_hears.cls ≠ "java/lang/invoke/VarHandle" ∧ (parseMethodDescriptor yX5_hears.desc).map (fun d => d.parameters.length) = some 2 := ⟨cq_RX5.1, cq_RX5.2, pd_45⟩
theorem k818 : Cond.methodLinkNest RX5 51 yX10_bit "PondStair" ∈ nt := nt_4_0 (i := 12) rfl rfl
theorem k821 : Cond.methodLink RX5 55 yX5_goes ∈ gt := gt_4_0 (i := 15) rfl rfl
theorem k823 : Cond.instanceMethod yX5_goes ∈ gt := gt_4_0 (i := 17) rfl rfl
theorem k19 : Cond.selects RX5 yX5_goes yX5_goes ∈ gt := gs_2 (i := 3) rfl rfl
theorem k824 : Cond.code yX5_goes cX5_goes 4 (some .boolean) ∈ gt := gt_4_0 (i := 18) rfl rfl
theorem np_X5_goes : yX5_goes.cls ≠ "java/lang/invoke/MethodHandle" ∧ yX5_goes.cls ≠ "java/lang/invoke/VarHandle" ∧ (parseMethodDescriptor yX5_goes.desc).map (fun d => d.parameters.length) = some 3 := ⟨cq_RX5.1, cq_RX5.2, pd_48⟩
theorem k825 : Cond.methodLink RX5 59 yX5_leaving ∈ gt := gt_4_0 (i := 19) rfl rfl
theorem k827 : Cond.instanceMethod yX5_leaving ∈ gt := gt_4_0 (i := 21) rfl rfl
theorem k20 : Cond.selects RX5 yX5_leaving yX5_leaving ∈ gt := gs_2 (i := 4) rfl rfl
theorem k828 : Cond.code yX5_leaving cX5_leaving 4 (some .int) ∈ gt := gt_4_0 (i := 22) rfl rfl
theorem np_X5_leaving : yX5_leaving.cls ≠ "java/lang/invoke/MethodHandle" ∧ yX5_leaving.cls ≠ "java/lang/invoke/VarHandle" ∧ (parseMethodDescriptor yX5_leaving.desc).map (fun d => d.parameters.length) = some 3 := ⟨cq_RX5.1, cq_RX5.2, pd_51⟩
theorem k830 : Cond.methodLink RX5 63 yX5_pass ∈ gt := gt_4_1 (i := 0) rfl rfl
theorem k832 : Cond.instanceMethod yX5_pass ∈ gt := gt_4_1 (i := 2) rfl rfl
theorem k21 : Cond.selects RX5 yX5_pass yX5_pass ∈ gt := gs_2 (i := 5) rfl rfl
theorem k833 : Cond.code yX5_pass cX5_pass 6 none ∈ gt := gt_4_1 (i := 3) rfl rfl
theorem np_X5_pass : yX5_pass.cls ≠ "java/lang/invoke/MethodHandle" ∧ yX5_pass.cls ≠ "java/lang/invoke/VarHandle" ∧ (parseMethodDescriptor yX5_pass.desc).map (fun d => d.parameters.length) = some 2 := ⟨cq_RX5.1, cq_RX5.2, pd_44⟩
theorem k835 : Cond.methodLink RX5 67 yX1_harmOf ∈ gt := gt_4_1 (i := 5) rfl rfl
theorem k836 : Cond.instanceMethod yX1_harmOf ∈ gt := gt_4_1 (i := 6) rfl rfl
theorem k837 : Cond.selects RX1 yX1_harmOf yX1_harmOf ∈ gt := gt_4_1 (i := 7) rfl rfl
theorem k838 : Cond.code yX1_harmOf cX1_harmOf 4 (some .int) ∈ gt := gt_4_1 (i := 8) rfl rfl
theorem np_X1_harmOf : yX1_harmOf.cls ≠ "java/lang/invoke/MethodHandle" ∧ yX1_harmOf.cls ≠ "java/lang/invoke/VarHandle" ∧ (parseMethodDescriptor yX1_harmOf.desc).map (fun d => d.parameters.length) = some 1 := ⟨cq_RX1.1, cq_RX1.2, pd_6⟩
theorem k844 : Cond.methodLink RX5 83 yX5_toldOfPond ∈ gt := gt_4_1 (i := 14) rfl rfl
theorem k846 : Cond.instanceMethod yX5_toldOfPond ∈ gt := gt_4_1 (i := 16) rfl rfl
theorem k22 : Cond.selects RX5 yX5_toldOfPond yX5_toldOfPond ∈ gt := gs_2 (i := 6) rfl rfl
theorem k847 : Cond.code yX5_toldOfPond cX5_toldOfPond 3 (some .int) ∈ gt := gt_4_1 (i := 17) rfl rfl
theorem np_X5_toldOfPond : yX5_toldOfPond.cls ≠ "java/lang/invoke/MethodHandle" ∧ yX5_toldOfPond.cls ≠ "java/lang/invoke/VarHandle" ∧ (parseMethodDescriptor yX5_toldOfPond.desc).map (fun d => d.parameters.length) = some 2 := ⟨cq_RX5.1, cq_RX5.2, pd_11⟩
theorem k1225 : Cond.methodLink RX5 90 yX1_isOut ∈ gt := gt_5_7 (i := 11) rfl rfl
theorem k745 : Cond.instanceMethod yX1_isOut ∈ gt := gt_3_7 (i := 11) rfl rfl
theorem k746 : Cond.selects RX1 yX1_isOut yX1_isOut ∈ gt := gt_3_7 (i := 12) rfl rfl
theorem k747 : Cond.code yX1_isOut cX1_isOut 2 (some .boolean) ∈ gt := gt_3_7 (i := 13) rfl rfl
theorem np_X1_isOut : yX1_isOut.cls ≠ "java/lang/invoke/MethodHandle" ∧ yX1_isOut.cls ≠ "java/lang/invoke/VarHandle" ∧ (parseMethodDescriptor yX1_isOut.desc).map (fun d => d.parameters.length) = some 1 := ⟨cq_RX1.1, cq_RX1.2, pd_10⟩
theorem k1226 : Cond.methodLink RX5 93 Lib.Math.min.name ∈ gt := gt_5_7 (i := 12) rfl rfl
theorem k494 : Cond.static Lib.Math.min.name ∈ gt := gt_2_7 (i := 0) rfl rfl
theorem k495 : Cond.code Lib.Math.min.name Lib.Math.min.code 2 (some .int) ∈ gt := gt_2_7 (i := 1) rfl rfl
theorem k1227 : Cond.methodLink RX5 96 yX1_put ∈ gt := gt_5_7 (i := 13) rfl rfl
theorem k1224 : Cond.methodLink RX5 86 yX1_takeOut ∈ gt := gt_5_7 (i := 10) rfl rfl
theorem k771 : Cond.instanceMethod yX1_takeOut ∈ gt := gt_3_8 (i := 13) rfl rfl
theorem k772 : Cond.selects RX1 yX1_takeOut yX1_takeOut ∈ gt := gt_3_8 (i := 14) rfl rfl
theorem k773 : Cond.code yX1_takeOut cX1_takeOut 2 none ∈ gt := gt_3_8 (i := 15) rfl rfl
theorem np_X1_takeOut : yX1_takeOut.cls ≠ "java/lang/invoke/MethodHandle" ∧ yX1_takeOut.cls ≠ "java/lang/invoke/VarHandle" ∧ (parseMethodDescriptor yX1_takeOut.desc).map (fun d => d.parameters.length) = some 1 := ⟨cq_RX1.1, cq_RX1.2, pd_9⟩
theorem dJ7_fill_53178_0 : decode cJ7_fill_53178 0 = .ok (.iconst 0, 1) := dqn_3 (k := 20) qh_cJ7_fill_53178 rfl rfl
theorem dJ7_fill_53178_1 : decode cJ7_fill_53178 1 = .ok (.istore_n 2, 1) := dqn_61 (k := 19) qh_cJ7_fill_53178 rfl rfl
theorem dJ7_fill_53178_2 : decode cJ7_fill_53178 2 = .ok (.aload_n 0, 1) := dqn_42 (k := 18) qh_cJ7_fill_53178 rfl rfl
theorem dJ7_fill_53178_3 : decode cJ7_fill_53178 3 = .ok (.arraylength, 1) := dqn_190 (k := 17) qh_cJ7_fill_53178 rfl rfl
theorem dJ7_fill_53178_4 : decode cJ7_fill_53178 4 = .ok (.istore_n 3, 1) := dqn_62 (k := 16) qh_cJ7_fill_53178 rfl rfl
theorem dJ7_fill_53178_5 : decode cJ7_fill_53178 5 = .ok (.iload_n 2, 1) := dqn_28 (k := 15) qh_cJ7_fill_53178 rfl rfl
theorem dJ7_fill_53178_6 : decode cJ7_fill_53178 6 = .ok (.iload_n 3, 1) := dqn_29 (k := 14) qh_cJ7_fill_53178 rfl rfl
theorem dJ7_fill_53178_7 : decode cJ7_fill_53178 7 = .ok (.if_icmp .ge 13, 3) := dqn_162 (k := 11) (u := 13) qh_cJ7_fill_53178 rfl rfl rfl (sg_p rfl rfl)
theorem dJ7_fill_53178_10 : decode cJ7_fill_53178 10 = .ok (.aload_n 0, 1) := dqn_42 (k := 10) qh_cJ7_fill_53178 rfl rfl
theorem dJ7_fill_53178_11 : decode cJ7_fill_53178 11 = .ok (.iload_n 2, 1) := dqn_28 (k := 9) qh_cJ7_fill_53178 rfl rfl
theorem dJ7_fill_53178_12 : decode cJ7_fill_53178 12 = .ok (.iload_n 1, 1) := dqn_27 (k := 8) qh_cJ7_fill_53178 rfl rfl
theorem dJ7_fill_53178_13 : decode cJ7_fill_53178 13 = .ok (.iastore, 1) := dqn_79 (k := 7) qh_cJ7_fill_53178 rfl rfl
theorem dJ7_fill_53178_14 : decode cJ7_fill_53178 14 = .ok (.iinc 2 1, 3) := dqn_132 (k := 4) (u := 1) qh_cJ7_fill_53178 rfl rfl rfl rfl (by decide)
theorem dJ7_fill_53178_17 : decode cJ7_fill_53178 17 = .ok (.goto (-12), 3) := dqn_167 (k := 1) (u := 65524) qh_cJ7_fill_53178 rfl rfl rfl (sg_n (k := 12) rfl rfl rfl)
theorem dJ7_fill_53178_20 : decode cJ7_fill_53178 20 = .ok (.return_, 1) := dqn_177 (k := 0) qh_cJ7_fill_53178 rfl rfl
theorem dJ7_fill_d0a16_0 : decode cJ7_fill_d0a16 0 = .ok (.iconst 0, 1) := dqn_3 (k := 22) qh_cJ7_fill_d0a16 rfl rfl
theorem dJ7_fill_d0a16_1 : decode cJ7_fill_d0a16 1 = .ok (.istore_n 3, 1) := dqn_62 (k := 21) qh_cJ7_fill_d0a16 rfl rfl
theorem dJ7_fill_d0a16_2 : decode cJ7_fill_d0a16 2 = .ok (.aload_n 0, 1) := dqn_42 (k := 20) qh_cJ7_fill_d0a16 rfl rfl
theorem dJ7_fill_d0a16_3 : decode cJ7_fill_d0a16 3 = .ok (.arraylength, 1) := dqn_190 (k := 19) qh_cJ7_fill_d0a16 rfl rfl
theorem dJ7_fill_d0a16_4 : decode cJ7_fill_d0a16 4 = .ok (.istore 4, 2) := dqn_54 (k := 17) qh_cJ7_fill_d0a16 rfl rfl rfl
theorem dJ7_fill_d0a16_6 : decode cJ7_fill_d0a16 6 = .ok (.iload_n 3, 1) := dqn_29 (k := 16) qh_cJ7_fill_d0a16 rfl rfl
theorem dJ7_fill_d0a16_7 : decode cJ7_fill_d0a16 7 = .ok (.iload 4, 2) := dqn_21 (k := 14) qh_cJ7_fill_d0a16 rfl rfl rfl
theorem dJ7_fill_d0a16_9 : decode cJ7_fill_d0a16 9 = .ok (.if_icmp .ge 13, 3) := dqn_162 (k := 11) (u := 13) qh_cJ7_fill_d0a16 rfl rfl rfl (sg_p rfl rfl)
theorem dJ7_fill_d0a16_12 : decode cJ7_fill_d0a16 12 = .ok (.aload_n 0, 1) := dqn_42 (k := 10) qh_cJ7_fill_d0a16 rfl rfl
theorem dJ7_fill_d0a16_13 : decode cJ7_fill_d0a16 13 = .ok (.iload_n 3, 1) := dqn_29 (k := 9) qh_cJ7_fill_d0a16 rfl rfl
theorem dJ7_fill_d0a16_14 : decode cJ7_fill_d0a16 14 = .ok (.lload_n 1, 1) := dqn_31 (k := 8) qh_cJ7_fill_d0a16 rfl rfl
theorem dJ7_fill_d0a16_15 : decode cJ7_fill_d0a16 15 = .ok (.lastore, 1) := dqn_80 (k := 7) qh_cJ7_fill_d0a16 rfl rfl
theorem dJ7_fill_d0a16_16 : decode cJ7_fill_d0a16 16 = .ok (.iinc 3 1, 3) := dqn_132 (k := 4) (u := 1) qh_cJ7_fill_d0a16 rfl rfl rfl rfl (by decide)
theorem dJ7_fill_d0a16_19 : decode cJ7_fill_d0a16 19 = .ok (.goto (-13), 3) := dqn_167 (k := 1) (u := 65523) qh_cJ7_fill_d0a16 rfl rfl rfl (sg_n (k := 13) rfl rfl rfl)
theorem dJ7_fill_d0a16_22 : decode cJ7_fill_d0a16 22 = .ok (.return_, 1) := dqn_177 (k := 0) qh_cJ7_fill_d0a16 rfl rfl
theorem dJ7_rangeCheck_23922_0 : decode cJ7_rangeCheck_23922 0 = .ok (.iload_n 1, 1) := dqn_27 (k := 73) qh_cJ7_rangeCheck_23922 rfl rfl
theorem dJ7_rangeCheck_23922_1 : decode cJ7_rangeCheck_23922 1 = .ok (.iload_n 2, 1) := dqn_28 (k := 72) qh_cJ7_rangeCheck_23922 rfl rfl
theorem dJ7_rangeCheck_23922_2 : decode cJ7_rangeCheck_23922 2 = .ok (.if_icmp .le 44, 3) := dqn_164 (k := 69) (u := 44) qh_cJ7_rangeCheck_23922 rfl rfl rfl (sg_p rfl rfl)
theorem dJ7_rangeCheck_23922_46 : decode cJ7_rangeCheck_23922 46 = .ok (.iload_n 1, 1) := dqn_27 (k := 27) qh_cJ7_rangeCheck_23922 rfl rfl
theorem dJ7_rangeCheck_23922_47 : decode cJ7_rangeCheck_23922 47 = .ok (.ifCond .ge 12, 3) := dqn_156 (k := 24) (u := 12) qh_cJ7_rangeCheck_23922 rfl rfl rfl (sg_p rfl rfl)
theorem dJ7_rangeCheck_23922_59 : decode cJ7_rangeCheck_23922 59 = .ok (.iload_n 2, 1) := dqn_28 (k := 14) qh_cJ7_rangeCheck_23922 rfl rfl
theorem dJ7_rangeCheck_23922_60 : decode cJ7_rangeCheck_23922 60 = .ok (.iload_n 0, 1) := dqn_26 (k := 13) qh_cJ7_rangeCheck_23922 rfl rfl
theorem dJ7_rangeCheck_23922_61 : decode cJ7_rangeCheck_23922 61 = .ok (.if_icmp .le 12, 3) := dqn_164 (k := 10) (u := 12) qh_cJ7_rangeCheck_23922 rfl rfl rfl (sg_p rfl rfl)
theorem dJ7_rangeCheck_23922_73 : decode cJ7_rangeCheck_23922 73 = .ok (.return_, 1) := dqn_177 (k := 0) qh_cJ7_rangeCheck_23922 rfl rfl
theorem dJ7_fill_fda19_0 : decode cJ7_fill_fda19 0 = .ok (.aload_n 0, 1) := dqn_42 (k := 27) qh_cJ7_fill_fda19 rfl rfl
theorem dJ7_fill_fda19_1 : decode cJ7_fill_fda19 1 = .ok (.arraylength, 1) := dqn_190 (k := 26) qh_cJ7_fill_fda19 rfl rfl
theorem dJ7_fill_fda19_2 : decode cJ7_fill_fda19 2 = .ok (.iload_n 1, 1) := dqn_27 (k := 25) qh_cJ7_fill_fda19 rfl rfl
theorem dJ7_fill_fda19_3 : decode cJ7_fill_fda19 3 = .ok (.iload_n 2, 1) := dqn_28 (k := 24) qh_cJ7_fill_fda19 rfl rfl
theorem dJ7_fill_fda19_4 : decode cJ7_fill_fda19 4 = .ok (.invokestatic 13, 3) := dqn_184 (k := 21) qh_cJ7_fill_fda19 rfl rfl rfl
theorem dJ7_fill_fda19_7 : decode cJ7_fill_fda19 7 = .ok (.iload_n 1, 1) := dqn_27 (k := 20) qh_cJ7_fill_fda19 rfl rfl
theorem dJ7_fill_fda19_8 : decode cJ7_fill_fda19 8 = .ok (.istore 4, 2) := dqn_54 (k := 18) qh_cJ7_fill_fda19 rfl rfl rfl
theorem dJ7_fill_fda19_10 : decode cJ7_fill_fda19 10 = .ok (.iload 4, 2) := dqn_21 (k := 16) qh_cJ7_fill_fda19 rfl rfl rfl
theorem dJ7_fill_fda19_12 : decode cJ7_fill_fda19 12 = .ok (.iload_n 2, 1) := dqn_28 (k := 15) qh_cJ7_fill_fda19 rfl rfl
theorem dJ7_fill_fda19_13 : decode cJ7_fill_fda19 13 = .ok (.if_icmp .ge 14, 3) := dqn_162 (k := 12) (u := 14) qh_cJ7_fill_fda19 rfl rfl rfl (sg_p rfl rfl)
theorem dJ7_fill_fda19_16 : decode cJ7_fill_fda19 16 = .ok (.aload_n 0, 1) := dqn_42 (k := 11) qh_cJ7_fill_fda19 rfl rfl
theorem dJ7_fill_fda19_17 : decode cJ7_fill_fda19 17 = .ok (.iload 4, 2) := dqn_21 (k := 9) qh_cJ7_fill_fda19 rfl rfl rfl
theorem dJ7_fill_fda19_19 : decode cJ7_fill_fda19 19 = .ok (.iload_n 3, 1) := dqn_29 (k := 8) qh_cJ7_fill_fda19 rfl rfl
theorem dJ7_fill_fda19_20 : decode cJ7_fill_fda19 20 = .ok (.iastore, 1) := dqn_79 (k := 7) qh_cJ7_fill_fda19 rfl rfl
theorem dJ7_fill_fda19_21 : decode cJ7_fill_fda19 21 = .ok (.iinc 4 1, 3) := dqn_132 (k := 4) (u := 1) qh_cJ7_fill_fda19 rfl rfl rfl rfl (by decide)
theorem dJ7_fill_fda19_24 : decode cJ7_fill_fda19 24 = .ok (.goto (-14), 3) := dqn_167 (k := 1) (u := 65522) qh_cJ7_fill_fda19 rfl rfl rfl (sg_n (k := 14) rfl rfl rfl)
theorem dJ7_fill_fda19_27 : decode cJ7_fill_fda19 27 = .ok (.return_, 1) := dqn_177 (k := 0) qh_cJ7_fill_fda19 rfl rfl
theorem dJ6_bitCount_0f7a4_0 : decode cJ6_bitCount_0f7a4 0 = .ok (.iload_n 0, 1) := dqn_26 (k := 52) qh_cJ6_bitCount_0f7a4 rfl rfl
theorem dJ6_bitCount_0f7a4_1 : decode cJ6_bitCount_0f7a4 1 = .ok (.iload_n 0, 1) := dqn_26 (k := 51) qh_cJ6_bitCount_0f7a4 rfl rfl
theorem dJ6_bitCount_0f7a4_2 : decode cJ6_bitCount_0f7a4 2 = .ok (.iconst 1, 1) := dqn_4 (k := 50) qh_cJ6_bitCount_0f7a4 rfl rfl
theorem dJ6_bitCount_0f7a4_3 : decode cJ6_bitCount_0f7a4 3 = .ok (.iushr, 1) := dqn_124 (k := 49) qh_cJ6_bitCount_0f7a4 rfl rfl
theorem dJ6_bitCount_0f7a4_4 : decode cJ6_bitCount_0f7a4 4 = .ok (.ldc_w 265, 3) := dqn_19 (k := 46) qh_cJ6_bitCount_0f7a4 rfl rfl rfl
theorem dJ6_bitCount_0f7a4_7 : decode cJ6_bitCount_0f7a4 7 = .ok (.iand, 1) := dqn_126 (k := 45) qh_cJ6_bitCount_0f7a4 rfl rfl
theorem dJ6_bitCount_0f7a4_8 : decode cJ6_bitCount_0f7a4 8 = .ok (.isub, 1) := dqn_100 (k := 44) qh_cJ6_bitCount_0f7a4 rfl rfl
theorem dJ6_bitCount_0f7a4_9 : decode cJ6_bitCount_0f7a4 9 = .ok (.istore_n 0, 1) := dqn_59 (k := 43) qh_cJ6_bitCount_0f7a4 rfl rfl
theorem dJ6_bitCount_0f7a4_10 : decode cJ6_bitCount_0f7a4 10 = .ok (.iload_n 0, 1) := dqn_26 (k := 42) qh_cJ6_bitCount_0f7a4 rfl rfl
theorem dJ6_bitCount_0f7a4_11 : decode cJ6_bitCount_0f7a4 11 = .ok (.ldc_w 266, 3) := dqn_19 (k := 39) qh_cJ6_bitCount_0f7a4 rfl rfl rfl
theorem dJ6_bitCount_0f7a4_14 : decode cJ6_bitCount_0f7a4 14 = .ok (.iand, 1) := dqn_126 (k := 38) qh_cJ6_bitCount_0f7a4 rfl rfl
theorem dJ6_bitCount_0f7a4_15 : decode cJ6_bitCount_0f7a4 15 = .ok (.iload_n 0, 1) := dqn_26 (k := 37) qh_cJ6_bitCount_0f7a4 rfl rfl
theorem dJ6_bitCount_0f7a4_16 : decode cJ6_bitCount_0f7a4 16 = .ok (.iconst 2, 1) := dqn_5 (k := 36) qh_cJ6_bitCount_0f7a4 rfl rfl
theorem dJ6_bitCount_0f7a4_17 : decode cJ6_bitCount_0f7a4 17 = .ok (.iushr, 1) := dqn_124 (k := 35) qh_cJ6_bitCount_0f7a4 rfl rfl
theorem dJ6_bitCount_0f7a4_18 : decode cJ6_bitCount_0f7a4 18 = .ok (.ldc_w 266, 3) := dqn_19 (k := 32) qh_cJ6_bitCount_0f7a4 rfl rfl rfl
theorem dJ6_bitCount_0f7a4_21 : decode cJ6_bitCount_0f7a4 21 = .ok (.iand, 1) := dqn_126 (k := 31) qh_cJ6_bitCount_0f7a4 rfl rfl
theorem dJ6_bitCount_0f7a4_22 : decode cJ6_bitCount_0f7a4 22 = .ok (.iadd, 1) := dqn_96 (k := 30) qh_cJ6_bitCount_0f7a4 rfl rfl
theorem dJ6_bitCount_0f7a4_23 : decode cJ6_bitCount_0f7a4 23 = .ok (.istore_n 0, 1) := dqn_59 (k := 29) qh_cJ6_bitCount_0f7a4 rfl rfl
theorem dJ6_bitCount_0f7a4_24 : decode cJ6_bitCount_0f7a4 24 = .ok (.iload_n 0, 1) := dqn_26 (k := 28) qh_cJ6_bitCount_0f7a4 rfl rfl
theorem dJ6_bitCount_0f7a4_25 : decode cJ6_bitCount_0f7a4 25 = .ok (.iload_n 0, 1) := dqn_26 (k := 27) qh_cJ6_bitCount_0f7a4 rfl rfl
theorem dJ6_bitCount_0f7a4_26 : decode cJ6_bitCount_0f7a4 26 = .ok (.iconst 4, 1) := dqn_7 (k := 26) qh_cJ6_bitCount_0f7a4 rfl rfl
theorem dJ6_bitCount_0f7a4_27 : decode cJ6_bitCount_0f7a4 27 = .ok (.iushr, 1) := dqn_124 (k := 25) qh_cJ6_bitCount_0f7a4 rfl rfl
theorem dJ6_bitCount_0f7a4_28 : decode cJ6_bitCount_0f7a4 28 = .ok (.iadd, 1) := dqn_96 (k := 24) qh_cJ6_bitCount_0f7a4 rfl rfl
theorem dJ6_bitCount_0f7a4_29 : decode cJ6_bitCount_0f7a4 29 = .ok (.ldc_w 267, 3) := dqn_19 (k := 21) qh_cJ6_bitCount_0f7a4 rfl rfl rfl
theorem dJ6_bitCount_0f7a4_32 : decode cJ6_bitCount_0f7a4 32 = .ok (.iand, 1) := dqn_126 (k := 20) qh_cJ6_bitCount_0f7a4 rfl rfl
theorem dJ6_bitCount_0f7a4_33 : decode cJ6_bitCount_0f7a4 33 = .ok (.istore_n 0, 1) := dqn_59 (k := 19) qh_cJ6_bitCount_0f7a4 rfl rfl
theorem dJ6_bitCount_0f7a4_34 : decode cJ6_bitCount_0f7a4 34 = .ok (.iload_n 0, 1) := dqn_26 (k := 18) qh_cJ6_bitCount_0f7a4 rfl rfl
theorem dJ6_bitCount_0f7a4_35 : decode cJ6_bitCount_0f7a4 35 = .ok (.iload_n 0, 1) := dqn_26 (k := 17) qh_cJ6_bitCount_0f7a4 rfl rfl
theorem dJ6_bitCount_0f7a4_36 : decode cJ6_bitCount_0f7a4 36 = .ok (.bipush 8, 2) := dqn_16 (k := 15) (u := 8) qh_cJ6_bitCount_0f7a4 rfl rfl rfl (by decide)
theorem dJ6_bitCount_0f7a4_38 : decode cJ6_bitCount_0f7a4 38 = .ok (.iushr, 1) := dqn_124 (k := 14) qh_cJ6_bitCount_0f7a4 rfl rfl
theorem dJ6_bitCount_0f7a4_39 : decode cJ6_bitCount_0f7a4 39 = .ok (.iadd, 1) := dqn_96 (k := 13) qh_cJ6_bitCount_0f7a4 rfl rfl
theorem dJ6_bitCount_0f7a4_40 : decode cJ6_bitCount_0f7a4 40 = .ok (.istore_n 0, 1) := dqn_59 (k := 12) qh_cJ6_bitCount_0f7a4 rfl rfl
theorem dJ6_bitCount_0f7a4_41 : decode cJ6_bitCount_0f7a4 41 = .ok (.iload_n 0, 1) := dqn_26 (k := 11) qh_cJ6_bitCount_0f7a4 rfl rfl
theorem dJ6_bitCount_0f7a4_42 : decode cJ6_bitCount_0f7a4 42 = .ok (.iload_n 0, 1) := dqn_26 (k := 10) qh_cJ6_bitCount_0f7a4 rfl rfl
theorem dJ6_bitCount_0f7a4_43 : decode cJ6_bitCount_0f7a4 43 = .ok (.bipush 16, 2) := dqn_16 (k := 8) (u := 16) qh_cJ6_bitCount_0f7a4 rfl rfl rfl (by decide)
theorem dJ6_bitCount_0f7a4_45 : decode cJ6_bitCount_0f7a4 45 = .ok (.iushr, 1) := dqn_124 (k := 7) qh_cJ6_bitCount_0f7a4 rfl rfl
theorem dJ6_bitCount_0f7a4_46 : decode cJ6_bitCount_0f7a4 46 = .ok (.iadd, 1) := dqn_96 (k := 6) qh_cJ6_bitCount_0f7a4 rfl rfl
theorem dJ6_bitCount_0f7a4_47 : decode cJ6_bitCount_0f7a4 47 = .ok (.istore_n 0, 1) := dqn_59 (k := 5) qh_cJ6_bitCount_0f7a4 rfl rfl
theorem dJ6_bitCount_0f7a4_48 : decode cJ6_bitCount_0f7a4 48 = .ok (.iload_n 0, 1) := dqn_26 (k := 4) qh_cJ6_bitCount_0f7a4 rfl rfl
theorem dJ6_bitCount_0f7a4_49 : decode cJ6_bitCount_0f7a4 49 = .ok (.bipush 63, 2) := dqn_16 (k := 2) (u := 63) qh_cJ6_bitCount_0f7a4 rfl rfl rfl (by decide)
theorem dJ6_bitCount_0f7a4_51 : decode cJ6_bitCount_0f7a4 51 = .ok (.iand, 1) := dqn_126 (k := 1) qh_cJ6_bitCount_0f7a4 rfl rfl
theorem dJ6_bitCount_0f7a4_52 : decode cJ6_bitCount_0f7a4 52 = .ok (.ireturn, 1) := dqn_172 (k := 0) qh_cJ6_bitCount_0f7a4 rfl rfl
theorem dJ9_max_f86c9_0 : decode cJ9_max_f86c9 0 = .ok (.lload_n 0, 1) := dqn_30 (k := 11) qh_cJ9_max_f86c9 rfl rfl
theorem dJ9_max_f86c9_1 : decode cJ9_max_f86c9 1 = .ok (.lload_n 2, 1) := dqn_32 (k := 10) qh_cJ9_max_f86c9 rfl rfl
theorem dJ9_max_f86c9_2 : decode cJ9_max_f86c9 2 = .ok (.lcmp, 1) := dqn_148 (k := 9) qh_cJ9_max_f86c9 rfl rfl
theorem dJ9_max_f86c9_3 : decode cJ9_max_f86c9 3 = .ok (.ifCond .lt 7, 3) := dqn_155 (k := 6) (u := 7) qh_cJ9_max_f86c9 rfl rfl rfl (sg_p rfl rfl)
theorem dJ9_max_f86c9_6 : decode cJ9_max_f86c9 6 = .ok (.lload_n 0, 1) := dqn_30 (k := 5) qh_cJ9_max_f86c9 rfl rfl
theorem dJ9_max_f86c9_7 : decode cJ9_max_f86c9 7 = .ok (.goto 4, 3) := dqn_167 (k := 2) (u := 4) qh_cJ9_max_f86c9 rfl rfl rfl (sg_p rfl rfl)
theorem dJ9_max_f86c9_10 : decode cJ9_max_f86c9 10 = .ok (.lload_n 2, 1) := dqn_32 (k := 1) qh_cJ9_max_f86c9 rfl rfl
theorem dJ9_max_f86c9_11 : decode cJ9_max_f86c9 11 = .ok (.lreturn, 1) := dqn_173 (k := 0) qh_cJ9_max_f86c9 rfl rfl
theorem dX1_clear_0 : decode cX1_clear 0 = .ok (.aload_n 0, 1) := dqn_42 (k := 18) qh_cX1_clear rfl rfl
theorem dX1_clear_1 : decode cX1_clear 1 = .ok (.iconst 0, 1) := dqn_3 (k := 17) qh_cX1_clear rfl rfl
theorem dX1_clear_2 : decode cX1_clear 2 = .ok (.putfield 9, 3) := dqn_181 (k := 14) qh_cX1_clear rfl rfl rfl
theorem dX1_clear_5 : decode cX1_clear 5 = .ok (.aload_n 0, 1) := dqn_42 (k := 13) qh_cX1_clear rfl rfl
theorem dX1_clear_6 : decode cX1_clear 6 = .ok (.iconst 0, 1) := dqn_3 (k := 12) qh_cX1_clear rfl rfl
theorem dX1_clear_7 : decode cX1_clear 7 = .ok (.putfield 19, 3) := dqn_181 (k := 9) qh_cX1_clear rfl rfl rfl
theorem dX1_clear_10 : decode cX1_clear 10 = .ok (.aload_n 0, 1) := dqn_42 (k := 8) qh_cX1_clear rfl rfl
theorem dX1_clear_11 : decode cX1_clear 11 = .ok (.getfield 28, 3) := dqn_180 (k := 5) qh_cX1_clear rfl rfl rfl
theorem dX1_clear_14 : decode cX1_clear 14 = .ok (.iconst 1, 1) := dqn_4 (k := 4) qh_cX1_clear rfl rfl
theorem dX1_clear_15 : decode cX1_clear 15 = .ok (.invokestatic 31, 3) := dqn_184 (k := 1) qh_cX1_clear rfl rfl rfl
theorem dX1_clear_18 : decode cX1_clear 18 = .ok (.return_, 1) := dqn_177 (k := 0) qh_cX1_clear rfl rfl
theorem dX1_addPond_0 : decode cX1_addPond 0 = .ok (.aload_n 0, 1) := dqn_42 (k := 100) qh_cX1_addPond rfl rfl
theorem dX1_addPond_1 : decode cX1_addPond 1 = .ok (.getfield 9, 3) := dqn_180 (k := 97) qh_cX1_addPond rfl rfl rfl
theorem dX1_addPond_4 : decode cX1_addPond 4 = .ok (.bipush 9, 2) := dqn_16 (k := 95) (u := 9) qh_cX1_addPond rfl rfl rfl (by decide)
theorem dX1_addPond_6 : decode cX1_addPond 6 = .ok (.if_icmp .lt 5, 3) := dqn_161 (k := 92) (u := 5) qh_cX1_addPond rfl rfl rfl (sg_p rfl rfl)
theorem dX1_addPond_9 : decode cX1_addPond 9 = .ok (.iconst 0, 1) := dqn_3 (k := 91) qh_cX1_addPond rfl rfl
theorem dX1_addPond_10 : decode cX1_addPond 10 = .ok (.ireturn, 1) := dqn_172 (k := 90) qh_cX1_addPond rfl rfl
theorem dX1_addPond_11 : decode cX1_addPond 11 = .ok (.aload_n 0, 1) := dqn_42 (k := 89) qh_cX1_addPond rfl rfl
theorem dX1_addPond_12 : decode cX1_addPond 12 = .ok (.getfield 9, 3) := dqn_180 (k := 86) qh_cX1_addPond rfl rfl rfl
theorem dX1_addPond_15 : decode cX1_addPond 15 = .ok (.istore 4, 2) := dqn_54 (k := 84) qh_cX1_addPond rfl rfl rfl
theorem dX1_addPond_17 : decode cX1_addPond 17 = .ok (.aload_n 0, 1) := dqn_42 (k := 83) qh_cX1_addPond rfl rfl
theorem dX1_addPond_18 : decode cX1_addPond 18 = .ok (.dup, 1) := dqn_89 (k := 82) qh_cX1_addPond rfl rfl
theorem dX1_addPond_19 : decode cX1_addPond 19 = .ok (.getfield 9, 3) := dqn_180 (k := 79) qh_cX1_addPond rfl rfl rfl
theorem dX1_addPond_22 : decode cX1_addPond 22 = .ok (.iconst 1, 1) := dqn_4 (k := 78) qh_cX1_addPond rfl rfl
theorem dX1_addPond_23 : decode cX1_addPond 23 = .ok (.iadd, 1) := dqn_96 (k := 77) qh_cX1_addPond rfl rfl
theorem dX1_addPond_24 : decode cX1_addPond 24 = .ok (.putfield 9, 3) := dqn_181 (k := 74) qh_cX1_addPond rfl rfl rfl
theorem dX1_addPond_27 : decode cX1_addPond 27 = .ok (.aload_n 0, 1) := dqn_42 (k := 73) qh_cX1_addPond rfl rfl
theorem dX1_addPond_28 : decode cX1_addPond 28 = .ok (.getfield 15, 3) := dqn_180 (k := 70) qh_cX1_addPond rfl rfl rfl
theorem dX1_addPond_31 : decode cX1_addPond 31 = .ok (.iload 4, 2) := dqn_21 (k := 68) qh_cX1_addPond rfl rfl rfl
theorem dX1_addPond_33 : decode cX1_addPond 33 = .ok (.bipush 16, 2) := dqn_16 (k := 66) (u := 16) qh_cX1_addPond rfl rfl rfl (by decide)
theorem dX1_addPond_35 : decode cX1_addPond 35 = .ok (.imul, 1) := dqn_104 (k := 65) qh_cX1_addPond rfl rfl
theorem dX1_addPond_36 : decode cX1_addPond 36 = .ok (.iload 4, 2) := dqn_21 (k := 63) qh_cX1_addPond rfl rfl rfl
theorem dX1_addPond_38 : decode cX1_addPond 38 = .ok (.bipush 16, 2) := dqn_16 (k := 61) (u := 16) qh_cX1_addPond rfl rfl rfl (by decide)
theorem dX1_addPond_40 : decode cX1_addPond 40 = .ok (.imul, 1) := dqn_104 (k := 60) qh_cX1_addPond rfl rfl
theorem dX1_addPond_41 : decode cX1_addPond 41 = .ok (.bipush 16, 2) := dqn_16 (k := 58) (u := 16) qh_cX1_addPond rfl rfl rfl (by decide)
theorem dX1_addPond_43 : decode cX1_addPond 43 = .ok (.iadd, 1) := dqn_96 (k := 57) qh_cX1_addPond rfl rfl
theorem dX1_addPond_44 : decode cX1_addPond 44 = .ok (.iconst 0, 1) := dqn_3 (k := 56) qh_cX1_addPond rfl rfl
theorem dX1_addPond_45 : decode cX1_addPond 45 = .ok (.invokestatic 43, 3) := dqn_184 (k := 53) qh_cX1_addPond rfl rfl rfl
theorem dX1_addPond_48 : decode cX1_addPond 48 = .ok (.aload_n 0, 1) := dqn_42 (k := 52) qh_cX1_addPond rfl rfl
theorem dX1_addPond_49 : decode cX1_addPond 49 = .ok (.iload 4, 2) := dqn_21 (k := 50) qh_cX1_addPond rfl rfl rfl
theorem dX1_addPond_51 : decode cX1_addPond 51 = .ok (.iconst 0, 1) := dqn_3 (k := 49) qh_cX1_addPond rfl rfl
theorem dX1_addPond_52 : decode cX1_addPond 52 = .ok (.iload_n 1, 1) := dqn_27 (k := 48) qh_cX1_addPond rfl rfl
theorem dX1_addPond_53 : decode cX1_addPond 53 = .ok (.invokevirtual 46, 3) := dqn_182 (k := 45) qh_cX1_addPond rfl rfl rfl
theorem dX1_addPond_56 : decode cX1_addPond 56 = .ok (.aload_n 0, 1) := dqn_42 (k := 44) qh_cX1_addPond rfl rfl
theorem dX1_addPond_57 : decode cX1_addPond 57 = .ok (.iload 4, 2) := dqn_21 (k := 42) qh_cX1_addPond rfl rfl rfl
theorem dX1_addPond_59 : decode cX1_addPond 59 = .ok (.iconst 1, 1) := dqn_4 (k := 41) qh_cX1_addPond rfl rfl
theorem dX1_addPond_60 : decode cX1_addPond 60 = .ok (.iload_n 2, 1) := dqn_28 (k := 40) qh_cX1_addPond rfl rfl
theorem dX1_addPond_61 : decode cX1_addPond 61 = .ok (.invokevirtual 46, 3) := dqn_182 (k := 37) qh_cX1_addPond rfl rfl rfl
theorem dX1_addPond_64 : decode cX1_addPond 64 = .ok (.aload_n 0, 1) := dqn_42 (k := 36) qh_cX1_addPond rfl rfl
theorem dX1_addPond_65 : decode cX1_addPond 65 = .ok (.iload 4, 2) := dqn_21 (k := 34) qh_cX1_addPond rfl rfl rfl
theorem dX1_addPond_67 : decode cX1_addPond 67 = .ok (.iconst 2, 1) := dqn_5 (k := 33) qh_cX1_addPond rfl rfl
theorem dX1_addPond_68 : decode cX1_addPond 68 = .ok (.iload_n 3, 1) := dqn_29 (k := 32) qh_cX1_addPond rfl rfl
theorem dX1_addPond_69 : decode cX1_addPond 69 = .ok (.invokevirtual 46, 3) := dqn_182 (k := 29) qh_cX1_addPond rfl rfl rfl
theorem dX1_addPond_72 : decode cX1_addPond 72 = .ok (.aload_n 0, 1) := dqn_42 (k := 28) qh_cX1_addPond rfl rfl
theorem dX1_addPond_73 : decode cX1_addPond 73 = .ok (.iload 4, 2) := dqn_21 (k := 26) qh_cX1_addPond rfl rfl rfl
theorem dX1_addPond_75 : decode cX1_addPond 75 = .ok (.bipush 8, 2) := dqn_16 (k := 24) (u := 8) qh_cX1_addPond rfl rfl rfl (by decide)
theorem dX1_addPond_77 : decode cX1_addPond 77 = .ok (.iconst (-1), 1) := dqn_2 (k := 23) qh_cX1_addPond rfl rfl
theorem dX1_addPond_78 : decode cX1_addPond 78 = .ok (.invokevirtual 46, 3) := dqn_182 (k := 20) qh_cX1_addPond rfl rfl rfl
theorem dX1_addPond_81 : decode cX1_addPond 81 = .ok (.aload_n 0, 1) := dqn_42 (k := 19) qh_cX1_addPond rfl rfl
theorem dX1_addPond_82 : decode cX1_addPond 82 = .ok (.iload 4, 2) := dqn_21 (k := 17) qh_cX1_addPond rfl rfl rfl
theorem dX1_addPond_84 : decode cX1_addPond 84 = .ok (.bipush 9, 2) := dqn_16 (k := 15) (u := 9) qh_cX1_addPond rfl rfl rfl (by decide)
theorem dX1_addPond_86 : decode cX1_addPond 86 = .ok (.iconst (-1), 1) := dqn_2 (k := 14) qh_cX1_addPond rfl rfl
theorem dX1_addPond_87 : decode cX1_addPond 87 = .ok (.invokevirtual 46, 3) := dqn_182 (k := 11) qh_cX1_addPond rfl rfl rfl
theorem dX1_addPond_90 : decode cX1_addPond 90 = .ok (.aload_n 0, 1) := dqn_42 (k := 10) qh_cX1_addPond rfl rfl
theorem dX1_addPond_91 : decode cX1_addPond 91 = .ok (.iload 4, 2) := dqn_21 (k := 8) qh_cX1_addPond rfl rfl rfl
theorem dX1_addPond_93 : decode cX1_addPond 93 = .ok (.bipush 12, 2) := dqn_16 (k := 6) (u := 12) qh_cX1_addPond rfl rfl rfl (by decide)
theorem dX1_addPond_95 : decode cX1_addPond 95 = .ok (.iconst (-1), 1) := dqn_2 (k := 5) qh_cX1_addPond rfl rfl
theorem dX1_addPond_96 : decode cX1_addPond 96 = .ok (.invokevirtual 46, 3) := dqn_182 (k := 2) qh_cX1_addPond rfl rfl rfl
theorem dX1_addPond_99 : decode cX1_addPond 99 = .ok (.iconst 1, 1) := dqn_4 (k := 1) qh_cX1_addPond rfl rfl
theorem dX1_addPond_100 : decode cX1_addPond 100 = .ok (.ireturn, 1) := dqn_172 (k := 0) qh_cX1_addPond rfl rfl
theorem dX1_copy_0 : decode cX1_copy 0 = .ok (.aload_n 0, 1) := dqn_42 (k := 80) qh_cX1_copy rfl rfl
theorem dX1_copy_1 : decode cX1_copy 1 = .ok (.aload_n 1, 1) := dqn_43 (k := 79) qh_cX1_copy rfl rfl
theorem dX1_copy_2 : decode cX1_copy 2 = .ok (.getfield 9, 3) := dqn_180 (k := 76) qh_cX1_copy rfl rfl rfl
theorem dX1_copy_5 : decode cX1_copy 5 = .ok (.putfield 9, 3) := dqn_181 (k := 73) qh_cX1_copy rfl rfl rfl
theorem dX1_copy_8 : decode cX1_copy 8 = .ok (.aload_n 0, 1) := dqn_42 (k := 72) qh_cX1_copy rfl rfl
theorem dX1_copy_9 : decode cX1_copy 9 = .ok (.aload_n 1, 1) := dqn_43 (k := 71) qh_cX1_copy rfl rfl
theorem dX1_copy_10 : decode cX1_copy 10 = .ok (.getfield 19, 3) := dqn_180 (k := 68) qh_cX1_copy rfl rfl rfl
theorem dX1_copy_13 : decode cX1_copy 13 = .ok (.putfield 19, 3) := dqn_181 (k := 65) qh_cX1_copy rfl rfl rfl
theorem dX1_copy_16 : decode cX1_copy 16 = .ok (.aload_n 1, 1) := dqn_43 (k := 64) qh_cX1_copy rfl rfl
theorem dX1_copy_17 : decode cX1_copy 17 = .ok (.getfield 15, 3) := dqn_180 (k := 61) qh_cX1_copy rfl rfl rfl
theorem dX1_copy_20 : decode cX1_copy 20 = .ok (.iconst 0, 1) := dqn_3 (k := 60) qh_cX1_copy rfl rfl
theorem dX1_copy_21 : decode cX1_copy 21 = .ok (.aload_n 0, 1) := dqn_42 (k := 59) qh_cX1_copy rfl rfl
theorem dX1_copy_22 : decode cX1_copy 22 = .ok (.getfield 15, 3) := dqn_180 (k := 56) qh_cX1_copy rfl rfl rfl
theorem dX1_copy_25 : decode cX1_copy 25 = .ok (.iconst 0, 1) := dqn_3 (k := 55) qh_cX1_copy rfl rfl
theorem dX1_copy_26 : decode cX1_copy 26 = .ok (.aload_n 0, 1) := dqn_42 (k := 54) qh_cX1_copy rfl rfl
theorem dX1_copy_27 : decode cX1_copy 27 = .ok (.getfield 15, 3) := dqn_180 (k := 51) qh_cX1_copy rfl rfl rfl
theorem dX1_copy_30 : decode cX1_copy 30 = .ok (.arraylength, 1) := dqn_190 (k := 50) qh_cX1_copy rfl rfl
theorem dX1_copy_31 : decode cX1_copy 31 = .ok (.invokestatic 37, 3) := dqn_184 (k := 47) qh_cX1_copy rfl rfl rfl
theorem dX1_copy_34 : decode cX1_copy 34 = .ok (.aload_n 1, 1) := dqn_43 (k := 46) qh_cX1_copy rfl rfl
theorem dX1_copy_35 : decode cX1_copy 35 = .ok (.getfield 22, 3) := dqn_180 (k := 43) qh_cX1_copy rfl rfl rfl
theorem dX1_copy_38 : decode cX1_copy 38 = .ok (.iconst 0, 1) := dqn_3 (k := 42) qh_cX1_copy rfl rfl
theorem dX1_copy_39 : decode cX1_copy 39 = .ok (.aload_n 0, 1) := dqn_42 (k := 41) qh_cX1_copy rfl rfl
theorem dX1_copy_40 : decode cX1_copy 40 = .ok (.getfield 22, 3) := dqn_180 (k := 38) qh_cX1_copy rfl rfl rfl
theorem dX1_copy_43 : decode cX1_copy 43 = .ok (.iconst 0, 1) := dqn_3 (k := 37) qh_cX1_copy rfl rfl
theorem dX1_copy_44 : decode cX1_copy 44 = .ok (.iconst 4, 1) := dqn_7 (k := 36) qh_cX1_copy rfl rfl
theorem dX1_copy_45 : decode cX1_copy 45 = .ok (.invokestatic 37, 3) := dqn_184 (k := 33) qh_cX1_copy rfl rfl rfl
theorem dX1_copy_48 : decode cX1_copy 48 = .ok (.aload_n 1, 1) := dqn_43 (k := 32) qh_cX1_copy rfl rfl
theorem dX1_copy_49 : decode cX1_copy 49 = .ok (.getfield 25, 3) := dqn_180 (k := 29) qh_cX1_copy rfl rfl rfl
theorem dX1_copy_52 : decode cX1_copy 52 = .ok (.iconst 0, 1) := dqn_3 (k := 28) qh_cX1_copy rfl rfl
theorem dX1_copy_53 : decode cX1_copy 53 = .ok (.aload_n 0, 1) := dqn_42 (k := 27) qh_cX1_copy rfl rfl
theorem dX1_copy_54 : decode cX1_copy 54 = .ok (.getfield 25, 3) := dqn_180 (k := 24) qh_cX1_copy rfl rfl rfl
theorem dX1_copy_57 : decode cX1_copy 57 = .ok (.iconst 0, 1) := dqn_3 (k := 23) qh_cX1_copy rfl rfl
theorem dX1_copy_58 : decode cX1_copy 58 = .ok (.iconst 4, 1) := dqn_7 (k := 22) qh_cX1_copy rfl rfl
theorem dX1_copy_59 : decode cX1_copy 59 = .ok (.invokestatic 37, 3) := dqn_184 (k := 19) qh_cX1_copy rfl rfl rfl
theorem dX1_copy_62 : decode cX1_copy 62 = .ok (.aload_n 1, 1) := dqn_43 (k := 18) qh_cX1_copy rfl rfl
theorem dX1_copy_63 : decode cX1_copy 63 = .ok (.getfield 28, 3) := dqn_180 (k := 15) qh_cX1_copy rfl rfl rfl
theorem dX1_copy_66 : decode cX1_copy 66 = .ok (.iconst 0, 1) := dqn_3 (k := 14) qh_cX1_copy rfl rfl
theorem dX1_copy_67 : decode cX1_copy 67 = .ok (.aload_n 0, 1) := dqn_42 (k := 13) qh_cX1_copy rfl rfl
theorem dX1_copy_68 : decode cX1_copy 68 = .ok (.getfield 28, 3) := dqn_180 (k := 10) qh_cX1_copy rfl rfl rfl
theorem dX1_copy_71 : decode cX1_copy 71 = .ok (.iconst 0, 1) := dqn_3 (k := 9) qh_cX1_copy rfl rfl
theorem dX1_copy_72 : decode cX1_copy 72 = .ok (.aload_n 0, 1) := dqn_42 (k := 8) qh_cX1_copy rfl rfl
theorem dX1_copy_73 : decode cX1_copy 73 = .ok (.getfield 28, 3) := dqn_180 (k := 5) qh_cX1_copy rfl rfl rfl
theorem dX1_copy_76 : decode cX1_copy 76 = .ok (.arraylength, 1) := dqn_190 (k := 4) qh_cX1_copy rfl rfl
theorem dX1_copy_77 : decode cX1_copy 77 = .ok (.invokestatic 37, 3) := dqn_184 (k := 1) qh_cX1_copy rfl rfl rfl
theorem dX1_copy_80 : decode cX1_copy 80 = .ok (.return_, 1) := dqn_177 (k := 0) qh_cX1_copy rfl rfl
theorem dX8_clear_0 : decode cX8_clear 0 = .ok (.aload_n 0, 1) := dqn_42 (k := 5) qh_cX8_clear rfl rfl
theorem dX8_clear_1 : decode cX8_clear 1 = .ok (.iconst 0, 1) := dqn_3 (k := 4) qh_cX8_clear rfl rfl
theorem dX8_clear_2 : decode cX8_clear 2 = .ok (.putfield 9, 3) := dqn_181 (k := 1) qh_cX8_clear rfl rfl rfl
theorem dX8_clear_5 : decode cX8_clear 5 = .ok (.return_, 1) := dqn_177 (k := 0) qh_cX8_clear rfl rfl
theorem dX8_add_0 : decode cX8_add 0 = .ok (.aload_n 0, 1) := dqn_42 (k := 52) qh_cX8_add rfl rfl
theorem dX8_add_1 : decode cX8_add 1 = .ok (.getfield 9, 3) := dqn_180 (k := 49) qh_cX8_add rfl rfl rfl
theorem dX8_add_4 : decode cX8_add 4 = .ok (.bipush 12, 2) := dqn_16 (k := 47) (u := 12) qh_cX8_add rfl rfl rfl (by decide)
theorem dX8_add_6 : decode cX8_add 6 = .ok (.if_icmp .lt 5, 3) := dqn_161 (k := 44) (u := 5) qh_cX8_add rfl rfl rfl (sg_p rfl rfl)
theorem dX8_add_9 : decode cX8_add 9 = .ok (.iconst 0, 1) := dqn_3 (k := 43) qh_cX8_add rfl rfl
theorem dX8_add_10 : decode cX8_add 10 = .ok (.ireturn, 1) := dqn_172 (k := 42) qh_cX8_add rfl rfl
theorem dX8_add_11 : decode cX8_add 11 = .ok (.aload_n 0, 1) := dqn_42 (k := 41) qh_cX8_add rfl rfl
theorem dX8_add_12 : decode cX8_add 12 = .ok (.getfield 15, 3) := dqn_180 (k := 38) qh_cX8_add rfl rfl rfl
theorem dX8_add_15 : decode cX8_add 15 = .ok (.aload_n 0, 1) := dqn_42 (k := 37) qh_cX8_add rfl rfl
theorem dX8_add_16 : decode cX8_add 16 = .ok (.getfield 9, 3) := dqn_180 (k := 34) qh_cX8_add rfl rfl rfl
theorem dX8_add_19 : decode cX8_add 19 = .ok (.iload_n 1, 1) := dqn_27 (k := 33) qh_cX8_add rfl rfl
theorem dX8_add_20 : decode cX8_add 20 = .ok (.iastore, 1) := dqn_79 (k := 32) qh_cX8_add rfl rfl
theorem dX8_add_21 : decode cX8_add 21 = .ok (.aload_n 0, 1) := dqn_42 (k := 31) qh_cX8_add rfl rfl
theorem dX8_add_22 : decode cX8_add 22 = .ok (.getfield 19, 3) := dqn_180 (k := 28) qh_cX8_add rfl rfl rfl
theorem dX8_add_25 : decode cX8_add 25 = .ok (.aload_n 0, 1) := dqn_42 (k := 27) qh_cX8_add rfl rfl
theorem dX8_add_26 : decode cX8_add 26 = .ok (.getfield 9, 3) := dqn_180 (k := 24) qh_cX8_add rfl rfl rfl
theorem dX8_add_29 : decode cX8_add 29 = .ok (.iload_n 2, 1) := dqn_28 (k := 23) qh_cX8_add rfl rfl
theorem dX8_add_30 : decode cX8_add 30 = .ok (.iastore, 1) := dqn_79 (k := 22) qh_cX8_add rfl rfl
theorem dX8_add_31 : decode cX8_add 31 = .ok (.aload_n 0, 1) := dqn_42 (k := 21) qh_cX8_add rfl rfl
theorem dX8_add_32 : decode cX8_add 32 = .ok (.getfield 22, 3) := dqn_180 (k := 18) qh_cX8_add rfl rfl rfl
theorem dX8_add_35 : decode cX8_add 35 = .ok (.aload_n 0, 1) := dqn_42 (k := 17) qh_cX8_add rfl rfl
theorem dX8_add_36 : decode cX8_add 36 = .ok (.getfield 9, 3) := dqn_180 (k := 14) qh_cX8_add rfl rfl rfl
theorem dX8_add_39 : decode cX8_add 39 = .ok (.iload_n 3, 1) := dqn_29 (k := 13) qh_cX8_add rfl rfl
theorem dX8_add_40 : decode cX8_add 40 = .ok (.iastore, 1) := dqn_79 (k := 12) qh_cX8_add rfl rfl
theorem dX8_add_41 : decode cX8_add 41 = .ok (.aload_n 0, 1) := dqn_42 (k := 11) qh_cX8_add rfl rfl
theorem dX8_add_42 : decode cX8_add 42 = .ok (.dup, 1) := dqn_89 (k := 10) qh_cX8_add rfl rfl
theorem dX8_add_43 : decode cX8_add 43 = .ok (.getfield 9, 3) := dqn_180 (k := 7) qh_cX8_add rfl rfl rfl
theorem dX8_add_46 : decode cX8_add 46 = .ok (.iconst 1, 1) := dqn_4 (k := 6) qh_cX8_add rfl rfl
theorem dX8_add_47 : decode cX8_add 47 = .ok (.iadd, 1) := dqn_96 (k := 5) qh_cX8_add rfl rfl
theorem dX8_add_48 : decode cX8_add 48 = .ok (.putfield 9, 3) := dqn_181 (k := 2) qh_cX8_add rfl rfl rfl
theorem dX8_add_51 : decode cX8_add 51 = .ok (.iconst 1, 1) := dqn_4 (k := 1) qh_cX8_add rfl rfl
theorem dX8_add_52 : decode cX8_add 52 = .ok (.ireturn, 1) := dqn_172 (k := 0) qh_cX8_add rfl rfl
theorem dX8_copy_0 : decode cX8_copy 0 = .ok (.aload_n 0, 1) := dqn_42 (k := 53) qh_cX8_copy rfl rfl
theorem dX8_copy_1 : decode cX8_copy 1 = .ok (.aload_n 1, 1) := dqn_43 (k := 52) qh_cX8_copy rfl rfl
theorem dX8_copy_2 : decode cX8_copy 2 = .ok (.getfield 9, 3) := dqn_180 (k := 49) qh_cX8_copy rfl rfl rfl
theorem dX8_copy_5 : decode cX8_copy 5 = .ok (.putfield 9, 3) := dqn_181 (k := 46) qh_cX8_copy rfl rfl rfl
theorem dX8_copy_8 : decode cX8_copy 8 = .ok (.aload_n 1, 1) := dqn_43 (k := 45) qh_cX8_copy rfl rfl
theorem dX8_copy_9 : decode cX8_copy 9 = .ok (.getfield 15, 3) := dqn_180 (k := 42) qh_cX8_copy rfl rfl rfl
theorem dX8_copy_12 : decode cX8_copy 12 = .ok (.iconst 0, 1) := dqn_3 (k := 41) qh_cX8_copy rfl rfl
theorem dX8_copy_13 : decode cX8_copy 13 = .ok (.aload_n 0, 1) := dqn_42 (k := 40) qh_cX8_copy rfl rfl
theorem dX8_copy_14 : decode cX8_copy 14 = .ok (.getfield 15, 3) := dqn_180 (k := 37) qh_cX8_copy rfl rfl rfl
theorem dX8_copy_17 : decode cX8_copy 17 = .ok (.iconst 0, 1) := dqn_3 (k := 36) qh_cX8_copy rfl rfl
theorem dX8_copy_18 : decode cX8_copy 18 = .ok (.bipush 12, 2) := dqn_16 (k := 34) (u := 12) qh_cX8_copy rfl rfl rfl (by decide)
theorem dX8_copy_20 : decode cX8_copy 20 = .ok (.invokestatic 25, 3) := dqn_184 (k := 31) qh_cX8_copy rfl rfl rfl
theorem dX8_copy_23 : decode cX8_copy 23 = .ok (.aload_n 1, 1) := dqn_43 (k := 30) qh_cX8_copy rfl rfl
theorem dX8_copy_24 : decode cX8_copy 24 = .ok (.getfield 19, 3) := dqn_180 (k := 27) qh_cX8_copy rfl rfl rfl
theorem dX8_copy_27 : decode cX8_copy 27 = .ok (.iconst 0, 1) := dqn_3 (k := 26) qh_cX8_copy rfl rfl
theorem dX8_copy_28 : decode cX8_copy 28 = .ok (.aload_n 0, 1) := dqn_42 (k := 25) qh_cX8_copy rfl rfl
theorem dX8_copy_29 : decode cX8_copy 29 = .ok (.getfield 19, 3) := dqn_180 (k := 22) qh_cX8_copy rfl rfl rfl
theorem dX8_copy_32 : decode cX8_copy 32 = .ok (.iconst 0, 1) := dqn_3 (k := 21) qh_cX8_copy rfl rfl
theorem dX8_copy_33 : decode cX8_copy 33 = .ok (.bipush 12, 2) := dqn_16 (k := 19) (u := 12) qh_cX8_copy rfl rfl rfl (by decide)
theorem dX8_copy_35 : decode cX8_copy 35 = .ok (.invokestatic 25, 3) := dqn_184 (k := 16) qh_cX8_copy rfl rfl rfl
theorem dX8_copy_38 : decode cX8_copy 38 = .ok (.aload_n 1, 1) := dqn_43 (k := 15) qh_cX8_copy rfl rfl
theorem dX8_copy_39 : decode cX8_copy 39 = .ok (.getfield 22, 3) := dqn_180 (k := 12) qh_cX8_copy rfl rfl rfl
theorem dX8_copy_42 : decode cX8_copy 42 = .ok (.iconst 0, 1) := dqn_3 (k := 11) qh_cX8_copy rfl rfl
theorem dX8_copy_43 : decode cX8_copy 43 = .ok (.aload_n 0, 1) := dqn_42 (k := 10) qh_cX8_copy rfl rfl
theorem dX8_copy_44 : decode cX8_copy 44 = .ok (.getfield 22, 3) := dqn_180 (k := 7) qh_cX8_copy rfl rfl rfl
theorem dX8_copy_47 : decode cX8_copy 47 = .ok (.iconst 0, 1) := dqn_3 (k := 6) qh_cX8_copy rfl rfl
theorem dX8_copy_48 : decode cX8_copy 48 = .ok (.bipush 12, 2) := dqn_16 (k := 4) (u := 12) qh_cX8_copy rfl rfl rfl (by decide)
theorem dX8_copy_50 : decode cX8_copy 50 = .ok (.invokestatic 25, 3) := dqn_184 (k := 1) qh_cX8_copy rfl rfl rfl
theorem dX8_copy_53 : decode cX8_copy 53 = .ok (.return_, 1) := dqn_177 (k := 0) qh_cX8_copy rfl rfl
theorem dX8_told_0 : decode cX8_told 0 = .ok (.iload_n 1, 1) := dqn_27 (k := 67) qh_cX8_told rfl rfl
theorem dX8_told_1 : decode cX8_told 1 = .ok (.ifCond .lt 11, 3) := dqn_155 (k := 64) (u := 11) qh_cX8_told rfl rfl rfl (sg_p rfl rfl)
theorem dX8_told_4 : decode cX8_told 4 = .ok (.iload_n 1, 1) := dqn_27 (k := 63) qh_cX8_told rfl rfl
theorem dX8_told_5 : decode cX8_told 5 = .ok (.aload_n 0, 1) := dqn_42 (k := 62) qh_cX8_told rfl rfl
theorem dX8_told_6 : decode cX8_told 6 = .ok (.getfield 9, 3) := dqn_180 (k := 59) qh_cX8_told rfl rfl rfl
theorem dX8_told_9 : decode cX8_told 9 = .ok (.if_icmp .lt 6, 3) := dqn_161 (k := 56) (u := 6) qh_cX8_told rfl rfl rfl (sg_p rfl rfl)
theorem dX8_told_12 : decode cX8_told 12 = .ok (.bipush (-2), 2) := dqn_16 (k := 54) (u := 254) qh_cX8_told rfl rfl rfl (by decide)
theorem dX8_told_14 : decode cX8_told 14 = .ok (.ireturn, 1) := dqn_172 (k := 53) qh_cX8_told rfl rfl
theorem dX8_told_15 : decode cX8_told 15 = .ok (.iload_n 2, 1) := dqn_28 (k := 52) qh_cX8_told rfl rfl
theorem dX8_told_16 : decode cX8_told 16 = .ok (.tableswitch 49 0 2 #[28, 35, 42], 28) := by decide +kernel
theorem dX8_told_44 : decode cX8_told 44 = .ok (.aload_n 0, 1) := dqn_42 (k := 23) qh_cX8_told rfl rfl
theorem dX8_told_45 : decode cX8_told 45 = .ok (.getfield 15, 3) := dqn_180 (k := 20) qh_cX8_told rfl rfl rfl
theorem dX8_told_48 : decode cX8_told 48 = .ok (.iload_n 1, 1) := dqn_27 (k := 19) qh_cX8_told rfl rfl
theorem dX8_told_49 : decode cX8_told 49 = .ok (.iaload, 1) := dqn_46 (k := 18) qh_cX8_told rfl rfl
theorem dX8_told_50 : decode cX8_told 50 = .ok (.ireturn, 1) := dqn_172 (k := 17) qh_cX8_told rfl rfl
theorem dX8_told_51 : decode cX8_told 51 = .ok (.aload_n 0, 1) := dqn_42 (k := 16) qh_cX8_told rfl rfl
theorem dX8_told_52 : decode cX8_told 52 = .ok (.getfield 19, 3) := dqn_180 (k := 13) qh_cX8_told rfl rfl rfl
theorem dX8_told_55 : decode cX8_told 55 = .ok (.iload_n 1, 1) := dqn_27 (k := 12) qh_cX8_told rfl rfl
theorem dX8_told_56 : decode cX8_told 56 = .ok (.iaload, 1) := dqn_46 (k := 11) qh_cX8_told rfl rfl
theorem dX8_told_57 : decode cX8_told 57 = .ok (.ireturn, 1) := dqn_172 (k := 10) qh_cX8_told rfl rfl
theorem dX8_told_58 : decode cX8_told 58 = .ok (.aload_n 0, 1) := dqn_42 (k := 9) qh_cX8_told rfl rfl
theorem dX8_told_59 : decode cX8_told 59 = .ok (.getfield 22, 3) := dqn_180 (k := 6) qh_cX8_told rfl rfl rfl
theorem dX8_told_62 : decode cX8_told 62 = .ok (.iload_n 1, 1) := dqn_27 (k := 5) qh_cX8_told rfl rfl
theorem dX8_told_63 : decode cX8_told 63 = .ok (.iaload, 1) := dqn_46 (k := 4) qh_cX8_told rfl rfl
theorem dX8_told_64 : decode cX8_told 64 = .ok (.ireturn, 1) := dqn_172 (k := 3) qh_cX8_told rfl rfl
theorem dX8_told_65 : decode cX8_told 65 = .ok (.bipush (-2), 2) := dqn_16 (k := 1) (u := 254) qh_cX8_told rfl rfl rfl (by decide)
theorem dX8_told_67 : decode cX8_told 67 = .ok (.ireturn, 1) := dqn_172 (k := 0) qh_cX8_told rfl rfl
theorem dX5_hears_0 : decode cX5_hears 0 = .ok (.aload_n 1, 1) := dqn_43 (k := 100) qh_cX5_hears rfl rfl
theorem dX5_hears_1 : decode cX5_hears 1 = .ok (.iload_n 2, 1) := dqn_28 (k := 99) qh_cX5_hears rfl rfl
theorem dX5_hears_2 : decode cX5_hears 2 = .ok (.bipush 12, 2) := dqn_16 (k := 97) (u := 12) qh_cX5_hears rfl rfl rfl (by decide)
theorem dX5_hears_4 : decode cX5_hears 4 = .ok (.invokevirtual 47, 3) := dqn_182 (k := 94) qh_cX5_hears rfl rfl rfl
theorem dX5_hears_7 : decode cX5_hears 7 = .ok (.istore_n 3, 1) := dqn_62 (k := 93) qh_cX5_hears rfl rfl
theorem dX5_hears_8 : decode cX5_hears 8 = .ok (.iload_n 3, 1) := dqn_29 (k := 92) qh_cX5_hears rfl rfl
theorem dX5_hears_9 : decode cX5_hears 9 = .ok (.iconst (-1), 1) := dqn_2 (k := 91) qh_cX5_hears rfl rfl
theorem dX5_hears_10 : decode cX5_hears 10 = .ok (.if_icmp .eq 10, 3) := dqn_159 (k := 88) (u := 10) qh_cX5_hears rfl rfl rfl (sg_p rfl rfl)
theorem dX5_hears_13 : decode cX5_hears 13 = .ok (.aload_n 0, 1) := dqn_42 (k := 87) qh_cX5_hears rfl rfl
theorem dX5_hears_14 : decode cX5_hears 14 = .ok (.getfield 15, 3) := dqn_180 (k := 84) qh_cX5_hears rfl rfl rfl
theorem dX5_hears_17 : decode cX5_hears 17 = .ok (.ifCond .ne 5, 3) := dqn_154 (k := 81) (u := 5) qh_cX5_hears rfl rfl rfl (sg_p rfl rfl)
theorem dX5_hears_20 : decode cX5_hears 20 = .ok (.iconst 0, 1) := dqn_3 (k := 80) qh_cX5_hears rfl rfl
theorem dX5_hears_21 : decode cX5_hears 21 = .ok (.ireturn, 1) := dqn_172 (k := 79) qh_cX5_hears rfl rfl
theorem dX5_hears_22 : decode cX5_hears 22 = .ok (.iconst 0, 1) := dqn_3 (k := 78) qh_cX5_hears rfl rfl
theorem dX5_hears_23 : decode cX5_hears 23 = .ok (.istore 4, 2) := dqn_54 (k := 76) qh_cX5_hears rfl rfl rfl
theorem dX5_hears_25 : decode cX5_hears 25 = .ok (.iload 4, 2) := dqn_21 (k := 74) qh_cX5_hears rfl rfl rfl
theorem dX5_hears_27 : decode cX5_hears 27 = .ok (.iload_n 2, 1) := dqn_28 (k := 73) qh_cX5_hears rfl rfl
theorem dX5_hears_28 : decode cX5_hears 28 = .ok (.if_icmp .ge 71, 3) := dqn_162 (k := 70) (u := 71) qh_cX5_hears rfl rfl rfl (sg_p rfl rfl)
theorem dX5_hears_31 : decode cX5_hears 31 = .ok (.aload_n 1, 1) := dqn_43 (k := 69) qh_cX5_hears rfl rfl
theorem dX5_hears_32 : decode cX5_hears 32 = .ok (.iload 4, 2) := dqn_21 (k := 67) qh_cX5_hears rfl rfl rfl
theorem dX5_hears_34 : decode cX5_hears 34 = .ok (.bipush 8, 2) := dqn_16 (k := 65) (u := 8) qh_cX5_hears rfl rfl rfl (by decide)
theorem dX5_hears_36 : decode cX5_hears 36 = .ok (.invokevirtual 47, 3) := dqn_182 (k := 62) qh_cX5_hears rfl rfl rfl
theorem dX5_hears_39 : decode cX5_hears 39 = .ok (.iload_n 2, 1) := dqn_28 (k := 61) qh_cX5_hears rfl rfl
theorem dX5_hears_40 : decode cX5_hears 40 = .ok (.if_icmp .eq 15, 3) := dqn_159 (k := 58) (u := 15) qh_cX5_hears rfl rfl rfl (sg_p rfl rfl)
theorem dX5_hears_43 : decode cX5_hears 43 = .ok (.aload_n 1, 1) := dqn_43 (k := 57) qh_cX5_hears rfl rfl
theorem dX5_hears_44 : decode cX5_hears 44 = .ok (.iload 4, 2) := dqn_21 (k := 55) qh_cX5_hears rfl rfl rfl
theorem dX5_hears_46 : decode cX5_hears 46 = .ok (.bipush 9, 2) := dqn_16 (k := 53) (u := 9) qh_cX5_hears rfl rfl rfl (by decide)
theorem dX5_hears_48 : decode cX5_hears 48 = .ok (.invokevirtual 47, 3) := dqn_182 (k := 50) qh_cX5_hears rfl rfl rfl
theorem dX5_hears_51 : decode cX5_hears 51 = .ok (.iload_n 2, 1) := dqn_28 (k := 49) qh_cX5_hears rfl rfl
theorem dX5_hears_52 : decode cX5_hears 52 = .ok (.if_icmp .ne 7, 3) := dqn_160 (k := 46) (u := 7) qh_cX5_hears rfl rfl rfl (sg_p rfl rfl)
theorem dX5_hears_55 : decode cX5_hears 55 = .ok (.iconst 1, 1) := dqn_4 (k := 45) qh_cX5_hears rfl rfl
theorem dX5_hears_56 : decode cX5_hears 56 = .ok (.goto 4, 3) := dqn_167 (k := 42) (u := 4) qh_cX5_hears rfl rfl rfl (sg_p rfl rfl)
theorem dX5_hears_59 : decode cX5_hears 59 = .ok (.iconst 0, 1) := dqn_3 (k := 41) qh_cX5_hears rfl rfl
theorem dX5_hears_60 : decode cX5_hears 60 = .ok (.istore 5, 2) := dqn_54 (k := 39) qh_cX5_hears rfl rfl rfl
theorem dX5_hears_62 : decode cX5_hears 62 = .ok (.iload 5, 2) := dqn_21 (k := 37) qh_cX5_hears rfl rfl rfl
theorem dX5_hears_64 : decode cX5_hears 64 = .ok (.ifCond .eq 29, 3) := dqn_153 (k := 34) (u := 29) qh_cX5_hears rfl rfl rfl (sg_p rfl rfl)
theorem dX5_hears_67 : decode cX5_hears 67 = .ok (.aload_n 0, 1) := dqn_42 (k := 33) qh_cX5_hears rfl rfl
theorem dX5_hears_68 : decode cX5_hears 68 = .ok (.getfield 15, 3) := dqn_180 (k := 30) qh_cX5_hears rfl rfl rfl
theorem dX5_hears_71 : decode cX5_hears 71 = .ok (.iload 4, 2) := dqn_21 (k := 28) qh_cX5_hears rfl rfl rfl
theorem dX5_hears_73 : decode cX5_hears 73 = .ok (.invokestatic 70, 3) := dqn_184 (k := 25) qh_cX5_hears rfl rfl rfl
theorem dX5_hears_76 : decode cX5_hears 76 = .ok (.ifCond .eq 17, 3) := dqn_153 (k := 22) (u := 17) qh_cX5_hears rfl rfl rfl (sg_p rfl rfl)
theorem dX5_hears_79 : decode cX5_hears 79 = .ok (.aload_n 1, 1) := dqn_43 (k := 21) qh_cX5_hears rfl rfl
theorem dX5_hears_80 : decode cX5_hears 80 = .ok (.iload 4, 2) := dqn_21 (k := 19) qh_cX5_hears rfl rfl rfl
theorem dX5_hears_82 : decode cX5_hears 82 = .ok (.bipush 11, 2) := dqn_16 (k := 17) (u := 11) qh_cX5_hears rfl rfl rfl (by decide)
theorem dX5_hears_84 : decode cX5_hears 84 = .ok (.invokevirtual 47, 3) := dqn_182 (k := 14) qh_cX5_hears rfl rfl rfl
theorem dX5_hears_87 : decode cX5_hears 87 = .ok (.iload_n 3, 1) := dqn_29 (k := 13) qh_cX5_hears rfl rfl
theorem dX5_hears_88 : decode cX5_hears 88 = .ok (.if_icmp .lt 5, 3) := dqn_161 (k := 10) (u := 5) qh_cX5_hears rfl rfl rfl (sg_p rfl rfl)
theorem dX5_hears_91 : decode cX5_hears 91 = .ok (.iconst 1, 1) := dqn_4 (k := 9) qh_cX5_hears rfl rfl
theorem dX5_hears_92 : decode cX5_hears 92 = .ok (.ireturn, 1) := dqn_172 (k := 8) qh_cX5_hears rfl rfl
theorem dX5_hears_93 : decode cX5_hears 93 = .ok (.iinc 4 1, 3) := dqn_132 (k := 5) (u := 1) qh_cX5_hears rfl rfl rfl rfl (by decide)
theorem dX5_hears_96 : decode cX5_hears 96 = .ok (.goto (-71), 3) := dqn_167 (k := 2) (u := 65465) qh_cX5_hears rfl rfl rfl (sg_n (k := 71) rfl rfl rfl)
theorem dX5_hears_99 : decode cX5_hears 99 = .ok (.iconst 0, 1) := dqn_3 (k := 1) qh_cX5_hears rfl rfl
theorem dX5_hears_100 : decode cX5_hears 100 = .ok (.ireturn, 1) := dqn_172 (k := 0) qh_cX5_hears rfl rfl
theorem dX5_goes_0 : decode cX5_goes 0 = .ok (.aload_n 1, 1) := dqn_43 (k := 48) qh_cX5_goes rfl rfl
theorem dX5_goes_1 : decode cX5_goes 1 = .ok (.iload_n 2, 1) := dqn_28 (k := 47) qh_cX5_goes rfl rfl
theorem dX5_goes_2 : decode cX5_goes 2 = .ok (.bipush 15, 2) := dqn_16 (k := 45) (u := 15) qh_cX5_goes rfl rfl rfl (by decide)
theorem dX5_goes_4 : decode cX5_goes 4 = .ok (.invokevirtual 47, 3) := dqn_182 (k := 42) qh_cX5_goes rfl rfl rfl
theorem dX5_goes_7 : decode cX5_goes 7 = .ok (.iconst 1, 1) := dqn_4 (k := 41) qh_cX5_goes rfl rfl
theorem dX5_goes_8 : decode cX5_goes 8 = .ok (.if_icmp .ne 5, 3) := dqn_160 (k := 38) (u := 5) qh_cX5_goes rfl rfl rfl (sg_p rfl rfl)
theorem dX5_goes_11 : decode cX5_goes 11 = .ok (.iconst 0, 1) := dqn_3 (k := 37) qh_cX5_goes rfl rfl
theorem dX5_goes_12 : decode cX5_goes 12 = .ok (.ireturn, 1) := dqn_172 (k := 36) qh_cX5_goes rfl rfl
theorem dX5_goes_13 : decode cX5_goes 13 = .ok (.iload_n 3, 1) := dqn_29 (k := 35) qh_cX5_goes rfl rfl
theorem dX5_goes_14 : decode cX5_goes 14 = .ok (.iload_n 2, 1) := dqn_28 (k := 34) qh_cX5_goes rfl rfl
theorem dX5_goes_15 : decode cX5_goes 15 = .ok (.invokestatic 70, 3) := dqn_184 (k := 31) qh_cX5_goes rfl rfl rfl
theorem dX5_goes_18 : decode cX5_goes 18 = .ok (.ifCond .ne 25, 3) := dqn_154 (k := 28) (u := 25) qh_cX5_goes rfl rfl rfl (sg_p rfl rfl)
theorem dX5_goes_21 : decode cX5_goes 21 = .ok (.aload_n 0, 1) := dqn_42 (k := 27) qh_cX5_goes rfl rfl
theorem dX5_goes_22 : decode cX5_goes 22 = .ok (.getfield 27, 3) := dqn_180 (k := 24) qh_cX5_goes rfl rfl rfl
theorem dX5_goes_25 : decode cX5_goes 25 = .ok (.iload_n 2, 1) := dqn_28 (k := 23) qh_cX5_goes rfl rfl
theorem dX5_goes_26 : decode cX5_goes 26 = .ok (.iaload, 1) := dqn_46 (k := 22) qh_cX5_goes rfl rfl
theorem dX5_goes_27 : decode cX5_goes 27 = .ok (.aload_n 1, 1) := dqn_43 (k := 21) qh_cX5_goes rfl rfl
theorem dX5_goes_28 : decode cX5_goes 28 = .ok (.iload_n 2, 1) := dqn_28 (k := 20) qh_cX5_goes rfl rfl
theorem dX5_goes_29 : decode cX5_goes 29 = .ok (.iconst 0, 1) := dqn_3 (k := 19) qh_cX5_goes rfl rfl
theorem dX5_goes_30 : decode cX5_goes 30 = .ok (.invokevirtual 47, 3) := dqn_182 (k := 16) qh_cX5_goes rfl rfl rfl
theorem dX5_goes_33 : decode cX5_goes 33 = .ok (.isub, 1) := dqn_100 (k := 15) qh_cX5_goes rfl rfl
theorem dX5_goes_34 : decode cX5_goes 34 = .ok (.aload_n 1, 1) := dqn_43 (k := 14) qh_cX5_goes rfl rfl
theorem dX5_goes_35 : decode cX5_goes 35 = .ok (.iload_n 2, 1) := dqn_28 (k := 13) qh_cX5_goes rfl rfl
theorem dX5_goes_36 : decode cX5_goes 36 = .ok (.iconst 3, 1) := dqn_6 (k := 12) qh_cX5_goes rfl rfl
theorem dX5_goes_37 : decode cX5_goes 37 = .ok (.invokevirtual 47, 3) := dqn_182 (k := 9) qh_cX5_goes rfl rfl rfl
theorem dX5_goes_40 : decode cX5_goes 40 = .ok (.if_icmp .le 7, 3) := dqn_164 (k := 6) (u := 7) qh_cX5_goes rfl rfl rfl (sg_p rfl rfl)
theorem dX5_goes_43 : decode cX5_goes 43 = .ok (.iconst 1, 1) := dqn_4 (k := 5) qh_cX5_goes rfl rfl
theorem dX5_goes_44 : decode cX5_goes 44 = .ok (.goto 4, 3) := dqn_167 (k := 2) (u := 4) qh_cX5_goes rfl rfl rfl (sg_p rfl rfl)
theorem dX5_goes_47 : decode cX5_goes 47 = .ok (.iconst 0, 1) := dqn_3 (k := 1) qh_cX5_goes rfl rfl
theorem dX5_goes_48 : decode cX5_goes 48 = .ok (.ireturn, 1) := dqn_172 (k := 0) qh_cX5_goes rfl rfl
theorem dX5_leaving_0 : decode cX5_leaving 0 = .ok (.iload_n 3, 1) := dqn_29 (k := 52) qh_cX5_leaving rfl rfl
theorem dX5_leaving_1 : decode cX5_leaving 1 = .ok (.ifCond .eq 5, 3) := dqn_153 (k := 49) (u := 5) qh_cX5_leaving rfl rfl rfl (sg_p rfl rfl)
theorem dX5_leaving_4 : decode cX5_leaving 4 = .ok (.iconst 0, 1) := dqn_3 (k := 48) qh_cX5_leaving rfl rfl
theorem dX5_leaving_5 : decode cX5_leaving 5 = .ok (.ireturn, 1) := dqn_172 (k := 47) qh_cX5_leaving rfl rfl
theorem dX5_leaving_6 : decode cX5_leaving 6 = .ok (.aload_n 0, 1) := dqn_42 (k := 46) qh_cX5_leaving rfl rfl
theorem dX5_leaving_7 : decode cX5_leaving 7 = .ok (.getfield 15, 3) := dqn_180 (k := 43) qh_cX5_leaving rfl rfl rfl
theorem dX5_leaving_10 : decode cX5_leaving 10 = .ok (.iload_n 2, 1) := dqn_28 (k := 42) qh_cX5_leaving rfl rfl
theorem dX5_leaving_11 : decode cX5_leaving 11 = .ok (.invokestatic 70, 3) := dqn_184 (k := 39) qh_cX5_leaving rfl rfl rfl
theorem dX5_leaving_14 : decode cX5_leaving 14 = .ok (.ifCond .ne 14, 3) := dqn_154 (k := 36) (u := 14) qh_cX5_leaving rfl rfl rfl (sg_p rfl rfl)
theorem dX5_leaving_17 : decode cX5_leaving 17 = .ok (.aload_n 1, 1) := dqn_43 (k := 35) qh_cX5_leaving rfl rfl
theorem dX5_leaving_18 : decode cX5_leaving 18 = .ok (.iload_n 2, 1) := dqn_28 (k := 34) qh_cX5_leaving rfl rfl
theorem dX5_leaving_19 : decode cX5_leaving 19 = .ok (.bipush 15, 2) := dqn_16 (k := 32) (u := 15) qh_cX5_leaving rfl rfl rfl (by decide)
theorem dX5_leaving_21 : decode cX5_leaving 21 = .ok (.invokevirtual 47, 3) := dqn_182 (k := 29) qh_cX5_leaving rfl rfl rfl
theorem dX5_leaving_24 : decode cX5_leaving 24 = .ok (.iconst 1, 1) := dqn_4 (k := 28) qh_cX5_leaving rfl rfl
theorem dX5_leaving_25 : decode cX5_leaving 25 = .ok (.if_icmp .ne 10, 3) := dqn_160 (k := 25) (u := 10) qh_cX5_leaving rfl rfl rfl (sg_p rfl rfl)
theorem dX5_leaving_28 : decode cX5_leaving 28 = .ok (.aload_n 0, 1) := dqn_42 (k := 24) qh_cX5_leaving rfl rfl
theorem dX5_leaving_29 : decode cX5_leaving 29 = .ok (.getfield 27, 3) := dqn_180 (k := 21) qh_cX5_leaving rfl rfl rfl
theorem dX5_leaving_32 : decode cX5_leaving 32 = .ok (.iload_n 2, 1) := dqn_28 (k := 20) qh_cX5_leaving rfl rfl
theorem dX5_leaving_33 : decode cX5_leaving 33 = .ok (.iaload, 1) := dqn_46 (k := 19) qh_cX5_leaving rfl rfl
theorem dX5_leaving_34 : decode cX5_leaving 34 = .ok (.ireturn, 1) := dqn_172 (k := 18) qh_cX5_leaving rfl rfl
theorem dX5_leaving_35 : decode cX5_leaving 35 = .ok (.iconst 0, 1) := dqn_3 (k := 17) qh_cX5_leaving rfl rfl
theorem dX5_leaving_36 : decode cX5_leaving 36 = .ok (.aload_n 0, 1) := dqn_42 (k := 16) qh_cX5_leaving rfl rfl
theorem dX5_leaving_37 : decode cX5_leaving 37 = .ok (.getfield 27, 3) := dqn_180 (k := 13) qh_cX5_leaving rfl rfl rfl
theorem dX5_leaving_40 : decode cX5_leaving 40 = .ok (.iload_n 2, 1) := dqn_28 (k := 12) qh_cX5_leaving rfl rfl
theorem dX5_leaving_41 : decode cX5_leaving 41 = .ok (.iaload, 1) := dqn_46 (k := 11) qh_cX5_leaving rfl rfl
theorem dX5_leaving_42 : decode cX5_leaving 42 = .ok (.aload_n 1, 1) := dqn_43 (k := 10) qh_cX5_leaving rfl rfl
theorem dX5_leaving_43 : decode cX5_leaving 43 = .ok (.iload_n 2, 1) := dqn_28 (k := 9) qh_cX5_leaving rfl rfl
theorem dX5_leaving_44 : decode cX5_leaving 44 = .ok (.iconst 0, 1) := dqn_3 (k := 8) qh_cX5_leaving rfl rfl
theorem dX5_leaving_45 : decode cX5_leaving 45 = .ok (.invokevirtual 47, 3) := dqn_182 (k := 5) qh_cX5_leaving rfl rfl rfl
theorem dX5_leaving_48 : decode cX5_leaving 48 = .ok (.isub, 1) := dqn_100 (k := 4) qh_cX5_leaving rfl rfl
theorem dX5_leaving_49 : decode cX5_leaving 49 = .ok (.invokestatic 74, 3) := dqn_184 (k := 1) qh_cX5_leaving rfl rfl rfl
theorem dX5_leaving_52 : decode cX5_leaving 52 = .ok (.ireturn, 1) := dqn_172 (k := 0) qh_cX5_leaving rfl rfl
theorem dX5_pass_0 : decode cX5_pass 0 = .ok (.aload_n 1, 1) := dqn_43 (k := 107) qh_cX5_pass rfl rfl
theorem dX5_pass_1 : decode cX5_pass 1 = .ok (.iload_n 2, 1) := dqn_28 (k := 106) qh_cX5_pass rfl rfl
theorem dX5_pass_2 : decode cX5_pass 2 = .ok (.bipush 9, 2) := dqn_16 (k := 104) (u := 9) qh_cX5_pass rfl rfl rfl (by decide)
theorem dX5_pass_4 : decode cX5_pass 4 = .ok (.invokevirtual 47, 3) := dqn_182 (k := 101) qh_cX5_pass rfl rfl rfl
theorem dX5_pass_7 : decode cX5_pass 7 = .ok (.istore_n 3, 1) := dqn_62 (k := 100) qh_cX5_pass rfl rfl
theorem dX5_pass_8 : decode cX5_pass 8 = .ok (.aload_n 1, 1) := dqn_43 (k := 99) qh_cX5_pass rfl rfl
theorem dX5_pass_9 : decode cX5_pass 9 = .ok (.iload_n 2, 1) := dqn_28 (k := 98) qh_cX5_pass rfl rfl
theorem dX5_pass_10 : decode cX5_pass 10 = .ok (.bipush 8, 2) := dqn_16 (k := 96) (u := 8) qh_cX5_pass rfl rfl rfl (by decide)
theorem dX5_pass_12 : decode cX5_pass 12 = .ok (.invokevirtual 47, 3) := dqn_182 (k := 93) qh_cX5_pass rfl rfl rfl
theorem dX5_pass_15 : decode cX5_pass 15 = .ok (.istore 4, 2) := dqn_54 (k := 91) qh_cX5_pass rfl rfl rfl
theorem dX5_pass_17 : decode cX5_pass 17 = .ok (.iconst 0, 1) := dqn_3 (k := 90) qh_cX5_pass rfl rfl
theorem dX5_pass_18 : decode cX5_pass 18 = .ok (.istore 5, 2) := dqn_54 (k := 88) qh_cX5_pass rfl rfl rfl
theorem dX5_pass_20 : decode cX5_pass 20 = .ok (.aload_n 1, 1) := dqn_43 (k := 87) qh_cX5_pass rfl rfl
theorem dX5_pass_21 : decode cX5_pass 21 = .ok (.iload_n 3, 1) := dqn_29 (k := 86) qh_cX5_pass rfl rfl
theorem dX5_pass_22 : decode cX5_pass 22 = .ok (.invokevirtual 79, 3) := dqn_182 (k := 83) qh_cX5_pass rfl rfl rfl
theorem dX5_pass_25 : decode cX5_pass 25 = .ok (.ifCond .eq 33, 3) := dqn_153 (k := 80) (u := 33) qh_cX5_pass rfl rfl rfl (sg_p rfl rfl)
theorem dX5_pass_28 : decode cX5_pass 28 = .ok (.aload_n 0, 1) := dqn_42 (k := 79) qh_cX5_pass rfl rfl
theorem dX5_pass_29 : decode cX5_pass 29 = .ok (.getfield 31, 3) := dqn_180 (k := 76) qh_cX5_pass rfl rfl rfl
theorem dX5_pass_32 : decode cX5_pass 32 = .ok (.iload_n 2, 1) := dqn_28 (k := 75) qh_cX5_pass rfl rfl
theorem dX5_pass_33 : decode cX5_pass 33 = .ok (.iaload, 1) := dqn_46 (k := 74) qh_cX5_pass rfl rfl
theorem dX5_pass_34 : decode cX5_pass 34 = .ok (.aload_n 1, 1) := dqn_43 (k := 73) qh_cX5_pass rfl rfl
theorem dX5_pass_35 : decode cX5_pass 35 = .ok (.iload_n 2, 1) := dqn_28 (k := 72) qh_cX5_pass rfl rfl
theorem dX5_pass_36 : decode cX5_pass 36 = .ok (.bipush 10, 2) := dqn_16 (k := 70) (u := 10) qh_cX5_pass rfl rfl rfl (by decide)
theorem dX5_pass_38 : decode cX5_pass 38 = .ok (.invokevirtual 47, 3) := dqn_182 (k := 67) qh_cX5_pass rfl rfl rfl
theorem dX5_pass_41 : decode cX5_pass 41 = .ok (.imul, 1) := dqn_104 (k := 66) qh_cX5_pass rfl rfl
theorem dX5_pass_42 : decode cX5_pass 42 = .ok (.bipush 10, 2) := dqn_16 (k := 64) (u := 10) qh_cX5_pass rfl rfl rfl (by decide)
theorem dX5_pass_44 : decode cX5_pass 44 = .ok (.idiv, 1) := dqn_108 (k := 63) qh_cX5_pass rfl rfl
theorem dX5_pass_45 : decode cX5_pass 45 = .ok (.istore 5, 2) := dqn_54 (k := 61) qh_cX5_pass rfl rfl rfl
theorem dX5_pass_47 : decode cX5_pass 47 = .ok (.aload_n 0, 1) := dqn_42 (k := 60) qh_cX5_pass rfl rfl
theorem dX5_pass_48 : decode cX5_pass 48 = .ok (.getfield 27, 3) := dqn_180 (k := 57) qh_cX5_pass rfl rfl rfl
theorem dX5_pass_51 : decode cX5_pass 51 = .ok (.iload_n 3, 1) := dqn_29 (k := 56) qh_cX5_pass rfl rfl
theorem dX5_pass_52 : decode cX5_pass 52 = .ok (.dup2, 1) := dqn_92 (k := 55) qh_cX5_pass rfl rfl
theorem dX5_pass_53 : decode cX5_pass 53 = .ok (.iaload, 1) := dqn_46 (k := 54) qh_cX5_pass rfl rfl
theorem dX5_pass_54 : decode cX5_pass 54 = .ok (.iload 5, 2) := dqn_21 (k := 52) qh_cX5_pass rfl rfl rfl
theorem dX5_pass_56 : decode cX5_pass 56 = .ok (.iadd, 1) := dqn_96 (k := 51) qh_cX5_pass rfl rfl
theorem dX5_pass_57 : decode cX5_pass 57 = .ok (.iastore, 1) := dqn_79 (k := 50) qh_cX5_pass rfl rfl
theorem dX5_pass_58 : decode cX5_pass 58 = .ok (.aload_n 1, 1) := dqn_43 (k := 49) qh_cX5_pass rfl rfl
theorem dX5_pass_59 : decode cX5_pass 59 = .ok (.iload 4, 2) := dqn_21 (k := 47) qh_cX5_pass rfl rfl rfl
theorem dX5_pass_61 : decode cX5_pass 61 = .ok (.invokevirtual 79, 3) := dqn_182 (k := 44) qh_cX5_pass rfl rfl rfl
theorem dX5_pass_64 : decode cX5_pass 64 = .ok (.ifCond .eq 25, 3) := dqn_153 (k := 41) (u := 25) qh_cX5_pass rfl rfl rfl (sg_p rfl rfl)
theorem dX5_pass_67 : decode cX5_pass 67 = .ok (.aload_n 0, 1) := dqn_42 (k := 40) qh_cX5_pass rfl rfl
theorem dX5_pass_68 : decode cX5_pass 68 = .ok (.getfield 27, 3) := dqn_180 (k := 37) qh_cX5_pass rfl rfl rfl
theorem dX5_pass_71 : decode cX5_pass 71 = .ok (.iload 4, 2) := dqn_21 (k := 35) qh_cX5_pass rfl rfl rfl
theorem dX5_pass_73 : decode cX5_pass 73 = .ok (.dup2, 1) := dqn_92 (k := 34) qh_cX5_pass rfl rfl
theorem dX5_pass_74 : decode cX5_pass 74 = .ok (.iaload, 1) := dqn_46 (k := 33) qh_cX5_pass rfl rfl
theorem dX5_pass_75 : decode cX5_pass 75 = .ok (.aload_n 0, 1) := dqn_42 (k := 32) qh_cX5_pass rfl rfl
theorem dX5_pass_76 : decode cX5_pass 76 = .ok (.getfield 31, 3) := dqn_180 (k := 29) qh_cX5_pass rfl rfl rfl
theorem dX5_pass_79 : decode cX5_pass 79 = .ok (.iload_n 2, 1) := dqn_28 (k := 28) qh_cX5_pass rfl rfl
theorem dX5_pass_80 : decode cX5_pass 80 = .ok (.iaload, 1) := dqn_46 (k := 27) qh_cX5_pass rfl rfl
theorem dX5_pass_81 : decode cX5_pass 81 = .ok (.iload 5, 2) := dqn_21 (k := 25) qh_cX5_pass rfl rfl rfl
theorem dX5_pass_83 : decode cX5_pass 83 = .ok (.isub, 1) := dqn_100 (k := 24) qh_cX5_pass rfl rfl
theorem dX5_pass_84 : decode cX5_pass 84 = .ok (.iadd, 1) := dqn_96 (k := 23) qh_cX5_pass rfl rfl
theorem dX5_pass_85 : decode cX5_pass 85 = .ok (.iastore, 1) := dqn_79 (k := 22) qh_cX5_pass rfl rfl
theorem dX5_pass_86 : decode cX5_pass 86 = .ok (.goto 21, 3) := dqn_167 (k := 19) (u := 21) qh_cX5_pass rfl rfl rfl (sg_p rfl rfl)
theorem dX5_pass_89 : decode cX5_pass 89 = .ok (.aload_n 0, 1) := dqn_42 (k := 18) qh_cX5_pass rfl rfl
theorem dX5_pass_90 : decode cX5_pass 90 = .ok (.dup, 1) := dqn_89 (k := 17) qh_cX5_pass rfl rfl
theorem dX5_pass_91 : decode cX5_pass 91 = .ok (.getfield 24, 3) := dqn_180 (k := 14) qh_cX5_pass rfl rfl rfl
theorem dX5_pass_94 : decode cX5_pass 94 = .ok (.aload_n 0, 1) := dqn_42 (k := 13) qh_cX5_pass rfl rfl
theorem dX5_pass_95 : decode cX5_pass 95 = .ok (.getfield 31, 3) := dqn_180 (k := 10) qh_cX5_pass rfl rfl rfl
theorem dX5_pass_98 : decode cX5_pass 98 = .ok (.iload_n 2, 1) := dqn_28 (k := 9) qh_cX5_pass rfl rfl
theorem dX5_pass_99 : decode cX5_pass 99 = .ok (.iaload, 1) := dqn_46 (k := 8) qh_cX5_pass rfl rfl
theorem dX5_pass_100 : decode cX5_pass 100 = .ok (.iload 5, 2) := dqn_21 (k := 6) qh_cX5_pass rfl rfl rfl
theorem dX5_pass_102 : decode cX5_pass 102 = .ok (.isub, 1) := dqn_100 (k := 5) qh_cX5_pass rfl rfl
theorem dX5_pass_103 : decode cX5_pass 103 = .ok (.iadd, 1) := dqn_96 (k := 4) qh_cX5_pass rfl rfl
theorem dX5_pass_104 : decode cX5_pass 104 = .ok (.putfield 24, 3) := dqn_181 (k := 1) qh_cX5_pass rfl rfl rfl
theorem dX5_pass_107 : decode cX5_pass 107 = .ok (.return_, 1) := dqn_177 (k := 0) qh_cX5_pass rfl rfl
theorem dX5_run_0 : decode cX5_run 0 = .ok (.aload_n 0, 1) := dqn_42 (k := 214) qh_cX5_run rfl rfl
theorem dX5_run_1 : decode cX5_run 1 = .ok (.aload_n 1, 1) := dqn_43 (k := 213) qh_cX5_run rfl rfl
theorem dX5_run_2 : decode cX5_run 2 = .ok (.getfield 34, 3) := dqn_180 (k := 210) qh_cX5_run rfl rfl rfl
theorem dX5_run_5 : decode cX5_run 5 = .ok (.putfield 9, 3) := dqn_181 (k := 207) qh_cX5_run rfl rfl rfl
theorem dX5_run_8 : decode cX5_run 8 = .ok (.aload_n 0, 1) := dqn_42 (k := 206) qh_cX5_run rfl rfl
theorem dX5_run_9 : decode cX5_run 9 = .ok (.iconst 0, 1) := dqn_3 (k := 205) qh_cX5_run rfl rfl
theorem dX5_run_10 : decode cX5_run 10 = .ok (.putfield 15, 3) := dqn_181 (k := 202) qh_cX5_run rfl rfl rfl
theorem dX5_run_13 : decode cX5_run 13 = .ok (.aload_n 0, 1) := dqn_42 (k := 201) qh_cX5_run rfl rfl
theorem dX5_run_14 : decode cX5_run 14 = .ok (.iconst 0, 1) := dqn_3 (k := 200) qh_cX5_run rfl rfl
theorem dX5_run_15 : decode cX5_run 15 = .ok (.putfield 21, 3) := dqn_181 (k := 197) qh_cX5_run rfl rfl rfl
theorem dX5_run_18 : decode cX5_run 18 = .ok (.aload_n 0, 1) := dqn_42 (k := 196) qh_cX5_run rfl rfl
theorem dX5_run_19 : decode cX5_run 19 = .ok (.iconst 0, 1) := dqn_3 (k := 195) qh_cX5_run rfl rfl
theorem dX5_run_20 : decode cX5_run 20 = .ok (.putfield 24, 3) := dqn_181 (k := 192) qh_cX5_run rfl rfl rfl
theorem dX5_run_23 : decode cX5_run 23 = .ok (.aload_n 0, 1) := dqn_42 (k := 191) qh_cX5_run rfl rfl
theorem dX5_run_24 : decode cX5_run 24 = .ok (.getfield 27, 3) := dqn_180 (k := 188) qh_cX5_run rfl rfl rfl
theorem dX5_run_27 : decode cX5_run 27 = .ok (.iconst 0, 1) := dqn_3 (k := 187) qh_cX5_run rfl rfl
theorem dX5_run_28 : decode cX5_run 28 = .ok (.invokestatic 37, 3) := dqn_184 (k := 184) qh_cX5_run rfl rfl rfl
theorem dX5_run_31 : decode cX5_run 31 = .ok (.iconst 0, 1) := dqn_3 (k := 183) qh_cX5_run rfl rfl
theorem dX5_run_32 : decode cX5_run 32 = .ok (.istore 5, 2) := dqn_54 (k := 181) qh_cX5_run rfl rfl rfl
theorem dX5_run_34 : decode cX5_run 34 = .ok (.iload 5, 2) := dqn_21 (k := 179) qh_cX5_run rfl rfl rfl
theorem dX5_run_36 : decode cX5_run 36 = .ok (.aload_n 0, 1) := dqn_42 (k := 178) qh_cX5_run rfl rfl
theorem dX5_run_37 : decode cX5_run 37 = .ok (.getfield 9, 3) := dqn_180 (k := 175) qh_cX5_run rfl rfl rfl
theorem dX5_run_40 : decode cX5_run 40 = .ok (.if_icmp .ge 162, 3) := dqn_162 (k := 172) (u := 162) qh_cX5_run rfl rfl rfl (sg_p rfl rfl)
theorem dX5_run_43 : decode cX5_run 43 = .ok (.iload 5, 2) := dqn_21 (k := 170) qh_cX5_run rfl rfl rfl
theorem dX5_run_45 : decode cX5_run 45 = .ok (.bipush 9, 2) := dqn_16 (k := 168) (u := 9) qh_cX5_run rfl rfl rfl (by decide)
theorem dX5_run_47 : decode cX5_run 47 = .ok (.if_icmp .ge 155, 3) := dqn_162 (k := 165) (u := 155) qh_cX5_run rfl rfl rfl (sg_p rfl rfl)
theorem dX5_run_50 : decode cX5_run 50 = .ok (.aload_n 0, 1) := dqn_42 (k := 164) qh_cX5_run rfl rfl
theorem dX5_run_51 : decode cX5_run 51 = .ok (.aload_n 1, 1) := dqn_43 (k := 163) qh_cX5_run rfl rfl
theorem dX5_run_52 : decode cX5_run 52 = .ok (.iload 5, 2) := dqn_21 (k := 161) qh_cX5_run rfl rfl rfl
theorem dX5_run_54 : decode cX5_run 54 = .ok (.invokevirtual 43, 3) := dqn_182 (k := 158) qh_cX5_run rfl rfl rfl
theorem dX5_run_57 : decode cX5_run 57 = .ok (.istore 6, 2) := dqn_54 (k := 156) qh_cX5_run rfl rfl rfl
theorem dX5_run_59 : decode cX5_run 59 = .ok (.aload_n 0, 1) := dqn_42 (k := 155) qh_cX5_run rfl rfl
theorem dX5_run_60 : decode cX5_run 60 = .ok (.getfield 27, 3) := dqn_180 (k := 152) qh_cX5_run rfl rfl rfl
theorem dX5_run_63 : decode cX5_run 63 = .ok (.iload 5, 2) := dqn_21 (k := 150) qh_cX5_run rfl rfl rfl
theorem dX5_run_65 : decode cX5_run 65 = .ok (.dup2, 1) := dqn_92 (k := 149) qh_cX5_run rfl rfl
theorem dX5_run_66 : decode cX5_run 66 = .ok (.iaload, 1) := dqn_46 (k := 148) qh_cX5_run rfl rfl
theorem dX5_run_67 : decode cX5_run 67 = .ok (.iload_n 2, 1) := dqn_28 (k := 147) qh_cX5_run rfl rfl
theorem dX5_run_68 : decode cX5_run 68 = .ok (.aload_n 1, 1) := dqn_43 (k := 146) qh_cX5_run rfl rfl
theorem dX5_run_69 : decode cX5_run 69 = .ok (.iload 5, 2) := dqn_21 (k := 144) qh_cX5_run rfl rfl rfl
theorem dX5_run_71 : decode cX5_run 71 = .ok (.iconst 2, 1) := dqn_5 (k := 143) qh_cX5_run rfl rfl
theorem dX5_run_72 : decode cX5_run 72 = .ok (.invokevirtual 47, 3) := dqn_182 (k := 140) qh_cX5_run rfl rfl rfl
theorem dX5_run_75 : decode cX5_run 75 = .ok (.imul, 1) := dqn_104 (k := 139) qh_cX5_run rfl rfl
theorem dX5_run_76 : decode cX5_run 76 = .ok (.iload 6, 2) := dqn_21 (k := 137) qh_cX5_run rfl rfl rfl
theorem dX5_run_78 : decode cX5_run 78 = .ok (.ifCond .eq 7, 3) := dqn_153 (k := 134) (u := 7) qh_cX5_run rfl rfl rfl (sg_p rfl rfl)
theorem dX5_run_81 : decode cX5_run 81 = .ok (.iconst 0, 1) := dqn_3 (k := 133) qh_cX5_run rfl rfl
theorem dX5_run_82 : decode cX5_run 82 = .ok (.goto 10, 3) := dqn_167 (k := 130) (u := 10) qh_cX5_run rfl rfl rfl (sg_p rfl rfl)
theorem dX5_run_85 : decode cX5_run 85 = .ok (.aload_n 1, 1) := dqn_43 (k := 129) qh_cX5_run rfl rfl
theorem dX5_run_86 : decode cX5_run 86 = .ok (.iload 5, 2) := dqn_21 (k := 127) qh_cX5_run rfl rfl rfl
theorem dX5_run_88 : decode cX5_run 88 = .ok (.iconst 1, 1) := dqn_4 (k := 126) qh_cX5_run rfl rfl
theorem dX5_run_89 : decode cX5_run 89 = .ok (.invokevirtual 47, 3) := dqn_182 (k := 123) qh_cX5_run rfl rfl rfl
theorem dX5_run_92 : decode cX5_run 92 = .ok (.iadd, 1) := dqn_96 (k := 122) qh_cX5_run rfl rfl
theorem dX5_run_93 : decode cX5_run 93 = .ok (.iadd, 1) := dqn_96 (k := 121) qh_cX5_run rfl rfl
theorem dX5_run_94 : decode cX5_run 94 = .ok (.iastore, 1) := dqn_79 (k := 120) qh_cX5_run rfl rfl
theorem dX5_run_95 : decode cX5_run 95 = .ok (.iload 6, 2) := dqn_21 (k := 118) qh_cX5_run rfl rfl rfl
theorem dX5_run_97 : decode cX5_run 97 = .ok (.ifCond .eq 17, 3) := dqn_153 (k := 115) (u := 17) qh_cX5_run rfl rfl rfl (sg_p rfl rfl)
theorem dX5_run_100 : decode cX5_run 100 = .ok (.aload_n 0, 1) := dqn_42 (k := 114) qh_cX5_run rfl rfl
theorem dX5_run_101 : decode cX5_run 101 = .ok (.dup, 1) := dqn_89 (k := 113) qh_cX5_run rfl rfl
theorem dX5_run_102 : decode cX5_run 102 = .ok (.getfield 21, 3) := dqn_180 (k := 110) qh_cX5_run rfl rfl rfl
theorem dX5_run_105 : decode cX5_run 105 = .ok (.iload 5, 2) := dqn_21 (k := 108) qh_cX5_run rfl rfl rfl
theorem dX5_run_107 : decode cX5_run 107 = .ok (.invokestatic 51, 3) := dqn_184 (k := 105) qh_cX5_run rfl rfl rfl
theorem dX5_run_110 : decode cX5_run 110 = .ok (.ior, 1) := dqn_128 (k := 104) qh_cX5_run rfl rfl
theorem dX5_run_111 : decode cX5_run 111 = .ok (.putfield 21, 3) := dqn_181 (k := 101) qh_cX5_run rfl rfl rfl
theorem dX5_run_114 : decode cX5_run 114 = .ok (.iload 5, 2) := dqn_21 (k := 99) qh_cX5_run rfl rfl rfl
theorem dX5_run_116 : decode cX5_run 116 = .ok (.iload 4, 2) := dqn_21 (k := 97) qh_cX5_run rfl rfl rfl
theorem dX5_run_118 : decode cX5_run 118 = .ok (.if_icmp .eq 28, 3) := dqn_159 (k := 94) (u := 28) qh_cX5_run rfl rfl rfl (sg_p rfl rfl)
theorem dX5_run_121 : decode cX5_run 121 = .ok (.aload_n 0, 1) := dqn_42 (k := 93) qh_cX5_run rfl rfl
theorem dX5_run_122 : decode cX5_run 122 = .ok (.aload_n 1, 1) := dqn_43 (k := 92) qh_cX5_run rfl rfl
theorem dX5_run_123 : decode cX5_run 123 = .ok (.iload 5, 2) := dqn_21 (k := 90) qh_cX5_run rfl rfl rfl
theorem dX5_run_125 : decode cX5_run 125 = .ok (.iload_n 3, 1) := dqn_29 (k := 89) qh_cX5_run rfl rfl
theorem dX5_run_126 : decode cX5_run 126 = .ok (.invokevirtual 55, 3) := dqn_182 (k := 86) qh_cX5_run rfl rfl rfl
theorem dX5_run_129 : decode cX5_run 129 = .ok (.ifCond .eq 17, 3) := dqn_153 (k := 83) (u := 17) qh_cX5_run rfl rfl rfl (sg_p rfl rfl)
theorem dX5_run_132 : decode cX5_run 132 = .ok (.aload_n 0, 1) := dqn_42 (k := 82) qh_cX5_run rfl rfl
theorem dX5_run_133 : decode cX5_run 133 = .ok (.dup, 1) := dqn_89 (k := 81) qh_cX5_run rfl rfl
theorem dX5_run_134 : decode cX5_run 134 = .ok (.getfield 15, 3) := dqn_180 (k := 78) qh_cX5_run rfl rfl rfl
theorem dX5_run_137 : decode cX5_run 137 = .ok (.iload 5, 2) := dqn_21 (k := 76) qh_cX5_run rfl rfl rfl
theorem dX5_run_139 : decode cX5_run 139 = .ok (.invokestatic 51, 3) := dqn_184 (k := 73) qh_cX5_run rfl rfl rfl
theorem dX5_run_142 : decode cX5_run 142 = .ok (.ior, 1) := dqn_128 (k := 72) qh_cX5_run rfl rfl
theorem dX5_run_143 : decode cX5_run 143 = .ok (.putfield 15, 3) := dqn_181 (k := 69) qh_cX5_run rfl rfl rfl
theorem dX5_run_146 : decode cX5_run 146 = .ok (.aload_n 0, 1) := dqn_42 (k := 68) qh_cX5_run rfl rfl
theorem dX5_run_147 : decode cX5_run 147 = .ok (.getfield 31, 3) := dqn_180 (k := 65) qh_cX5_run rfl rfl rfl
theorem dX5_run_150 : decode cX5_run 150 = .ok (.iload 5, 2) := dqn_21 (k := 63) qh_cX5_run rfl rfl rfl
theorem dX5_run_152 : decode cX5_run 152 = .ok (.aload_n 0, 1) := dqn_42 (k := 62) qh_cX5_run rfl rfl
theorem dX5_run_153 : decode cX5_run 153 = .ok (.aload_n 1, 1) := dqn_43 (k := 61) qh_cX5_run rfl rfl
theorem dX5_run_154 : decode cX5_run 154 = .ok (.iload 5, 2) := dqn_21 (k := 59) qh_cX5_run rfl rfl rfl
theorem dX5_run_156 : decode cX5_run 156 = .ok (.iload 5, 2) := dqn_21 (k := 57) qh_cX5_run rfl rfl rfl
theorem dX5_run_158 : decode cX5_run 158 = .ok (.iload 4, 2) := dqn_21 (k := 55) qh_cX5_run rfl rfl rfl
theorem dX5_run_160 : decode cX5_run 160 = .ok (.if_icmp .ne 7, 3) := dqn_160 (k := 52) (u := 7) qh_cX5_run rfl rfl rfl (sg_p rfl rfl)
theorem dX5_run_163 : decode cX5_run 163 = .ok (.iconst 1, 1) := dqn_4 (k := 51) qh_cX5_run rfl rfl
theorem dX5_run_164 : decode cX5_run 164 = .ok (.goto 4, 3) := dqn_167 (k := 48) (u := 4) qh_cX5_run rfl rfl rfl (sg_p rfl rfl)
theorem dX5_run_167 : decode cX5_run 167 = .ok (.iconst 0, 1) := dqn_3 (k := 47) qh_cX5_run rfl rfl
theorem dX5_run_168 : decode cX5_run 168 = .ok (.invokevirtual 59, 3) := dqn_182 (k := 44) qh_cX5_run rfl rfl rfl
theorem dX5_run_171 : decode cX5_run 171 = .ok (.iload 6, 2) := dqn_21 (k := 42) qh_cX5_run rfl rfl rfl
theorem dX5_run_173 : decode cX5_run 173 = .ok (.ifCond .eq 13, 3) := dqn_153 (k := 39) (u := 13) qh_cX5_run rfl rfl rfl (sg_p rfl rfl)
theorem dX5_run_176 : decode cX5_run 176 = .ok (.aload_n 1, 1) := dqn_43 (k := 38) qh_cX5_run rfl rfl
theorem dX5_run_177 : decode cX5_run 177 = .ok (.iload 5, 2) := dqn_21 (k := 36) qh_cX5_run rfl rfl rfl
theorem dX5_run_179 : decode cX5_run 179 = .ok (.iconst 1, 1) := dqn_4 (k := 35) qh_cX5_run rfl rfl
theorem dX5_run_180 : decode cX5_run 180 = .ok (.invokevirtual 47, 3) := dqn_182 (k := 32) qh_cX5_run rfl rfl rfl
theorem dX5_run_183 : decode cX5_run 183 = .ok (.goto 4, 3) := dqn_167 (k := 29) (u := 4) qh_cX5_run rfl rfl rfl (sg_p rfl rfl)
theorem dX5_run_186 : decode cX5_run 186 = .ok (.iconst 0, 1) := dqn_3 (k := 28) qh_cX5_run rfl rfl
theorem dX5_run_187 : decode cX5_run 187 = .ok (.iadd, 1) := dqn_96 (k := 27) qh_cX5_run rfl rfl
theorem dX5_run_188 : decode cX5_run 188 = .ok (.iastore, 1) := dqn_79 (k := 26) qh_cX5_run rfl rfl
theorem dX5_run_189 : decode cX5_run 189 = .ok (.aload_n 0, 1) := dqn_42 (k := 25) qh_cX5_run rfl rfl
theorem dX5_run_190 : decode cX5_run 190 = .ok (.aload_n 1, 1) := dqn_43 (k := 24) qh_cX5_run rfl rfl
theorem dX5_run_191 : decode cX5_run 191 = .ok (.iload 5, 2) := dqn_21 (k := 22) qh_cX5_run rfl rfl rfl
theorem dX5_run_193 : decode cX5_run 193 = .ok (.invokevirtual 63, 3) := dqn_182 (k := 19) qh_cX5_run rfl rfl rfl
theorem dX5_run_196 : decode cX5_run 196 = .ok (.iinc 5 1, 3) := dqn_132 (k := 16) (u := 1) qh_cX5_run rfl rfl rfl rfl (by decide)
theorem dX5_run_199 : decode cX5_run 199 = .ok (.goto (-165), 3) := dqn_167 (k := 13) (u := 65371) qh_cX5_run rfl rfl rfl (sg_n (k := 165) rfl rfl rfl)
theorem dX5_run_202 : decode cX5_run 202 = .ok (.aload_n 0, 1) := dqn_42 (k := 12) qh_cX5_run rfl rfl
theorem dX5_run_203 : decode cX5_run 203 = .ok (.aload_n 1, 1) := dqn_43 (k := 11) qh_cX5_run rfl rfl
theorem dX5_run_204 : decode cX5_run 204 = .ok (.aload_n 0, 1) := dqn_42 (k := 10) qh_cX5_run rfl rfl
theorem dX5_run_205 : decode cX5_run 205 = .ok (.getfield 15, 3) := dqn_180 (k := 7) qh_cX5_run rfl rfl rfl
theorem dX5_run_208 : decode cX5_run 208 = .ok (.invokevirtual 67, 3) := dqn_182 (k := 4) qh_cX5_run rfl rfl rfl
theorem dX5_run_211 : decode cX5_run 211 = .ok (.putfield 18, 3) := dqn_181 (k := 1) qh_cX5_run rfl rfl rfl
theorem dX5_run_214 : decode cX5_run 214 = .ok (.return_, 1) := dqn_177 (k := 0) qh_cX5_run rfl rfl
theorem dX5_toldOfPond_0 : decode cX5_toldOfPond 0 = .ok (.iload_n 2, 1) := dqn_28 (k := 64) qh_cX5_toldOfPond rfl rfl
theorem dX5_toldOfPond_1 : decode cX5_toldOfPond 1 = .ok (.ifCond .lt 11, 3) := dqn_155 (k := 61) (u := 11) qh_cX5_toldOfPond rfl rfl rfl (sg_p rfl rfl)
theorem dX5_toldOfPond_4 : decode cX5_toldOfPond 4 = .ok (.iload_n 2, 1) := dqn_28 (k := 60) qh_cX5_toldOfPond rfl rfl
theorem dX5_toldOfPond_5 : decode cX5_toldOfPond 5 = .ok (.aload_n 0, 1) := dqn_42 (k := 59) qh_cX5_toldOfPond rfl rfl
theorem dX5_toldOfPond_6 : decode cX5_toldOfPond 6 = .ok (.getfield 9, 3) := dqn_180 (k := 56) qh_cX5_toldOfPond rfl rfl rfl
theorem dX5_toldOfPond_9 : decode cX5_toldOfPond 9 = .ok (.if_icmp .lt 5, 3) := dqn_161 (k := 53) (u := 5) qh_cX5_toldOfPond rfl rfl rfl (sg_p rfl rfl)
theorem dX5_toldOfPond_12 : decode cX5_toldOfPond 12 = .ok (.iconst (-1), 1) := dqn_2 (k := 52) qh_cX5_toldOfPond rfl rfl
theorem dX5_toldOfPond_13 : decode cX5_toldOfPond 13 = .ok (.ireturn, 1) := dqn_172 (k := 51) qh_cX5_toldOfPond rfl rfl
theorem dX5_toldOfPond_14 : decode cX5_toldOfPond 14 = .ok (.iload_n 1, 1) := dqn_27 (k := 50) qh_cX5_toldOfPond rfl rfl
theorem dX5_toldOfPond_15 : decode cX5_toldOfPond 15 = .ok (.tableswitch 48 1 3 #[25, 32, 39], 25) := by decide +kernel
theorem dX5_toldOfPond_40 : decode cX5_toldOfPond 40 = .ok (.aload_n 0, 1) := dqn_42 (k := 24) qh_cX5_toldOfPond rfl rfl
theorem dX5_toldOfPond_41 : decode cX5_toldOfPond 41 = .ok (.getfield 27, 3) := dqn_180 (k := 21) qh_cX5_toldOfPond rfl rfl rfl
theorem dX5_toldOfPond_44 : decode cX5_toldOfPond 44 = .ok (.iload_n 2, 1) := dqn_28 (k := 20) qh_cX5_toldOfPond rfl rfl
theorem dX5_toldOfPond_45 : decode cX5_toldOfPond 45 = .ok (.iaload, 1) := dqn_46 (k := 19) qh_cX5_toldOfPond rfl rfl
theorem dX5_toldOfPond_46 : decode cX5_toldOfPond 46 = .ok (.ireturn, 1) := dqn_172 (k := 18) qh_cX5_toldOfPond rfl rfl
theorem dX5_toldOfPond_47 : decode cX5_toldOfPond 47 = .ok (.aload_n 0, 1) := dqn_42 (k := 17) qh_cX5_toldOfPond rfl rfl
theorem dX5_toldOfPond_48 : decode cX5_toldOfPond 48 = .ok (.getfield 31, 3) := dqn_180 (k := 14) qh_cX5_toldOfPond rfl rfl rfl
theorem dX5_toldOfPond_51 : decode cX5_toldOfPond 51 = .ok (.iload_n 2, 1) := dqn_28 (k := 13) qh_cX5_toldOfPond rfl rfl
theorem dX5_toldOfPond_52 : decode cX5_toldOfPond 52 = .ok (.iaload, 1) := dqn_46 (k := 12) qh_cX5_toldOfPond rfl rfl
theorem dX5_toldOfPond_53 : decode cX5_toldOfPond 53 = .ok (.ireturn, 1) := dqn_172 (k := 11) qh_cX5_toldOfPond rfl rfl
theorem dX5_toldOfPond_54 : decode cX5_toldOfPond 54 = .ok (.aload_n 0, 1) := dqn_42 (k := 10) qh_cX5_toldOfPond rfl rfl
theorem dX5_toldOfPond_55 : decode cX5_toldOfPond 55 = .ok (.getfield 21, 3) := dqn_180 (k := 7) qh_cX5_toldOfPond rfl rfl rfl
theorem dX5_toldOfPond_58 : decode cX5_toldOfPond 58 = .ok (.iload_n 2, 1) := dqn_28 (k := 6) qh_cX5_toldOfPond rfl rfl
theorem dX5_toldOfPond_59 : decode cX5_toldOfPond 59 = .ok (.ishr, 1) := dqn_122 (k := 5) qh_cX5_toldOfPond rfl rfl
theorem dX5_toldOfPond_60 : decode cX5_toldOfPond 60 = .ok (.iconst 1, 1) := dqn_4 (k := 4) qh_cX5_toldOfPond rfl rfl
theorem dX5_toldOfPond_61 : decode cX5_toldOfPond 61 = .ok (.iand, 1) := dqn_126 (k := 3) qh_cX5_toldOfPond rfl rfl
theorem dX5_toldOfPond_62 : decode cX5_toldOfPond 62 = .ok (.ireturn, 1) := dqn_172 (k := 2) qh_cX5_toldOfPond rfl rfl
theorem dX5_toldOfPond_63 : decode cX5_toldOfPond 63 = .ok (.iconst (-1), 1) := dqn_2 (k := 1) qh_cX5_toldOfPond rfl rfl
theorem dX5_toldOfPond_64 : decode cX5_toldOfPond 64 = .ok (.ireturn, 1) := dqn_172 (k := 0) qh_cX5_toldOfPond rfl rfl
theorem dX5_told_0 : decode cX5_told 0 = .ok (.iload_n 1, 1) := dqn_27 (k := 63) qh_cX5_told rfl rfl
theorem dX5_told_1 : decode cX5_told 1 = .ok (.lookupswitch 50 #[(0, 35), (1, 40), (40, 45)], 35) := by decide +kernel
theorem dX5_told_36 : decode cX5_told 36 = .ok (.aload_n 0, 1) := dqn_42 (k := 27) qh_cX5_told rfl rfl
theorem dX5_told_37 : decode cX5_told 37 = .ok (.getfield 15, 3) := dqn_180 (k := 24) qh_cX5_told rfl rfl rfl
theorem dX5_told_40 : decode cX5_told 40 = .ok (.ireturn, 1) := dqn_172 (k := 23) qh_cX5_told rfl rfl
theorem dX5_told_41 : decode cX5_told 41 = .ok (.aload_n 0, 1) := dqn_42 (k := 22) qh_cX5_told rfl rfl
theorem dX5_told_42 : decode cX5_told 42 = .ok (.getfield 18, 3) := dqn_180 (k := 19) qh_cX5_told rfl rfl rfl
theorem dX5_told_45 : decode cX5_told 45 = .ok (.ireturn, 1) := dqn_172 (k := 18) qh_cX5_told rfl rfl
theorem dX5_told_46 : decode cX5_told 46 = .ok (.aload_n 0, 1) := dqn_42 (k := 17) qh_cX5_told rfl rfl
theorem dX5_told_47 : decode cX5_told 47 = .ok (.getfield 24, 3) := dqn_180 (k := 14) qh_cX5_told rfl rfl rfl
theorem dX5_told_50 : decode cX5_told 50 = .ok (.ireturn, 1) := dqn_172 (k := 13) qh_cX5_told rfl rfl
theorem dX5_told_51 : decode cX5_told 51 = .ok (.aload_n 0, 1) := dqn_42 (k := 12) qh_cX5_told rfl rfl
theorem dX5_told_52 : decode cX5_told 52 = .ok (.iload_n 1, 1) := dqn_27 (k := 11) qh_cX5_told rfl rfl
theorem dX5_told_53 : decode cX5_told 53 = .ok (.bipush 10, 2) := dqn_16 (k := 9) (u := 10) qh_cX5_told rfl rfl rfl (by decide)
theorem dX5_told_55 : decode cX5_told 55 = .ok (.idiv, 1) := dqn_108 (k := 8) qh_cX5_told rfl rfl
theorem dX5_told_56 : decode cX5_told 56 = .ok (.iload_n 1, 1) := dqn_27 (k := 7) qh_cX5_told rfl rfl
theorem dX5_told_57 : decode cX5_told 57 = .ok (.bipush 10, 2) := dqn_16 (k := 5) (u := 10) qh_cX5_told rfl rfl rfl (by decide)
theorem dX5_told_59 : decode cX5_told 59 = .ok (.irem, 1) := dqn_112 (k := 4) qh_cX5_told rfl rfl
theorem dX5_told_60 : decode cX5_told 60 = .ok (.invokevirtual 83, 3) := dqn_182 (k := 1) qh_cX5_told rfl rfl rfl
theorem dX5_told_63 : decode cX5_told 63 = .ok (.ireturn, 1) := dqn_172 (k := 0) qh_cX5_told rfl rfl
theorem dX5_leaveBehind_0 : decode cX5_leaveBehind 0 = .ok (.iconst 0, 1) := dqn_3 (k := 70) qh_cX5_leaveBehind rfl rfl
theorem dX5_leaveBehind_1 : decode cX5_leaveBehind 1 = .ok (.istore_n 2, 1) := dqn_61 (k := 69) qh_cX5_leaveBehind rfl rfl
theorem dX5_leaveBehind_2 : decode cX5_leaveBehind 2 = .ok (.iload_n 2, 1) := dqn_28 (k := 68) qh_cX5_leaveBehind rfl rfl
theorem dX5_leaveBehind_3 : decode cX5_leaveBehind 3 = .ok (.aload_n 0, 1) := dqn_42 (k := 67) qh_cX5_leaveBehind rfl rfl
theorem dX5_leaveBehind_4 : decode cX5_leaveBehind 4 = .ok (.getfield 9, 3) := dqn_180 (k := 64) qh_cX5_leaveBehind rfl rfl rfl
theorem dX5_leaveBehind_7 : decode cX5_leaveBehind 7 = .ok (.if_icmp .ge 63, 3) := dqn_162 (k := 61) (u := 63) qh_cX5_leaveBehind rfl rfl rfl (sg_p rfl rfl)
theorem dX5_leaveBehind_10 : decode cX5_leaveBehind 10 = .ok (.iload_n 2, 1) := dqn_28 (k := 60) qh_cX5_leaveBehind rfl rfl
theorem dX5_leaveBehind_11 : decode cX5_leaveBehind 11 = .ok (.bipush 9, 2) := dqn_16 (k := 58) (u := 9) qh_cX5_leaveBehind rfl rfl rfl (by decide)
theorem dX5_leaveBehind_13 : decode cX5_leaveBehind 13 = .ok (.if_icmp .ge 57, 3) := dqn_162 (k := 55) (u := 57) qh_cX5_leaveBehind rfl rfl rfl (sg_p rfl rfl)
theorem dX5_leaveBehind_16 : decode cX5_leaveBehind 16 = .ok (.aload_n 0, 1) := dqn_42 (k := 54) qh_cX5_leaveBehind rfl rfl
theorem dX5_leaveBehind_17 : decode cX5_leaveBehind 17 = .ok (.getfield 15, 3) := dqn_180 (k := 51) qh_cX5_leaveBehind rfl rfl rfl
theorem dX5_leaveBehind_20 : decode cX5_leaveBehind 20 = .ok (.iload_n 2, 1) := dqn_28 (k := 50) qh_cX5_leaveBehind rfl rfl
theorem dX5_leaveBehind_21 : decode cX5_leaveBehind 21 = .ok (.invokestatic 70, 3) := dqn_184 (k := 47) qh_cX5_leaveBehind rfl rfl rfl
theorem dX5_leaveBehind_24 : decode cX5_leaveBehind 24 = .ok (.ifCond .eq 11, 3) := dqn_153 (k := 44) (u := 11) qh_cX5_leaveBehind rfl rfl rfl (sg_p rfl rfl)
theorem dX5_leaveBehind_27 : decode cX5_leaveBehind 27 = .ok (.aload_n 1, 1) := dqn_43 (k := 43) qh_cX5_leaveBehind rfl rfl
theorem dX5_leaveBehind_28 : decode cX5_leaveBehind 28 = .ok (.iload_n 2, 1) := dqn_28 (k := 42) qh_cX5_leaveBehind rfl rfl
theorem dX5_leaveBehind_29 : decode cX5_leaveBehind 29 = .ok (.invokevirtual 86, 3) := dqn_182 (k := 39) qh_cX5_leaveBehind rfl rfl rfl
theorem dX5_leaveBehind_32 : decode cX5_leaveBehind 32 = .ok (.goto 32, 3) := dqn_167 (k := 36) (u := 32) qh_cX5_leaveBehind rfl rfl rfl (sg_p rfl rfl)
theorem dX5_leaveBehind_35 : decode cX5_leaveBehind 35 = .ok (.aload_n 1, 1) := dqn_43 (k := 35) qh_cX5_leaveBehind rfl rfl
theorem dX5_leaveBehind_36 : decode cX5_leaveBehind 36 = .ok (.iload_n 2, 1) := dqn_28 (k := 34) qh_cX5_leaveBehind rfl rfl
theorem dX5_leaveBehind_37 : decode cX5_leaveBehind 37 = .ok (.invokevirtual 90, 3) := dqn_182 (k := 31) qh_cX5_leaveBehind rfl rfl rfl
theorem dX5_leaveBehind_40 : decode cX5_leaveBehind 40 = .ok (.ifCond .ne 24, 3) := dqn_154 (k := 28) (u := 24) qh_cX5_leaveBehind rfl rfl rfl (sg_p rfl rfl)
theorem dX5_leaveBehind_43 : decode cX5_leaveBehind 43 = .ok (.aload_n 1, 1) := dqn_43 (k := 27) qh_cX5_leaveBehind rfl rfl
theorem dX5_leaveBehind_44 : decode cX5_leaveBehind 44 = .ok (.iload_n 2, 1) := dqn_28 (k := 26) qh_cX5_leaveBehind rfl rfl
theorem dX5_leaveBehind_45 : decode cX5_leaveBehind 45 = .ok (.iconst 1, 1) := dqn_4 (k := 25) qh_cX5_leaveBehind rfl rfl
theorem dX5_leaveBehind_46 : decode cX5_leaveBehind 46 = .ok (.aload_n 0, 1) := dqn_42 (k := 24) qh_cX5_leaveBehind rfl rfl
theorem dX5_leaveBehind_47 : decode cX5_leaveBehind 47 = .ok (.getfield 27, 3) := dqn_180 (k := 21) qh_cX5_leaveBehind rfl rfl rfl
theorem dX5_leaveBehind_50 : decode cX5_leaveBehind 50 = .ok (.iload_n 2, 1) := dqn_28 (k := 20) qh_cX5_leaveBehind rfl rfl
theorem dX5_leaveBehind_51 : decode cX5_leaveBehind 51 = .ok (.iaload, 1) := dqn_46 (k := 19) qh_cX5_leaveBehind rfl rfl
theorem dX5_leaveBehind_52 : decode cX5_leaveBehind 52 = .ok (.aload_n 1, 1) := dqn_43 (k := 18) qh_cX5_leaveBehind rfl rfl
theorem dX5_leaveBehind_53 : decode cX5_leaveBehind 53 = .ok (.iload_n 2, 1) := dqn_28 (k := 17) qh_cX5_leaveBehind rfl rfl
theorem dX5_leaveBehind_54 : decode cX5_leaveBehind 54 = .ok (.iconst 0, 1) := dqn_3 (k := 16) qh_cX5_leaveBehind rfl rfl
theorem dX5_leaveBehind_55 : decode cX5_leaveBehind 55 = .ok (.invokevirtual 47, 3) := dqn_182 (k := 13) qh_cX5_leaveBehind rfl rfl rfl
theorem dX5_leaveBehind_58 : decode cX5_leaveBehind 58 = .ok (.invokestatic 93, 3) := dqn_184 (k := 10) qh_cX5_leaveBehind rfl rfl rfl
theorem dX5_leaveBehind_61 : decode cX5_leaveBehind 61 = .ok (.invokevirtual 96, 3) := dqn_182 (k := 7) qh_cX5_leaveBehind rfl rfl rfl
theorem dX5_leaveBehind_64 : decode cX5_leaveBehind 64 = .ok (.iinc 2 1, 3) := dqn_132 (k := 4) (u := 1) qh_cX5_leaveBehind rfl rfl rfl rfl (by decide)
theorem dX5_leaveBehind_67 : decode cX5_leaveBehind 67 = .ok (.goto (-65), 3) := dqn_167 (k := 1) (u := 65471) qh_cX5_leaveBehind rfl rfl rfl (sg_n (k := 65) rfl rfl rfl)
theorem dX5_leaveBehind_70 : decode cX5_leaveBehind 70 = .ok (.return_, 1) := dqn_177 (k := 0) qh_cX5_leaveBehind rfl rfl
set_option maxHeartbeats 4000000 in
set_option maxRecDepth 100000 in
theorem c_fill_54 {d : Nat} {u : Nat → Nat → Int32} {g : Nat → Nat → Int64} {ex : List MC} {val : Int32} (hd : 0 ≤ d)  : CT con0 d 0 0 yJ7_fill_53178 cJ7_fill_53178 4 none [.ref 54, .int val] (Wd u g ex) (fun r h2 => ∃ (u2 : Nat → Nat → Int32), r = none ∧ h2 = Wd u2 g ex ∧ (∀ c, c ≠ 54 → u2 c = u c)) := by
  refine CT_of (by decide) (Nat.le_of_ble_eq_true rfl) (fun x hq => ?_)
  show J x yJ7_fill_53178 cJ7_fill_53178 4 none d 0 0 (Wd u g ex).length 0 [(0, .ref 54), (1, .int val)] [] (Wd u g ex) 0 0
  refine J_iconst (v := 0) dJ7_fill_53178_0 (by decide) ?_
  refine J_istore_n (i := 2) (lw := [(2, .int 0), (0, .ref 54), (1, .int val)]) dJ7_fill_53178_1 rfl (by decide) rfl ?_
  refine J_aload_n (i := 0) (j := 1) dJ7_fill_53178_2 rfl rfl ?_
  refine J_alen dJ7_fill_53178_3 wc_54 (fun _ => rfl) ?_
  refine J_ci (v := 9) (by decide) ?_
  refine J_istore_n (i := 3) (lw := [(3, .int 9), (2, .int 0), (0, .ref 54), (1, .int val)]) dJ7_fill_53178_4 rfl (by decide) rfl ?_
  have lp15 : ∀ (n16 : Nat) (w9 : Int32) (u10 : Nat → Nat → Int32), Bd 0 9 w9 → (∀ c, c ≠ 54 → u10 c = u c) → (9 - w9.toInt).toNat < n16 → J x yJ7_fill_53178 cJ7_fill_53178 4 none d 0 0 (Wd u g ex).length 5 [(0, .ref 54), (1, .int val), (2, .int w9), (3, .int 9)] [] (Wd u10 g ex) 0 0 := by
    intro n16
    induction n16 with
    | zero => intro w9 u10 bw9 fr11 hm18; exact absurd hm18 (Nat.not_lt_zero _)
    | succ n16 ih17 =>
      intro w9 u10 bw9 fr11 hm18
      refine J_iload_n (i := 2) (j := 2) dJ7_fill_53178_5 rfl rfl ?_
      refine J_iload_n (i := 3) (j := 3) dJ7_fill_53178_6 rfl rfl ?_
      refine J_icmp_ge (tgt := 20) dJ7_fill_53178_7 (by decide) (fun c19 => ?_) (fun c19 => ?_)
      · exact J_vret hq dJ7_fill_53178_20 rfl wlen (Nat.le_refl _) (Nat.le_refl _) ⟨u10, rfl, rfl, (fun c k0_ => (fr11 c k0_))⟩
      · refine J_aload_n (i := 0) (j := 0) dJ7_fill_53178_10 rfl rfl ?_
        refine J_iload_n (i := 2) (j := 2) dJ7_fill_53178_11 rfl rfl ?_
        refine J_iload_n (i := 1) (j := 1) dJ7_fill_53178_12 rfl rfl ?_
        obtain ⟨u20, e21⟩ : ∃ z, z = ms u10 54 w9.toNatClampNeg val := ⟨_, rfl⟩
        refine J_iast dJ7_fill_53178_13 wc_54 (vin (bd_lt_hi bw9 (i_nle c19) (bd_c (v := 9) (lo := 9) (hi := 9) (by decide))) (by decide)) (ws e21 wk_54 rfl) ?_
        refine J_iinc (i := 2) (j := 2) (v := (w9 + 1)) (lw := [(2, .int (w9 + 1)), (0, .ref 54), (1, .int val), (3, .int 9)]) dJ7_fill_53178_14 rfl rfl (by decide) rfl ?_
        refine J_goto (tgt := 5) dJ7_fill_53178_17 (by decide) ?_
        refine J_lv [1, 2, 0, 3] rfl ?_
        exact ih17 (w9 + 1) u20 (bd_w (l := 0) (h := 9) (bd_add (l := 1) (h := 9) (bd_lt_hi bw9 (i_nle c19) (bd_c (v := 9) (lo := 9) (hi := 9) (by decide))) (bd_c (v := 1) (lo := 1) (hi := 1) (by decide)) (by decide)) (by decide)) (fun c k0_ => ((ms_c e21 k0_).trans (fr11 c k0_))) (mu_up 1 bw9 rfl (by decide) (bd_w (l := 1) (h := 9) (bd_add (l := 1) (h := 9) (bd_lt_hi bw9 (i_nle c19) (bd_c (v := 9) (lo := 9) (hi := 9) (by decide))) (bd_c (v := 1) (lo := 1) (hi := 1) (by decide)) (by decide)) (by decide)) hm18)
  refine J_lv [2, 3, 1, 0] rfl ?_
  exact lp15 _ (0 : Int32) u (bd_w (l := 0) (h := 9) (bd_c (v := 0) (lo := 0) (hi := 0) (by decide)) (by decide)) (fun c k0_ => rfl) (Nat.lt_succ_self _)
set_option maxHeartbeats 4000000 in
set_option maxRecDepth 100000 in
theorem c_fill_59 {d : Nat} {u : Nat → Nat → Int32} {g : Nat → Nat → Int64} {ex : List MC} {val : Int32} (hd : 0 ≤ d)  : CT con0 d 0 0 yJ7_fill_53178 cJ7_fill_53178 4 none [.ref 59, .int val] (Wd u g ex) (fun r h2 => ∃ (u2 : Nat → Nat → Int32), r = none ∧ h2 = Wd u2 g ex ∧ (∀ c, c ≠ 59 → u2 c = u c)) := by
  refine CT_of (by decide) (Nat.le_of_ble_eq_true rfl) (fun x hq => ?_)
  show J x yJ7_fill_53178 cJ7_fill_53178 4 none d 0 0 (Wd u g ex).length 0 [(0, .ref 59), (1, .int val)] [] (Wd u g ex) 0 0
  refine J_iconst (v := 0) dJ7_fill_53178_0 (by decide) ?_
  refine J_istore_n (i := 2) (lw := [(2, .int 0), (0, .ref 59), (1, .int val)]) dJ7_fill_53178_1 rfl (by decide) rfl ?_
  refine J_aload_n (i := 0) (j := 1) dJ7_fill_53178_2 rfl rfl ?_
  refine J_alen dJ7_fill_53178_3 wc_59 (fun _ => rfl) ?_
  refine J_ci (v := 9) (by decide) ?_
  refine J_istore_n (i := 3) (lw := [(3, .int 9), (2, .int 0), (0, .ref 59), (1, .int val)]) dJ7_fill_53178_4 rfl (by decide) rfl ?_
  have lp15 : ∀ (n16 : Nat) (w9 : Int32) (u10 : Nat → Nat → Int32), Bd 0 9 w9 → (∀ c, c ≠ 59 → u10 c = u c) → (9 - w9.toInt).toNat < n16 → J x yJ7_fill_53178 cJ7_fill_53178 4 none d 0 0 (Wd u g ex).length 5 [(0, .ref 59), (1, .int val), (2, .int w9), (3, .int 9)] [] (Wd u10 g ex) 0 0 := by
    intro n16
    induction n16 with
    | zero => intro w9 u10 bw9 fr11 hm18; exact absurd hm18 (Nat.not_lt_zero _)
    | succ n16 ih17 =>
      intro w9 u10 bw9 fr11 hm18
      refine J_iload_n (i := 2) (j := 2) dJ7_fill_53178_5 rfl rfl ?_
      refine J_iload_n (i := 3) (j := 3) dJ7_fill_53178_6 rfl rfl ?_
      refine J_icmp_ge (tgt := 20) dJ7_fill_53178_7 (by decide) (fun c19 => ?_) (fun c19 => ?_)
      · exact J_vret hq dJ7_fill_53178_20 rfl wlen (Nat.le_refl _) (Nat.le_refl _) ⟨u10, rfl, rfl, (fun c k0_ => (fr11 c k0_))⟩
      · refine J_aload_n (i := 0) (j := 0) dJ7_fill_53178_10 rfl rfl ?_
        refine J_iload_n (i := 2) (j := 2) dJ7_fill_53178_11 rfl rfl ?_
        refine J_iload_n (i := 1) (j := 1) dJ7_fill_53178_12 rfl rfl ?_
        obtain ⟨u20, e21⟩ : ∃ z, z = ms u10 59 w9.toNatClampNeg val := ⟨_, rfl⟩
        refine J_iast dJ7_fill_53178_13 wc_59 (vin (bd_lt_hi bw9 (i_nle c19) (bd_c (v := 9) (lo := 9) (hi := 9) (by decide))) (by decide)) (ws e21 wk_59 rfl) ?_
        refine J_iinc (i := 2) (j := 2) (v := (w9 + 1)) (lw := [(2, .int (w9 + 1)), (0, .ref 59), (1, .int val), (3, .int 9)]) dJ7_fill_53178_14 rfl rfl (by decide) rfl ?_
        refine J_goto (tgt := 5) dJ7_fill_53178_17 (by decide) ?_
        refine J_lv [1, 2, 0, 3] rfl ?_
        exact ih17 (w9 + 1) u20 (bd_w (l := 0) (h := 9) (bd_add (l := 1) (h := 9) (bd_lt_hi bw9 (i_nle c19) (bd_c (v := 9) (lo := 9) (hi := 9) (by decide))) (bd_c (v := 1) (lo := 1) (hi := 1) (by decide)) (by decide)) (by decide)) (fun c k0_ => ((ms_c e21 k0_).trans (fr11 c k0_))) (mu_up 1 bw9 rfl (by decide) (bd_w (l := 1) (h := 9) (bd_add (l := 1) (h := 9) (bd_lt_hi bw9 (i_nle c19) (bd_c (v := 9) (lo := 9) (hi := 9) (by decide))) (bd_c (v := 1) (lo := 1) (hi := 1) (by decide)) (by decide)) (by decide)) hm18)
  refine J_lv [2, 3, 1, 0] rfl ?_
  exact lp15 _ (0 : Int32) u (bd_w (l := 0) (h := 9) (bd_c (v := 0) (lo := 0) (hi := 0) (by decide)) (by decide)) (fun c k0_ => rfl) (Nat.lt_succ_self _)
set_option maxHeartbeats 4000000 in
set_option maxRecDepth 100000 in
theorem c_fillJ_69 {d : Nat} {u : Nat → Nat → Int32} {g : Nat → Nat → Int64} {ex : List MC} {val : Int64} (hd : 0 ≤ d)  : CT con0 d 0 0 yJ7_fill_d0a16 cJ7_fill_d0a16 5 none [.ref 69, .long val] (Wd u g ex) (fun r h2 => ∃ (g2 : Nat → Nat → Int64), r = none ∧ h2 = Wd u g2 ex) := by
  refine CT_of (by decide) (Nat.le_of_ble_eq_true rfl) (fun x hq => ?_)
  show J x yJ7_fill_d0a16 cJ7_fill_d0a16 5 none d 0 0 (Wd u g ex).length 0 [(0, .ref 69), (1, .long val)] [] (Wd u g ex) 0 0
  refine J_iconst (v := 0) dJ7_fill_d0a16_0 (by decide) ?_
  refine J_istore_n (i := 3) (lw := [(3, .int 0), (0, .ref 69), (1, .long val)]) dJ7_fill_d0a16_1 rfl (by decide) rfl ?_
  refine J_aload_n (i := 0) (j := 1) dJ7_fill_d0a16_2 rfl rfl ?_
  refine J_alen dJ7_fill_d0a16_3 wc_69 (fun _ => rfl) ?_
  refine J_ci (v := 512) (by decide) ?_
  refine J_istore (i := 4) (lw := [(4, .int 512), (3, .int 0), (0, .ref 69), (1, .long val)]) dJ7_fill_d0a16_4 (by decide) rfl ?_
  have lp33 : ∀ (n34 : Nat) (w28 : Int32) (g29 : Nat → Nat → Int64), Bd 0 512 w28 → (512 - w28.toInt).toNat < n34 → J x yJ7_fill_d0a16 cJ7_fill_d0a16 5 none d 0 0 (Wd u g ex).length 6 [(0, .ref 69), (1, .long val), (3, .int w28), (4, .int 512)] [] (Wd u g29 ex) 0 0 := by
    intro n34
    induction n34 with
    | zero => intro w28 g29 bw28 hm36; exact absurd hm36 (Nat.not_lt_zero _)
    | succ n34 ih35 =>
      intro w28 g29 bw28 hm36
      refine J_iload_n (i := 3) (j := 2) dJ7_fill_d0a16_6 rfl rfl ?_
      refine J_iload (i := 4) (j := 3) dJ7_fill_d0a16_7 rfl ?_
      refine J_icmp_ge (tgt := 22) dJ7_fill_d0a16_9 (by decide) (fun c37 => ?_) (fun c37 => ?_)
      · exact J_vret hq dJ7_fill_d0a16_22 rfl wlen (Nat.le_refl _) (Nat.le_refl _) ⟨g29, rfl, rfl⟩
      · refine J_aload_n (i := 0) (j := 0) dJ7_fill_d0a16_12 rfl rfl ?_
        refine J_iload_n (i := 3) (j := 2) dJ7_fill_d0a16_13 rfl rfl ?_
        refine J_lload_n (i := 1) (j := 1) dJ7_fill_d0a16_14 rfl rfl ?_
        obtain ⟨g38, e39⟩ : ∃ z, z = ml g29 69 w28.toNatClampNeg val := ⟨_, rfl⟩
        refine J_last dJ7_fill_d0a16_15 wc_69 (vin (bd_lt_hi bw28 (i_nle c37) (bd_c (v := 512) (lo := 512) (hi := 512) (by decide))) (by decide)) (wsl e39 wk_69 rfl) ?_
        refine J_iinc (i := 3) (j := 2) (v := (w28 + 1)) (lw := [(3, .int (w28 + 1)), (0, .ref 69), (1, .long val), (4, .int 512)]) dJ7_fill_d0a16_16 rfl rfl (by decide) rfl ?_
        refine J_goto (tgt := 6) dJ7_fill_d0a16_19 (by decide) ?_
        refine J_lv [1, 2, 0, 3] rfl ?_
        exact ih35 (w28 + 1) g38 (bd_w (l := 0) (h := 512) (bd_add (l := 1) (h := 512) (bd_lt_hi bw28 (i_nle c37) (bd_c (v := 512) (lo := 512) (hi := 512) (by decide))) (bd_c (v := 1) (lo := 1) (hi := 1) (by decide)) (by decide)) (by decide)) (mu_up 1 bw28 rfl (by decide) (bd_w (l := 1) (h := 512) (bd_add (l := 1) (h := 512) (bd_lt_hi bw28 (i_nle c37) (bd_c (v := 512) (lo := 512) (hi := 512) (by decide))) (bd_c (v := 1) (lo := 1) (hi := 1) (by decide)) (by decide)) (by decide)) hm36)
  refine J_lv [2, 3, 1, 0] rfl ?_
  exact lp33 _ (0 : Int32) g (bd_w (l := 0) (h := 512) (bd_c (v := 0) (lo := 0) (hi := 0) (by decide)) (by decide)) (Nat.lt_succ_self _)
set_option maxHeartbeats 4000000 in
set_option maxRecDepth 100000 in
theorem c_rangeCheck {d : Nat} {u : Nat → Nat → Int32} {g : Nat → Nat → Int64} {ex : List MC} {a : Int32} {b : Int32} (hd : 0 ≤ d) (hp0 : Bd 0 128 a) (hp1 : Bd 0 144 b) (hp2 : (a ≤ b)) : CT con0 d 0 0 yJ7_rangeCheck_23922 cJ7_rangeCheck_23922 3 none [.int 144, .int a, .int b] (Wd u g ex) (fun r h2 => r = none ∧ h2 = Wd u g ex) := by
  refine CT_of (by decide) (Nat.le_of_ble_eq_true rfl) (fun x hq => ?_)
  show J x yJ7_rangeCheck_23922 cJ7_rangeCheck_23922 3 none d 0 0 (Wd u g ex).length 0 [(0, .int 144), (1, .int a), (2, .int b)] [] (Wd u g ex) 0 0
  refine J_iload_n (i := 1) (j := 1) dJ7_rangeCheck_23922_0 rfl rfl ?_
  refine J_iload_n (i := 2) (j := 2) dJ7_rangeCheck_23922_1 rfl rfl ?_
  refine J_icmp_le (tgt := 46) dJ7_rangeCheck_23922_2 (by decide) (fun c1 => ?_) (fun c1 => ?_)
  · refine J_iload_n (i := 1) (j := 1) dJ7_rangeCheck_23922_46 rfl rfl ?_
    refine J_if_ge (tgt := 59) dJ7_rangeCheck_23922_47 (by decide) (fun c2 => ?_) (fun c2 => ?_)
    · refine J_iload_n (i := 2) (j := 2) dJ7_rangeCheck_23922_59 rfl rfl ?_
      refine J_iload_n (i := 0) (j := 0) dJ7_rangeCheck_23922_60 rfl rfl ?_
      refine J_icmp_le (tgt := 73) dJ7_rangeCheck_23922_61 (by decide) (fun c3 => ?_) (fun c3 => ?_)
      · exact J_vret hq dJ7_rangeCheck_23922_73 rfl wlen (Nat.le_refl _) (Nat.le_refl _) ⟨rfl, rfl⟩
      · exact (bd_no (bd_lt_lo hp1 (i_nle c3) (bd_c (v := 144) (lo := 144) (hi := 144) (by decide))) (by decide)).elim
    · exact (bd_no (bd_lt_hi hp0 (i_nle c2) (bd_c (v := 0) (lo := 0) (hi := 0) (by decide))) (by decide)).elim
  · exact (lt_le_no (i_nle c1) hp2).elim
set_option maxHeartbeats 4000000 in
set_option maxRecDepth 100000 in
theorem c_bitCount {d : Nat} {u : Nat → Nat → Int32} {g : Nat → Nat → Int64} {ex : List MC} {i : Int32} (hd : 0 ≤ d)  : CT con0 d 0 0 yJ6_bitCount_0f7a4 cJ6_bitCount_0f7a4 1 (some .int) [.int i] (Wd u g ex) (fun r h2 => ∃ (z : Int32), r = some (.int z) ∧ h2 = Wd u g ex ∧ Bd 0 63 z) := by
  refine CT_of (by decide) (Nat.le_of_ble_eq_true rfl) (fun x hq => ?_)
  show J x yJ6_bitCount_0f7a4 cJ6_bitCount_0f7a4 1 (some .int) d 0 0 (Wd u g ex).length 0 [(0, .int i)] [] (Wd u g ex) 0 0
  refine J_iload_n (i := 0) (j := 0) dJ6_bitCount_0f7a4_0 rfl rfl ?_
  refine J_iload_n (i := 0) (j := 0) dJ6_bitCount_0f7a4_1 rfl rfl ?_
  refine J_iconst (v := 1) dJ6_bitCount_0f7a4_2 (by decide) ?_
  obtain ⟨v1, qv1⟩ : ∃ z : Int32, z = (i.toUInt32 >>> ((1 : Int32).toUInt32 &&& Int32.toUInt32 31)).toInt32 := ⟨_, rfl⟩
  refine J_iushr dJ6_bitCount_0f7a4_3 qv1.symm ?_
  refine J_ldcw (v := 1431655765) dJ6_bitCount_0f7a4_4 k931 ?_
  refine J_iand dJ6_bitCount_0f7a4_7 ?_
  refine J_isub dJ6_bitCount_0f7a4_8 ?_
  refine J_istore_n (i := 0) (lw := [(0, .int (i - (v1 &&& 1431655765)))]) dJ6_bitCount_0f7a4_9 rfl (by decide) rfl ?_
  refine J_iload_n (i := 0) (j := 0) dJ6_bitCount_0f7a4_10 rfl rfl ?_
  refine J_ldcw (v := 858993459) dJ6_bitCount_0f7a4_11 k932 ?_
  refine J_iand dJ6_bitCount_0f7a4_14 ?_
  refine J_iload_n (i := 0) (j := 0) dJ6_bitCount_0f7a4_15 rfl rfl ?_
  refine J_iconst (v := 2) dJ6_bitCount_0f7a4_16 (by decide) ?_
  obtain ⟨v2, qv2⟩ : ∃ z : Int32, z = ((i - (v1 &&& 1431655765)).toUInt32 >>> ((2 : Int32).toUInt32 &&& Int32.toUInt32 31)).toInt32 := ⟨_, rfl⟩
  refine J_iushr dJ6_bitCount_0f7a4_17 qv2.symm ?_
  refine J_ldcw (v := 858993459) dJ6_bitCount_0f7a4_18 k932 ?_
  refine J_iand dJ6_bitCount_0f7a4_21 ?_
  refine J_iadd dJ6_bitCount_0f7a4_22 ?_
  refine J_istore_n (i := 0) (lw := [(0, .int (((i - (v1 &&& 1431655765)) &&& 858993459) + (v2 &&& 858993459)))]) dJ6_bitCount_0f7a4_23 rfl (by decide) rfl ?_
  refine J_iload_n (i := 0) (j := 0) dJ6_bitCount_0f7a4_24 rfl rfl ?_
  refine J_iload_n (i := 0) (j := 0) dJ6_bitCount_0f7a4_25 rfl rfl ?_
  refine J_iconst (v := 4) dJ6_bitCount_0f7a4_26 (by decide) ?_
  obtain ⟨v3, qv3⟩ : ∃ z : Int32, z = ((((i - (v1 &&& 1431655765)) &&& 858993459) + (v2 &&& 858993459)).toUInt32 >>> ((4 : Int32).toUInt32 &&& Int32.toUInt32 31)).toInt32 := ⟨_, rfl⟩
  refine J_iushr dJ6_bitCount_0f7a4_27 qv3.symm ?_
  refine J_iadd dJ6_bitCount_0f7a4_28 ?_
  refine J_ldcw (v := 252645135) dJ6_bitCount_0f7a4_29 k933 ?_
  refine J_iand dJ6_bitCount_0f7a4_32 ?_
  refine J_istore_n (i := 0) (lw := [(0, .int (((((i - (v1 &&& 1431655765)) &&& 858993459) + (v2 &&& 858993459)) + v3) &&& 252645135))]) dJ6_bitCount_0f7a4_33 rfl (by decide) rfl ?_
  refine J_iload_n (i := 0) (j := 0) dJ6_bitCount_0f7a4_34 rfl rfl ?_
  refine J_iload_n (i := 0) (j := 0) dJ6_bitCount_0f7a4_35 rfl rfl ?_
  refine J_bipush (v := 8) dJ6_bitCount_0f7a4_36 (by decide) ?_
  obtain ⟨v4, qv4⟩ : ∃ z : Int32, z = ((((((i - (v1 &&& 1431655765)) &&& 858993459) + (v2 &&& 858993459)) + v3) &&& 252645135).toUInt32 >>> ((8 : Int32).toUInt32 &&& Int32.toUInt32 31)).toInt32 := ⟨_, rfl⟩
  refine J_iushr dJ6_bitCount_0f7a4_38 qv4.symm ?_
  refine J_iadd dJ6_bitCount_0f7a4_39 ?_
  refine J_istore_n (i := 0) (lw := [(0, .int ((((((i - (v1 &&& 1431655765)) &&& 858993459) + (v2 &&& 858993459)) + v3) &&& 252645135) + v4))]) dJ6_bitCount_0f7a4_40 rfl (by decide) rfl ?_
  refine J_iload_n (i := 0) (j := 0) dJ6_bitCount_0f7a4_41 rfl rfl ?_
  refine J_iload_n (i := 0) (j := 0) dJ6_bitCount_0f7a4_42 rfl rfl ?_
  refine J_bipush (v := 16) dJ6_bitCount_0f7a4_43 (by decide) ?_
  obtain ⟨v5, qv5⟩ : ∃ z : Int32, z = (((((((i - (v1 &&& 1431655765)) &&& 858993459) + (v2 &&& 858993459)) + v3) &&& 252645135) + v4).toUInt32 >>> ((16 : Int32).toUInt32 &&& Int32.toUInt32 31)).toInt32 := ⟨_, rfl⟩
  refine J_iushr dJ6_bitCount_0f7a4_45 qv5.symm ?_
  refine J_iadd dJ6_bitCount_0f7a4_46 ?_
  refine J_istore_n (i := 0) (lw := [(0, .int (((((((i - (v1 &&& 1431655765)) &&& 858993459) + (v2 &&& 858993459)) + v3) &&& 252645135) + v4) + v5))]) dJ6_bitCount_0f7a4_47 rfl (by decide) rfl ?_
  refine J_iload_n (i := 0) (j := 0) dJ6_bitCount_0f7a4_48 rfl rfl ?_
  refine J_bipush (v := 63) dJ6_bitCount_0f7a4_49 (by decide) ?_
  refine J_iand dJ6_bitCount_0f7a4_51 ?_
  exact J_iret hq dJ6_bitCount_0f7a4_52 rfl wlen (Nat.le_refl _) (Nat.le_refl _) ⟨((((((((i - (v1 &&& 1431655765)) &&& 858993459) + (v2 &&& 858993459)) + v3) &&& 252645135) + v4) + v5) &&& 63), rfl, rfl, (bd_andr (bd_c (v := 63) (lo := 63) (hi := 63) (by decide)) (by decide))⟩
set_option maxHeartbeats 4000000 in
set_option maxRecDepth 100000 in
theorem c_maxJ1 {d : Nat} {u : Nat → Nat → Int32} {g : Nat → Nat → Int64} {ex : List MC} {a : Int64} (hd : 0 ≤ d)  : CT con0 d 0 0 yJ9_max_f86c9 cJ9_max_f86c9 4 (some .long) [.long a, .long 1] (Wd u g ex) (fun r h2 => ∃ (z : Int64), r = some (.long z) ∧ h2 = Wd u g ex ∧ ¬ z = 0) := by
  refine CT_ofF (by decide +kernel) (Nat.le_of_ble_eq_true rfl) (fun x hq => ?_)
  show J x yJ9_max_f86c9 cJ9_max_f86c9 4 (some .long) d 0 0 (Wd u g ex).length 0 [(0, .long a), (2, .long 1)] [] (Wd u g ex) 0 0
  refine J_lload_n (i := 0) (j := 0) dJ9_max_f86c9_0 rfl rfl ?_
  refine J_lload_n (i := 2) (j := 1) dJ9_max_f86c9_1 rfl rfl ?_
  refine J_lcmp dJ9_max_f86c9_2 ?_
  refine J_if_lt (tgt := 10) dJ9_max_f86c9_3 (by decide) (fun c1 => ?_) (fun c1 => ?_)
  · refine J_lload_n (i := 2) (j := 1) dJ9_max_f86c9_10 rfl rfl ?_
    exact J_lret hq dJ9_max_f86c9_11 rfl wlen (Nat.le_refl _) (Nat.le_refl _) ⟨(1 : Int64), rfl, rfl, (by decide)⟩
  · refine J_lload_n (i := 0) (j := 0) dJ9_max_f86c9_6 rfl rfl ?_
    refine J_goto (tgt := 11) dJ9_max_f86c9_7 (by decide) ?_
    exact J_lret hq dJ9_max_f86c9_11 rfl wlen (Nat.le_refl _) (Nat.le_refl _) ⟨a, rfl, rfl, (lcmp_nlt1 c1)⟩
set_option maxHeartbeats 4000000 in
set_option maxRecDepth 100000 in
theorem c_H_copyB {d : Nat} {u : Nat → Nat → Int32} {g : Nat → Nat → Int64} {ex : List MC} {t : Nat} {f : Nat} (hd : 1 ≤ d) (hs_t : t ∈ hl) (hs_f : f ∈ hl) (hn_tf : t ≠ f) (hp0 : Bd 0 9 (u f 0)) (hp1 : Bd 0 4 (u f 2)) (hp2 : AB u (t + 1) (-1) 999) (hp3 : AB u (f + 1) (-1) 999) : CT con0 d 0 0 yX1_copy cX1_copy 2 none [.ref t, .ref f] (Wd u g ex) (fun r h2 => ∃ (u2 : Nat → Nat → Int32), r = none ∧ h2 = Wd u2 g ex ∧ Bd 0 9 (u2 t 0) ∧ Bd 0 4 (u2 t 2) ∧ AB u2 (t + 1) (-1) 999 ∧ (∀ c, c ≠ t → c ≠ t + 1 → c ≠ t + 2 → c ≠ t + 3 → c ≠ t + 4 → u2 c = u c) ∧ (∀ j, j ≠ 0 → j ≠ 2 → u2 t j = u t j)) := by
  refine CT_of (by decide) (Nat.le_of_ble_eq_true rfl) (fun x hq => ?_)
  show J x yX1_copy cX1_copy 2 none d 0 0 (Wd u g ex).length 0 [(0, .ref t), (1, .ref f)] [] (Wd u g ex) 0 0
  refine J_aload_n (i := 0) (j := 0) dX1_copy_0 rfl rfl ?_
  refine J_aload_n (i := 1) (j := 1) dX1_copy_1 rfl rfl ?_
  refine J_get (C := RX1) (T := TX1) (Z := 6) (ci := 1) (f := 0) dX1_copy_2 inG1 rfl (by decide) k130 (zh0c hs_f) rfl ?_
  obtain ⟨u1, e2⟩ : ∃ z, z = ms u t 0 (u f 0) := ⟨_, rfl⟩
  refine J_put (C := RX1) (T := TX1) (Z := 6) (ci := 1) (f := 0) (ty0 := tyX1) dX1_copy_5 inG1 rfl tyX1_ok nmX1 (by decide) k130 rfl rfl (zh0c hs_t) (Nat.le_of_ble_eq_true rfl) (fun _ _ => ⟨rfl, rfl⟩) (ws e2 (zh0 hs_t) rfl) ?_
  refine J_aload_n (i := 0) (j := 0) dX1_copy_8 rfl rfl ?_
  refine J_aload_n (i := 1) (j := 1) dX1_copy_9 rfl rfl ?_
  refine J_get (C := RX1) (T := TX1) (Z := 6) (ci := 1) (f := 2) dX1_copy_10 inG1 rfl (by decide) k138 (zh0c hs_f) rfl ?_
  refine J_ci (v := u f 2) (congrFun (ms_c e2 (sne2 (i := 0) (j := 0) hs_f hs_t (Ne.symm hn_tf) (by decide))) 2) ?_
  obtain ⟨u3, e4⟩ : ∃ z, z = ms u1 t 2 (u f 2) := ⟨_, rfl⟩
  refine J_put (C := RX1) (T := TX1) (Z := 6) (ci := 1) (f := 2) (ty0 := tyX1) dX1_copy_13 inG1 rfl tyX1_ok nmX1 (by decide) k138 rfl rfl (zh0c hs_t) (Nat.le_of_ble_eq_true rfl) (fun _ _ => ⟨rfl, rfl⟩) (ws e4 (zh0 hs_t) rfl) ?_
  refine J_aload_n (i := 1) (j := 1) dX1_copy_16 rfl rfl ?_
  refine J_get (C := RX1) (T := TX1) (Z := 6) (ci := 1) (f := 1) dX1_copy_17 inG1 rfl (by decide) k137 (zh0c hs_f) rfl ?_
  refine J_iconst (v := 0) dX1_copy_20 (by decide) ?_
  refine J_aload_n (i := 0) (j := 0) dX1_copy_21 rfl rfl ?_
  refine J_get (C := RX1) (T := TX1) (Z := 6) (ci := 1) (f := 1) dX1_copy_22 inG1 rfl (by decide) k137 (zh0c hs_t) rfl ?_
  refine J_iconst (v := 0) dX1_copy_25 (by decide) ?_
  refine J_aload_n (i := 0) (j := 0) dX1_copy_26 rfl rfl ?_
  refine J_get (C := RX1) (T := TX1) (Z := 6) (ci := 1) (f := 1) dX1_copy_27 inG1 rfl (by decide) k137 (zh0c hs_t) rfl ?_
  refine J_alen dX1_copy_30 (zh1c hs_t) (fun _ => rfl) ?_
  refine J_ci (v := 144) (by decide) ?_
  obtain ⟨u5, e6⟩ : ∃ z, z = mr u3 (t + 1) (va_cpy (u3 (f + 1)) (u3 (t + 1)) 0 0 144) := ⟨_, rfl⟩
  refine J_copyi (sp := 0) (dp := 0) (nn := 144) dX1_copy_31 k684 k686 k685 k104 (zh1c hs_f) (zh1c hs_t) (by decide) (by decide) (by decide) (by decide) (by decide) (Nat.le_trans (by decide) hd) (Nat.le_of_ble_eq_true rfl) (wsr e6 (zh1 hs_t) rfl) ?_
  refine J_aload_n (i := 1) (j := 1) dX1_copy_34 rfl rfl ?_
  refine J_get (C := RX1) (T := TX1) (Z := 6) (ci := 1) (f := 3) dX1_copy_35 inG1 rfl (by decide) k143 (zh0c hs_f) rfl ?_
  refine J_iconst (v := 0) dX1_copy_38 (by decide) ?_
  refine J_aload_n (i := 0) (j := 0) dX1_copy_39 rfl rfl ?_
  refine J_get (C := RX1) (T := TX1) (Z := 6) (ci := 1) (f := 3) dX1_copy_40 inG1 rfl (by decide) k143 (zh0c hs_t) rfl ?_
  refine J_iconst (v := 0) dX1_copy_43 (by decide) ?_
  refine J_iconst (v := 4) dX1_copy_44 (by decide) ?_
  obtain ⟨u7, e8⟩ : ∃ z, z = mr u5 (t + 2) (va_cpy (u5 (f + 2)) (u5 (t + 2)) 0 0 4) := ⟨_, rfl⟩
  refine J_copyi (sp := 0) (dp := 0) (nn := 4) dX1_copy_45 k684 k686 k685 k104 (zh2c hs_f) (zh2c hs_t) (by decide) (by decide) (by decide) (by decide) (by decide) (Nat.le_trans (by decide) hd) (Nat.le_of_ble_eq_true rfl) (wsr e8 (zh2 hs_t) rfl) ?_
  refine J_aload_n (i := 1) (j := 1) dX1_copy_48 rfl rfl ?_
  refine J_get (C := RX1) (T := TX1) (Z := 6) (ci := 1) (f := 4) dX1_copy_49 inG1 rfl (by decide) k144 (zh0c hs_f) rfl ?_
  refine J_iconst (v := 0) dX1_copy_52 (by decide) ?_
  refine J_aload_n (i := 0) (j := 0) dX1_copy_53 rfl rfl ?_
  refine J_get (C := RX1) (T := TX1) (Z := 6) (ci := 1) (f := 4) dX1_copy_54 inG1 rfl (by decide) k144 (zh0c hs_t) rfl ?_
  refine J_iconst (v := 0) dX1_copy_57 (by decide) ?_
  refine J_iconst (v := 4) dX1_copy_58 (by decide) ?_
  obtain ⟨u9, e10⟩ : ∃ z, z = mr u7 (t + 3) (va_cpy (u7 (f + 3)) (u7 (t + 3)) 0 0 4) := ⟨_, rfl⟩
  refine J_copyi (sp := 0) (dp := 0) (nn := 4) dX1_copy_59 k684 k686 k685 k104 (zh3c hs_f) (zh3c hs_t) (by decide) (by decide) (by decide) (by decide) (by decide) (Nat.le_trans (by decide) hd) (Nat.le_of_ble_eq_true rfl) (wsr e10 (zh3 hs_t) rfl) ?_
  refine J_aload_n (i := 1) (j := 1) dX1_copy_62 rfl rfl ?_
  refine J_get (C := RX1) (T := TX1) (Z := 6) (ci := 1) (f := 5) dX1_copy_63 inG1 rfl (by decide) k145 (zh0c hs_f) rfl ?_
  refine J_iconst (v := 0) dX1_copy_66 (by decide) ?_
  refine J_aload_n (i := 0) (j := 0) dX1_copy_67 rfl rfl ?_
  refine J_get (C := RX1) (T := TX1) (Z := 6) (ci := 1) (f := 5) dX1_copy_68 inG1 rfl (by decide) k145 (zh0c hs_t) rfl ?_
  refine J_iconst (v := 0) dX1_copy_71 (by decide) ?_
  refine J_aload_n (i := 0) (j := 0) dX1_copy_72 rfl rfl ?_
  refine J_get (C := RX1) (T := TX1) (Z := 6) (ci := 1) (f := 5) dX1_copy_73 inG1 rfl (by decide) k145 (zh0c hs_t) rfl ?_
  refine J_alen dX1_copy_76 (zh4c hs_t) (fun _ => rfl) ?_
  refine J_ci (v := 3) (by decide) ?_
  obtain ⟨u11, e12⟩ : ∃ z, z = mr u9 (t + 4) (va_cpy (u9 (f + 4)) (u9 (t + 4)) 0 0 3) := ⟨_, rfl⟩
  refine J_copyi (sp := 0) (dp := 0) (nn := 3) dX1_copy_77 k684 k686 k685 k104 (zh4c hs_f) (zh4c hs_t) (by decide) (by decide) (by decide) (by decide) (by decide) (Nat.le_trans (by decide) hd) (Nat.le_of_ble_eq_true rfl) (wsr e12 (zh4 hs_t) rfl) ?_
  exact J_vret hq dX1_copy_80 rfl wlen (Nat.le_refl _) (Nat.le_refl _) ⟨u11, rfl, rfl, (bd_r ((congrFun (mr_c e12 (by omega)) 0).trans ((congrFun (mr_c e10 (by omega)) 0).trans ((congrFun (mr_c e8 (by omega)) 0).trans ((congrFun (mr_c e6 (by omega)) 0).trans ((ms_i e4 (Nat.ne_of_beq_eq_false rfl)).trans (ms_e e2)))))) hp0), (bd_r ((congrFun (mr_c e12 (by omega)) 2).trans ((congrFun (mr_c e10 (by omega)) 2).trans ((congrFun (mr_c e8 (by omega)) 2).trans ((congrFun (mr_c e6 (by omega)) 2).trans (ms_e e4))))) hp1), (ab_c ((mr_c e12 (by omega)).trans ((mr_c e10 (by omega)).trans (mr_c e8 (by omega)))) (ab_cp e6 (ab_c ((ms_c e4 (sne2 (i := 1) (j := 0) hs_f hs_t (Ne.symm hn_tf) (by decide))).trans (ms_c e2 (sne2 (i := 1) (j := 0) hs_f hs_t (Ne.symm hn_tf) (by decide)))) hp3) (ab_c ((ms_c e4 (by omega)).trans (ms_c e2 (by omega))) hp2))), (fun c k0_ k1_ k2_ k3_ k4_ => ((mr_c e12 k4_).trans ((mr_c e10 k3_).trans ((mr_c e8 k2_).trans ((mr_c e6 k1_).trans ((ms_c e4 k0_).trans (ms_c e2 k0_))))))), (fun j k0_ k2_ => ((congrFun (mr_c e12 (by omega)) j).trans ((congrFun (mr_c e10 (by omega)) j).trans ((congrFun (mr_c e8 (by omega)) j).trans ((congrFun (mr_c e6 (by omega)) j).trans ((ms_i e4 k2_).trans (ms_i e2 k0_)))))))⟩
set_option maxHeartbeats 4000000 in
set_option maxRecDepth 100000 in
theorem c_H_copy {d : Nat} {u : Nat → Nat → Int32} {g : Nat → Nat → Int64} {ex : List MC} {t : Nat} {f : Nat} (hd : 1 ≤ d) (hs_t : t ∈ hl) (hs_f : f ∈ hl) (hn_tf : t ≠ f) (hp0 : Bd 0 9 (u f 0)) (hp1 : Bd 0 4 (u f 2)) : CT con0 d 0 0 yX1_copy cX1_copy 2 none [.ref t, .ref f] (Wd u g ex) (fun r h2 => ∃ (u2 : Nat → Nat → Int32), r = none ∧ h2 = Wd u2 g ex ∧ Bd 0 9 (u2 t 0) ∧ Bd 0 4 (u2 t 2) ∧ (∀ c, c ≠ t → c ≠ t + 1 → c ≠ t + 2 → c ≠ t + 3 → c ≠ t + 4 → u2 c = u c) ∧ (∀ j, j ≠ 0 → j ≠ 2 → u2 t j = u t j)) := by
  refine CT_of (by decide) (Nat.le_of_ble_eq_true rfl) (fun x hq => ?_)
  show J x yX1_copy cX1_copy 2 none d 0 0 (Wd u g ex).length 0 [(0, .ref t), (1, .ref f)] [] (Wd u g ex) 0 0
  refine J_aload_n (i := 0) (j := 0) dX1_copy_0 rfl rfl ?_
  refine J_aload_n (i := 1) (j := 1) dX1_copy_1 rfl rfl ?_
  refine J_get (C := RX1) (T := TX1) (Z := 6) (ci := 1) (f := 0) dX1_copy_2 inG1 rfl (by decide) k130 (zh0c hs_f) rfl ?_
  obtain ⟨u1, e2⟩ : ∃ z, z = ms u t 0 (u f 0) := ⟨_, rfl⟩
  refine J_put (C := RX1) (T := TX1) (Z := 6) (ci := 1) (f := 0) (ty0 := tyX1) dX1_copy_5 inG1 rfl tyX1_ok nmX1 (by decide) k130 rfl rfl (zh0c hs_t) (Nat.le_of_ble_eq_true rfl) (fun _ _ => ⟨rfl, rfl⟩) (ws e2 (zh0 hs_t) rfl) ?_
  refine J_aload_n (i := 0) (j := 0) dX1_copy_8 rfl rfl ?_
  refine J_aload_n (i := 1) (j := 1) dX1_copy_9 rfl rfl ?_
  refine J_get (C := RX1) (T := TX1) (Z := 6) (ci := 1) (f := 2) dX1_copy_10 inG1 rfl (by decide) k138 (zh0c hs_f) rfl ?_
  refine J_ci (v := u f 2) (congrFun (ms_c e2 (sne2 (i := 0) (j := 0) hs_f hs_t (Ne.symm hn_tf) (by decide))) 2) ?_
  obtain ⟨u3, e4⟩ : ∃ z, z = ms u1 t 2 (u f 2) := ⟨_, rfl⟩
  refine J_put (C := RX1) (T := TX1) (Z := 6) (ci := 1) (f := 2) (ty0 := tyX1) dX1_copy_13 inG1 rfl tyX1_ok nmX1 (by decide) k138 rfl rfl (zh0c hs_t) (Nat.le_of_ble_eq_true rfl) (fun _ _ => ⟨rfl, rfl⟩) (ws e4 (zh0 hs_t) rfl) ?_
  refine J_aload_n (i := 1) (j := 1) dX1_copy_16 rfl rfl ?_
  refine J_get (C := RX1) (T := TX1) (Z := 6) (ci := 1) (f := 1) dX1_copy_17 inG1 rfl (by decide) k137 (zh0c hs_f) rfl ?_
  refine J_iconst (v := 0) dX1_copy_20 (by decide) ?_
  refine J_aload_n (i := 0) (j := 0) dX1_copy_21 rfl rfl ?_
  refine J_get (C := RX1) (T := TX1) (Z := 6) (ci := 1) (f := 1) dX1_copy_22 inG1 rfl (by decide) k137 (zh0c hs_t) rfl ?_
  refine J_iconst (v := 0) dX1_copy_25 (by decide) ?_
  refine J_aload_n (i := 0) (j := 0) dX1_copy_26 rfl rfl ?_
  refine J_get (C := RX1) (T := TX1) (Z := 6) (ci := 1) (f := 1) dX1_copy_27 inG1 rfl (by decide) k137 (zh0c hs_t) rfl ?_
  refine J_alen dX1_copy_30 (zh1c hs_t) (fun _ => rfl) ?_
  refine J_ci (v := 144) (by decide) ?_
  obtain ⟨u5, e6⟩ : ∃ z, z = mr u3 (t + 1) (va_cpy (u3 (f + 1)) (u3 (t + 1)) 0 0 144) := ⟨_, rfl⟩
  refine J_copyi (sp := 0) (dp := 0) (nn := 144) dX1_copy_31 k684 k686 k685 k104 (zh1c hs_f) (zh1c hs_t) (by decide) (by decide) (by decide) (by decide) (by decide) (Nat.le_trans (by decide) hd) (Nat.le_of_ble_eq_true rfl) (wsr e6 (zh1 hs_t) rfl) ?_
  refine J_aload_n (i := 1) (j := 1) dX1_copy_34 rfl rfl ?_
  refine J_get (C := RX1) (T := TX1) (Z := 6) (ci := 1) (f := 3) dX1_copy_35 inG1 rfl (by decide) k143 (zh0c hs_f) rfl ?_
  refine J_iconst (v := 0) dX1_copy_38 (by decide) ?_
  refine J_aload_n (i := 0) (j := 0) dX1_copy_39 rfl rfl ?_
  refine J_get (C := RX1) (T := TX1) (Z := 6) (ci := 1) (f := 3) dX1_copy_40 inG1 rfl (by decide) k143 (zh0c hs_t) rfl ?_
  refine J_iconst (v := 0) dX1_copy_43 (by decide) ?_
  refine J_iconst (v := 4) dX1_copy_44 (by decide) ?_
  obtain ⟨u7, e8⟩ : ∃ z, z = mr u5 (t + 2) (va_cpy (u5 (f + 2)) (u5 (t + 2)) 0 0 4) := ⟨_, rfl⟩
  refine J_copyi (sp := 0) (dp := 0) (nn := 4) dX1_copy_45 k684 k686 k685 k104 (zh2c hs_f) (zh2c hs_t) (by decide) (by decide) (by decide) (by decide) (by decide) (Nat.le_trans (by decide) hd) (Nat.le_of_ble_eq_true rfl) (wsr e8 (zh2 hs_t) rfl) ?_
  refine J_aload_n (i := 1) (j := 1) dX1_copy_48 rfl rfl ?_
  refine J_get (C := RX1) (T := TX1) (Z := 6) (ci := 1) (f := 4) dX1_copy_49 inG1 rfl (by decide) k144 (zh0c hs_f) rfl ?_
  refine J_iconst (v := 0) dX1_copy_52 (by decide) ?_
  refine J_aload_n (i := 0) (j := 0) dX1_copy_53 rfl rfl ?_
  refine J_get (C := RX1) (T := TX1) (Z := 6) (ci := 1) (f := 4) dX1_copy_54 inG1 rfl (by decide) k144 (zh0c hs_t) rfl ?_
  refine J_iconst (v := 0) dX1_copy_57 (by decide) ?_
  refine J_iconst (v := 4) dX1_copy_58 (by decide) ?_
  obtain ⟨u9, e10⟩ : ∃ z, z = mr u7 (t + 3) (va_cpy (u7 (f + 3)) (u7 (t + 3)) 0 0 4) := ⟨_, rfl⟩
  refine J_copyi (sp := 0) (dp := 0) (nn := 4) dX1_copy_59 k684 k686 k685 k104 (zh3c hs_f) (zh3c hs_t) (by decide) (by decide) (by decide) (by decide) (by decide) (Nat.le_trans (by decide) hd) (Nat.le_of_ble_eq_true rfl) (wsr e10 (zh3 hs_t) rfl) ?_
  refine J_aload_n (i := 1) (j := 1) dX1_copy_62 rfl rfl ?_
  refine J_get (C := RX1) (T := TX1) (Z := 6) (ci := 1) (f := 5) dX1_copy_63 inG1 rfl (by decide) k145 (zh0c hs_f) rfl ?_
  refine J_iconst (v := 0) dX1_copy_66 (by decide) ?_
  refine J_aload_n (i := 0) (j := 0) dX1_copy_67 rfl rfl ?_
  refine J_get (C := RX1) (T := TX1) (Z := 6) (ci := 1) (f := 5) dX1_copy_68 inG1 rfl (by decide) k145 (zh0c hs_t) rfl ?_
  refine J_iconst (v := 0) dX1_copy_71 (by decide) ?_
  refine J_aload_n (i := 0) (j := 0) dX1_copy_72 rfl rfl ?_
  refine J_get (C := RX1) (T := TX1) (Z := 6) (ci := 1) (f := 5) dX1_copy_73 inG1 rfl (by decide) k145 (zh0c hs_t) rfl ?_
  refine J_alen dX1_copy_76 (zh4c hs_t) (fun _ => rfl) ?_
  refine J_ci (v := 3) (by decide) ?_
  obtain ⟨u11, e12⟩ : ∃ z, z = mr u9 (t + 4) (va_cpy (u9 (f + 4)) (u9 (t + 4)) 0 0 3) := ⟨_, rfl⟩
  refine J_copyi (sp := 0) (dp := 0) (nn := 3) dX1_copy_77 k684 k686 k685 k104 (zh4c hs_f) (zh4c hs_t) (by decide) (by decide) (by decide) (by decide) (by decide) (Nat.le_trans (by decide) hd) (Nat.le_of_ble_eq_true rfl) (wsr e12 (zh4 hs_t) rfl) ?_
  exact J_vret hq dX1_copy_80 rfl wlen (Nat.le_refl _) (Nat.le_refl _) ⟨u11, rfl, rfl, (bd_r ((congrFun (mr_c e12 (by omega)) 0).trans ((congrFun (mr_c e10 (by omega)) 0).trans ((congrFun (mr_c e8 (by omega)) 0).trans ((congrFun (mr_c e6 (by omega)) 0).trans ((ms_i e4 (Nat.ne_of_beq_eq_false rfl)).trans (ms_e e2)))))) hp0), (bd_r ((congrFun (mr_c e12 (by omega)) 2).trans ((congrFun (mr_c e10 (by omega)) 2).trans ((congrFun (mr_c e8 (by omega)) 2).trans ((congrFun (mr_c e6 (by omega)) 2).trans (ms_e e4))))) hp1), (fun c k0_ k1_ k2_ k3_ k4_ => ((mr_c e12 k4_).trans ((mr_c e10 k3_).trans ((mr_c e8 k2_).trans ((mr_c e6 k1_).trans ((ms_c e4 k0_).trans (ms_c e2 k0_))))))), (fun j k0_ k2_ => ((congrFun (mr_c e12 (by omega)) j).trans ((congrFun (mr_c e10 (by omega)) j).trans ((congrFun (mr_c e8 (by omega)) j).trans ((congrFun (mr_c e6 (by omega)) j).trans ((ms_i e4 k2_).trans (ms_i e2 k0_)))))))⟩
set_option maxHeartbeats 4000000 in
set_option maxRecDepth 100000 in
theorem c_W_told {d : Nat} {u : Nat → Nat → Int32} {g : Nat → Nat → Int64} {ex : List MC} {number : Int32} {what : Int32} {w : Nat} (hd : 0 ≤ d) (hs_w : w ∈ wkl) (hp0 : Bd 0 12 (u w 0)) : CT con0 d 0 0 yX8_told cX8_told 3 (some .int) [.ref w, .int number, .int what] (Wd u g ex) (fun r h2 => ∃ (z : Int32), r = some (.int z) ∧ h2 = Wd u g ex) := by
  refine CT_of (by decide) (Nat.le_of_ble_eq_true rfl) (fun x hq => ?_)
  show J x yX8_told cX8_told 3 (some .int) d 0 0 (Wd u g ex).length 0 [(0, .ref w), (1, .int number), (2, .int what)] [] (Wd u g ex) 0 0
  refine J_iload_n (i := 1) (j := 1) dX8_told_0 rfl rfl ?_
  refine J_if_lt (tgt := 12) dX8_told_1 (by decide) (fun c1 => ?_) (fun c1 => ?_)
  · refine J_bipush (v := (-2)) dX8_told_12 (by decide) ?_
    exact J_iret hq dX8_told_14 rfl wlen (Nat.le_refl _) (Nat.le_refl _) ⟨((-2) : Int32), rfl, rfl⟩
  · refine J_iload_n (i := 1) (j := 1) dX8_told_4 rfl rfl ?_
    refine J_aload_n (i := 0) (j := 0) dX8_told_5 rfl rfl ?_
    refine J_get (C := RX8) (T := TX8) (Z := 4) (ci := 8) (f := 0) dX8_told_6 inG8 rfl (by decide) k168 (zw0c hs_w) rfl ?_
    refine J_icmp_lt (tgt := 15) dX8_told_9 (by decide) (fun c2 => ?_) (fun c2 => ?_)
    · refine J_iload_n (i := 2) (j := 2) dX8_told_15 rfl rfl ?_
      by_cases c3 : what = 0
      · refine J_ci (v := 0) c3 ?_
        refine J_tableIn (tgt := 44) (off := 28) dX8_told_16 (by decide) (by decide) (by decide) (by decide) ?_
        refine J_aload_n (i := 0) (j := 0) dX8_told_44 rfl rfl ?_
        refine J_get (C := RX8) (T := TX8) (Z := 4) (ci := 8) (f := 1) dX8_told_45 inG8 rfl (by decide) k171 (zw0c hs_w) rfl ?_
        refine J_iload_n (i := 1) (j := 1) dX8_told_48 rfl rfl ?_
        refine J_iald dX8_told_49 (zw1c hs_w) (vin (bd_lt_hi (bd_le_lo (bd_any number) (i_nlt c1) (bd_c (v := 0) (lo := 0) (hi := 0) (by decide))) c2 hp0) (by decide)) ?_
        refine J_topi (fun v4 qv4 => ?_)
        exact J_iret hq dX8_told_50 rfl wlen (Nat.le_refl _) (Nat.le_refl _) ⟨v4, rfl, rfl⟩
      by_cases c5 : what = 1
      · refine J_ci (v := 1) c5 ?_
        refine J_tableIn (tgt := 51) (off := 35) dX8_told_16 (by decide) (by decide) (by decide) (by decide) ?_
        refine J_aload_n (i := 0) (j := 0) dX8_told_51 rfl rfl ?_
        refine J_get (C := RX8) (T := TX8) (Z := 4) (ci := 8) (f := 2) dX8_told_52 inG8 rfl (by decide) k173 (zw0c hs_w) rfl ?_
        refine J_iload_n (i := 1) (j := 1) dX8_told_55 rfl rfl ?_
        refine J_iald dX8_told_56 (zw2c hs_w) (vin (bd_lt_hi (bd_le_lo (bd_any number) (i_nlt c1) (bd_c (v := 0) (lo := 0) (hi := 0) (by decide))) c2 hp0) (by decide)) ?_
        refine J_topi (fun v6 qv6 => ?_)
        exact J_iret hq dX8_told_57 rfl wlen (Nat.le_refl _) (Nat.le_refl _) ⟨v6, rfl, rfl⟩
      by_cases c7 : what = 2
      · refine J_ci (v := 2) c7 ?_
        refine J_tableIn (tgt := 58) (off := 42) dX8_told_16 (by decide) (by decide) (by decide) (by decide) ?_
        refine J_aload_n (i := 0) (j := 0) dX8_told_58 rfl rfl ?_
        refine J_get (C := RX8) (T := TX8) (Z := 4) (ci := 8) (f := 3) dX8_told_59 inG8 rfl (by decide) k175 (zw0c hs_w) rfl ?_
        refine J_iload_n (i := 1) (j := 1) dX8_told_62 rfl rfl ?_
        refine J_iald dX8_told_63 (zw3c hs_w) (vin (bd_lt_hi (bd_le_lo (bd_any number) (i_nlt c1) (bd_c (v := 0) (lo := 0) (hi := 0) (by decide))) c2 hp0) (by decide)) ?_
        refine J_topi (fun v8 qv8 => ?_)
        exact J_iret hq dX8_told_64 rfl wlen (Nat.le_refl _) (Nat.le_refl _) ⟨v8, rfl, rfl⟩
      · refine J_tableOut (tgt := 65) dX8_told_16 (by have e0 := int_ne (k := 0) c3 (by decide); have e1 := int_ne (k := 1) c5 (by decide); have e2 := int_ne (k := 2) c7 (by decide); omega) (by decide) ?_
        refine J_bipush (v := (-2)) dX8_told_65 (by decide) ?_
        exact J_iret hq dX8_told_67 rfl wlen (Nat.le_refl _) (Nat.le_refl _) ⟨((-2) : Int32), rfl, rfl⟩
    · refine J_bipush (v := (-2)) dX8_told_12 (by decide) ?_
      exact J_iret hq dX8_told_14 rfl wlen (Nat.le_refl _) (Nat.le_refl _) ⟨((-2) : Int32), rfl, rfl⟩
set_option maxHeartbeats 4000000 in
set_option maxRecDepth 100000 in
theorem c_S53_hears {d : Nat} {u : Nat → Nat → Int32} {g : Nat → Nat → Int64} {ex : List MC} {pond : Int32} {t : Nat} (hd : 1 ≤ d) (hs_t : t ∈ hl) (hp0 : Bd 0 8 pond) : CT con0 d 0 0 yX5_hears cX5_hears 6 (some .boolean) [.ref 53, .ref t, .int pond] (Wd u g ex) (fun r h2 => ∃ (z : Bool), r = some (.int (bI z)) ∧ h2 = Wd u g ex) := by
  refine CT_of (by decide) (Nat.le_of_ble_eq_true rfl) (fun x hq => ?_)
  show J x yX5_hears cX5_hears 6 (some .boolean) d 0 0 (Wd u g ex).length 0 [(0, .ref 53), (1, .ref t), (2, .int pond)] [] (Wd u g ex) 0 0
  refine J_aload_n (i := 1) (j := 1) dX5_hears_0 rfl rfl ?_
  refine J_iload_n (i := 2) (j := 2) dX5_hears_1 rfl rfl ?_
  refine J_bipush (v := 12) dX5_hears_2 (by decide) ?_
  refine J_callV (As := [.int pond, .int 12]) (rest := []) dX5_hears_4 (c_H_of (d := 0) (u := u) (g := g) (ex := ex) (pond := pond) (column := 12) (t := t) (by decide) hs_t) hq.n k814 k749 k750 (zh0c hs_t) rfl rfl k89 k751 np_X1_of (Nat.le_trans (by decide) hd) (by decide) (Nat.le_refl _) (Nat.le_refl _) wlen rfl (Nat.le_of_ble_eq_true rfl) (fun r_ h_ p1 => ?_)
  obtain ⟨rfl, rfl⟩ := p1
  refine J_istore_n (i := 3) (lw := [(3, .int (hof u t pond (12 : Int32))), (0, .ref 53), (1, .ref t), (2, .int pond)]) dX5_hears_7 rfl (by decide) rfl ?_
  refine J_iload_n (i := 3) (j := 0) dX5_hears_8 rfl rfl ?_
  refine J_iconst (v := (-1)) dX5_hears_9 (by decide) ?_
  refine J_icmp_eq (tgt := 20) dX5_hears_10 (by decide) (fun c2 => ?_) (fun c2 => ?_)
  · refine J_iconst (v := 0) dX5_hears_20 (by decide) ?_
    exact J_zret hq dX5_hears_21 rfl rfl wlen (Nat.le_refl _) (Nat.le_refl _) ⟨false, rfl, rfl⟩
  · refine J_aload_n (i := 0) (j := 1) dX5_hears_13 rfl rfl ?_
    refine J_get (C := RX5) (T := TX5) (Z := 7) (ci := 5) (f := 1) dX5_hears_14 inG5 rfl (by decide) k320 wc_53 rfl ?_
    refine J_if_ne (tgt := 22) dX5_hears_17 (by decide) (fun c3 => ?_) (fun c3 => ?_)
    · refine J_iconst (v := 0) dX5_hears_22 (by decide) ?_
      refine J_istore (i := 4) (lw := [(4, .int 0), (3, .int (hof u t pond (12 : Int32))), (0, .ref 53), (1, .ref t), (2, .int pond)]) dX5_hears_23 (by decide) rfl ?_
      have lp67 : ∀ (n68 : Nat) (w51 : Int32), Bd 0 8 w51 → (8 - w51.toInt).toNat < n68 → J x yX5_hears cX5_hears 6 (some .boolean) d 0 0 (Wd u g ex).length 25 [(0, .ref 53), (1, .ref t), (2, .int pond), (3, .int (hof u t pond (12 : Int32))), (4, .int w51)] [] (Wd u g ex) 0 0 := by
        intro n68
        induction n68 with
        | zero => intro w51 bw51 hm70; exact absurd hm70 (Nat.not_lt_zero _)
        | succ n68 ih69 =>
          intro w51 bw51 hm70
          refine J_iload (i := 4) (j := 4) dX5_hears_25 rfl ?_
          refine J_iload_n (i := 2) (j := 2) dX5_hears_27 rfl rfl ?_
          refine J_icmp_ge (tgt := 99) dX5_hears_28 (by decide) (fun c71 => ?_) (fun c71 => ?_)
          · refine J_iconst (v := 0) dX5_hears_99 (by decide) ?_
            exact J_zret hq dX5_hears_100 rfl rfl wlen (Nat.le_refl _) (Nat.le_refl _) ⟨false, rfl, rfl⟩
          · refine J_aload_n (i := 1) (j := 1) dX5_hears_31 rfl rfl ?_
            refine J_iload (i := 4) (j := 4) dX5_hears_32 rfl ?_
            refine J_bipush (v := 8) dX5_hears_34 (by decide) ?_
            refine J_callV (As := [.int w51, .int 8]) (rest := []) dX5_hears_36 (c_H_of (d := 0) (u := u) (g := g) (ex := ex) (pond := w51) (column := 8) (t := t) (by decide) hs_t) hq.n k814 k749 k750 (zh0c hs_t) rfl rfl k89 k751 np_X1_of (Nat.le_trans (by decide) hd) (by decide) (Nat.le_refl _) (Nat.le_refl _) wlen rfl (Nat.le_of_ble_eq_true rfl) (fun r_ h_ p72 => ?_)
            obtain ⟨rfl, rfl⟩ := p72
            refine J_iload_n (i := 2) (j := 2) dX5_hears_39 rfl rfl ?_
            have jn77 : ∀ (w76 : Int32), Bd 0 1 w76 → J x yX5_hears cX5_hears 6 (some .boolean) d 0 0 (Wd u g ex).length 60 [(0, .ref 53), (1, .ref t), (2, .int pond), (3, .int (hof u t pond (12 : Int32))), (4, .int w51)] [.int w76] (Wd u g ex) 0 0 := by
              intro w76 bw76
              refine J_istore (i := 5) (lw := [(5, .int w76), (0, .ref 53), (1, .ref t), (2, .int pond), (3, .int (hof u t pond (12 : Int32))), (4, .int w51)]) dX5_hears_60 (by decide) rfl ?_
              refine J_iload (i := 5) (j := 0) dX5_hears_62 rfl ?_
              refine J_if_eq (tgt := 93) dX5_hears_64 (by decide) (fun c78 => ?_) (fun c78 => ?_)
              · refine J_iinc (i := 4) (j := 5) (v := (w51 + 1)) (lw := [(4, .int (w51 + 1)), (5, .int w76), (0, .ref 53), (1, .ref t), (2, .int pond), (3, .int (hof u t pond (12 : Int32)))]) dX5_hears_93 rfl rfl (by decide) rfl ?_
                refine J_goto (tgt := 25) dX5_hears_96 (by decide) ?_
                refine J_lv [2, 3, 4, 5, 0] rfl ?_
                exact ih69 (w51 + 1) (bd_w (l := 0) (h := 8) (bd_add (l := 1) (h := 8) (bd_lt_hi bw51 (i_nle c71) hp0) (bd_c (v := 1) (lo := 1) (hi := 1) (by decide)) (by decide)) (by decide)) (mu_up 1 bw51 rfl (by decide) (bd_w (l := 1) (h := 8) (bd_add (l := 1) (h := 8) (bd_lt_hi bw51 (i_nle c71) hp0) (bd_c (v := 1) (lo := 1) (hi := 1) (by decide)) (by decide)) (by decide)) hm70)
              · refine J_aload_n (i := 0) (j := 1) dX5_hears_67 rfl rfl ?_
                refine J_get (C := RX5) (T := TX5) (Z := 7) (ci := 5) (f := 1) dX5_hears_68 inG5 rfl (by decide) k320 wc_53 rfl ?_
                refine J_iload (i := 4) (j := 5) dX5_hears_71 rfl ?_
                refine J_callSN (As := [.int (u 53 1), .int w51]) (rest := []) dX5_hears_73 (c_isIn (d := 0) (u := u) (g := g) (ex := ex) (set := u 53 1) (pond := w51)  (by decide) ) hq.n k815 k816 k87 k817 np_X10_isIn (Nat.le_trans (by decide) hd) (by decide) (Nat.le_refl _) (Nat.le_refl _) wlen rfl (Nat.le_of_ble_eq_true rfl) (fun r_ h_ p79 => ?_)
                obtain ⟨t80, rfl, rfl⟩ := p79
                refine J_ifB_eq (tgt := 93) dX5_hears_76 (by decide) (fun c81 => ?_) (fun c81 => ?_)
                · refine J_iinc (i := 4) (j := 5) (v := (w51 + 1)) (lw := [(4, .int (w51 + 1)), (5, .int w76), (0, .ref 53), (1, .ref t), (2, .int pond), (3, .int (hof u t pond (12 : Int32)))]) dX5_hears_93 rfl rfl (by decide) rfl ?_
                  refine J_goto (tgt := 25) dX5_hears_96 (by decide) ?_
                  refine J_lv [2, 3, 4, 5, 0] rfl ?_
                  exact ih69 (w51 + 1) (bd_w (l := 0) (h := 8) (bd_add (l := 1) (h := 8) (bd_lt_hi bw51 (i_nle c71) hp0) (bd_c (v := 1) (lo := 1) (hi := 1) (by decide)) (by decide)) (by decide)) (mu_up 1 bw51 rfl (by decide) (bd_w (l := 1) (h := 8) (bd_add (l := 1) (h := 8) (bd_lt_hi bw51 (i_nle c71) hp0) (bd_c (v := 1) (lo := 1) (hi := 1) (by decide)) (by decide)) (by decide)) hm70)
                · refine J_aload_n (i := 1) (j := 2) dX5_hears_79 rfl rfl ?_
                  refine J_iload (i := 4) (j := 5) dX5_hears_80 rfl ?_
                  refine J_bipush (v := 11) dX5_hears_82 (by decide) ?_
                  refine J_callV (As := [.int w51, .int 11]) (rest := []) dX5_hears_84 (c_H_of (d := 0) (u := u) (g := g) (ex := ex) (pond := w51) (column := 11) (t := t) (by decide) hs_t) hq.n k814 k749 k750 (zh0c hs_t) rfl rfl k89 k751 np_X1_of (Nat.le_trans (by decide) hd) (by decide) (Nat.le_refl _) (Nat.le_refl _) wlen rfl (Nat.le_of_ble_eq_true rfl) (fun r_ h_ p82 => ?_)
                  obtain ⟨rfl, rfl⟩ := p82
                  refine J_iload_n (i := 3) (j := 4) dX5_hears_87 rfl rfl ?_
                  refine J_icmp_lt (tgt := 93) dX5_hears_88 (by decide) (fun c83 => ?_) (fun c83 => ?_)
                  · refine J_iinc (i := 4) (j := 5) (v := (w51 + 1)) (lw := [(4, .int (w51 + 1)), (5, .int w76), (0, .ref 53), (1, .ref t), (2, .int pond), (3, .int (hof u t pond (12 : Int32)))]) dX5_hears_93 rfl rfl (by decide) rfl ?_
                    refine J_goto (tgt := 25) dX5_hears_96 (by decide) ?_
                    refine J_lv [2, 3, 4, 5, 0] rfl ?_
                    exact ih69 (w51 + 1) (bd_w (l := 0) (h := 8) (bd_add (l := 1) (h := 8) (bd_lt_hi bw51 (i_nle c71) hp0) (bd_c (v := 1) (lo := 1) (hi := 1) (by decide)) (by decide)) (by decide)) (mu_up 1 bw51 rfl (by decide) (bd_w (l := 1) (h := 8) (bd_add (l := 1) (h := 8) (bd_lt_hi bw51 (i_nle c71) hp0) (bd_c (v := 1) (lo := 1) (hi := 1) (by decide)) (by decide)) (by decide)) hm70)
                  · refine J_iconst (v := 1) dX5_hears_91 (by decide) ?_
                    exact J_zret hq dX5_hears_92 rfl rfl wlen (Nat.le_refl _) (Nat.le_refl _) ⟨true, rfl, rfl⟩
            refine J_icmp_eq (tgt := 55) dX5_hears_40 (by decide) (fun c73 => ?_) (fun c73 => ?_)
            · refine J_iconst (v := 1) dX5_hears_55 (by decide) ?_
              refine J_goto (tgt := 60) dX5_hears_56 (by decide) ?_
              refine J_lv [0, 1, 2, 3, 4] rfl ?_
              exact jn77 (1 : Int32) (bd_w (l := 0) (h := 1) (bd_c (v := 1) (lo := 1) (hi := 1) (by decide)) (by decide))
            · refine J_aload_n (i := 1) (j := 1) dX5_hears_43 rfl rfl ?_
              refine J_iload (i := 4) (j := 4) dX5_hears_44 rfl ?_
              refine J_bipush (v := 9) dX5_hears_46 (by decide) ?_
              refine J_callV (As := [.int w51, .int 9]) (rest := []) dX5_hears_48 (c_H_of (d := 0) (u := u) (g := g) (ex := ex) (pond := w51) (column := 9) (t := t) (by decide) hs_t) hq.n k814 k749 k750 (zh0c hs_t) rfl rfl k89 k751 np_X1_of (Nat.le_trans (by decide) hd) (by decide) (Nat.le_refl _) (Nat.le_refl _) wlen rfl (Nat.le_of_ble_eq_true rfl) (fun r_ h_ p84 => ?_)
              obtain ⟨rfl, rfl⟩ := p84
              refine J_iload_n (i := 2) (j := 2) dX5_hears_51 rfl rfl ?_
              refine J_icmp_ne (tgt := 59) dX5_hears_52 (by decide) (fun c85 => ?_) (fun c85 => ?_)
              · refine J_iconst (v := 0) dX5_hears_59 (by decide) ?_
                refine J_lv [0, 1, 2, 3, 4] rfl ?_
                exact jn77 (0 : Int32) (bd_w (l := 0) (h := 1) (bd_c (v := 0) (lo := 0) (hi := 0) (by decide)) (by decide))
              · refine J_iconst (v := 1) dX5_hears_55 (by decide) ?_
                refine J_goto (tgt := 60) dX5_hears_56 (by decide) ?_
                refine J_lv [0, 1, 2, 3, 4] rfl ?_
                exact jn77 (1 : Int32) (bd_w (l := 0) (h := 1) (bd_c (v := 1) (lo := 1) (hi := 1) (by decide)) (by decide))
      refine J_lv [2, 3, 4, 1, 0] rfl ?_
      exact lp67 _ (0 : Int32) (bd_w (l := 0) (h := 8) (bd_c (v := 0) (lo := 0) (hi := 0) (by decide)) (by decide)) (Nat.lt_succ_self _)
    · refine J_iconst (v := 0) dX5_hears_20 (by decide) ?_
      exact J_zret hq dX5_hears_21 rfl rfl wlen (Nat.le_refl _) (Nat.le_refl _) ⟨false, rfl, rfl⟩
set_option maxHeartbeats 4000000 in
set_option maxRecDepth 100000 in
theorem c_S53_goes {d : Nat} {u : Nat → Nat → Int32} {g : Nat → Nat → Int64} {ex : List MC} {pond : Int32} {banks : Int32} {t : Nat} (hd : 1 ≤ d) (hs_t : t ∈ hl) (hp0 : Bd 0 8 pond) : CT con0 d 0 0 yX5_goes cX5_goes 4 (some .boolean) [.ref 53, .ref t, .int pond, .int banks] (Wd u g ex) (fun r h2 => ∃ (z : Bool), r = some (.int (bI z)) ∧ h2 = Wd u g ex) := by
  refine CT_of (by decide) (Nat.le_of_ble_eq_true rfl) (fun x hq => ?_)
  show J x yX5_goes cX5_goes 4 (some .boolean) d 0 0 (Wd u g ex).length 0 [(0, .ref 53), (1, .ref t), (2, .int pond), (3, .int banks)] [] (Wd u g ex) 0 0
  refine J_aload_n (i := 1) (j := 1) dX5_goes_0 rfl rfl ?_
  refine J_iload_n (i := 2) (j := 2) dX5_goes_1 rfl rfl ?_
  refine J_bipush (v := 15) dX5_goes_2 (by decide) ?_
  refine J_callV (As := [.int pond, .int 15]) (rest := []) dX5_goes_4 (c_H_of (d := 0) (u := u) (g := g) (ex := ex) (pond := pond) (column := 15) (t := t) (by decide) hs_t) hq.n k814 k749 k750 (zh0c hs_t) rfl rfl k89 k751 np_X1_of (Nat.le_trans (by decide) hd) (by decide) (Nat.le_refl _) (Nat.le_refl _) wlen rfl (Nat.le_of_ble_eq_true rfl) (fun r_ h_ p1 => ?_)
  obtain ⟨rfl, rfl⟩ := p1
  refine J_iconst (v := 1) dX5_goes_7 (by decide) ?_
  refine J_icmp_ne (tgt := 13) dX5_goes_8 (by decide) (fun c2 => ?_) (fun c2 => ?_)
  · refine J_iload_n (i := 3) (j := 3) dX5_goes_13 rfl rfl ?_
    refine J_iload_n (i := 2) (j := 2) dX5_goes_14 rfl rfl ?_
    refine J_callSN (As := [.int banks, .int pond]) (rest := []) dX5_goes_15 (c_isIn (d := 0) (u := u) (g := g) (ex := ex) (set := banks) (pond := pond)  (by decide) ) hq.n k815 k816 k87 k817 np_X10_isIn (Nat.le_trans (by decide) hd) (by decide) (Nat.le_refl _) (Nat.le_refl _) wlen rfl (Nat.le_of_ble_eq_true rfl) (fun r_ h_ p3 => ?_)
    obtain ⟨t4, rfl, rfl⟩ := p3
    refine J_ifB_ne (tgt := 43) dX5_goes_18 (by decide) (fun c5 => ?_) (fun c5 => ?_)
    · refine J_iconst (v := 1) dX5_goes_43 (by decide) ?_
      refine J_goto (tgt := 48) dX5_goes_44 (by decide) ?_
      exact J_zret hq dX5_goes_48 rfl rfl wlen (Nat.le_refl _) (Nat.le_refl _) ⟨true, rfl, rfl⟩
    · refine J_aload_n (i := 0) (j := 0) dX5_goes_21 rfl rfl ?_
      refine J_get (C := RX5) (T := TX5) (Z := 7) (ci := 5) (f := 5) dX5_goes_22 inG5 rfl (by decide) k329 wc_53 rfl ?_
      refine J_iload_n (i := 2) (j := 2) dX5_goes_25 rfl rfl ?_
      refine J_iald dX5_goes_26 wc_54 (vin hp0 (by decide)) ?_
      refine J_topi (fun v6 qv6 => ?_)
      refine J_aload_n (i := 1) (j := 1) dX5_goes_27 rfl rfl ?_
      refine J_iload_n (i := 2) (j := 2) dX5_goes_28 rfl rfl ?_
      refine J_iconst (v := 0) dX5_goes_29 (by decide) ?_
      refine J_callV (As := [.int pond, .int 0]) (rest := [.int v6]) dX5_goes_30 (c_H_of (d := 0) (u := u) (g := g) (ex := ex) (pond := pond) (column := 0) (t := t) (by decide) hs_t) hq.n k814 k749 k750 (zh0c hs_t) rfl rfl k89 k751 np_X1_of (Nat.le_trans (by decide) hd) (by decide) (Nat.le_refl _) (Nat.le_refl _) wlen rfl (Nat.le_of_ble_eq_true rfl) (fun r_ h_ p7 => ?_)
      obtain ⟨rfl, rfl⟩ := p7
      refine J_isub dX5_goes_33 ?_
      refine J_aload_n (i := 1) (j := 1) dX5_goes_34 rfl rfl ?_
      refine J_iload_n (i := 2) (j := 2) dX5_goes_35 rfl rfl ?_
      refine J_iconst (v := 3) dX5_goes_36 (by decide) ?_
      refine J_callV (As := [.int pond, .int 3]) (rest := [.int (v6 - (hof u t pond (0 : Int32)))]) dX5_goes_37 (c_H_of (d := 0) (u := u) (g := g) (ex := ex) (pond := pond) (column := 3) (t := t) (by decide) hs_t) hq.n k814 k749 k750 (zh0c hs_t) rfl rfl k89 k751 np_X1_of (Nat.le_trans (by decide) hd) (by decide) (Nat.le_refl _) (Nat.le_refl _) wlen rfl (Nat.le_of_ble_eq_true rfl) (fun r_ h_ p8 => ?_)
      obtain ⟨rfl, rfl⟩ := p8
      refine J_icmp_le (tgt := 47) dX5_goes_40 (by decide) (fun c9 => ?_) (fun c9 => ?_)
      · refine J_iconst (v := 0) dX5_goes_47 (by decide) ?_
        exact J_zret hq dX5_goes_48 rfl rfl wlen (Nat.le_refl _) (Nat.le_refl _) ⟨false, rfl, rfl⟩
      · refine J_iconst (v := 1) dX5_goes_43 (by decide) ?_
        refine J_goto (tgt := 48) dX5_goes_44 (by decide) ?_
        exact J_zret hq dX5_goes_48 rfl rfl wlen (Nat.le_refl _) (Nat.le_refl _) ⟨true, rfl, rfl⟩
  · refine J_iconst (v := 0) dX5_goes_11 (by decide) ?_
    exact J_zret hq dX5_goes_12 rfl rfl wlen (Nat.le_refl _) (Nat.le_refl _) ⟨false, rfl, rfl⟩
set_option maxHeartbeats 4000000 in
set_option maxRecDepth 100000 in
theorem c_S53_leaving {d : Nat} {u : Nat → Nat → Int32} {g : Nat → Nat → Int64} {ex : List MC} {pond : Int32} {keeps : Int32} {t : Nat} (hd : 1 ≤ d) (hs_t : t ∈ hl) (hp0 : Bd 0 8 pond) : CT con0 d 0 0 yX5_leaving cX5_leaving 4 (some .int) [.ref 53, .ref t, .int pond, .int keeps] (Wd u g ex) (fun r h2 => ∃ (z : Int32), r = some (.int z) ∧ h2 = Wd u g ex) := by
  refine CT_of (by decide) (Nat.le_of_ble_eq_true rfl) (fun x hq => ?_)
  show J x yX5_leaving cX5_leaving 4 (some .int) d 0 0 (Wd u g ex).length 0 [(0, .ref 53), (1, .ref t), (2, .int pond), (3, .int keeps)] [] (Wd u g ex) 0 0
  refine J_iload_n (i := 3) (j := 3) dX5_leaving_0 rfl rfl ?_
  refine J_if_eq (tgt := 6) dX5_leaving_1 (by decide) (fun c1 => ?_) (fun c1 => ?_)
  · refine J_aload_n (i := 0) (j := 0) dX5_leaving_6 rfl rfl ?_
    refine J_get (C := RX5) (T := TX5) (Z := 7) (ci := 5) (f := 1) dX5_leaving_7 inG5 rfl (by decide) k320 wc_53 rfl ?_
    refine J_iload_n (i := 2) (j := 2) dX5_leaving_10 rfl rfl ?_
    refine J_callSN (As := [.int (u 53 1), .int pond]) (rest := []) dX5_leaving_11 (c_isIn (d := 0) (u := u) (g := g) (ex := ex) (set := u 53 1) (pond := pond)  (by decide) ) hq.n k815 k816 k87 k817 np_X10_isIn (Nat.le_trans (by decide) hd) (by decide) (Nat.le_refl _) (Nat.le_refl _) wlen rfl (Nat.le_of_ble_eq_true rfl) (fun r_ h_ p2 => ?_)
    obtain ⟨t3, rfl, rfl⟩ := p2
    refine J_ifB_ne (tgt := 28) dX5_leaving_14 (by decide) (fun c4 => ?_) (fun c4 => ?_)
    · refine J_aload_n (i := 0) (j := 0) dX5_leaving_28 rfl rfl ?_
      refine J_get (C := RX5) (T := TX5) (Z := 7) (ci := 5) (f := 5) dX5_leaving_29 inG5 rfl (by decide) k329 wc_53 rfl ?_
      refine J_iload_n (i := 2) (j := 2) dX5_leaving_32 rfl rfl ?_
      refine J_iald dX5_leaving_33 wc_54 (vin hp0 (by decide)) ?_
      refine J_topi (fun v5 qv5 => ?_)
      exact J_iret hq dX5_leaving_34 rfl wlen (Nat.le_refl _) (Nat.le_refl _) ⟨v5, rfl, rfl⟩
    · refine J_aload_n (i := 1) (j := 1) dX5_leaving_17 rfl rfl ?_
      refine J_iload_n (i := 2) (j := 2) dX5_leaving_18 rfl rfl ?_
      refine J_bipush (v := 15) dX5_leaving_19 (by decide) ?_
      refine J_callV (As := [.int pond, .int 15]) (rest := []) dX5_leaving_21 (c_H_of (d := 0) (u := u) (g := g) (ex := ex) (pond := pond) (column := 15) (t := t) (by decide) hs_t) hq.n k814 k749 k750 (zh0c hs_t) rfl rfl k89 k751 np_X1_of (Nat.le_trans (by decide) hd) (by decide) (Nat.le_refl _) (Nat.le_refl _) wlen rfl (Nat.le_of_ble_eq_true rfl) (fun r_ h_ p6 => ?_)
      obtain ⟨rfl, rfl⟩ := p6
      refine J_iconst (v := 1) dX5_leaving_24 (by decide) ?_
      refine J_icmp_ne (tgt := 35) dX5_leaving_25 (by decide) (fun c7 => ?_) (fun c7 => ?_)
      · refine J_iconst (v := 0) dX5_leaving_35 (by decide) ?_
        refine J_aload_n (i := 0) (j := 0) dX5_leaving_36 rfl rfl ?_
        refine J_get (C := RX5) (T := TX5) (Z := 7) (ci := 5) (f := 5) dX5_leaving_37 inG5 rfl (by decide) k329 wc_53 rfl ?_
        refine J_iload_n (i := 2) (j := 2) dX5_leaving_40 rfl rfl ?_
        refine J_iald dX5_leaving_41 wc_54 (vin hp0 (by decide)) ?_
        refine J_topi (fun v8 qv8 => ?_)
        refine J_aload_n (i := 1) (j := 1) dX5_leaving_42 rfl rfl ?_
        refine J_iload_n (i := 2) (j := 2) dX5_leaving_43 rfl rfl ?_
        refine J_iconst (v := 0) dX5_leaving_44 (by decide) ?_
        refine J_callV (As := [.int pond, .int 0]) (rest := [.int v8, .int 0]) dX5_leaving_45 (c_H_of (d := 0) (u := u) (g := g) (ex := ex) (pond := pond) (column := 0) (t := t) (by decide) hs_t) hq.n k814 k749 k750 (zh0c hs_t) rfl rfl k89 k751 np_X1_of (Nat.le_trans (by decide) hd) (by decide) (Nat.le_refl _) (Nat.le_refl _) wlen rfl (Nat.le_of_ble_eq_true rfl) (fun r_ h_ p9 => ?_)
        obtain ⟨rfl, rfl⟩ := p9
        refine J_isub dX5_leaving_48 ?_
        refine J_mmax dX5_leaving_49 k829 k688 k99 k689 (Nat.le_trans (by decide) hd) (Nat.le_of_ble_eq_true rfl) (Nat.zero_le _) (Nat.zero_le _) ?_
        refine J_topi (fun v10 qv10 => ?_)
        exact J_iret hq dX5_leaving_52 rfl wlen (Nat.le_refl _) (Nat.le_refl _) ⟨v10, rfl, rfl⟩
      · refine J_aload_n (i := 0) (j := 0) dX5_leaving_28 rfl rfl ?_
        refine J_get (C := RX5) (T := TX5) (Z := 7) (ci := 5) (f := 5) dX5_leaving_29 inG5 rfl (by decide) k329 wc_53 rfl ?_
        refine J_iload_n (i := 2) (j := 2) dX5_leaving_32 rfl rfl ?_
        refine J_iald dX5_leaving_33 wc_54 (vin hp0 (by decide)) ?_
        refine J_topi (fun v11 qv11 => ?_)
        exact J_iret hq dX5_leaving_34 rfl wlen (Nat.le_refl _) (Nat.le_refl _) ⟨v11, rfl, rfl⟩
  · refine J_iconst (v := 0) dX5_leaving_4 (by decide) ?_
    exact J_iret hq dX5_leaving_5 rfl wlen (Nat.le_refl _) (Nat.le_refl _) ⟨(0 : Int32), rfl, rfl⟩
set_option maxHeartbeats 4000000 in
set_option maxRecDepth 100000 in
theorem c_S53_pass {d : Nat} {u : Nat → Nat → Int32} {g : Nat → Nat → Int64} {ex : List MC} {pond : Int32} {t : Nat} (hd : 1 ≤ d) (hs_t : t ∈ hl) (hp0 : Bd 0 9 (u t 0)) (hp1 : Bd 0 4 (u t 2)) (hp2 : Bd 0 8 pond) : CT con0 d 0 0 yX5_pass cX5_pass 6 none [.ref 53, .ref t, .int pond] (Wd u g ex) (fun r h2 => ∃ (u2 : Nat → Nat → Int32), r = none ∧ h2 = Wd u2 g ex ∧ (∀ c, c ≠ 53 → c ≠ 54 → u2 c = u c) ∧ (∀ j, j ≠ 4 → u2 53 j = u 53 j)) := by
  refine CT_of (by decide) (Nat.le_of_ble_eq_true rfl) (fun x hq => ?_)
  show J x yX5_pass cX5_pass 6 none d 0 0 (Wd u g ex).length 0 [(0, .ref 53), (1, .ref t), (2, .int pond)] [] (Wd u g ex) 0 0
  refine J_aload_n (i := 1) (j := 1) dX5_pass_0 rfl rfl ?_
  refine J_iload_n (i := 2) (j := 2) dX5_pass_1 rfl rfl ?_
  refine J_bipush (v := 9) dX5_pass_2 (by decide) ?_
  refine J_callV (As := [.int pond, .int 9]) (rest := []) dX5_pass_4 (c_H_of (d := 0) (u := u) (g := g) (ex := ex) (pond := pond) (column := 9) (t := t) (by decide) hs_t) hq.n k814 k749 k750 (zh0c hs_t) rfl rfl k89 k751 np_X1_of (Nat.le_trans (by decide) hd) (by decide) (Nat.le_refl _) (Nat.le_refl _) wlen rfl (Nat.le_of_ble_eq_true rfl) (fun r_ h_ p1 => ?_)
  obtain ⟨rfl, rfl⟩ := p1
  refine J_istore_n (i := 3) (lw := [(3, .int (hof u t pond (9 : Int32))), (0, .ref 53), (1, .ref t), (2, .int pond)]) dX5_pass_7 rfl (by decide) rfl ?_
  refine J_aload_n (i := 1) (j := 2) dX5_pass_8 rfl rfl ?_
  refine J_iload_n (i := 2) (j := 3) dX5_pass_9 rfl rfl ?_
  refine J_bipush (v := 8) dX5_pass_10 (by decide) ?_
  refine J_callV (As := [.int pond, .int 8]) (rest := []) dX5_pass_12 (c_H_of (d := 0) (u := u) (g := g) (ex := ex) (pond := pond) (column := 8) (t := t) (by decide) hs_t) hq.n k814 k749 k750 (zh0c hs_t) rfl rfl k89 k751 np_X1_of (Nat.le_trans (by decide) hd) (by decide) (Nat.le_refl _) (Nat.le_refl _) wlen rfl (Nat.le_of_ble_eq_true rfl) (fun r_ h_ p2 => ?_)
  obtain ⟨rfl, rfl⟩ := p2
  refine J_istore (i := 4) (lw := [(4, .int (hof u t pond (8 : Int32))), (3, .int (hof u t pond (9 : Int32))), (0, .ref 53), (1, .ref t), (2, .int pond)]) dX5_pass_15 (by decide) rfl ?_
  refine J_iconst (v := 0) dX5_pass_17 (by decide) ?_
  refine J_istore (i := 5) (lw := [(5, .int 0), (4, .int (hof u t pond (8 : Int32))), (3, .int (hof u t pond (9 : Int32))), (0, .ref 53), (1, .ref t), (2, .int pond)]) dX5_pass_18 (by decide) rfl ?_
  refine J_aload_n (i := 1) (j := 4) dX5_pass_20 rfl rfl ?_
  refine J_iload_n (i := 3) (j := 2) dX5_pass_21 rfl rfl ?_
  refine J_callV (As := [.int (hof u t pond (9 : Int32))]) (rest := []) dX5_pass_22 (c_H_has (d := 0) (u := u) (g := g) (ex := ex) (pond := (hof u t pond (9 : Int32))) (t := t) (by decide) hs_t hp0 hp1) hq.n k834 k741 k742 (zh0c hs_t) rfl rfl k89 k743 np_X1_has (Nat.le_trans (by decide) hd) (by decide) (Nat.le_refl _) (Nat.le_refl _) wlen rfl (Nat.le_of_ble_eq_true rfl) (fun r_ h_ p3 => ?_)
  obtain ⟨t4, rfl, rfl, h5⟩ := p3
  have jn15 : ∀ (w12 : Int32) (u13 : Nat → Nat → Int32), (∀ c, c ≠ 54 → u13 c = u c) → J x yX5_pass cX5_pass 6 none d 0 0 (Wd u g ex).length 58 [(0, .ref 53), (1, .ref t), (2, .int pond), (4, .int (hof u t pond (8 : Int32))), (5, .int w12)] [] (Wd u13 g ex) 0 0 := by
    intro w12 u13 fr14
    refine J_aload_n (i := 1) (j := 1) dX5_pass_58 rfl rfl ?_
    refine J_iload (i := 4) (j := 3) dX5_pass_59 rfl ?_
    refine J_callV (As := [.int (hof u t pond (8 : Int32))]) (rest := []) dX5_pass_61 (c_H_has (d := 0) (u := u13) (g := g) (ex := ex) (pond := (hof u t pond (8 : Int32))) (t := t) (by decide) hs_t (bd_r (congrFun (fr14 t (sne (i := 0) (c := 54) hs_t (by decide))) 0) hp0) (bd_r (congrFun (fr14 t (sne (i := 0) (c := 54) hs_t (by decide))) 2) hp1)) hq.n k834 k741 k742 (zh0c hs_t) rfl rfl k89 k743 np_X1_has (Nat.le_trans (by decide) hd) (by decide) (Nat.le_refl _) (Nat.le_refl _) wlen rfl (Nat.le_of_ble_eq_true rfl) (fun r_ h_ p16 => ?_)
    obtain ⟨t17, rfl, rfl, h18⟩ := p16
    refine J_ifB_eq (tgt := 89) dX5_pass_64 (by decide) (fun c19 => ?_) (fun c19 => ?_)
    · refine J_aload_n (i := 0) (j := 0) dX5_pass_89 rfl rfl ?_
      refine J_dup dX5_pass_90 rfl ?_
      refine J_get (C := RX5) (T := TX5) (Z := 7) (ci := 5) (f := 4) dX5_pass_91 inG5 rfl (by decide) k327 wc_53 rfl ?_
      refine J_ci (v := u 53 4) (congrFun (fr14 53 (Nat.ne_of_beq_eq_false rfl)) 4) ?_
      refine J_aload_n (i := 0) (j := 0) dX5_pass_94 rfl rfl ?_
      refine J_get (C := RX5) (T := TX5) (Z := 7) (ci := 5) (f := 6) dX5_pass_95 inG5 rfl (by decide) k330 wc_53 rfl ?_
      refine J_iload_n (i := 2) (j := 2) dX5_pass_98 rfl rfl ?_
      refine J_iald dX5_pass_99 wc_55 (vin hp2 (by decide)) ?_
      refine J_topi (fun v20 qv20 => ?_)
      refine J_iload (i := 5) (j := 4) dX5_pass_100 rfl ?_
      refine J_isub dX5_pass_102 ?_
      refine J_iadd dX5_pass_103 ?_
      obtain ⟨u21, e22⟩ : ∃ z, z = ms u13 53 4 ((u 53 4) + (v20 - w12)) := ⟨_, rfl⟩
      refine J_put (C := RX5) (T := TX5) (Z := 7) (ci := 5) (f := 4) (ty0 := tyX5) dX5_pass_104 inG5 rfl tyX5_ok nmX5 (by decide) k327 rfl rfl wc_53 (Nat.le_of_ble_eq_true rfl) (fun _ _ => ⟨rfl, rfl⟩) (ws e22 wk_53 rfl) ?_
      exact J_vret hq dX5_pass_107 rfl wlen (Nat.le_refl _) (Nat.le_refl _) ⟨u21, rfl, rfl, (fun c k0_ k1_ => ((ms_c e22 k0_).trans (fr14 c k1_))), (fun j k4_ => ((ms_i e22 k4_).trans (congrFun (fr14 53 (Nat.ne_of_beq_eq_false rfl)) j)))⟩
    · refine J_aload_n (i := 0) (j := 0) dX5_pass_67 rfl rfl ?_
      refine J_get (C := RX5) (T := TX5) (Z := 7) (ci := 5) (f := 5) dX5_pass_68 inG5 rfl (by decide) k329 wc_53 rfl ?_
      refine J_iload (i := 4) (j := 3) dX5_pass_71 rfl ?_
      refine J_dup2_11 dX5_pass_73 rfl rfl ?_
      refine J_iald dX5_pass_74 wc_54 (vin (h18 c19) (by decide)) ?_
      refine J_topi (fun v23 qv23 => ?_)
      refine J_aload_n (i := 0) (j := 0) dX5_pass_75 rfl rfl ?_
      refine J_get (C := RX5) (T := TX5) (Z := 7) (ci := 5) (f := 6) dX5_pass_76 inG5 rfl (by decide) k330 wc_53 rfl ?_
      refine J_iload_n (i := 2) (j := 2) dX5_pass_79 rfl rfl ?_
      refine J_iald dX5_pass_80 wc_55 (vin hp2 (by decide)) ?_
      refine J_topi (fun v24 qv24 => ?_)
      refine J_iload (i := 5) (j := 4) dX5_pass_81 rfl ?_
      refine J_isub dX5_pass_83 ?_
      refine J_iadd dX5_pass_84 ?_
      obtain ⟨u25, e26⟩ : ∃ z, z = ms u13 54 ((hof u t pond (8 : Int32)).toNatClampNeg) (v23 + (v24 - w12)) := ⟨_, rfl⟩
      refine J_iast dX5_pass_85 wc_54 (vin (h18 c19) (by decide)) (ws e26 wk_54 rfl) ?_
      refine J_goto (tgt := 107) dX5_pass_86 (by decide) ?_
      exact J_vret hq dX5_pass_107 rfl wlen (Nat.le_refl _) (Nat.le_refl _) ⟨u25, rfl, rfl, (fun c k0_ k1_ => ((ms_c e26 k1_).trans (fr14 c k1_))), (fun j k4_ => ((congrFun (ms_c e26 (Nat.ne_of_beq_eq_false rfl)) j).trans (congrFun (fr14 53 (Nat.ne_of_beq_eq_false rfl)) j)))⟩
  refine J_ifB_eq (tgt := 58) dX5_pass_25 (by decide) (fun c6 => ?_) (fun c6 => ?_)
  · refine J_lv [3, 4, 5, 1, 0] rfl ?_
    exact jn15 (0 : Int32) u (fun c k0_ => rfl)
  · refine J_aload_n (i := 0) (j := 3) dX5_pass_28 rfl rfl ?_
    refine J_get (C := RX5) (T := TX5) (Z := 7) (ci := 5) (f := 6) dX5_pass_29 inG5 rfl (by decide) k330 wc_53 rfl ?_
    refine J_iload_n (i := 2) (j := 5) dX5_pass_32 rfl rfl ?_
    refine J_iald dX5_pass_33 wc_55 (vin hp2 (by decide)) ?_
    refine J_topi (fun v27 qv27 => ?_)
    refine J_aload_n (i := 1) (j := 4) dX5_pass_34 rfl rfl ?_
    refine J_iload_n (i := 2) (j := 5) dX5_pass_35 rfl rfl ?_
    refine J_bipush (v := 10) dX5_pass_36 (by decide) ?_
    refine J_callV (As := [.int pond, .int 10]) (rest := [.int v27]) dX5_pass_38 (c_H_of (d := 0) (u := u) (g := g) (ex := ex) (pond := pond) (column := 10) (t := t) (by decide) hs_t) hq.n k814 k749 k750 (zh0c hs_t) rfl rfl k89 k751 np_X1_of (Nat.le_trans (by decide) hd) (by decide) (Nat.le_refl _) (Nat.le_refl _) wlen rfl (Nat.le_of_ble_eq_true rfl) (fun r_ h_ p28 => ?_)
    obtain ⟨rfl, rfl⟩ := p28
    refine J_imul dX5_pass_41 ?_
    refine J_bipush (v := 10) dX5_pass_42 (by decide) ?_
    refine J_idiv dX5_pass_44 (by decide) ?_
    refine J_istore (i := 5) (lw := [(5, .int ((v27 * (hof u t pond (10 : Int32))) / 10)), (4, .int (hof u t pond (8 : Int32))), (3, .int (hof u t pond (9 : Int32))), (0, .ref 53), (1, .ref t), (2, .int pond)]) dX5_pass_45 (by decide) rfl ?_
    refine J_aload_n (i := 0) (j := 3) dX5_pass_47 rfl rfl ?_
    refine J_get (C := RX5) (T := TX5) (Z := 7) (ci := 5) (f := 5) dX5_pass_48 inG5 rfl (by decide) k329 wc_53 rfl ?_
    refine J_iload_n (i := 3) (j := 2) dX5_pass_51 rfl rfl ?_
    refine J_dup2_11 dX5_pass_52 rfl rfl ?_
    refine J_iald dX5_pass_53 wc_54 (vin (h5 c6) (by decide)) ?_
    refine J_topi (fun v29 qv29 => ?_)
    refine J_iload (i := 5) (j := 0) dX5_pass_54 rfl ?_
    refine J_iadd dX5_pass_56 ?_
    obtain ⟨u30, e31⟩ : ∃ z, z = ms u 54 ((hof u t pond (9 : Int32)).toNatClampNeg) (v29 + ((v27 * (hof u t pond (10 : Int32))) / 10)) := ⟨_, rfl⟩
    refine J_iast dX5_pass_57 wc_54 (vin (h5 c6) (by decide)) (ws e31 wk_54 rfl) ?_
    refine J_lv [3, 4, 5, 1, 0] rfl ?_
    exact jn15 ((v27 * (hof u t pond (10 : Int32))) / 10) u30 (fun c k0_ => (ms_c e31 k0_))
set_option maxHeartbeats 4000000 in
set_option maxRecDepth 100000 in
theorem c_S53_run {d : Nat} {u : Nat → Nat → Int32} {g : Nat → Nat → Int64} {ex : List MC} {steps : Int32} {banks : Int32} {keeper : Int32} {t : Nat} (hd : 2 ≤ d) (hs_t : t ∈ hl) (hp0 : Bd 0 9 (u t 0)) (hp1 : Bd 0 4 (u t 2)) : CT con0 d 0 0 yX5_run cX5_run 7 none [.ref 53, .ref t, .int steps, .int banks, .int keeper] (Wd u g ex) (fun r h2 => ∃ (u2 : Nat → Nat → Int32), r = none ∧ h2 = Wd u2 g ex ∧ Bd 0 9 (u2 53 0) ∧ Bd 0 511 (u2 53 1) ∧ (∀ c, nin c [(53, 55)] = true → u2 c = u c) ∧ (∀ j, j ≠ 0 → j ≠ 1 → j ≠ 2 → j ≠ 3 → j ≠ 4 → u2 53 j = u 53 j)) := by
  refine CT_of (by decide) (Nat.le_of_ble_eq_true rfl) (fun x hq => ?_)
  show J x yX5_run cX5_run 7 none d 0 0 (Wd u g ex).length 0 [(0, .ref 53), (1, .ref t), (2, .int steps), (3, .int banks), (4, .int keeper)] [] (Wd u g ex) 0 0
  refine J_aload_n (i := 0) (j := 0) dX5_run_0 rfl rfl ?_
  refine J_aload_n (i := 1) (j := 1) dX5_run_1 rfl rfl ?_
  refine J_getN (C := RX1) (T := TX1) (Z := 6) (ci := 1) (f := 0) dX5_run_2 inG1 rfl (by decide) k131 (zh0c hs_t) rfl ?_
  obtain ⟨u1, e2⟩ : ∃ z, z = ms u 53 0 (u t 0) := ⟨_, rfl⟩
  refine J_put (C := RX5) (T := TX5) (Z := 7) (ci := 5) (f := 0) (ty0 := tyX5) dX5_run_5 inG5 rfl tyX5_ok nmX5 (by decide) k319 rfl rfl wc_53 (Nat.le_of_ble_eq_true rfl) (fun _ _ => ⟨rfl, rfl⟩) (ws e2 wk_53 rfl) ?_
  refine J_aload_n (i := 0) (j := 0) dX5_run_8 rfl rfl ?_
  refine J_iconst (v := 0) dX5_run_9 (by decide) ?_
  obtain ⟨u3, e4⟩ : ∃ z, z = ms u1 53 1 0 := ⟨_, rfl⟩
  refine J_put (C := RX5) (T := TX5) (Z := 7) (ci := 5) (f := 1) (ty0 := tyX5) dX5_run_10 inG5 rfl tyX5_ok nmX5 (by decide) k320 rfl rfl wc_53 (Nat.le_of_ble_eq_true rfl) (fun _ _ => ⟨rfl, rfl⟩) (ws e4 wk_53 rfl) ?_
  refine J_aload_n (i := 0) (j := 0) dX5_run_13 rfl rfl ?_
  refine J_iconst (v := 0) dX5_run_14 (by decide) ?_
  obtain ⟨u5, e6⟩ : ∃ z, z = ms u3 53 3 0 := ⟨_, rfl⟩
  refine J_put (C := RX5) (T := TX5) (Z := 7) (ci := 5) (f := 3) (ty0 := tyX5) dX5_run_15 inG5 rfl tyX5_ok nmX5 (by decide) k326 rfl rfl wc_53 (Nat.le_of_ble_eq_true rfl) (fun _ _ => ⟨rfl, rfl⟩) (ws e6 wk_53 rfl) ?_
  refine J_aload_n (i := 0) (j := 0) dX5_run_18 rfl rfl ?_
  refine J_iconst (v := 0) dX5_run_19 (by decide) ?_
  obtain ⟨u7, e8⟩ : ∃ z, z = ms u5 53 4 0 := ⟨_, rfl⟩
  refine J_put (C := RX5) (T := TX5) (Z := 7) (ci := 5) (f := 4) (ty0 := tyX5) dX5_run_20 inG5 rfl tyX5_ok nmX5 (by decide) k327 rfl rfl wc_53 (Nat.le_of_ble_eq_true rfl) (fun _ _ => ⟨rfl, rfl⟩) (ws e8 wk_53 rfl) ?_
  refine J_aload_n (i := 0) (j := 0) dX5_run_23 rfl rfl ?_
  refine J_get (C := RX5) (T := TX5) (Z := 7) (ci := 5) (f := 5) dX5_run_24 inG5 rfl (by decide) k329 wc_53 rfl ?_
  refine J_iconst (v := 0) dX5_run_27 (by decide) ?_
  refine J_callS (As := [.ref 54, .int 0]) (rest := []) dX5_run_28 (c_fill_54 (d := 0) (u := u7) (g := g) (ex := ex) (val := 0)  (by decide) ) hq.n k809 k483 k98 k484 np_J7_fill_53178 (Nat.le_trans (by decide) hd) (by decide) (Nat.le_refl _) (Nat.le_refl _) wlen rfl (Nat.le_of_ble_eq_true rfl) (fun r_ h_ p9 => ?_)
  obtain ⟨u10, rfl, rfl, fr11⟩ := p9
  refine J_iconst (v := 0) dX5_run_31 (by decide) ?_
  refine J_istore (i := 5) (lw := [(5, .int 0), (0, .ref 53), (1, .ref t), (2, .int steps), (3, .int banks), (4, .int keeper)]) dX5_run_32 (by decide) rfl ?_
  have lp769 : ∀ (n770 : Nat) (w561 : Int32) (u562 : Nat → Nat → Int32), Bd 0 9 w561 → (∀ c, nin c [(53, 55)] = true → u562 c = u10 c) → (∀ j, j ≠ 1 → j ≠ 3 → j ≠ 4 → u562 53 j = u10 53 j) → Bd 0 511 (u562 53 1) → Bd 0 511 (u562 53 3) → (9 - w561.toInt).toNat < n770 → J x yX5_run cX5_run 7 none d 0 0 (Wd u g ex).length 34 [(0, .ref 53), (1, .ref t), (2, .int steps), (3, .int banks), (4, .int keeper), (5, .int w561)] [] (Wd u562 g ex) 0 0 := by
    intro n770
    induction n770 with
    | zero => intro w561 u562 bw561 fr563 fc564 bm565 bm566 hm772; exact absurd hm772 (Nat.not_lt_zero _)
    | succ n770 ih771 =>
      intro w561 u562 bw561 fr563 fc564 bm565 bm566 hm772
      refine J_iload (i := 5) (j := 5) dX5_run_34 rfl ?_
      refine J_aload_n (i := 0) (j := 0) dX5_run_36 rfl rfl ?_
      refine J_get (C := RX5) (T := TX5) (Z := 7) (ci := 5) (f := 0) dX5_run_37 inG5 rfl (by decide) k319 wc_53 rfl ?_
      refine J_ci (v := u t 0) ((fc564 0 (Nat.ne_of_beq_eq_false rfl) (Nat.ne_of_beq_eq_false rfl) (Nat.ne_of_beq_eq_false rfl)).trans ((congrFun (fr11 53 (Nat.ne_of_beq_eq_false rfl)) 0).trans ((ms_i e8 (Nat.ne_of_beq_eq_false rfl)).trans ((ms_i e6 (Nat.ne_of_beq_eq_false rfl)).trans ((ms_i e4 (Nat.ne_of_beq_eq_false rfl)).trans (ms_e e2)))))) ?_
      refine J_icmp_ge (tgt := 202) dX5_run_40 (by decide) (fun c773 => ?_) (fun c773 => ?_)
      · refine J_aload_n (i := 0) (j := 0) dX5_run_202 rfl rfl ?_
        refine J_aload_n (i := 1) (j := 1) dX5_run_203 rfl rfl ?_
        refine J_aload_n (i := 0) (j := 0) dX5_run_204 rfl rfl ?_
        refine J_get (C := RX5) (T := TX5) (Z := 7) (ci := 5) (f := 1) dX5_run_205 inG5 rfl (by decide) k320 wc_53 rfl ?_
        refine J_callV (As := [.int (u562 53 1)]) (rest := [.ref 53]) dX5_run_208 (c_H_harmOf (d := 1) (u := u562) (g := g) (ex := ex) (set := u562 53 1) (t := t) (by decide) hs_t (bd_r ((congrFun (fr563 t (nin_s (i := 0) hs_t (by decide))) 0).trans ((congrFun (fr11 t (sne (i := 0) (c := 54) hs_t (by decide))) 0).trans ((congrFun (ms_c e8 (sne (i := 0) (c := 53) hs_t (by decide))) 0).trans ((congrFun (ms_c e6 (sne (i := 0) (c := 53) hs_t (by decide))) 0).trans ((congrFun (ms_c e4 (sne (i := 0) (c := 53) hs_t (by decide))) 0).trans (congrFun (ms_c e2 (sne (i := 0) (c := 53) hs_t (by decide))) 0)))))) hp0) (bd_r ((congrFun (fr563 t (nin_s (i := 0) hs_t (by decide))) 2).trans ((congrFun (fr11 t (sne (i := 0) (c := 54) hs_t (by decide))) 2).trans ((congrFun (ms_c e8 (sne (i := 0) (c := 53) hs_t (by decide))) 2).trans ((congrFun (ms_c e6 (sne (i := 0) (c := 53) hs_t (by decide))) 2).trans ((congrFun (ms_c e4 (sne (i := 0) (c := 53) hs_t (by decide))) 2).trans (congrFun (ms_c e2 (sne (i := 0) (c := 53) hs_t (by decide))) 2)))))) hp1)) hq.n k835 k836 k837 (zh0c hs_t) rfl rfl k89 k838 np_X1_harmOf (Nat.le_trans (by decide) hd) (by decide) (Nat.le_refl _) (Nat.le_refl _) wlen rfl (Nat.le_of_ble_eq_true rfl) (fun r_ h_ p840 => ?_)
        obtain ⟨v841, rfl, rfl⟩ := p840
        obtain ⟨u842, e843⟩ : ∃ z, z = ms u562 53 2 v841 := ⟨_, rfl⟩
        refine J_put (C := RX5) (T := TX5) (Z := 7) (ci := 5) (f := 2) (ty0 := tyX5) dX5_run_211 inG5 rfl tyX5_ok nmX5 (by decide) k324 rfl rfl wc_53 (Nat.le_of_ble_eq_true rfl) (fun _ _ => ⟨rfl, rfl⟩) (ws e843 wk_53 rfl) ?_
        exact J_vret hq dX5_run_214 rfl wlen (Nat.le_refl _) (Nat.le_refl _) ⟨u842, rfl, rfl, (bd_r ((ms_i e843 (Nat.ne_of_beq_eq_false rfl)).trans ((fc564 0 (Nat.ne_of_beq_eq_false rfl) (Nat.ne_of_beq_eq_false rfl) (Nat.ne_of_beq_eq_false rfl)).trans ((congrFun (fr11 53 (Nat.ne_of_beq_eq_false rfl)) 0).trans ((ms_i e8 (Nat.ne_of_beq_eq_false rfl)).trans ((ms_i e6 (Nat.ne_of_beq_eq_false rfl)).trans ((ms_i e4 (Nat.ne_of_beq_eq_false rfl)).trans (ms_e e2))))))) hp0), (bd_r (ms_i e843 (Nat.ne_of_beq_eq_false rfl)) bm565), (fun c k_ => ((ms_c e843 (nin_ne (a := 53) k_ rfl)).trans ((fr563 c (nin_sub (M := [(53, 55)]) k_ rfl)).trans ((fr11 c (nin_ne (a := 54) k_ rfl)).trans ((ms_c e8 (nin_ne (a := 53) k_ rfl)).trans ((ms_c e6 (nin_ne (a := 53) k_ rfl)).trans ((ms_c e4 (nin_ne (a := 53) k_ rfl)).trans (ms_c e2 (nin_ne (a := 53) k_ rfl))))))))), (fun j k0_ k1_ k2_ k3_ k4_ => ((ms_i e843 k2_).trans ((fc564 j k1_ k3_ k4_).trans ((congrFun (fr11 53 (Nat.ne_of_beq_eq_false rfl)) j).trans ((ms_i e8 k4_).trans ((ms_i e6 k3_).trans ((ms_i e4 k1_).trans (ms_i e2 k0_))))))))⟩
      · refine J_iload (i := 5) (j := 5) dX5_run_43 rfl ?_
        refine J_bipush (v := 9) dX5_run_45 (by decide) ?_
        refine J_icmp_ge (tgt := 202) dX5_run_47 (by decide) (fun c844 => ?_) (fun c844 => ?_)
        · exact (bd_no (bd_le_lo (bd_lt_hi bw561 (i_nle c773) hp0) c844 (bd_c (v := 9) (lo := 9) (hi := 9) (by decide))) (by decide)).elim
        · refine J_aload_n (i := 0) (j := 0) dX5_run_50 rfl rfl ?_
          refine J_aload_n (i := 1) (j := 1) dX5_run_51 rfl rfl ?_
          refine J_iload (i := 5) (j := 5) dX5_run_52 rfl ?_
          refine J_callV (As := [.ref t, .int w561]) (rest := []) dX5_run_54 (c_S53_hears (d := 1) (u := u562) (g := g) (ex := ex) (pond := w561) (t := t) (by decide) hs_t (bd_lt_hi bw561 (i_nle c773) hp0)) hq.n k810 k812 k18 wc_53 rfl rfl k94 k813 np_X5_hears (Nat.le_trans (by decide) hd) (by decide) (Nat.le_refl _) (Nat.le_refl _) wlen rfl (Nat.le_of_ble_eq_true rfl) (fun r_ h_ p910 => ?_)
          obtain ⟨t911, rfl, rfl⟩ := p910
          refine J_istore (i := 6) (lw := [(6, .int (bI t911)), (0, .ref 53), (1, .ref t), (2, .int steps), (3, .int banks), (4, .int keeper), (5, .int w561)]) dX5_run_57 (by decide) rfl ?_
          refine J_aload_n (i := 0) (j := 1) dX5_run_59 rfl rfl ?_
          refine J_get (C := RX5) (T := TX5) (Z := 7) (ci := 5) (f := 5) dX5_run_60 inG5 rfl (by decide) k329 wc_53 rfl ?_
          refine J_iload (i := 5) (j := 6) dX5_run_63 rfl ?_
          refine J_dup2_11 dX5_run_65 rfl rfl ?_
          refine J_iald dX5_run_66 wc_54 (vin (bd_lt_hi bw561 (i_nle c773) hp0) (by decide)) ?_
          refine J_topi (fun v912 qv912 => ?_)
          refine J_iload_n (i := 2) (j := 3) dX5_run_67 rfl rfl ?_
          refine J_aload_n (i := 1) (j := 2) dX5_run_68 rfl rfl ?_
          refine J_iload (i := 5) (j := 6) dX5_run_69 rfl ?_
          refine J_iconst (v := 2) dX5_run_71 (by decide) ?_
          refine J_callV (As := [.int w561, .int 2]) (rest := [.int steps, .int v912, .int w561, .ref 54]) dX5_run_72 (c_H_of (d := 0) (u := u562) (g := g) (ex := ex) (pond := w561) (column := 2) (t := t) (by decide) hs_t) hq.n k814 k749 k750 (zh0c hs_t) rfl rfl k89 k751 np_X1_of (Nat.le_trans (by decide) hd) (by decide) (Nat.le_refl _) (Nat.le_refl _) wlen rfl (Nat.le_of_ble_eq_true rfl) (fun r_ h_ p913 => ?_)
          obtain ⟨rfl, rfl⟩ := p913
          refine J_ci (v := (hof u t w561 (2 : Int32))) (hof_c ((fr563 (t + 1) (nin_s (i := 1) hs_t (by decide))).trans ((fr11 (t + 1) (sne (i := 1) (c := 54) hs_t (by decide))).trans ((ms_c e8 (sne (i := 1) (c := 53) hs_t (by decide))).trans ((ms_c e6 (sne (i := 1) (c := 53) hs_t (by decide))).trans ((ms_c e4 (sne (i := 1) (c := 53) hs_t (by decide))).trans (ms_c e2 (sne (i := 1) (c := 53) hs_t (by decide))))))))) ?_
          refine J_imul dX5_run_75 ?_
          refine J_iload (i := 6) (j := 0) dX5_run_76 rfl ?_
          have jn917 : ∀ (w916 : Int32), J x yX5_run cX5_run 7 none d 0 0 (Wd u g ex).length 92 [(0, .ref 53), (1, .ref t), (2, .int steps), (3, .int banks), (4, .int keeper), (5, .int w561), (6, .int (bI t911))] [.int w916, .int (steps * (hof u t w561 (2 : Int32))), .int v912, .int w561, .ref 54] (Wd u562 g ex) 0 0 := by
            intro w916
            refine J_iadd dX5_run_92 ?_
            refine J_iadd dX5_run_93 ?_
            obtain ⟨u918, e919⟩ : ∃ z, z = ms u562 54 w561.toNatClampNeg (v912 + ((steps * (hof u t w561 (2 : Int32))) + w916)) := ⟨_, rfl⟩
            refine J_iast dX5_run_94 wc_54 (vin (bd_lt_hi bw561 (i_nle c773) hp0) (by decide)) (ws e919 wk_54 rfl) ?_
            refine J_iload (i := 6) (j := 6) dX5_run_95 rfl ?_
            have jn930 : ∀ (u926 : Nat → Nat → Int32), (∀ c, c ≠ 53 → u926 c = u918 c) → (∀ j, j ≠ 3 → u926 53 j = u918 53 j) → Bd 0 511 (u926 53 3) → J x yX5_run cX5_run 7 none d 0 0 (Wd u g ex).length 114 [(0, .ref 53), (1, .ref t), (2, .int steps), (3, .int banks), (4, .int keeper), (5, .int w561), (6, .int (bI t911))] [] (Wd u926 g ex) 0 0 := by
              intro u926 fr927 fc928 bm929
              refine J_iload (i := 5) (j := 5) dX5_run_114 rfl ?_
              refine J_iload (i := 4) (j := 4) dX5_run_116 rfl ?_
              have jn944 : ∀ (u940 : Nat → Nat → Int32), (∀ c, c ≠ 53 → u940 c = u926 c) → (∀ j, j ≠ 1 → u940 53 j = u926 53 j) → Bd 0 511 (u940 53 1) → J x yX5_run cX5_run 7 none d 0 0 (Wd u g ex).length 146 [(0, .ref 53), (1, .ref t), (2, .int steps), (3, .int banks), (4, .int keeper), (5, .int w561), (6, .int (bI t911))] [] (Wd u940 g ex) 0 0 := by
                intro u940 fr941 fc942 bm943
                refine J_aload_n (i := 0) (j := 0) dX5_run_146 rfl rfl ?_
                refine J_get (C := RX5) (T := TX5) (Z := 7) (ci := 5) (f := 6) dX5_run_147 inG5 rfl (by decide) k330 wc_53 rfl ?_
                refine J_iload (i := 5) (j := 5) dX5_run_150 rfl ?_
                refine J_aload_n (i := 0) (j := 0) dX5_run_152 rfl rfl ?_
                refine J_aload_n (i := 1) (j := 1) dX5_run_153 rfl rfl ?_
                refine J_iload (i := 5) (j := 5) dX5_run_154 rfl ?_
                refine J_iload (i := 5) (j := 5) dX5_run_156 rfl ?_
                refine J_iload (i := 4) (j := 4) dX5_run_158 rfl ?_
                have jn947 : ∀ (w946 : Int32), Bd 0 1 w946 → J x yX5_run cX5_run 7 none d 0 0 (Wd u g ex).length 168 [(0, .ref 53), (1, .ref t), (2, .int steps), (3, .int banks), (4, .int keeper), (5, .int w561), (6, .int (bI t911))] [.int w946, .int w561, .ref t, .ref 53, .int w561, .ref 55] (Wd u940 g ex) 0 0 := by
                  intro w946 bw946
                  refine J_callV (As := [.ref t, .int w561, .int w946]) (rest := [.int w561, .ref 55]) dX5_run_168 (c_S53_leaving (d := 1) (u := u940) (g := g) (ex := ex) (pond := w561) (keeps := w946) (t := t) (by decide) hs_t (bd_lt_hi bw561 (i_nle c773) hp0)) hq.n k825 k827 k20 wc_53 rfl rfl k94 k828 np_X5_leaving (Nat.le_trans (by decide) hd) (by decide) (Nat.le_refl _) (Nat.le_refl _) wlen rfl (Nat.le_of_ble_eq_true rfl) (fun r_ h_ p948 => ?_)
                  obtain ⟨v949, rfl, rfl⟩ := p948
                  refine J_iload (i := 6) (j := 6) dX5_run_171 rfl ?_
                  have jn953 : ∀ (w952 : Int32), J x yX5_run cX5_run 7 none d 0 0 (Wd u g ex).length 187 [(0, .ref 53), (1, .ref t), (2, .int steps), (3, .int banks), (4, .int keeper), (5, .int w561)] [.int w952, .int v949, .int w561, .ref 55] (Wd u940 g ex) 0 0 := by
                    intro w952
                    refine J_iadd dX5_run_187 ?_
                    obtain ⟨u954, e955⟩ : ∃ z, z = ms u940 55 w561.toNatClampNeg (v949 + w952) := ⟨_, rfl⟩
                    refine J_iast dX5_run_188 wc_55 (vin (bd_lt_hi bw561 (i_nle c773) hp0) (by decide)) (ws e955 wk_55 rfl) ?_
                    refine J_aload_n (i := 0) (j := 0) dX5_run_189 rfl rfl ?_
                    refine J_aload_n (i := 1) (j := 1) dX5_run_190 rfl rfl ?_
                    refine J_iload (i := 5) (j := 5) dX5_run_191 rfl ?_
                    refine J_callV (As := [.ref t, .int w561]) (rest := []) dX5_run_193 (c_S53_pass (d := 1) (u := u954) (g := g) (ex := ex) (pond := w561) (t := t) (by decide) hs_t (bd_r ((congrFun (ms_c e955 (sne (i := 0) (c := 55) hs_t (by decide))) 0).trans ((congrFun (fr941 t (sne (i := 0) (c := 53) hs_t (by decide))) 0).trans ((congrFun (fr927 t (sne (i := 0) (c := 53) hs_t (by decide))) 0).trans ((congrFun (ms_c e919 (sne (i := 0) (c := 54) hs_t (by decide))) 0).trans ((congrFun (fr563 t (nin_s (i := 0) hs_t (by decide))) 0).trans ((congrFun (fr11 t (sne (i := 0) (c := 54) hs_t (by decide))) 0).trans ((congrFun (ms_c e8 (sne (i := 0) (c := 53) hs_t (by decide))) 0).trans ((congrFun (ms_c e6 (sne (i := 0) (c := 53) hs_t (by decide))) 0).trans ((congrFun (ms_c e4 (sne (i := 0) (c := 53) hs_t (by decide))) 0).trans (congrFun (ms_c e2 (sne (i := 0) (c := 53) hs_t (by decide))) 0)))))))))) (bd_w (l := 0) (h := 9) (bd_lt_lo hp0 (i_nle c773) (bd_lt_hi bw561 (i_nle c844) (bd_c (v := 9) (lo := 9) (hi := 9) (by decide)))) (by decide))) (bd_r ((congrFun (ms_c e955 (sne (i := 0) (c := 55) hs_t (by decide))) 2).trans ((congrFun (fr941 t (sne (i := 0) (c := 53) hs_t (by decide))) 2).trans ((congrFun (fr927 t (sne (i := 0) (c := 53) hs_t (by decide))) 2).trans ((congrFun (ms_c e919 (sne (i := 0) (c := 54) hs_t (by decide))) 2).trans ((congrFun (fr563 t (nin_s (i := 0) hs_t (by decide))) 2).trans ((congrFun (fr11 t (sne (i := 0) (c := 54) hs_t (by decide))) 2).trans ((congrFun (ms_c e8 (sne (i := 0) (c := 53) hs_t (by decide))) 2).trans ((congrFun (ms_c e6 (sne (i := 0) (c := 53) hs_t (by decide))) 2).trans ((congrFun (ms_c e4 (sne (i := 0) (c := 53) hs_t (by decide))) 2).trans (congrFun (ms_c e2 (sne (i := 0) (c := 53) hs_t (by decide))) 2)))))))))) hp1) (bd_lt_hi bw561 (i_nle c773) hp0)) hq.n k830 k832 k21 wc_53 rfl rfl k94 k833 np_X5_pass (Nat.le_trans (by decide) hd) (by decide) (Nat.le_refl _) (Nat.le_refl _) wlen rfl (Nat.le_of_ble_eq_true rfl) (fun r_ h_ p956 => ?_)
                    obtain ⟨u957, rfl, rfl, fr958, fc959⟩ := p956
                    refine J_iinc (i := 5) (j := 5) (v := (w561 + 1)) (lw := [(5, .int (w561 + 1)), (0, .ref 53), (1, .ref t), (2, .int steps), (3, .int banks), (4, .int keeper)]) dX5_run_196 rfl rfl (by decide) rfl ?_
                    refine J_goto (tgt := 34) dX5_run_199 (by decide) ?_
                    refine J_lv [1, 2, 3, 4, 5, 0] rfl ?_
                    exact ih771 (w561 + 1) u957 (bd_w (l := 0) (h := 9) (bd_add (l := 1) (h := 9) (bd_lt_hi bw561 (i_nle c773) hp0) (bd_c (v := 1) (lo := 1) (hi := 1) (by decide)) (by decide)) (by decide)) (fun c k_ => ((fr958 c (nin_ne (a := 53) k_ rfl) (nin_ne (a := 54) k_ rfl)).trans ((ms_c e955 (nin_ne (a := 55) k_ rfl)).trans ((fr941 c (nin_ne (a := 53) k_ rfl)).trans ((fr927 c (nin_ne (a := 53) k_ rfl)).trans ((ms_c e919 (nin_ne (a := 54) k_ rfl)).trans (fr563 c (nin_sub (M := [(53, 55)]) k_ rfl)))))))) (fun j k1_ k3_ k4_ => ((fc959 j k4_).trans ((congrFun (ms_c e955 (Nat.ne_of_beq_eq_false rfl)) j).trans ((fc942 j k1_).trans ((fc928 j k3_).trans ((congrFun (ms_c e919 (Nat.ne_of_beq_eq_false rfl)) j).trans (fc564 j k1_ k3_ k4_))))))) (bd_r ((fc959 1 (Nat.ne_of_beq_eq_false rfl)).trans (congrFun (ms_c e955 (Nat.ne_of_beq_eq_false rfl)) 1)) bm943) (bd_r ((fc959 3 (Nat.ne_of_beq_eq_false rfl)).trans ((congrFun (ms_c e955 (Nat.ne_of_beq_eq_false rfl)) 3).trans (fc942 3 (Nat.ne_of_beq_eq_false rfl)))) bm929) (mu_up 1 bw561 rfl (by decide) (bd_w (l := 1) (h := 9) (bd_add (l := 1) (h := 9) (bd_lt_hi bw561 (i_nle c773) hp0) (bd_c (v := 1) (lo := 1) (hi := 1) (by decide)) (by decide)) (by decide)) hm772)
                  refine J_ifB_eq (tgt := 186) dX5_run_173 (by decide) (fun c950 => ?_) (fun c950 => ?_)
                  · refine J_iconst (v := 0) dX5_run_186 (by decide) ?_
                    refine J_lv [0, 1, 2, 3, 4, 5] rfl ?_
                    exact jn953 (0 : Int32) 
                  · refine J_aload_n (i := 1) (j := 1) dX5_run_176 rfl rfl ?_
                    refine J_iload (i := 5) (j := 5) dX5_run_177 rfl ?_
                    refine J_iconst (v := 1) dX5_run_179 (by decide) ?_
                    refine J_callV (As := [.int w561, .int 1]) (rest := [.int v949, .int w561, .ref 55]) dX5_run_180 (c_H_of (d := 0) (u := u940) (g := g) (ex := ex) (pond := w561) (column := 1) (t := t) (by decide) hs_t) hq.n k814 k749 k750 (zh0c hs_t) rfl rfl k89 k751 np_X1_of (Nat.le_trans (by decide) hd) (by decide) (Nat.le_refl _) (Nat.le_refl _) wlen rfl (Nat.le_of_ble_eq_true rfl) (fun r_ h_ p960 => ?_)
                    obtain ⟨rfl, rfl⟩ := p960
                    refine J_ci (v := (hof u t w561 (1 : Int32))) (hof_c ((fr941 (t + 1) (sne (i := 1) (c := 53) hs_t (by decide))).trans ((fr927 (t + 1) (sne (i := 1) (c := 53) hs_t (by decide))).trans ((ms_c e919 (sne (i := 1) (c := 54) hs_t (by decide))).trans ((fr563 (t + 1) (nin_s (i := 1) hs_t (by decide))).trans ((fr11 (t + 1) (sne (i := 1) (c := 54) hs_t (by decide))).trans ((ms_c e8 (sne (i := 1) (c := 53) hs_t (by decide))).trans ((ms_c e6 (sne (i := 1) (c := 53) hs_t (by decide))).trans ((ms_c e4 (sne (i := 1) (c := 53) hs_t (by decide))).trans (ms_c e2 (sne (i := 1) (c := 53) hs_t (by decide)))))))))))) ?_
                    refine J_goto (tgt := 187) dX5_run_183 (by decide) ?_
                    refine J_lv [0, 1, 2, 3, 4, 5] rfl ?_
                    exact jn953 (hof u t w561 (1 : Int32)) 
                refine J_icmp_ne (tgt := 167) dX5_run_160 (by decide) (fun c945 => ?_) (fun c945 => ?_)
                · refine J_iconst (v := 0) dX5_run_167 (by decide) ?_
                  refine J_lv [0, 1, 2, 3, 4, 5, 6] rfl ?_
                  exact jn947 (0 : Int32) (bd_w (l := 0) (h := 1) (bd_c (v := 0) (lo := 0) (hi := 0) (by decide)) (by decide))
                · refine J_iconst (v := 1) dX5_run_163 (by decide) ?_
                  refine J_goto (tgt := 168) dX5_run_164 (by decide) ?_
                  refine J_lv [0, 1, 2, 3, 4, 5, 6] rfl ?_
                  exact jn947 (1 : Int32) (bd_w (l := 0) (h := 1) (bd_c (v := 1) (lo := 1) (hi := 1) (by decide)) (by decide))
              refine J_icmp_eq (tgt := 146) dX5_run_118 (by decide) (fun c931 => ?_) (fun c931 => ?_)
              · refine J_lv [0, 1, 2, 3, 4, 5, 6] rfl ?_
                exact jn944 u926 (fun c k0_ => rfl) (fun j k1_ => rfl) (bd_r ((fc928 1 (Nat.ne_of_beq_eq_false rfl)).trans (congrFun (ms_c e919 (Nat.ne_of_beq_eq_false rfl)) 1)) bm565)
              · refine J_aload_n (i := 0) (j := 0) dX5_run_121 rfl rfl ?_
                refine J_aload_n (i := 1) (j := 1) dX5_run_122 rfl rfl ?_
                refine J_iload (i := 5) (j := 5) dX5_run_123 rfl ?_
                refine J_iload_n (i := 3) (j := 3) dX5_run_125 rfl rfl ?_
                refine J_callV (As := [.ref t, .int w561, .int banks]) (rest := []) dX5_run_126 (c_S53_goes (d := 1) (u := u926) (g := g) (ex := ex) (pond := w561) (banks := banks) (t := t) (by decide) hs_t (bd_lt_hi bw561 (i_nle c773) hp0)) hq.n k821 k823 k19 wc_53 rfl rfl k94 k824 np_X5_goes (Nat.le_trans (by decide) hd) (by decide) (Nat.le_refl _) (Nat.le_refl _) wlen rfl (Nat.le_of_ble_eq_true rfl) (fun r_ h_ p961 => ?_)
                obtain ⟨t962, rfl, rfl⟩ := p961
                refine J_ifB_eq (tgt := 146) dX5_run_129 (by decide) (fun c963 => ?_) (fun c963 => ?_)
                · refine J_lv [0, 1, 2, 3, 4, 5, 6] rfl ?_
                  exact jn944 u926 (fun c k0_ => rfl) (fun j k1_ => rfl) (bd_r ((fc928 1 (Nat.ne_of_beq_eq_false rfl)).trans (congrFun (ms_c e919 (Nat.ne_of_beq_eq_false rfl)) 1)) bm565)
                · refine J_aload_n (i := 0) (j := 0) dX5_run_132 rfl rfl ?_
                  refine J_dup dX5_run_133 rfl ?_
                  refine J_get (C := RX5) (T := TX5) (Z := 7) (ci := 5) (f := 1) dX5_run_134 inG5 rfl (by decide) k320 wc_53 rfl ?_
                  refine J_ci (v := u562 53 1) ((fc928 1 (Nat.ne_of_beq_eq_false rfl)).trans (congrFun (ms_c e919 (Nat.ne_of_beq_eq_false rfl)) 1)) ?_
                  refine J_iload (i := 5) (j := 5) dX5_run_137 rfl ?_
                  refine J_callSN (As := [.int w561]) (rest := [.int (u562 53 1), .ref 53]) dX5_run_139 (c_bit9 (d := 0) (u := u926) (g := g) (ex := ex) (pond := w561)  (by decide) (bd_w (l := (-1)) (h := 8) (bd_lt_hi bw561 (i_nle c773) hp0) (by decide))) hq.n k818 k819 k87 k820 np_X10_bit (Nat.le_trans (by decide) hd) (by decide) (Nat.le_refl _) (Nat.le_refl _) wlen rfl (Nat.le_of_ble_eq_true rfl) (fun r_ h_ p964 => ?_)
                  obtain ⟨v965, rfl, rfl, h966⟩ := p964
                  refine J_ior dX5_run_142 ?_
                  obtain ⟨u967, e968⟩ : ∃ z, z = ms u926 53 1 ((u562 53 1) ||| v965) := ⟨_, rfl⟩
                  refine J_put (C := RX5) (T := TX5) (Z := 7) (ci := 5) (f := 1) (ty0 := tyX5) dX5_run_143 inG5 rfl tyX5_ok nmX5 (by decide) k320 rfl rfl wc_53 (Nat.le_of_ble_eq_true rfl) (fun _ _ => ⟨rfl, rfl⟩) (ws e968 wk_53 rfl) ?_
                  refine J_lv [0, 1, 2, 3, 4, 5, 6] rfl ?_
                  exact jn944 u967 (fun c k0_ => (ms_c e968 k0_)) (fun j k1_ => (ms_i e968 k1_)) (bd_r (ms_e e968) (bd_or (k := 9) (h := 511) bm565 h966 (by decide)))
            refine J_ifB_eq (tgt := 114) dX5_run_97 (by decide) (fun c920 => ?_) (fun c920 => ?_)
            · refine J_lv [0, 1, 2, 3, 4, 5, 6] rfl ?_
              exact jn930 u918 (fun c k0_ => rfl) (fun j k3_ => rfl) (bd_r (congrFun (ms_c e919 (Nat.ne_of_beq_eq_false rfl)) 3) bm566)
            · refine J_aload_n (i := 0) (j := 0) dX5_run_100 rfl rfl ?_
              refine J_dup dX5_run_101 rfl ?_
              refine J_get (C := RX5) (T := TX5) (Z := 7) (ci := 5) (f := 3) dX5_run_102 inG5 rfl (by decide) k326 wc_53 rfl ?_
              refine J_ci (v := u562 53 3) (congrFun (ms_c e919 (Nat.ne_of_beq_eq_false rfl)) 3) ?_
              refine J_iload (i := 5) (j := 5) dX5_run_105 rfl ?_
              refine J_callSN (As := [.int w561]) (rest := [.int (u562 53 3), .ref 53]) dX5_run_107 (c_bit9 (d := 0) (u := u918) (g := g) (ex := ex) (pond := w561)  (by decide) (bd_w (l := (-1)) (h := 8) (bd_lt_hi bw561 (i_nle c773) hp0) (by decide))) hq.n k818 k819 k87 k820 np_X10_bit (Nat.le_trans (by decide) hd) (by decide) (Nat.le_refl _) (Nat.le_refl _) wlen rfl (Nat.le_of_ble_eq_true rfl) (fun r_ h_ p969 => ?_)
              obtain ⟨v970, rfl, rfl, h971⟩ := p969
              refine J_ior dX5_run_110 ?_
              obtain ⟨u972, e973⟩ : ∃ z, z = ms u918 53 3 ((u562 53 3) ||| v970) := ⟨_, rfl⟩
              refine J_put (C := RX5) (T := TX5) (Z := 7) (ci := 5) (f := 3) (ty0 := tyX5) dX5_run_111 inG5 rfl tyX5_ok nmX5 (by decide) k326 rfl rfl wc_53 (Nat.le_of_ble_eq_true rfl) (fun _ _ => ⟨rfl, rfl⟩) (ws e973 wk_53 rfl) ?_
              refine J_lv [0, 1, 2, 3, 4, 5, 6] rfl ?_
              exact jn930 u972 (fun c k0_ => (ms_c e973 k0_)) (fun j k3_ => (ms_i e973 k3_)) (bd_r (ms_e e973) (bd_or (k := 9) (h := 511) bm566 h971 (by decide)))
          refine J_ifB_eq (tgt := 85) dX5_run_78 (by decide) (fun c914 => ?_) (fun c914 => ?_)
          · refine J_aload_n (i := 1) (j := 2) dX5_run_85 rfl rfl ?_
            refine J_iload (i := 5) (j := 6) dX5_run_86 rfl ?_
            refine J_iconst (v := 1) dX5_run_88 (by decide) ?_
            refine J_callV (As := [.int w561, .int 1]) (rest := [.int (steps * (hof u t w561 (2 : Int32))), .int v912, .int w561, .ref 54]) dX5_run_89 (c_H_of (d := 0) (u := u562) (g := g) (ex := ex) (pond := w561) (column := 1) (t := t) (by decide) hs_t) hq.n k814 k749 k750 (zh0c hs_t) rfl rfl k89 k751 np_X1_of (Nat.le_trans (by decide) hd) (by decide) (Nat.le_refl _) (Nat.le_refl _) wlen rfl (Nat.le_of_ble_eq_true rfl) (fun r_ h_ p974 => ?_)
            obtain ⟨rfl, rfl⟩ := p974
            refine J_ci (v := (hof u t w561 (1 : Int32))) (hof_c ((fr563 (t + 1) (nin_s (i := 1) hs_t (by decide))).trans ((fr11 (t + 1) (sne (i := 1) (c := 54) hs_t (by decide))).trans ((ms_c e8 (sne (i := 1) (c := 53) hs_t (by decide))).trans ((ms_c e6 (sne (i := 1) (c := 53) hs_t (by decide))).trans ((ms_c e4 (sne (i := 1) (c := 53) hs_t (by decide))).trans (ms_c e2 (sne (i := 1) (c := 53) hs_t (by decide))))))))) ?_
            refine J_lv [1, 2, 3, 4, 5, 6, 0] rfl ?_
            exact jn917 (hof u t w561 (1 : Int32)) 
          · refine J_iconst (v := 0) dX5_run_81 (by decide) ?_
            refine J_goto (tgt := 92) dX5_run_82 (by decide) ?_
            refine J_lv [1, 2, 3, 4, 5, 6, 0] rfl ?_
            exact jn917 (0 : Int32) 
  refine J_lv [1, 2, 3, 4, 5, 0] rfl ?_
  exact lp769 _ (0 : Int32) u10 (bd_w (l := 0) (h := 9) (bd_c (v := 0) (lo := 0) (hi := 0) (by decide)) (by decide)) (fun c k_ => rfl) (fun j k1_ k3_ k4_ => rfl) (bd_r ((congrFun (fr11 53 (Nat.ne_of_beq_eq_false rfl)) 1).trans ((ms_i e8 (Nat.ne_of_beq_eq_false rfl)).trans ((ms_i e6 (Nat.ne_of_beq_eq_false rfl)).trans (ms_e e4)))) (bd_w (l := 0) (h := 511) (bd_c (v := 0) (lo := 0) (hi := 0) (by decide)) (by decide))) (bd_r ((congrFun (fr11 53 (Nat.ne_of_beq_eq_false rfl)) 3).trans ((ms_i e8 (Nat.ne_of_beq_eq_false rfl)).trans (ms_e e6))) (bd_w (l := 0) (h := 511) (bd_c (v := 0) (lo := 0) (hi := 0) (by decide)) (by decide))) (Nat.lt_succ_self _)
set_option maxHeartbeats 4000000 in
set_option maxRecDepth 100000 in
theorem c_S53_toldOfPond {d : Nat} {u : Nat → Nat → Int32} {g : Nat → Nat → Int64} {ex : List MC} {row : Int32} {pond : Int32} (hd : 0 ≤ d) (hp0 : Bd 0 9 (u 53 0)) (hp1 : Bd 0 511 (u 53 1)) : CT con0 d 0 0 yX5_toldOfPond cX5_toldOfPond 3 (some .int) [.ref 53, .int row, .int pond] (Wd u g ex) (fun r h2 => ∃ (z : Int32), r = some (.int z) ∧ h2 = Wd u g ex) := by
  refine CT_of (by decide) (Nat.le_of_ble_eq_true rfl) (fun x hq => ?_)
  show J x yX5_toldOfPond cX5_toldOfPond 3 (some .int) d 0 0 (Wd u g ex).length 0 [(0, .ref 53), (1, .int row), (2, .int pond)] [] (Wd u g ex) 0 0
  refine J_iload_n (i := 2) (j := 2) dX5_toldOfPond_0 rfl rfl ?_
  refine J_if_lt (tgt := 12) dX5_toldOfPond_1 (by decide) (fun c1 => ?_) (fun c1 => ?_)
  · refine J_iconst (v := (-1)) dX5_toldOfPond_12 (by decide) ?_
    exact J_iret hq dX5_toldOfPond_13 rfl wlen (Nat.le_refl _) (Nat.le_refl _) ⟨((-1) : Int32), rfl, rfl⟩
  · refine J_iload_n (i := 2) (j := 2) dX5_toldOfPond_4 rfl rfl ?_
    refine J_aload_n (i := 0) (j := 0) dX5_toldOfPond_5 rfl rfl ?_
    refine J_get (C := RX5) (T := TX5) (Z := 7) (ci := 5) (f := 0) dX5_toldOfPond_6 inG5 rfl (by decide) k319 wc_53 rfl ?_
    refine J_icmp_lt (tgt := 14) dX5_toldOfPond_9 (by decide) (fun c2 => ?_) (fun c2 => ?_)
    · refine J_iload_n (i := 1) (j := 1) dX5_toldOfPond_14 rfl rfl ?_
      by_cases c3 : row = 1
      · refine J_ci (v := 1) c3 ?_
        refine J_tableIn (tgt := 40) (off := 25) dX5_toldOfPond_15 (by decide) (by decide) (by decide) (by decide) ?_
        refine J_aload_n (i := 0) (j := 0) dX5_toldOfPond_40 rfl rfl ?_
        refine J_get (C := RX5) (T := TX5) (Z := 7) (ci := 5) (f := 5) dX5_toldOfPond_41 inG5 rfl (by decide) k329 wc_53 rfl ?_
        refine J_iload_n (i := 2) (j := 2) dX5_toldOfPond_44 rfl rfl ?_
        refine J_iald dX5_toldOfPond_45 wc_54 (vin (bd_lt_hi (bd_le_lo (bd_any pond) (i_nlt c1) (bd_c (v := 0) (lo := 0) (hi := 0) (by decide))) c2 hp0) (by decide)) ?_
        refine J_topi (fun v4 qv4 => ?_)
        exact J_iret hq dX5_toldOfPond_46 rfl wlen (Nat.le_refl _) (Nat.le_refl _) ⟨v4, rfl, rfl⟩
      by_cases c5 : row = 2
      · refine J_ci (v := 2) c5 ?_
        refine J_tableIn (tgt := 47) (off := 32) dX5_toldOfPond_15 (by decide) (by decide) (by decide) (by decide) ?_
        refine J_aload_n (i := 0) (j := 0) dX5_toldOfPond_47 rfl rfl ?_
        refine J_get (C := RX5) (T := TX5) (Z := 7) (ci := 5) (f := 6) dX5_toldOfPond_48 inG5 rfl (by decide) k330 wc_53 rfl ?_
        refine J_iload_n (i := 2) (j := 2) dX5_toldOfPond_51 rfl rfl ?_
        refine J_iald dX5_toldOfPond_52 wc_55 (vin (bd_lt_hi (bd_le_lo (bd_any pond) (i_nlt c1) (bd_c (v := 0) (lo := 0) (hi := 0) (by decide))) c2 hp0) (by decide)) ?_
        refine J_topi (fun v6 qv6 => ?_)
        exact J_iret hq dX5_toldOfPond_53 rfl wlen (Nat.le_refl _) (Nat.le_refl _) ⟨v6, rfl, rfl⟩
      by_cases c7 : row = 3
      · refine J_ci (v := 3) c7 ?_
        refine J_tableIn (tgt := 54) (off := 39) dX5_toldOfPond_15 (by decide) (by decide) (by decide) (by decide) ?_
        refine J_aload_n (i := 0) (j := 0) dX5_toldOfPond_54 rfl rfl ?_
        refine J_get (C := RX5) (T := TX5) (Z := 7) (ci := 5) (f := 3) dX5_toldOfPond_55 inG5 rfl (by decide) k326 wc_53 rfl ?_
        refine J_iload_n (i := 2) (j := 2) dX5_toldOfPond_58 rfl rfl ?_
        refine J_ishr dX5_toldOfPond_59 ?_
        refine J_iconst (v := 1) dX5_toldOfPond_60 (by decide) ?_
        refine J_iand dX5_toldOfPond_61 ?_
        exact J_iret hq dX5_toldOfPond_62 rfl wlen (Nat.le_refl _) (Nat.le_refl _) ⟨(((u 53 3) >>> (pond &&& 31)) &&& 1), rfl, rfl⟩
      · refine J_tableOut (tgt := 63) dX5_toldOfPond_15 (by have e0 := int_ne (k := 1) c3 (by decide); have e1 := int_ne (k := 2) c5 (by decide); have e2 := int_ne (k := 3) c7 (by decide); omega) (by decide) ?_
        refine J_iconst (v := (-1)) dX5_toldOfPond_63 (by decide) ?_
        exact J_iret hq dX5_toldOfPond_64 rfl wlen (Nat.le_refl _) (Nat.le_refl _) ⟨((-1) : Int32), rfl, rfl⟩
    · refine J_iconst (v := (-1)) dX5_toldOfPond_12 (by decide) ?_
      exact J_iret hq dX5_toldOfPond_13 rfl wlen (Nat.le_refl _) (Nat.le_refl _) ⟨((-1) : Int32), rfl, rfl⟩
set_option maxHeartbeats 4000000 in
set_option maxRecDepth 100000 in
theorem c_S53_told {d : Nat} {u : Nat → Nat → Int32} {g : Nat → Nat → Int64} {ex : List MC} {what : Int32} (hd : 1 ≤ d) (hp0 : Bd 0 9 (u 53 0)) (hp1 : Bd 0 511 (u 53 1)) : CT con0 d 0 0 yX5_told cX5_told 2 (some .int) [.ref 53, .int what] (Wd u g ex) (fun r h2 => ∃ (z : Int32), r = some (.int z) ∧ h2 = Wd u g ex) := by
  refine CT_of (by decide) (Nat.le_of_ble_eq_true rfl) (fun x hq => ?_)
  show J x yX5_told cX5_told 2 (some .int) d 0 0 (Wd u g ex).length 0 [(0, .ref 53), (1, .int what)] [] (Wd u g ex) 0 0
  refine J_iload_n (i := 1) (j := 1) dX5_told_0 rfl rfl ?_
  by_cases c1 : what = 0
  · refine J_ci (v := 0) c1 ?_
    refine J_lookup (tgt := 36) dX5_told_1 (by decide) (off := 35) (by decide) (by decide) ?_
    refine J_aload_n (i := 0) (j := 0) dX5_told_36 rfl rfl ?_
    refine J_get (C := RX5) (T := TX5) (Z := 7) (ci := 5) (f := 1) dX5_told_37 inG5 rfl (by decide) k320 wc_53 rfl ?_
    exact J_iret hq dX5_told_40 rfl wlen (Nat.le_refl _) (Nat.le_refl _) ⟨(u 53 1), rfl, rfl⟩
  by_cases c2 : what = 1
  · refine J_ci (v := 1) c2 ?_
    refine J_lookup (tgt := 41) dX5_told_1 (by decide) (off := 40) (by decide) (by decide) ?_
    refine J_aload_n (i := 0) (j := 0) dX5_told_41 rfl rfl ?_
    refine J_get (C := RX5) (T := TX5) (Z := 7) (ci := 5) (f := 2) dX5_told_42 inG5 rfl (by decide) k324 wc_53 rfl ?_
    exact J_iret hq dX5_told_45 rfl wlen (Nat.le_refl _) (Nat.le_refl _) ⟨(u 53 2), rfl, rfl⟩
  by_cases c3 : what = 40
  · refine J_ci (v := 40) c3 ?_
    refine J_lookup (tgt := 46) dX5_told_1 (by decide) (off := 45) (by decide) (by decide) ?_
    refine J_aload_n (i := 0) (j := 0) dX5_told_46 rfl rfl ?_
    refine J_get (C := RX5) (T := TX5) (Z := 7) (ci := 5) (f := 4) dX5_told_47 inG5 rfl (by decide) k327 wc_53 rfl ?_
    exact J_iret hq dX5_told_50 rfl wlen (Nat.le_refl _) (Nat.le_refl _) ⟨(u 53 4), rfl, rfl⟩
  · refine J_lookup (tgt := 51) dX5_told_1 (by decide) (off := 50) ((lv_osw c1 (by decide)).trans ((lv_osw c2 (by decide)).trans ((lv_osw c3 (by decide)).trans rfl))) (by decide) ?_
    refine J_aload_n (i := 0) (j := 0) dX5_told_51 rfl rfl ?_
    refine J_iload_n (i := 1) (j := 1) dX5_told_52 rfl rfl ?_
    refine J_bipush (v := 10) dX5_told_53 (by decide) ?_
    refine J_idiv dX5_told_55 (by decide) ?_
    refine J_iload_n (i := 1) (j := 1) dX5_told_56 rfl rfl ?_
    refine J_bipush (v := 10) dX5_told_57 (by decide) ?_
    refine J_irem dX5_told_59 (by decide) ?_
    refine J_callV (As := [.int (what / 10), .int (what - what / 10 * 10)]) (rest := []) dX5_told_60 (c_S53_toldOfPond (d := 0) (u := u) (g := g) (ex := ex) (row := (what / 10)) (pond := (what - what / 10 * 10))  (by decide) hp0 hp1) hq.n k844 k846 k22 wc_53 rfl rfl k94 k847 np_X5_toldOfPond (Nat.le_trans (by decide) hd) (by decide) (Nat.le_refl _) (Nat.le_refl _) wlen rfl (Nat.le_of_ble_eq_true rfl) (fun r_ h_ p4 => ?_)
    obtain ⟨v5, rfl, rfl⟩ := p4
    exact J_iret hq dX5_told_63 rfl wlen (Nat.le_refl _) (Nat.le_refl _) ⟨v5, rfl, rfl⟩
set_option maxHeartbeats 4000000 in
set_option maxRecDepth 100000 in
theorem c_S53_leaveBehind {d : Nat} {u : Nat → Nat → Int32} {g : Nat → Nat → Int64} {ex : List MC} {t : Nat} (hd : 2 ≤ d) (hs_t : t ∈ hl) (hp0 : Bd 0 9 (u 53 0)) (hp1 : Bd 0 511 (u 53 1)) : CT con0 d 0 0 yX5_leaveBehind cX5_leaveBehind 3 none [.ref 53, .ref t] (Wd u g ex) (fun r h2 => ∃ (u2 : Nat → Nat → Int32), r = none ∧ h2 = Wd u2 g ex ∧ (∀ c, c ≠ t + 1 → u2 c = u c)) := by
  refine CT_of (by decide) (Nat.le_of_ble_eq_true rfl) (fun x hq => ?_)
  show J x yX5_leaveBehind cX5_leaveBehind 3 none d 0 0 (Wd u g ex).length 0 [(0, .ref 53), (1, .ref t)] [] (Wd u g ex) 0 0
  refine J_iconst (v := 0) dX5_leaveBehind_0 (by decide) ?_
  refine J_istore_n (i := 2) (lw := [(2, .int 0), (0, .ref 53), (1, .ref t)]) dX5_leaveBehind_1 rfl (by decide) rfl ?_
  have lp100 : ∀ (n101 : Nat) (w65 : Int32) (u66 : Nat → Nat → Int32), Bd 0 9 w65 → (∀ c, c ≠ t + 1 → u66 c = u c) → (9 - w65.toInt).toNat < n101 → J x yX5_leaveBehind cX5_leaveBehind 3 none d 0 0 (Wd u g ex).length 2 [(0, .ref 53), (1, .ref t), (2, .int w65)] [] (Wd u66 g ex) 0 0 := by
    intro n101
    induction n101 with
    | zero => intro w65 u66 bw65 fr67 hm103; exact absurd hm103 (Nat.not_lt_zero _)
    | succ n101 ih102 =>
      intro w65 u66 bw65 fr67 hm103
      refine J_iload_n (i := 2) (j := 2) dX5_leaveBehind_2 rfl rfl ?_
      refine J_aload_n (i := 0) (j := 0) dX5_leaveBehind_3 rfl rfl ?_
      refine J_get (C := RX5) (T := TX5) (Z := 7) (ci := 5) (f := 0) dX5_leaveBehind_4 inG5 rfl (by decide) k319 wc_53 rfl ?_
      refine J_ci (v := u 53 0) (congrFun (fr67 53 (Ne.symm (sne (i := 1) (c := 53) hs_t (by decide)))) 0) ?_
      refine J_icmp_ge (tgt := 70) dX5_leaveBehind_7 (by decide) (fun c104 => ?_) (fun c104 => ?_)
      · exact J_vret hq dX5_leaveBehind_70 rfl wlen (Nat.le_refl _) (Nat.le_refl _) ⟨u66, rfl, rfl, (fun c k0_ => (fr67 c k0_))⟩
      · refine J_iload_n (i := 2) (j := 2) dX5_leaveBehind_10 rfl rfl ?_
        refine J_bipush (v := 9) dX5_leaveBehind_11 (by decide) ?_
        refine J_icmp_ge (tgt := 70) dX5_leaveBehind_13 (by decide) (fun c105 => ?_) (fun c105 => ?_)
        · exact (bd_no (bd_le_lo (bd_lt_hi bw65 (i_nle c104) hp0) c105 (bd_c (v := 9) (lo := 9) (hi := 9) (by decide))) (by decide)).elim
        · refine J_aload_n (i := 0) (j := 0) dX5_leaveBehind_16 rfl rfl ?_
          refine J_get (C := RX5) (T := TX5) (Z := 7) (ci := 5) (f := 1) dX5_leaveBehind_17 inG5 rfl (by decide) k320 wc_53 rfl ?_
          refine J_ci (v := u 53 1) (congrFun (fr67 53 (Ne.symm (sne (i := 1) (c := 53) hs_t (by decide)))) 1) ?_
          refine J_iload_n (i := 2) (j := 2) dX5_leaveBehind_20 rfl rfl ?_
          refine J_callSN (As := [.int (u 53 1), .int w65]) (rest := []) dX5_leaveBehind_21 (c_isIn (d := 0) (u := u66) (g := g) (ex := ex) (set := u 53 1) (pond := w65)  (by decide) ) hq.n k815 k816 k87 k817 np_X10_isIn (Nat.le_trans (by decide) hd) (by decide) (Nat.le_refl _) (Nat.le_refl _) wlen rfl (Nat.le_of_ble_eq_true rfl) (fun r_ h_ p106 => ?_)
          obtain ⟨t107, rfl, rfl⟩ := p106
          have jn123 : ∀ (u121 : Nat → Nat → Int32), (∀ c, c ≠ t + 1 → u121 c = u66 c) → J x yX5_leaveBehind cX5_leaveBehind 3 none d 0 0 (Wd u g ex).length 64 [(0, .ref 53), (1, .ref t), (2, .int w65)] [] (Wd u121 g ex) 0 0 := by
            intro u121 fr122
            refine J_iinc (i := 2) (j := 2) (v := (w65 + 1)) (lw := [(2, .int (w65 + 1)), (0, .ref 53), (1, .ref t)]) dX5_leaveBehind_64 rfl rfl (by decide) rfl ?_
            refine J_goto (tgt := 2) dX5_leaveBehind_67 (by decide) ?_
            refine J_lv [1, 2, 0] rfl ?_
            exact ih102 (w65 + 1) u121 (bd_w (l := 0) (h := 9) (bd_add (l := 1) (h := 9) (bd_lt_hi bw65 (i_nle c104) hp0) (bd_c (v := 1) (lo := 1) (hi := 1) (by decide)) (by decide)) (by decide)) (fun c k0_ => ((fr122 c k0_).trans (fr67 c k0_))) (mu_up 1 bw65 rfl (by decide) (bd_w (l := 1) (h := 9) (bd_add (l := 1) (h := 9) (bd_lt_hi bw65 (i_nle c104) hp0) (bd_c (v := 1) (lo := 1) (hi := 1) (by decide)) (by decide)) (by decide)) hm103)
          refine J_ifB_eq (tgt := 35) dX5_leaveBehind_24 (by decide) (fun c108 => ?_) (fun c108 => ?_)
          · refine J_aload_n (i := 1) (j := 1) dX5_leaveBehind_35 rfl rfl ?_
            refine J_iload_n (i := 2) (j := 2) dX5_leaveBehind_36 rfl rfl ?_
            refine J_callV (As := [.int w65]) (rest := []) dX5_leaveBehind_37 (c_H_isOut (d := 1) (u := u66) (g := g) (ex := ex) (pond := w65) (t := t) (by decide) hs_t) hq.n k1225 k745 k746 (zh0c hs_t) rfl rfl k89 k747 np_X1_isOut (Nat.le_trans (by decide) hd) (by decide) (Nat.le_refl _) (Nat.le_refl _) wlen rfl (Nat.le_of_ble_eq_true rfl) (fun r_ h_ p124 => ?_)
            obtain ⟨t125, rfl, rfl⟩ := p124
            refine J_ifB_ne (tgt := 64) dX5_leaveBehind_40 (by decide) (fun c126 => ?_) (fun c126 => ?_)
            · refine J_lv [0, 1, 2] rfl ?_
              exact jn123 u66 (fun c k0_ => rfl)
            · refine J_aload_n (i := 1) (j := 1) dX5_leaveBehind_43 rfl rfl ?_
              refine J_iload_n (i := 2) (j := 2) dX5_leaveBehind_44 rfl rfl ?_
              refine J_iconst (v := 1) dX5_leaveBehind_45 (by decide) ?_
              refine J_aload_n (i := 0) (j := 0) dX5_leaveBehind_46 rfl rfl ?_
              refine J_get (C := RX5) (T := TX5) (Z := 7) (ci := 5) (f := 5) dX5_leaveBehind_47 inG5 rfl (by decide) k329 wc_53 rfl ?_
              refine J_iload_n (i := 2) (j := 2) dX5_leaveBehind_50 rfl rfl ?_
              refine J_iald dX5_leaveBehind_51 wc_54 (vin (bd_lt_hi bw65 (i_nle c104) hp0) (by decide)) ?_
              refine J_topi (fun v127 qv127 => ?_)
              refine J_aload_n (i := 1) (j := 1) dX5_leaveBehind_52 rfl rfl ?_
              refine J_iload_n (i := 2) (j := 2) dX5_leaveBehind_53 rfl rfl ?_
              refine J_iconst (v := 0) dX5_leaveBehind_54 (by decide) ?_
              refine J_callV (As := [.int w65, .int 0]) (rest := [.int v127, .int 1, .int w65, .ref t]) dX5_leaveBehind_55 (c_H_of (d := 0) (u := u66) (g := g) (ex := ex) (pond := w65) (column := 0) (t := t) (by decide) hs_t) hq.n k814 k749 k750 (zh0c hs_t) rfl rfl k89 k751 np_X1_of (Nat.le_trans (by decide) hd) (by decide) (Nat.le_refl _) (Nat.le_refl _) wlen rfl (Nat.le_of_ble_eq_true rfl) (fun r_ h_ p128 => ?_)
              obtain ⟨rfl, rfl⟩ := p128
              refine J_mmin dX5_leaveBehind_58 k1226 k494 k99 k495 (Nat.le_trans (by decide) hd) (Nat.le_of_ble_eq_true rfl) (Nat.zero_le _) (Nat.zero_le _) ?_
              refine J_topi (fun v129 qv129 => ?_)
              refine J_callV (As := [.int w65, .int 1, .int v129]) (rest := []) dX5_leaveBehind_61 (c_H_put (d := 0) (u := u66) (g := g) (ex := ex) (pond := w65) (column := 1) (value := v129) (t := t) (by decide) hs_t) hq.n k1227 k650 k651 (zh0c hs_t) rfl rfl k89 k652 np_X1_put (Nat.le_trans (by decide) hd) (by decide) (Nat.le_refl _) (Nat.le_refl _) wlen rfl (Nat.le_of_ble_eq_true rfl) (fun r_ h_ p130 => ?_)
              obtain ⟨u131, rfl, rfl, fr132⟩ := p130
              refine J_lv [0, 1, 2] rfl ?_
              exact jn123 u131 (fun c k0_ => (fr132 c k0_))
          · refine J_aload_n (i := 1) (j := 1) dX5_leaveBehind_27 rfl rfl ?_
            refine J_iload_n (i := 2) (j := 2) dX5_leaveBehind_28 rfl rfl ?_
            refine J_callV (As := [.int w65]) (rest := []) dX5_leaveBehind_29 (c_H_takeOut (d := 1) (u := u66) (g := g) (ex := ex) (pond := w65) (t := t) (by decide) hs_t) hq.n k1224 k771 k772 (zh0c hs_t) rfl rfl k89 k773 np_X1_takeOut (Nat.le_trans (by decide) hd) (by decide) (Nat.le_refl _) (Nat.le_refl _) wlen rfl (Nat.le_of_ble_eq_true rfl) (fun r_ h_ p133 => ?_)
            obtain ⟨u134, rfl, rfl, fr135⟩ := p133
            refine J_goto (tgt := 64) dX5_leaveBehind_32 (by decide) ?_
            refine J_lv [0, 1, 2] rfl ?_
            exact jn123 u134 (fun c k0_ => (fr135 c k0_))
  refine J_lv [1, 2, 0] rfl ?_
  exact lp100 _ (0 : Int32) u (bd_w (l := 0) (h := 9) (bd_c (v := 0) (lo := 0) (hi := 0) (by decide)) (by decide)) (fun c k0_ => rfl) (Nat.lt_succ_self _)
set_option maxHeartbeats 4000000 in
set_option maxRecDepth 100000 in
theorem c_S58_hears {d : Nat} {u : Nat → Nat → Int32} {g : Nat → Nat → Int64} {ex : List MC} {pond : Int32} {t : Nat} (hd : 1 ≤ d) (hs_t : t ∈ hl) (hp0 : Bd 0 8 pond) : CT con0 d 0 0 yX5_hears cX5_hears 6 (some .boolean) [.ref 58, .ref t, .int pond] (Wd u g ex) (fun r h2 => ∃ (z : Bool), r = some (.int (bI z)) ∧ h2 = Wd u g ex) := by
  refine CT_of (by decide) (Nat.le_of_ble_eq_true rfl) (fun x hq => ?_)
  show J x yX5_hears cX5_hears 6 (some .boolean) d 0 0 (Wd u g ex).length 0 [(0, .ref 58), (1, .ref t), (2, .int pond)] [] (Wd u g ex) 0 0
  refine J_aload_n (i := 1) (j := 1) dX5_hears_0 rfl rfl ?_
  refine J_iload_n (i := 2) (j := 2) dX5_hears_1 rfl rfl ?_
  refine J_bipush (v := 12) dX5_hears_2 (by decide) ?_
  refine J_callV (As := [.int pond, .int 12]) (rest := []) dX5_hears_4 (c_H_of (d := 0) (u := u) (g := g) (ex := ex) (pond := pond) (column := 12) (t := t) (by decide) hs_t) hq.n k814 k749 k750 (zh0c hs_t) rfl rfl k89 k751 np_X1_of (Nat.le_trans (by decide) hd) (by decide) (Nat.le_refl _) (Nat.le_refl _) wlen rfl (Nat.le_of_ble_eq_true rfl) (fun r_ h_ p1 => ?_)
  obtain ⟨rfl, rfl⟩ := p1
  refine J_istore_n (i := 3) (lw := [(3, .int (hof u t pond (12 : Int32))), (0, .ref 58), (1, .ref t), (2, .int pond)]) dX5_hears_7 rfl (by decide) rfl ?_
  refine J_iload_n (i := 3) (j := 0) dX5_hears_8 rfl rfl ?_
  refine J_iconst (v := (-1)) dX5_hears_9 (by decide) ?_
  refine J_icmp_eq (tgt := 20) dX5_hears_10 (by decide) (fun c2 => ?_) (fun c2 => ?_)
  · refine J_iconst (v := 0) dX5_hears_20 (by decide) ?_
    exact J_zret hq dX5_hears_21 rfl rfl wlen (Nat.le_refl _) (Nat.le_refl _) ⟨false, rfl, rfl⟩
  · refine J_aload_n (i := 0) (j := 1) dX5_hears_13 rfl rfl ?_
    refine J_get (C := RX5) (T := TX5) (Z := 7) (ci := 5) (f := 1) dX5_hears_14 inG5 rfl (by decide) k320 wc_58 rfl ?_
    refine J_if_ne (tgt := 22) dX5_hears_17 (by decide) (fun c3 => ?_) (fun c3 => ?_)
    · refine J_iconst (v := 0) dX5_hears_22 (by decide) ?_
      refine J_istore (i := 4) (lw := [(4, .int 0), (3, .int (hof u t pond (12 : Int32))), (0, .ref 58), (1, .ref t), (2, .int pond)]) dX5_hears_23 (by decide) rfl ?_
      have lp67 : ∀ (n68 : Nat) (w51 : Int32), Bd 0 8 w51 → (8 - w51.toInt).toNat < n68 → J x yX5_hears cX5_hears 6 (some .boolean) d 0 0 (Wd u g ex).length 25 [(0, .ref 58), (1, .ref t), (2, .int pond), (3, .int (hof u t pond (12 : Int32))), (4, .int w51)] [] (Wd u g ex) 0 0 := by
        intro n68
        induction n68 with
        | zero => intro w51 bw51 hm70; exact absurd hm70 (Nat.not_lt_zero _)
        | succ n68 ih69 =>
          intro w51 bw51 hm70
          refine J_iload (i := 4) (j := 4) dX5_hears_25 rfl ?_
          refine J_iload_n (i := 2) (j := 2) dX5_hears_27 rfl rfl ?_
          refine J_icmp_ge (tgt := 99) dX5_hears_28 (by decide) (fun c71 => ?_) (fun c71 => ?_)
          · refine J_iconst (v := 0) dX5_hears_99 (by decide) ?_
            exact J_zret hq dX5_hears_100 rfl rfl wlen (Nat.le_refl _) (Nat.le_refl _) ⟨false, rfl, rfl⟩
          · refine J_aload_n (i := 1) (j := 1) dX5_hears_31 rfl rfl ?_
            refine J_iload (i := 4) (j := 4) dX5_hears_32 rfl ?_
            refine J_bipush (v := 8) dX5_hears_34 (by decide) ?_
            refine J_callV (As := [.int w51, .int 8]) (rest := []) dX5_hears_36 (c_H_of (d := 0) (u := u) (g := g) (ex := ex) (pond := w51) (column := 8) (t := t) (by decide) hs_t) hq.n k814 k749 k750 (zh0c hs_t) rfl rfl k89 k751 np_X1_of (Nat.le_trans (by decide) hd) (by decide) (Nat.le_refl _) (Nat.le_refl _) wlen rfl (Nat.le_of_ble_eq_true rfl) (fun r_ h_ p72 => ?_)
            obtain ⟨rfl, rfl⟩ := p72
            refine J_iload_n (i := 2) (j := 2) dX5_hears_39 rfl rfl ?_
            have jn77 : ∀ (w76 : Int32), Bd 0 1 w76 → J x yX5_hears cX5_hears 6 (some .boolean) d 0 0 (Wd u g ex).length 60 [(0, .ref 58), (1, .ref t), (2, .int pond), (3, .int (hof u t pond (12 : Int32))), (4, .int w51)] [.int w76] (Wd u g ex) 0 0 := by
              intro w76 bw76
              refine J_istore (i := 5) (lw := [(5, .int w76), (0, .ref 58), (1, .ref t), (2, .int pond), (3, .int (hof u t pond (12 : Int32))), (4, .int w51)]) dX5_hears_60 (by decide) rfl ?_
              refine J_iload (i := 5) (j := 0) dX5_hears_62 rfl ?_
              refine J_if_eq (tgt := 93) dX5_hears_64 (by decide) (fun c78 => ?_) (fun c78 => ?_)
              · refine J_iinc (i := 4) (j := 5) (v := (w51 + 1)) (lw := [(4, .int (w51 + 1)), (5, .int w76), (0, .ref 58), (1, .ref t), (2, .int pond), (3, .int (hof u t pond (12 : Int32)))]) dX5_hears_93 rfl rfl (by decide) rfl ?_
                refine J_goto (tgt := 25) dX5_hears_96 (by decide) ?_
                refine J_lv [2, 3, 4, 5, 0] rfl ?_
                exact ih69 (w51 + 1) (bd_w (l := 0) (h := 8) (bd_add (l := 1) (h := 8) (bd_lt_hi bw51 (i_nle c71) hp0) (bd_c (v := 1) (lo := 1) (hi := 1) (by decide)) (by decide)) (by decide)) (mu_up 1 bw51 rfl (by decide) (bd_w (l := 1) (h := 8) (bd_add (l := 1) (h := 8) (bd_lt_hi bw51 (i_nle c71) hp0) (bd_c (v := 1) (lo := 1) (hi := 1) (by decide)) (by decide)) (by decide)) hm70)
              · refine J_aload_n (i := 0) (j := 1) dX5_hears_67 rfl rfl ?_
                refine J_get (C := RX5) (T := TX5) (Z := 7) (ci := 5) (f := 1) dX5_hears_68 inG5 rfl (by decide) k320 wc_58 rfl ?_
                refine J_iload (i := 4) (j := 5) dX5_hears_71 rfl ?_
                refine J_callSN (As := [.int (u 58 1), .int w51]) (rest := []) dX5_hears_73 (c_isIn (d := 0) (u := u) (g := g) (ex := ex) (set := u 58 1) (pond := w51)  (by decide) ) hq.n k815 k816 k87 k817 np_X10_isIn (Nat.le_trans (by decide) hd) (by decide) (Nat.le_refl _) (Nat.le_refl _) wlen rfl (Nat.le_of_ble_eq_true rfl) (fun r_ h_ p79 => ?_)
                obtain ⟨t80, rfl, rfl⟩ := p79
                refine J_ifB_eq (tgt := 93) dX5_hears_76 (by decide) (fun c81 => ?_) (fun c81 => ?_)
                · refine J_iinc (i := 4) (j := 5) (v := (w51 + 1)) (lw := [(4, .int (w51 + 1)), (5, .int w76), (0, .ref 58), (1, .ref t), (2, .int pond), (3, .int (hof u t pond (12 : Int32)))]) dX5_hears_93 rfl rfl (by decide) rfl ?_
                  refine J_goto (tgt := 25) dX5_hears_96 (by decide) ?_
                  refine J_lv [2, 3, 4, 5, 0] rfl ?_
                  exact ih69 (w51 + 1) (bd_w (l := 0) (h := 8) (bd_add (l := 1) (h := 8) (bd_lt_hi bw51 (i_nle c71) hp0) (bd_c (v := 1) (lo := 1) (hi := 1) (by decide)) (by decide)) (by decide)) (mu_up 1 bw51 rfl (by decide) (bd_w (l := 1) (h := 8) (bd_add (l := 1) (h := 8) (bd_lt_hi bw51 (i_nle c71) hp0) (bd_c (v := 1) (lo := 1) (hi := 1) (by decide)) (by decide)) (by decide)) hm70)
                · refine J_aload_n (i := 1) (j := 2) dX5_hears_79 rfl rfl ?_
                  refine J_iload (i := 4) (j := 5) dX5_hears_80 rfl ?_
                  refine J_bipush (v := 11) dX5_hears_82 (by decide) ?_
                  refine J_callV (As := [.int w51, .int 11]) (rest := []) dX5_hears_84 (c_H_of (d := 0) (u := u) (g := g) (ex := ex) (pond := w51) (column := 11) (t := t) (by decide) hs_t) hq.n k814 k749 k750 (zh0c hs_t) rfl rfl k89 k751 np_X1_of (Nat.le_trans (by decide) hd) (by decide) (Nat.le_refl _) (Nat.le_refl _) wlen rfl (Nat.le_of_ble_eq_true rfl) (fun r_ h_ p82 => ?_)
                  obtain ⟨rfl, rfl⟩ := p82
                  refine J_iload_n (i := 3) (j := 4) dX5_hears_87 rfl rfl ?_
                  refine J_icmp_lt (tgt := 93) dX5_hears_88 (by decide) (fun c83 => ?_) (fun c83 => ?_)
                  · refine J_iinc (i := 4) (j := 5) (v := (w51 + 1)) (lw := [(4, .int (w51 + 1)), (5, .int w76), (0, .ref 58), (1, .ref t), (2, .int pond), (3, .int (hof u t pond (12 : Int32)))]) dX5_hears_93 rfl rfl (by decide) rfl ?_
                    refine J_goto (tgt := 25) dX5_hears_96 (by decide) ?_
                    refine J_lv [2, 3, 4, 5, 0] rfl ?_
                    exact ih69 (w51 + 1) (bd_w (l := 0) (h := 8) (bd_add (l := 1) (h := 8) (bd_lt_hi bw51 (i_nle c71) hp0) (bd_c (v := 1) (lo := 1) (hi := 1) (by decide)) (by decide)) (by decide)) (mu_up 1 bw51 rfl (by decide) (bd_w (l := 1) (h := 8) (bd_add (l := 1) (h := 8) (bd_lt_hi bw51 (i_nle c71) hp0) (bd_c (v := 1) (lo := 1) (hi := 1) (by decide)) (by decide)) (by decide)) hm70)
                  · refine J_iconst (v := 1) dX5_hears_91 (by decide) ?_
                    exact J_zret hq dX5_hears_92 rfl rfl wlen (Nat.le_refl _) (Nat.le_refl _) ⟨true, rfl, rfl⟩
            refine J_icmp_eq (tgt := 55) dX5_hears_40 (by decide) (fun c73 => ?_) (fun c73 => ?_)
            · refine J_iconst (v := 1) dX5_hears_55 (by decide) ?_
              refine J_goto (tgt := 60) dX5_hears_56 (by decide) ?_
              refine J_lv [0, 1, 2, 3, 4] rfl ?_
              exact jn77 (1 : Int32) (bd_w (l := 0) (h := 1) (bd_c (v := 1) (lo := 1) (hi := 1) (by decide)) (by decide))
            · refine J_aload_n (i := 1) (j := 1) dX5_hears_43 rfl rfl ?_
              refine J_iload (i := 4) (j := 4) dX5_hears_44 rfl ?_
              refine J_bipush (v := 9) dX5_hears_46 (by decide) ?_
              refine J_callV (As := [.int w51, .int 9]) (rest := []) dX5_hears_48 (c_H_of (d := 0) (u := u) (g := g) (ex := ex) (pond := w51) (column := 9) (t := t) (by decide) hs_t) hq.n k814 k749 k750 (zh0c hs_t) rfl rfl k89 k751 np_X1_of (Nat.le_trans (by decide) hd) (by decide) (Nat.le_refl _) (Nat.le_refl _) wlen rfl (Nat.le_of_ble_eq_true rfl) (fun r_ h_ p84 => ?_)
              obtain ⟨rfl, rfl⟩ := p84
              refine J_iload_n (i := 2) (j := 2) dX5_hears_51 rfl rfl ?_
              refine J_icmp_ne (tgt := 59) dX5_hears_52 (by decide) (fun c85 => ?_) (fun c85 => ?_)
              · refine J_iconst (v := 0) dX5_hears_59 (by decide) ?_
                refine J_lv [0, 1, 2, 3, 4] rfl ?_
                exact jn77 (0 : Int32) (bd_w (l := 0) (h := 1) (bd_c (v := 0) (lo := 0) (hi := 0) (by decide)) (by decide))
              · refine J_iconst (v := 1) dX5_hears_55 (by decide) ?_
                refine J_goto (tgt := 60) dX5_hears_56 (by decide) ?_
                refine J_lv [0, 1, 2, 3, 4] rfl ?_
                exact jn77 (1 : Int32) (bd_w (l := 0) (h := 1) (bd_c (v := 1) (lo := 1) (hi := 1) (by decide)) (by decide))
      refine J_lv [2, 3, 4, 1, 0] rfl ?_
      exact lp67 _ (0 : Int32) (bd_w (l := 0) (h := 8) (bd_c (v := 0) (lo := 0) (hi := 0) (by decide)) (by decide)) (Nat.lt_succ_self _)
    · refine J_iconst (v := 0) dX5_hears_20 (by decide) ?_
      exact J_zret hq dX5_hears_21 rfl rfl wlen (Nat.le_refl _) (Nat.le_refl _) ⟨false, rfl, rfl⟩
set_option maxHeartbeats 4000000 in
set_option maxRecDepth 100000 in
theorem c_S58_goes {d : Nat} {u : Nat → Nat → Int32} {g : Nat → Nat → Int64} {ex : List MC} {pond : Int32} {banks : Int32} {t : Nat} (hd : 1 ≤ d) (hs_t : t ∈ hl) (hp0 : Bd 0 8 pond) : CT con0 d 0 0 yX5_goes cX5_goes 4 (some .boolean) [.ref 58, .ref t, .int pond, .int banks] (Wd u g ex) (fun r h2 => ∃ (z : Bool), r = some (.int (bI z)) ∧ h2 = Wd u g ex) := by
  refine CT_of (by decide) (Nat.le_of_ble_eq_true rfl) (fun x hq => ?_)
  show J x yX5_goes cX5_goes 4 (some .boolean) d 0 0 (Wd u g ex).length 0 [(0, .ref 58), (1, .ref t), (2, .int pond), (3, .int banks)] [] (Wd u g ex) 0 0
  refine J_aload_n (i := 1) (j := 1) dX5_goes_0 rfl rfl ?_
  refine J_iload_n (i := 2) (j := 2) dX5_goes_1 rfl rfl ?_
  refine J_bipush (v := 15) dX5_goes_2 (by decide) ?_
  refine J_callV (As := [.int pond, .int 15]) (rest := []) dX5_goes_4 (c_H_of (d := 0) (u := u) (g := g) (ex := ex) (pond := pond) (column := 15) (t := t) (by decide) hs_t) hq.n k814 k749 k750 (zh0c hs_t) rfl rfl k89 k751 np_X1_of (Nat.le_trans (by decide) hd) (by decide) (Nat.le_refl _) (Nat.le_refl _) wlen rfl (Nat.le_of_ble_eq_true rfl) (fun r_ h_ p1 => ?_)
  obtain ⟨rfl, rfl⟩ := p1
  refine J_iconst (v := 1) dX5_goes_7 (by decide) ?_
  refine J_icmp_ne (tgt := 13) dX5_goes_8 (by decide) (fun c2 => ?_) (fun c2 => ?_)
  · refine J_iload_n (i := 3) (j := 3) dX5_goes_13 rfl rfl ?_
    refine J_iload_n (i := 2) (j := 2) dX5_goes_14 rfl rfl ?_
    refine J_callSN (As := [.int banks, .int pond]) (rest := []) dX5_goes_15 (c_isIn (d := 0) (u := u) (g := g) (ex := ex) (set := banks) (pond := pond)  (by decide) ) hq.n k815 k816 k87 k817 np_X10_isIn (Nat.le_trans (by decide) hd) (by decide) (Nat.le_refl _) (Nat.le_refl _) wlen rfl (Nat.le_of_ble_eq_true rfl) (fun r_ h_ p3 => ?_)
    obtain ⟨t4, rfl, rfl⟩ := p3
    refine J_ifB_ne (tgt := 43) dX5_goes_18 (by decide) (fun c5 => ?_) (fun c5 => ?_)
    · refine J_iconst (v := 1) dX5_goes_43 (by decide) ?_
      refine J_goto (tgt := 48) dX5_goes_44 (by decide) ?_
      exact J_zret hq dX5_goes_48 rfl rfl wlen (Nat.le_refl _) (Nat.le_refl _) ⟨true, rfl, rfl⟩
    · refine J_aload_n (i := 0) (j := 0) dX5_goes_21 rfl rfl ?_
      refine J_get (C := RX5) (T := TX5) (Z := 7) (ci := 5) (f := 5) dX5_goes_22 inG5 rfl (by decide) k329 wc_58 rfl ?_
      refine J_iload_n (i := 2) (j := 2) dX5_goes_25 rfl rfl ?_
      refine J_iald dX5_goes_26 wc_59 (vin hp0 (by decide)) ?_
      refine J_topi (fun v6 qv6 => ?_)
      refine J_aload_n (i := 1) (j := 1) dX5_goes_27 rfl rfl ?_
      refine J_iload_n (i := 2) (j := 2) dX5_goes_28 rfl rfl ?_
      refine J_iconst (v := 0) dX5_goes_29 (by decide) ?_
      refine J_callV (As := [.int pond, .int 0]) (rest := [.int v6]) dX5_goes_30 (c_H_of (d := 0) (u := u) (g := g) (ex := ex) (pond := pond) (column := 0) (t := t) (by decide) hs_t) hq.n k814 k749 k750 (zh0c hs_t) rfl rfl k89 k751 np_X1_of (Nat.le_trans (by decide) hd) (by decide) (Nat.le_refl _) (Nat.le_refl _) wlen rfl (Nat.le_of_ble_eq_true rfl) (fun r_ h_ p7 => ?_)
      obtain ⟨rfl, rfl⟩ := p7
      refine J_isub dX5_goes_33 ?_
      refine J_aload_n (i := 1) (j := 1) dX5_goes_34 rfl rfl ?_
      refine J_iload_n (i := 2) (j := 2) dX5_goes_35 rfl rfl ?_
      refine J_iconst (v := 3) dX5_goes_36 (by decide) ?_
      refine J_callV (As := [.int pond, .int 3]) (rest := [.int (v6 - (hof u t pond (0 : Int32)))]) dX5_goes_37 (c_H_of (d := 0) (u := u) (g := g) (ex := ex) (pond := pond) (column := 3) (t := t) (by decide) hs_t) hq.n k814 k749 k750 (zh0c hs_t) rfl rfl k89 k751 np_X1_of (Nat.le_trans (by decide) hd) (by decide) (Nat.le_refl _) (Nat.le_refl _) wlen rfl (Nat.le_of_ble_eq_true rfl) (fun r_ h_ p8 => ?_)
      obtain ⟨rfl, rfl⟩ := p8
      refine J_icmp_le (tgt := 47) dX5_goes_40 (by decide) (fun c9 => ?_) (fun c9 => ?_)
      · refine J_iconst (v := 0) dX5_goes_47 (by decide) ?_
        exact J_zret hq dX5_goes_48 rfl rfl wlen (Nat.le_refl _) (Nat.le_refl _) ⟨false, rfl, rfl⟩
      · refine J_iconst (v := 1) dX5_goes_43 (by decide) ?_
        refine J_goto (tgt := 48) dX5_goes_44 (by decide) ?_
        exact J_zret hq dX5_goes_48 rfl rfl wlen (Nat.le_refl _) (Nat.le_refl _) ⟨true, rfl, rfl⟩
  · refine J_iconst (v := 0) dX5_goes_11 (by decide) ?_
    exact J_zret hq dX5_goes_12 rfl rfl wlen (Nat.le_refl _) (Nat.le_refl _) ⟨false, rfl, rfl⟩
set_option maxHeartbeats 4000000 in
set_option maxRecDepth 100000 in
theorem c_S58_leaving {d : Nat} {u : Nat → Nat → Int32} {g : Nat → Nat → Int64} {ex : List MC} {pond : Int32} {keeps : Int32} {t : Nat} (hd : 1 ≤ d) (hs_t : t ∈ hl) (hp0 : Bd 0 8 pond) : CT con0 d 0 0 yX5_leaving cX5_leaving 4 (some .int) [.ref 58, .ref t, .int pond, .int keeps] (Wd u g ex) (fun r h2 => ∃ (z : Int32), r = some (.int z) ∧ h2 = Wd u g ex) := by
  refine CT_of (by decide) (Nat.le_of_ble_eq_true rfl) (fun x hq => ?_)
  show J x yX5_leaving cX5_leaving 4 (some .int) d 0 0 (Wd u g ex).length 0 [(0, .ref 58), (1, .ref t), (2, .int pond), (3, .int keeps)] [] (Wd u g ex) 0 0
  refine J_iload_n (i := 3) (j := 3) dX5_leaving_0 rfl rfl ?_
  refine J_if_eq (tgt := 6) dX5_leaving_1 (by decide) (fun c1 => ?_) (fun c1 => ?_)
  · refine J_aload_n (i := 0) (j := 0) dX5_leaving_6 rfl rfl ?_
    refine J_get (C := RX5) (T := TX5) (Z := 7) (ci := 5) (f := 1) dX5_leaving_7 inG5 rfl (by decide) k320 wc_58 rfl ?_
    refine J_iload_n (i := 2) (j := 2) dX5_leaving_10 rfl rfl ?_
    refine J_callSN (As := [.int (u 58 1), .int pond]) (rest := []) dX5_leaving_11 (c_isIn (d := 0) (u := u) (g := g) (ex := ex) (set := u 58 1) (pond := pond)  (by decide) ) hq.n k815 k816 k87 k817 np_X10_isIn (Nat.le_trans (by decide) hd) (by decide) (Nat.le_refl _) (Nat.le_refl _) wlen rfl (Nat.le_of_ble_eq_true rfl) (fun r_ h_ p2 => ?_)
    obtain ⟨t3, rfl, rfl⟩ := p2
    refine J_ifB_ne (tgt := 28) dX5_leaving_14 (by decide) (fun c4 => ?_) (fun c4 => ?_)
    · refine J_aload_n (i := 0) (j := 0) dX5_leaving_28 rfl rfl ?_
      refine J_get (C := RX5) (T := TX5) (Z := 7) (ci := 5) (f := 5) dX5_leaving_29 inG5 rfl (by decide) k329 wc_58 rfl ?_
      refine J_iload_n (i := 2) (j := 2) dX5_leaving_32 rfl rfl ?_
      refine J_iald dX5_leaving_33 wc_59 (vin hp0 (by decide)) ?_
      refine J_topi (fun v5 qv5 => ?_)
      exact J_iret hq dX5_leaving_34 rfl wlen (Nat.le_refl _) (Nat.le_refl _) ⟨v5, rfl, rfl⟩
    · refine J_aload_n (i := 1) (j := 1) dX5_leaving_17 rfl rfl ?_
      refine J_iload_n (i := 2) (j := 2) dX5_leaving_18 rfl rfl ?_
      refine J_bipush (v := 15) dX5_leaving_19 (by decide) ?_
      refine J_callV (As := [.int pond, .int 15]) (rest := []) dX5_leaving_21 (c_H_of (d := 0) (u := u) (g := g) (ex := ex) (pond := pond) (column := 15) (t := t) (by decide) hs_t) hq.n k814 k749 k750 (zh0c hs_t) rfl rfl k89 k751 np_X1_of (Nat.le_trans (by decide) hd) (by decide) (Nat.le_refl _) (Nat.le_refl _) wlen rfl (Nat.le_of_ble_eq_true rfl) (fun r_ h_ p6 => ?_)
      obtain ⟨rfl, rfl⟩ := p6
      refine J_iconst (v := 1) dX5_leaving_24 (by decide) ?_
      refine J_icmp_ne (tgt := 35) dX5_leaving_25 (by decide) (fun c7 => ?_) (fun c7 => ?_)
      · refine J_iconst (v := 0) dX5_leaving_35 (by decide) ?_
        refine J_aload_n (i := 0) (j := 0) dX5_leaving_36 rfl rfl ?_
        refine J_get (C := RX5) (T := TX5) (Z := 7) (ci := 5) (f := 5) dX5_leaving_37 inG5 rfl (by decide) k329 wc_58 rfl ?_
        refine J_iload_n (i := 2) (j := 2) dX5_leaving_40 rfl rfl ?_
        refine J_iald dX5_leaving_41 wc_59 (vin hp0 (by decide)) ?_
        refine J_topi (fun v8 qv8 => ?_)
        refine J_aload_n (i := 1) (j := 1) dX5_leaving_42 rfl rfl ?_
        refine J_iload_n (i := 2) (j := 2) dX5_leaving_43 rfl rfl ?_
        refine J_iconst (v := 0) dX5_leaving_44 (by decide) ?_
        refine J_callV (As := [.int pond, .int 0]) (rest := [.int v8, .int 0]) dX5_leaving_45 (c_H_of (d := 0) (u := u) (g := g) (ex := ex) (pond := pond) (column := 0) (t := t) (by decide) hs_t) hq.n k814 k749 k750 (zh0c hs_t) rfl rfl k89 k751 np_X1_of (Nat.le_trans (by decide) hd) (by decide) (Nat.le_refl _) (Nat.le_refl _) wlen rfl (Nat.le_of_ble_eq_true rfl) (fun r_ h_ p9 => ?_)
        obtain ⟨rfl, rfl⟩ := p9
        refine J_isub dX5_leaving_48 ?_
        refine J_mmax dX5_leaving_49 k829 k688 k99 k689 (Nat.le_trans (by decide) hd) (Nat.le_of_ble_eq_true rfl) (Nat.zero_le _) (Nat.zero_le _) ?_
        refine J_topi (fun v10 qv10 => ?_)
        exact J_iret hq dX5_leaving_52 rfl wlen (Nat.le_refl _) (Nat.le_refl _) ⟨v10, rfl, rfl⟩
      · refine J_aload_n (i := 0) (j := 0) dX5_leaving_28 rfl rfl ?_
        refine J_get (C := RX5) (T := TX5) (Z := 7) (ci := 5) (f := 5) dX5_leaving_29 inG5 rfl (by decide) k329 wc_58 rfl ?_
        refine J_iload_n (i := 2) (j := 2) dX5_leaving_32 rfl rfl ?_
        refine J_iald dX5_leaving_33 wc_59 (vin hp0 (by decide)) ?_
        refine J_topi (fun v11 qv11 => ?_)
        exact J_iret hq dX5_leaving_34 rfl wlen (Nat.le_refl _) (Nat.le_refl _) ⟨v11, rfl, rfl⟩
  · refine J_iconst (v := 0) dX5_leaving_4 (by decide) ?_
    exact J_iret hq dX5_leaving_5 rfl wlen (Nat.le_refl _) (Nat.le_refl _) ⟨(0 : Int32), rfl, rfl⟩
set_option maxHeartbeats 4000000 in
set_option maxRecDepth 100000 in
theorem c_S58_pass {d : Nat} {u : Nat → Nat → Int32} {g : Nat → Nat → Int64} {ex : List MC} {pond : Int32} {t : Nat} (hd : 1 ≤ d) (hs_t : t ∈ hl) (hp0 : Bd 0 9 (u t 0)) (hp1 : Bd 0 4 (u t 2)) (hp2 : Bd 0 8 pond) : CT con0 d 0 0 yX5_pass cX5_pass 6 none [.ref 58, .ref t, .int pond] (Wd u g ex) (fun r h2 => ∃ (u2 : Nat → Nat → Int32), r = none ∧ h2 = Wd u2 g ex ∧ (∀ c, c ≠ 58 → c ≠ 59 → u2 c = u c) ∧ (∀ j, j ≠ 4 → u2 58 j = u 58 j)) := by
  refine CT_of (by decide) (Nat.le_of_ble_eq_true rfl) (fun x hq => ?_)
  show J x yX5_pass cX5_pass 6 none d 0 0 (Wd u g ex).length 0 [(0, .ref 58), (1, .ref t), (2, .int pond)] [] (Wd u g ex) 0 0
  refine J_aload_n (i := 1) (j := 1) dX5_pass_0 rfl rfl ?_
  refine J_iload_n (i := 2) (j := 2) dX5_pass_1 rfl rfl ?_
  refine J_bipush (v := 9) dX5_pass_2 (by decide) ?_
  refine J_callV (As := [.int pond, .int 9]) (rest := []) dX5_pass_4 (c_H_of (d := 0) (u := u) (g := g) (ex := ex) (pond := pond) (column := 9) (t := t) (by decide) hs_t) hq.n k814 k749 k750 (zh0c hs_t) rfl rfl k89 k751 np_X1_of (Nat.le_trans (by decide) hd) (by decide) (Nat.le_refl _) (Nat.le_refl _) wlen rfl (Nat.le_of_ble_eq_true rfl) (fun r_ h_ p1 => ?_)
  obtain ⟨rfl, rfl⟩ := p1
  refine J_istore_n (i := 3) (lw := [(3, .int (hof u t pond (9 : Int32))), (0, .ref 58), (1, .ref t), (2, .int pond)]) dX5_pass_7 rfl (by decide) rfl ?_
  refine J_aload_n (i := 1) (j := 2) dX5_pass_8 rfl rfl ?_
  refine J_iload_n (i := 2) (j := 3) dX5_pass_9 rfl rfl ?_
  refine J_bipush (v := 8) dX5_pass_10 (by decide) ?_
  refine J_callV (As := [.int pond, .int 8]) (rest := []) dX5_pass_12 (c_H_of (d := 0) (u := u) (g := g) (ex := ex) (pond := pond) (column := 8) (t := t) (by decide) hs_t) hq.n k814 k749 k750 (zh0c hs_t) rfl rfl k89 k751 np_X1_of (Nat.le_trans (by decide) hd) (by decide) (Nat.le_refl _) (Nat.le_refl _) wlen rfl (Nat.le_of_ble_eq_true rfl) (fun r_ h_ p2 => ?_)
  obtain ⟨rfl, rfl⟩ := p2
  refine J_istore (i := 4) (lw := [(4, .int (hof u t pond (8 : Int32))), (3, .int (hof u t pond (9 : Int32))), (0, .ref 58), (1, .ref t), (2, .int pond)]) dX5_pass_15 (by decide) rfl ?_
  refine J_iconst (v := 0) dX5_pass_17 (by decide) ?_
  refine J_istore (i := 5) (lw := [(5, .int 0), (4, .int (hof u t pond (8 : Int32))), (3, .int (hof u t pond (9 : Int32))), (0, .ref 58), (1, .ref t), (2, .int pond)]) dX5_pass_18 (by decide) rfl ?_
  refine J_aload_n (i := 1) (j := 4) dX5_pass_20 rfl rfl ?_
  refine J_iload_n (i := 3) (j := 2) dX5_pass_21 rfl rfl ?_
  refine J_callV (As := [.int (hof u t pond (9 : Int32))]) (rest := []) dX5_pass_22 (c_H_has (d := 0) (u := u) (g := g) (ex := ex) (pond := (hof u t pond (9 : Int32))) (t := t) (by decide) hs_t hp0 hp1) hq.n k834 k741 k742 (zh0c hs_t) rfl rfl k89 k743 np_X1_has (Nat.le_trans (by decide) hd) (by decide) (Nat.le_refl _) (Nat.le_refl _) wlen rfl (Nat.le_of_ble_eq_true rfl) (fun r_ h_ p3 => ?_)
  obtain ⟨t4, rfl, rfl, h5⟩ := p3
  have jn15 : ∀ (w12 : Int32) (u13 : Nat → Nat → Int32), (∀ c, c ≠ 59 → u13 c = u c) → J x yX5_pass cX5_pass 6 none d 0 0 (Wd u g ex).length 58 [(0, .ref 58), (1, .ref t), (2, .int pond), (4, .int (hof u t pond (8 : Int32))), (5, .int w12)] [] (Wd u13 g ex) 0 0 := by
    intro w12 u13 fr14
    refine J_aload_n (i := 1) (j := 1) dX5_pass_58 rfl rfl ?_
    refine J_iload (i := 4) (j := 3) dX5_pass_59 rfl ?_
    refine J_callV (As := [.int (hof u t pond (8 : Int32))]) (rest := []) dX5_pass_61 (c_H_has (d := 0) (u := u13) (g := g) (ex := ex) (pond := (hof u t pond (8 : Int32))) (t := t) (by decide) hs_t (bd_r (congrFun (fr14 t (sne (i := 0) (c := 59) hs_t (by decide))) 0) hp0) (bd_r (congrFun (fr14 t (sne (i := 0) (c := 59) hs_t (by decide))) 2) hp1)) hq.n k834 k741 k742 (zh0c hs_t) rfl rfl k89 k743 np_X1_has (Nat.le_trans (by decide) hd) (by decide) (Nat.le_refl _) (Nat.le_refl _) wlen rfl (Nat.le_of_ble_eq_true rfl) (fun r_ h_ p16 => ?_)
    obtain ⟨t17, rfl, rfl, h18⟩ := p16
    refine J_ifB_eq (tgt := 89) dX5_pass_64 (by decide) (fun c19 => ?_) (fun c19 => ?_)
    · refine J_aload_n (i := 0) (j := 0) dX5_pass_89 rfl rfl ?_
      refine J_dup dX5_pass_90 rfl ?_
      refine J_get (C := RX5) (T := TX5) (Z := 7) (ci := 5) (f := 4) dX5_pass_91 inG5 rfl (by decide) k327 wc_58 rfl ?_
      refine J_ci (v := u 58 4) (congrFun (fr14 58 (Nat.ne_of_beq_eq_false rfl)) 4) ?_
      refine J_aload_n (i := 0) (j := 0) dX5_pass_94 rfl rfl ?_
      refine J_get (C := RX5) (T := TX5) (Z := 7) (ci := 5) (f := 6) dX5_pass_95 inG5 rfl (by decide) k330 wc_58 rfl ?_
      refine J_iload_n (i := 2) (j := 2) dX5_pass_98 rfl rfl ?_
      refine J_iald dX5_pass_99 wc_60 (vin hp2 (by decide)) ?_
      refine J_topi (fun v20 qv20 => ?_)
      refine J_iload (i := 5) (j := 4) dX5_pass_100 rfl ?_
      refine J_isub dX5_pass_102 ?_
      refine J_iadd dX5_pass_103 ?_
      obtain ⟨u21, e22⟩ : ∃ z, z = ms u13 58 4 ((u 58 4) + (v20 - w12)) := ⟨_, rfl⟩
      refine J_put (C := RX5) (T := TX5) (Z := 7) (ci := 5) (f := 4) (ty0 := tyX5) dX5_pass_104 inG5 rfl tyX5_ok nmX5 (by decide) k327 rfl rfl wc_58 (Nat.le_of_ble_eq_true rfl) (fun _ _ => ⟨rfl, rfl⟩) (ws e22 wk_58 rfl) ?_
      exact J_vret hq dX5_pass_107 rfl wlen (Nat.le_refl _) (Nat.le_refl _) ⟨u21, rfl, rfl, (fun c k0_ k1_ => ((ms_c e22 k0_).trans (fr14 c k1_))), (fun j k4_ => ((ms_i e22 k4_).trans (congrFun (fr14 58 (Nat.ne_of_beq_eq_false rfl)) j)))⟩
    · refine J_aload_n (i := 0) (j := 0) dX5_pass_67 rfl rfl ?_
      refine J_get (C := RX5) (T := TX5) (Z := 7) (ci := 5) (f := 5) dX5_pass_68 inG5 rfl (by decide) k329 wc_58 rfl ?_
      refine J_iload (i := 4) (j := 3) dX5_pass_71 rfl ?_
      refine J_dup2_11 dX5_pass_73 rfl rfl ?_
      refine J_iald dX5_pass_74 wc_59 (vin (h18 c19) (by decide)) ?_
      refine J_topi (fun v23 qv23 => ?_)
      refine J_aload_n (i := 0) (j := 0) dX5_pass_75 rfl rfl ?_
      refine J_get (C := RX5) (T := TX5) (Z := 7) (ci := 5) (f := 6) dX5_pass_76 inG5 rfl (by decide) k330 wc_58 rfl ?_
      refine J_iload_n (i := 2) (j := 2) dX5_pass_79 rfl rfl ?_
      refine J_iald dX5_pass_80 wc_60 (vin hp2 (by decide)) ?_
      refine J_topi (fun v24 qv24 => ?_)
      refine J_iload (i := 5) (j := 4) dX5_pass_81 rfl ?_
      refine J_isub dX5_pass_83 ?_
      refine J_iadd dX5_pass_84 ?_
      obtain ⟨u25, e26⟩ : ∃ z, z = ms u13 59 ((hof u t pond (8 : Int32)).toNatClampNeg) (v23 + (v24 - w12)) := ⟨_, rfl⟩
      refine J_iast dX5_pass_85 wc_59 (vin (h18 c19) (by decide)) (ws e26 wk_59 rfl) ?_
      refine J_goto (tgt := 107) dX5_pass_86 (by decide) ?_
      exact J_vret hq dX5_pass_107 rfl wlen (Nat.le_refl _) (Nat.le_refl _) ⟨u25, rfl, rfl, (fun c k0_ k1_ => ((ms_c e26 k1_).trans (fr14 c k1_))), (fun j k4_ => ((congrFun (ms_c e26 (Nat.ne_of_beq_eq_false rfl)) j).trans (congrFun (fr14 58 (Nat.ne_of_beq_eq_false rfl)) j)))⟩
  refine J_ifB_eq (tgt := 58) dX5_pass_25 (by decide) (fun c6 => ?_) (fun c6 => ?_)
  · refine J_lv [3, 4, 5, 1, 0] rfl ?_
    exact jn15 (0 : Int32) u (fun c k0_ => rfl)
  · refine J_aload_n (i := 0) (j := 3) dX5_pass_28 rfl rfl ?_
    refine J_get (C := RX5) (T := TX5) (Z := 7) (ci := 5) (f := 6) dX5_pass_29 inG5 rfl (by decide) k330 wc_58 rfl ?_
    refine J_iload_n (i := 2) (j := 5) dX5_pass_32 rfl rfl ?_
    refine J_iald dX5_pass_33 wc_60 (vin hp2 (by decide)) ?_
    refine J_topi (fun v27 qv27 => ?_)
    refine J_aload_n (i := 1) (j := 4) dX5_pass_34 rfl rfl ?_
    refine J_iload_n (i := 2) (j := 5) dX5_pass_35 rfl rfl ?_
    refine J_bipush (v := 10) dX5_pass_36 (by decide) ?_
    refine J_callV (As := [.int pond, .int 10]) (rest := [.int v27]) dX5_pass_38 (c_H_of (d := 0) (u := u) (g := g) (ex := ex) (pond := pond) (column := 10) (t := t) (by decide) hs_t) hq.n k814 k749 k750 (zh0c hs_t) rfl rfl k89 k751 np_X1_of (Nat.le_trans (by decide) hd) (by decide) (Nat.le_refl _) (Nat.le_refl _) wlen rfl (Nat.le_of_ble_eq_true rfl) (fun r_ h_ p28 => ?_)
    obtain ⟨rfl, rfl⟩ := p28
    refine J_imul dX5_pass_41 ?_
    refine J_bipush (v := 10) dX5_pass_42 (by decide) ?_
    refine J_idiv dX5_pass_44 (by decide) ?_
    refine J_istore (i := 5) (lw := [(5, .int ((v27 * (hof u t pond (10 : Int32))) / 10)), (4, .int (hof u t pond (8 : Int32))), (3, .int (hof u t pond (9 : Int32))), (0, .ref 58), (1, .ref t), (2, .int pond)]) dX5_pass_45 (by decide) rfl ?_
    refine J_aload_n (i := 0) (j := 3) dX5_pass_47 rfl rfl ?_
    refine J_get (C := RX5) (T := TX5) (Z := 7) (ci := 5) (f := 5) dX5_pass_48 inG5 rfl (by decide) k329 wc_58 rfl ?_
    refine J_iload_n (i := 3) (j := 2) dX5_pass_51 rfl rfl ?_
    refine J_dup2_11 dX5_pass_52 rfl rfl ?_
    refine J_iald dX5_pass_53 wc_59 (vin (h5 c6) (by decide)) ?_
    refine J_topi (fun v29 qv29 => ?_)
    refine J_iload (i := 5) (j := 0) dX5_pass_54 rfl ?_
    refine J_iadd dX5_pass_56 ?_
    obtain ⟨u30, e31⟩ : ∃ z, z = ms u 59 ((hof u t pond (9 : Int32)).toNatClampNeg) (v29 + ((v27 * (hof u t pond (10 : Int32))) / 10)) := ⟨_, rfl⟩
    refine J_iast dX5_pass_57 wc_59 (vin (h5 c6) (by decide)) (ws e31 wk_59 rfl) ?_
    refine J_lv [3, 4, 5, 1, 0] rfl ?_
    exact jn15 ((v27 * (hof u t pond (10 : Int32))) / 10) u30 (fun c k0_ => (ms_c e31 k0_))
set_option maxHeartbeats 4000000 in
set_option maxRecDepth 100000 in
theorem c_S58_run {d : Nat} {u : Nat → Nat → Int32} {g : Nat → Nat → Int64} {ex : List MC} {steps : Int32} {banks : Int32} {keeper : Int32} {t : Nat} (hd : 2 ≤ d) (hs_t : t ∈ hl) (hp0 : Bd 0 9 (u t 0)) (hp1 : Bd 0 4 (u t 2)) : CT con0 d 0 0 yX5_run cX5_run 7 none [.ref 58, .ref t, .int steps, .int banks, .int keeper] (Wd u g ex) (fun r h2 => ∃ (u2 : Nat → Nat → Int32), r = none ∧ h2 = Wd u2 g ex ∧ Bd 0 9 (u2 58 0) ∧ Bd 0 511 (u2 58 1) ∧ (∀ c, nin c [(58, 60)] = true → u2 c = u c) ∧ (∀ j, j ≠ 0 → j ≠ 1 → j ≠ 2 → j ≠ 3 → j ≠ 4 → u2 58 j = u 58 j)) := by
  refine CT_of (by decide) (Nat.le_of_ble_eq_true rfl) (fun x hq => ?_)
  show J x yX5_run cX5_run 7 none d 0 0 (Wd u g ex).length 0 [(0, .ref 58), (1, .ref t), (2, .int steps), (3, .int banks), (4, .int keeper)] [] (Wd u g ex) 0 0
  refine J_aload_n (i := 0) (j := 0) dX5_run_0 rfl rfl ?_
  refine J_aload_n (i := 1) (j := 1) dX5_run_1 rfl rfl ?_
  refine J_getN (C := RX1) (T := TX1) (Z := 6) (ci := 1) (f := 0) dX5_run_2 inG1 rfl (by decide) k131 (zh0c hs_t) rfl ?_
  obtain ⟨u1, e2⟩ : ∃ z, z = ms u 58 0 (u t 0) := ⟨_, rfl⟩
  refine J_put (C := RX5) (T := TX5) (Z := 7) (ci := 5) (f := 0) (ty0 := tyX5) dX5_run_5 inG5 rfl tyX5_ok nmX5 (by decide) k319 rfl rfl wc_58 (Nat.le_of_ble_eq_true rfl) (fun _ _ => ⟨rfl, rfl⟩) (ws e2 wk_58 rfl) ?_
  refine J_aload_n (i := 0) (j := 0) dX5_run_8 rfl rfl ?_
  refine J_iconst (v := 0) dX5_run_9 (by decide) ?_
  obtain ⟨u3, e4⟩ : ∃ z, z = ms u1 58 1 0 := ⟨_, rfl⟩
  refine J_put (C := RX5) (T := TX5) (Z := 7) (ci := 5) (f := 1) (ty0 := tyX5) dX5_run_10 inG5 rfl tyX5_ok nmX5 (by decide) k320 rfl rfl wc_58 (Nat.le_of_ble_eq_true rfl) (fun _ _ => ⟨rfl, rfl⟩) (ws e4 wk_58 rfl) ?_
  refine J_aload_n (i := 0) (j := 0) dX5_run_13 rfl rfl ?_
  refine J_iconst (v := 0) dX5_run_14 (by decide) ?_
  obtain ⟨u5, e6⟩ : ∃ z, z = ms u3 58 3 0 := ⟨_, rfl⟩
  refine J_put (C := RX5) (T := TX5) (Z := 7) (ci := 5) (f := 3) (ty0 := tyX5) dX5_run_15 inG5 rfl tyX5_ok nmX5 (by decide) k326 rfl rfl wc_58 (Nat.le_of_ble_eq_true rfl) (fun _ _ => ⟨rfl, rfl⟩) (ws e6 wk_58 rfl) ?_
  refine J_aload_n (i := 0) (j := 0) dX5_run_18 rfl rfl ?_
  refine J_iconst (v := 0) dX5_run_19 (by decide) ?_
  obtain ⟨u7, e8⟩ : ∃ z, z = ms u5 58 4 0 := ⟨_, rfl⟩
  refine J_put (C := RX5) (T := TX5) (Z := 7) (ci := 5) (f := 4) (ty0 := tyX5) dX5_run_20 inG5 rfl tyX5_ok nmX5 (by decide) k327 rfl rfl wc_58 (Nat.le_of_ble_eq_true rfl) (fun _ _ => ⟨rfl, rfl⟩) (ws e8 wk_58 rfl) ?_
  refine J_aload_n (i := 0) (j := 0) dX5_run_23 rfl rfl ?_
  refine J_get (C := RX5) (T := TX5) (Z := 7) (ci := 5) (f := 5) dX5_run_24 inG5 rfl (by decide) k329 wc_58 rfl ?_
  refine J_iconst (v := 0) dX5_run_27 (by decide) ?_
  refine J_callS (As := [.ref 59, .int 0]) (rest := []) dX5_run_28 (c_fill_59 (d := 0) (u := u7) (g := g) (ex := ex) (val := 0)  (by decide) ) hq.n k809 k483 k98 k484 np_J7_fill_53178 (Nat.le_trans (by decide) hd) (by decide) (Nat.le_refl _) (Nat.le_refl _) wlen rfl (Nat.le_of_ble_eq_true rfl) (fun r_ h_ p9 => ?_)
  obtain ⟨u10, rfl, rfl, fr11⟩ := p9
  refine J_iconst (v := 0) dX5_run_31 (by decide) ?_
  refine J_istore (i := 5) (lw := [(5, .int 0), (0, .ref 58), (1, .ref t), (2, .int steps), (3, .int banks), (4, .int keeper)]) dX5_run_32 (by decide) rfl ?_
  have lp769 : ∀ (n770 : Nat) (w561 : Int32) (u562 : Nat → Nat → Int32), Bd 0 9 w561 → (∀ c, nin c [(58, 60)] = true → u562 c = u10 c) → (∀ j, j ≠ 1 → j ≠ 3 → j ≠ 4 → u562 58 j = u10 58 j) → Bd 0 511 (u562 58 1) → Bd 0 511 (u562 58 3) → (9 - w561.toInt).toNat < n770 → J x yX5_run cX5_run 7 none d 0 0 (Wd u g ex).length 34 [(0, .ref 58), (1, .ref t), (2, .int steps), (3, .int banks), (4, .int keeper), (5, .int w561)] [] (Wd u562 g ex) 0 0 := by
    intro n770
    induction n770 with
    | zero => intro w561 u562 bw561 fr563 fc564 bm565 bm566 hm772; exact absurd hm772 (Nat.not_lt_zero _)
    | succ n770 ih771 =>
      intro w561 u562 bw561 fr563 fc564 bm565 bm566 hm772
      refine J_iload (i := 5) (j := 5) dX5_run_34 rfl ?_
      refine J_aload_n (i := 0) (j := 0) dX5_run_36 rfl rfl ?_
      refine J_get (C := RX5) (T := TX5) (Z := 7) (ci := 5) (f := 0) dX5_run_37 inG5 rfl (by decide) k319 wc_58 rfl ?_
      refine J_ci (v := u t 0) ((fc564 0 (Nat.ne_of_beq_eq_false rfl) (Nat.ne_of_beq_eq_false rfl) (Nat.ne_of_beq_eq_false rfl)).trans ((congrFun (fr11 58 (Nat.ne_of_beq_eq_false rfl)) 0).trans ((ms_i e8 (Nat.ne_of_beq_eq_false rfl)).trans ((ms_i e6 (Nat.ne_of_beq_eq_false rfl)).trans ((ms_i e4 (Nat.ne_of_beq_eq_false rfl)).trans (ms_e e2)))))) ?_
      refine J_icmp_ge (tgt := 202) dX5_run_40 (by decide) (fun c773 => ?_) (fun c773 => ?_)
      · refine J_aload_n (i := 0) (j := 0) dX5_run_202 rfl rfl ?_
        refine J_aload_n (i := 1) (j := 1) dX5_run_203 rfl rfl ?_
        refine J_aload_n (i := 0) (j := 0) dX5_run_204 rfl rfl ?_
        refine J_get (C := RX5) (T := TX5) (Z := 7) (ci := 5) (f := 1) dX5_run_205 inG5 rfl (by decide) k320 wc_58 rfl ?_
        refine J_callV (As := [.int (u562 58 1)]) (rest := [.ref 58]) dX5_run_208 (c_H_harmOf (d := 1) (u := u562) (g := g) (ex := ex) (set := u562 58 1) (t := t) (by decide) hs_t (bd_r ((congrFun (fr563 t (nin_s (i := 0) hs_t (by decide))) 0).trans ((congrFun (fr11 t (sne (i := 0) (c := 59) hs_t (by decide))) 0).trans ((congrFun (ms_c e8 (sne (i := 0) (c := 58) hs_t (by decide))) 0).trans ((congrFun (ms_c e6 (sne (i := 0) (c := 58) hs_t (by decide))) 0).trans ((congrFun (ms_c e4 (sne (i := 0) (c := 58) hs_t (by decide))) 0).trans (congrFun (ms_c e2 (sne (i := 0) (c := 58) hs_t (by decide))) 0)))))) hp0) (bd_r ((congrFun (fr563 t (nin_s (i := 0) hs_t (by decide))) 2).trans ((congrFun (fr11 t (sne (i := 0) (c := 59) hs_t (by decide))) 2).trans ((congrFun (ms_c e8 (sne (i := 0) (c := 58) hs_t (by decide))) 2).trans ((congrFun (ms_c e6 (sne (i := 0) (c := 58) hs_t (by decide))) 2).trans ((congrFun (ms_c e4 (sne (i := 0) (c := 58) hs_t (by decide))) 2).trans (congrFun (ms_c e2 (sne (i := 0) (c := 58) hs_t (by decide))) 2)))))) hp1)) hq.n k835 k836 k837 (zh0c hs_t) rfl rfl k89 k838 np_X1_harmOf (Nat.le_trans (by decide) hd) (by decide) (Nat.le_refl _) (Nat.le_refl _) wlen rfl (Nat.le_of_ble_eq_true rfl) (fun r_ h_ p840 => ?_)
        obtain ⟨v841, rfl, rfl⟩ := p840
        obtain ⟨u842, e843⟩ : ∃ z, z = ms u562 58 2 v841 := ⟨_, rfl⟩
        refine J_put (C := RX5) (T := TX5) (Z := 7) (ci := 5) (f := 2) (ty0 := tyX5) dX5_run_211 inG5 rfl tyX5_ok nmX5 (by decide) k324 rfl rfl wc_58 (Nat.le_of_ble_eq_true rfl) (fun _ _ => ⟨rfl, rfl⟩) (ws e843 wk_58 rfl) ?_
        exact J_vret hq dX5_run_214 rfl wlen (Nat.le_refl _) (Nat.le_refl _) ⟨u842, rfl, rfl, (bd_r ((ms_i e843 (Nat.ne_of_beq_eq_false rfl)).trans ((fc564 0 (Nat.ne_of_beq_eq_false rfl) (Nat.ne_of_beq_eq_false rfl) (Nat.ne_of_beq_eq_false rfl)).trans ((congrFun (fr11 58 (Nat.ne_of_beq_eq_false rfl)) 0).trans ((ms_i e8 (Nat.ne_of_beq_eq_false rfl)).trans ((ms_i e6 (Nat.ne_of_beq_eq_false rfl)).trans ((ms_i e4 (Nat.ne_of_beq_eq_false rfl)).trans (ms_e e2))))))) hp0), (bd_r (ms_i e843 (Nat.ne_of_beq_eq_false rfl)) bm565), (fun c k_ => ((ms_c e843 (nin_ne (a := 58) k_ rfl)).trans ((fr563 c (nin_sub (M := [(58, 60)]) k_ rfl)).trans ((fr11 c (nin_ne (a := 59) k_ rfl)).trans ((ms_c e8 (nin_ne (a := 58) k_ rfl)).trans ((ms_c e6 (nin_ne (a := 58) k_ rfl)).trans ((ms_c e4 (nin_ne (a := 58) k_ rfl)).trans (ms_c e2 (nin_ne (a := 58) k_ rfl))))))))), (fun j k0_ k1_ k2_ k3_ k4_ => ((ms_i e843 k2_).trans ((fc564 j k1_ k3_ k4_).trans ((congrFun (fr11 58 (Nat.ne_of_beq_eq_false rfl)) j).trans ((ms_i e8 k4_).trans ((ms_i e6 k3_).trans ((ms_i e4 k1_).trans (ms_i e2 k0_))))))))⟩
      · refine J_iload (i := 5) (j := 5) dX5_run_43 rfl ?_
        refine J_bipush (v := 9) dX5_run_45 (by decide) ?_
        refine J_icmp_ge (tgt := 202) dX5_run_47 (by decide) (fun c844 => ?_) (fun c844 => ?_)
        · exact (bd_no (bd_le_lo (bd_lt_hi bw561 (i_nle c773) hp0) c844 (bd_c (v := 9) (lo := 9) (hi := 9) (by decide))) (by decide)).elim
        · refine J_aload_n (i := 0) (j := 0) dX5_run_50 rfl rfl ?_
          refine J_aload_n (i := 1) (j := 1) dX5_run_51 rfl rfl ?_
          refine J_iload (i := 5) (j := 5) dX5_run_52 rfl ?_
          refine J_callV (As := [.ref t, .int w561]) (rest := []) dX5_run_54 (c_S58_hears (d := 1) (u := u562) (g := g) (ex := ex) (pond := w561) (t := t) (by decide) hs_t (bd_lt_hi bw561 (i_nle c773) hp0)) hq.n k810 k812 k18 wc_58 rfl rfl k94 k813 np_X5_hears (Nat.le_trans (by decide) hd) (by decide) (Nat.le_refl _) (Nat.le_refl _) wlen rfl (Nat.le_of_ble_eq_true rfl) (fun r_ h_ p910 => ?_)
          obtain ⟨t911, rfl, rfl⟩ := p910
          refine J_istore (i := 6) (lw := [(6, .int (bI t911)), (0, .ref 58), (1, .ref t), (2, .int steps), (3, .int banks), (4, .int keeper), (5, .int w561)]) dX5_run_57 (by decide) rfl ?_
          refine J_aload_n (i := 0) (j := 1) dX5_run_59 rfl rfl ?_
          refine J_get (C := RX5) (T := TX5) (Z := 7) (ci := 5) (f := 5) dX5_run_60 inG5 rfl (by decide) k329 wc_58 rfl ?_
          refine J_iload (i := 5) (j := 6) dX5_run_63 rfl ?_
          refine J_dup2_11 dX5_run_65 rfl rfl ?_
          refine J_iald dX5_run_66 wc_59 (vin (bd_lt_hi bw561 (i_nle c773) hp0) (by decide)) ?_
          refine J_topi (fun v912 qv912 => ?_)
          refine J_iload_n (i := 2) (j := 3) dX5_run_67 rfl rfl ?_
          refine J_aload_n (i := 1) (j := 2) dX5_run_68 rfl rfl ?_
          refine J_iload (i := 5) (j := 6) dX5_run_69 rfl ?_
          refine J_iconst (v := 2) dX5_run_71 (by decide) ?_
          refine J_callV (As := [.int w561, .int 2]) (rest := [.int steps, .int v912, .int w561, .ref 59]) dX5_run_72 (c_H_of (d := 0) (u := u562) (g := g) (ex := ex) (pond := w561) (column := 2) (t := t) (by decide) hs_t) hq.n k814 k749 k750 (zh0c hs_t) rfl rfl k89 k751 np_X1_of (Nat.le_trans (by decide) hd) (by decide) (Nat.le_refl _) (Nat.le_refl _) wlen rfl (Nat.le_of_ble_eq_true rfl) (fun r_ h_ p913 => ?_)
          obtain ⟨rfl, rfl⟩ := p913
          refine J_ci (v := (hof u t w561 (2 : Int32))) (hof_c ((fr563 (t + 1) (nin_s (i := 1) hs_t (by decide))).trans ((fr11 (t + 1) (sne (i := 1) (c := 59) hs_t (by decide))).trans ((ms_c e8 (sne (i := 1) (c := 58) hs_t (by decide))).trans ((ms_c e6 (sne (i := 1) (c := 58) hs_t (by decide))).trans ((ms_c e4 (sne (i := 1) (c := 58) hs_t (by decide))).trans (ms_c e2 (sne (i := 1) (c := 58) hs_t (by decide))))))))) ?_
          refine J_imul dX5_run_75 ?_
          refine J_iload (i := 6) (j := 0) dX5_run_76 rfl ?_
          have jn917 : ∀ (w916 : Int32), J x yX5_run cX5_run 7 none d 0 0 (Wd u g ex).length 92 [(0, .ref 58), (1, .ref t), (2, .int steps), (3, .int banks), (4, .int keeper), (5, .int w561), (6, .int (bI t911))] [.int w916, .int (steps * (hof u t w561 (2 : Int32))), .int v912, .int w561, .ref 59] (Wd u562 g ex) 0 0 := by
            intro w916
            refine J_iadd dX5_run_92 ?_
            refine J_iadd dX5_run_93 ?_
            obtain ⟨u918, e919⟩ : ∃ z, z = ms u562 59 w561.toNatClampNeg (v912 + ((steps * (hof u t w561 (2 : Int32))) + w916)) := ⟨_, rfl⟩
            refine J_iast dX5_run_94 wc_59 (vin (bd_lt_hi bw561 (i_nle c773) hp0) (by decide)) (ws e919 wk_59 rfl) ?_
            refine J_iload (i := 6) (j := 6) dX5_run_95 rfl ?_
            have jn930 : ∀ (u926 : Nat → Nat → Int32), (∀ c, c ≠ 58 → u926 c = u918 c) → (∀ j, j ≠ 3 → u926 58 j = u918 58 j) → Bd 0 511 (u926 58 3) → J x yX5_run cX5_run 7 none d 0 0 (Wd u g ex).length 114 [(0, .ref 58), (1, .ref t), (2, .int steps), (3, .int banks), (4, .int keeper), (5, .int w561), (6, .int (bI t911))] [] (Wd u926 g ex) 0 0 := by
              intro u926 fr927 fc928 bm929
              refine J_iload (i := 5) (j := 5) dX5_run_114 rfl ?_
              refine J_iload (i := 4) (j := 4) dX5_run_116 rfl ?_
              have jn944 : ∀ (u940 : Nat → Nat → Int32), (∀ c, c ≠ 58 → u940 c = u926 c) → (∀ j, j ≠ 1 → u940 58 j = u926 58 j) → Bd 0 511 (u940 58 1) → J x yX5_run cX5_run 7 none d 0 0 (Wd u g ex).length 146 [(0, .ref 58), (1, .ref t), (2, .int steps), (3, .int banks), (4, .int keeper), (5, .int w561), (6, .int (bI t911))] [] (Wd u940 g ex) 0 0 := by
                intro u940 fr941 fc942 bm943
                refine J_aload_n (i := 0) (j := 0) dX5_run_146 rfl rfl ?_
                refine J_get (C := RX5) (T := TX5) (Z := 7) (ci := 5) (f := 6) dX5_run_147 inG5 rfl (by decide) k330 wc_58 rfl ?_
                refine J_iload (i := 5) (j := 5) dX5_run_150 rfl ?_
                refine J_aload_n (i := 0) (j := 0) dX5_run_152 rfl rfl ?_
                refine J_aload_n (i := 1) (j := 1) dX5_run_153 rfl rfl ?_
                refine J_iload (i := 5) (j := 5) dX5_run_154 rfl ?_
                refine J_iload (i := 5) (j := 5) dX5_run_156 rfl ?_
                refine J_iload (i := 4) (j := 4) dX5_run_158 rfl ?_
                have jn947 : ∀ (w946 : Int32), Bd 0 1 w946 → J x yX5_run cX5_run 7 none d 0 0 (Wd u g ex).length 168 [(0, .ref 58), (1, .ref t), (2, .int steps), (3, .int banks), (4, .int keeper), (5, .int w561), (6, .int (bI t911))] [.int w946, .int w561, .ref t, .ref 58, .int w561, .ref 60] (Wd u940 g ex) 0 0 := by
                  intro w946 bw946
                  refine J_callV (As := [.ref t, .int w561, .int w946]) (rest := [.int w561, .ref 60]) dX5_run_168 (c_S58_leaving (d := 1) (u := u940) (g := g) (ex := ex) (pond := w561) (keeps := w946) (t := t) (by decide) hs_t (bd_lt_hi bw561 (i_nle c773) hp0)) hq.n k825 k827 k20 wc_58 rfl rfl k94 k828 np_X5_leaving (Nat.le_trans (by decide) hd) (by decide) (Nat.le_refl _) (Nat.le_refl _) wlen rfl (Nat.le_of_ble_eq_true rfl) (fun r_ h_ p948 => ?_)
                  obtain ⟨v949, rfl, rfl⟩ := p948
                  refine J_iload (i := 6) (j := 6) dX5_run_171 rfl ?_
                  have jn953 : ∀ (w952 : Int32), J x yX5_run cX5_run 7 none d 0 0 (Wd u g ex).length 187 [(0, .ref 58), (1, .ref t), (2, .int steps), (3, .int banks), (4, .int keeper), (5, .int w561)] [.int w952, .int v949, .int w561, .ref 60] (Wd u940 g ex) 0 0 := by
                    intro w952
                    refine J_iadd dX5_run_187 ?_
                    obtain ⟨u954, e955⟩ : ∃ z, z = ms u940 60 w561.toNatClampNeg (v949 + w952) := ⟨_, rfl⟩
                    refine J_iast dX5_run_188 wc_60 (vin (bd_lt_hi bw561 (i_nle c773) hp0) (by decide)) (ws e955 wk_60 rfl) ?_
                    refine J_aload_n (i := 0) (j := 0) dX5_run_189 rfl rfl ?_
                    refine J_aload_n (i := 1) (j := 1) dX5_run_190 rfl rfl ?_
                    refine J_iload (i := 5) (j := 5) dX5_run_191 rfl ?_
                    refine J_callV (As := [.ref t, .int w561]) (rest := []) dX5_run_193 (c_S58_pass (d := 1) (u := u954) (g := g) (ex := ex) (pond := w561) (t := t) (by decide) hs_t (bd_r ((congrFun (ms_c e955 (sne (i := 0) (c := 60) hs_t (by decide))) 0).trans ((congrFun (fr941 t (sne (i := 0) (c := 58) hs_t (by decide))) 0).trans ((congrFun (fr927 t (sne (i := 0) (c := 58) hs_t (by decide))) 0).trans ((congrFun (ms_c e919 (sne (i := 0) (c := 59) hs_t (by decide))) 0).trans ((congrFun (fr563 t (nin_s (i := 0) hs_t (by decide))) 0).trans ((congrFun (fr11 t (sne (i := 0) (c := 59) hs_t (by decide))) 0).trans ((congrFun (ms_c e8 (sne (i := 0) (c := 58) hs_t (by decide))) 0).trans ((congrFun (ms_c e6 (sne (i := 0) (c := 58) hs_t (by decide))) 0).trans ((congrFun (ms_c e4 (sne (i := 0) (c := 58) hs_t (by decide))) 0).trans (congrFun (ms_c e2 (sne (i := 0) (c := 58) hs_t (by decide))) 0)))))))))) (bd_w (l := 0) (h := 9) (bd_lt_lo hp0 (i_nle c773) (bd_lt_hi bw561 (i_nle c844) (bd_c (v := 9) (lo := 9) (hi := 9) (by decide)))) (by decide))) (bd_r ((congrFun (ms_c e955 (sne (i := 0) (c := 60) hs_t (by decide))) 2).trans ((congrFun (fr941 t (sne (i := 0) (c := 58) hs_t (by decide))) 2).trans ((congrFun (fr927 t (sne (i := 0) (c := 58) hs_t (by decide))) 2).trans ((congrFun (ms_c e919 (sne (i := 0) (c := 59) hs_t (by decide))) 2).trans ((congrFun (fr563 t (nin_s (i := 0) hs_t (by decide))) 2).trans ((congrFun (fr11 t (sne (i := 0) (c := 59) hs_t (by decide))) 2).trans ((congrFun (ms_c e8 (sne (i := 0) (c := 58) hs_t (by decide))) 2).trans ((congrFun (ms_c e6 (sne (i := 0) (c := 58) hs_t (by decide))) 2).trans ((congrFun (ms_c e4 (sne (i := 0) (c := 58) hs_t (by decide))) 2).trans (congrFun (ms_c e2 (sne (i := 0) (c := 58) hs_t (by decide))) 2)))))))))) hp1) (bd_lt_hi bw561 (i_nle c773) hp0)) hq.n k830 k832 k21 wc_58 rfl rfl k94 k833 np_X5_pass (Nat.le_trans (by decide) hd) (by decide) (Nat.le_refl _) (Nat.le_refl _) wlen rfl (Nat.le_of_ble_eq_true rfl) (fun r_ h_ p956 => ?_)
                    obtain ⟨u957, rfl, rfl, fr958, fc959⟩ := p956
                    refine J_iinc (i := 5) (j := 5) (v := (w561 + 1)) (lw := [(5, .int (w561 + 1)), (0, .ref 58), (1, .ref t), (2, .int steps), (3, .int banks), (4, .int keeper)]) dX5_run_196 rfl rfl (by decide) rfl ?_
                    refine J_goto (tgt := 34) dX5_run_199 (by decide) ?_
                    refine J_lv [1, 2, 3, 4, 5, 0] rfl ?_
                    exact ih771 (w561 + 1) u957 (bd_w (l := 0) (h := 9) (bd_add (l := 1) (h := 9) (bd_lt_hi bw561 (i_nle c773) hp0) (bd_c (v := 1) (lo := 1) (hi := 1) (by decide)) (by decide)) (by decide)) (fun c k_ => ((fr958 c (nin_ne (a := 58) k_ rfl) (nin_ne (a := 59) k_ rfl)).trans ((ms_c e955 (nin_ne (a := 60) k_ rfl)).trans ((fr941 c (nin_ne (a := 58) k_ rfl)).trans ((fr927 c (nin_ne (a := 58) k_ rfl)).trans ((ms_c e919 (nin_ne (a := 59) k_ rfl)).trans (fr563 c (nin_sub (M := [(58, 60)]) k_ rfl)))))))) (fun j k1_ k3_ k4_ => ((fc959 j k4_).trans ((congrFun (ms_c e955 (Nat.ne_of_beq_eq_false rfl)) j).trans ((fc942 j k1_).trans ((fc928 j k3_).trans ((congrFun (ms_c e919 (Nat.ne_of_beq_eq_false rfl)) j).trans (fc564 j k1_ k3_ k4_))))))) (bd_r ((fc959 1 (Nat.ne_of_beq_eq_false rfl)).trans (congrFun (ms_c e955 (Nat.ne_of_beq_eq_false rfl)) 1)) bm943) (bd_r ((fc959 3 (Nat.ne_of_beq_eq_false rfl)).trans ((congrFun (ms_c e955 (Nat.ne_of_beq_eq_false rfl)) 3).trans (fc942 3 (Nat.ne_of_beq_eq_false rfl)))) bm929) (mu_up 1 bw561 rfl (by decide) (bd_w (l := 1) (h := 9) (bd_add (l := 1) (h := 9) (bd_lt_hi bw561 (i_nle c773) hp0) (bd_c (v := 1) (lo := 1) (hi := 1) (by decide)) (by decide)) (by decide)) hm772)
                  refine J_ifB_eq (tgt := 186) dX5_run_173 (by decide) (fun c950 => ?_) (fun c950 => ?_)
                  · refine J_iconst (v := 0) dX5_run_186 (by decide) ?_
                    refine J_lv [0, 1, 2, 3, 4, 5] rfl ?_
                    exact jn953 (0 : Int32) 
                  · refine J_aload_n (i := 1) (j := 1) dX5_run_176 rfl rfl ?_
                    refine J_iload (i := 5) (j := 5) dX5_run_177 rfl ?_
                    refine J_iconst (v := 1) dX5_run_179 (by decide) ?_
                    refine J_callV (As := [.int w561, .int 1]) (rest := [.int v949, .int w561, .ref 60]) dX5_run_180 (c_H_of (d := 0) (u := u940) (g := g) (ex := ex) (pond := w561) (column := 1) (t := t) (by decide) hs_t) hq.n k814 k749 k750 (zh0c hs_t) rfl rfl k89 k751 np_X1_of (Nat.le_trans (by decide) hd) (by decide) (Nat.le_refl _) (Nat.le_refl _) wlen rfl (Nat.le_of_ble_eq_true rfl) (fun r_ h_ p960 => ?_)
                    obtain ⟨rfl, rfl⟩ := p960
                    refine J_ci (v := (hof u t w561 (1 : Int32))) (hof_c ((fr941 (t + 1) (sne (i := 1) (c := 58) hs_t (by decide))).trans ((fr927 (t + 1) (sne (i := 1) (c := 58) hs_t (by decide))).trans ((ms_c e919 (sne (i := 1) (c := 59) hs_t (by decide))).trans ((fr563 (t + 1) (nin_s (i := 1) hs_t (by decide))).trans ((fr11 (t + 1) (sne (i := 1) (c := 59) hs_t (by decide))).trans ((ms_c e8 (sne (i := 1) (c := 58) hs_t (by decide))).trans ((ms_c e6 (sne (i := 1) (c := 58) hs_t (by decide))).trans ((ms_c e4 (sne (i := 1) (c := 58) hs_t (by decide))).trans (ms_c e2 (sne (i := 1) (c := 58) hs_t (by decide)))))))))))) ?_
                    refine J_goto (tgt := 187) dX5_run_183 (by decide) ?_
                    refine J_lv [0, 1, 2, 3, 4, 5] rfl ?_
                    exact jn953 (hof u t w561 (1 : Int32)) 
                refine J_icmp_ne (tgt := 167) dX5_run_160 (by decide) (fun c945 => ?_) (fun c945 => ?_)
                · refine J_iconst (v := 0) dX5_run_167 (by decide) ?_
                  refine J_lv [0, 1, 2, 3, 4, 5, 6] rfl ?_
                  exact jn947 (0 : Int32) (bd_w (l := 0) (h := 1) (bd_c (v := 0) (lo := 0) (hi := 0) (by decide)) (by decide))
                · refine J_iconst (v := 1) dX5_run_163 (by decide) ?_
                  refine J_goto (tgt := 168) dX5_run_164 (by decide) ?_
                  refine J_lv [0, 1, 2, 3, 4, 5, 6] rfl ?_
                  exact jn947 (1 : Int32) (bd_w (l := 0) (h := 1) (bd_c (v := 1) (lo := 1) (hi := 1) (by decide)) (by decide))
              refine J_icmp_eq (tgt := 146) dX5_run_118 (by decide) (fun c931 => ?_) (fun c931 => ?_)
              · refine J_lv [0, 1, 2, 3, 4, 5, 6] rfl ?_
                exact jn944 u926 (fun c k0_ => rfl) (fun j k1_ => rfl) (bd_r ((fc928 1 (Nat.ne_of_beq_eq_false rfl)).trans (congrFun (ms_c e919 (Nat.ne_of_beq_eq_false rfl)) 1)) bm565)
              · refine J_aload_n (i := 0) (j := 0) dX5_run_121 rfl rfl ?_
                refine J_aload_n (i := 1) (j := 1) dX5_run_122 rfl rfl ?_
                refine J_iload (i := 5) (j := 5) dX5_run_123 rfl ?_
                refine J_iload_n (i := 3) (j := 3) dX5_run_125 rfl rfl ?_
                refine J_callV (As := [.ref t, .int w561, .int banks]) (rest := []) dX5_run_126 (c_S58_goes (d := 1) (u := u926) (g := g) (ex := ex) (pond := w561) (banks := banks) (t := t) (by decide) hs_t (bd_lt_hi bw561 (i_nle c773) hp0)) hq.n k821 k823 k19 wc_58 rfl rfl k94 k824 np_X5_goes (Nat.le_trans (by decide) hd) (by decide) (Nat.le_refl _) (Nat.le_refl _) wlen rfl (Nat.le_of_ble_eq_true rfl) (fun r_ h_ p961 => ?_)
                obtain ⟨t962, rfl, rfl⟩ := p961
                refine J_ifB_eq (tgt := 146) dX5_run_129 (by decide) (fun c963 => ?_) (fun c963 => ?_)
                · refine J_lv [0, 1, 2, 3, 4, 5, 6] rfl ?_
                  exact jn944 u926 (fun c k0_ => rfl) (fun j k1_ => rfl) (bd_r ((fc928 1 (Nat.ne_of_beq_eq_false rfl)).trans (congrFun (ms_c e919 (Nat.ne_of_beq_eq_false rfl)) 1)) bm565)
                · refine J_aload_n (i := 0) (j := 0) dX5_run_132 rfl rfl ?_
                  refine J_dup dX5_run_133 rfl ?_
                  refine J_get (C := RX5) (T := TX5) (Z := 7) (ci := 5) (f := 1) dX5_run_134 inG5 rfl (by decide) k320 wc_58 rfl ?_
                  refine J_ci (v := u562 58 1) ((fc928 1 (Nat.ne_of_beq_eq_false rfl)).trans (congrFun (ms_c e919 (Nat.ne_of_beq_eq_false rfl)) 1)) ?_
                  refine J_iload (i := 5) (j := 5) dX5_run_137 rfl ?_
                  refine J_callSN (As := [.int w561]) (rest := [.int (u562 58 1), .ref 58]) dX5_run_139 (c_bit9 (d := 0) (u := u926) (g := g) (ex := ex) (pond := w561)  (by decide) (bd_w (l := (-1)) (h := 8) (bd_lt_hi bw561 (i_nle c773) hp0) (by decide))) hq.n k818 k819 k87 k820 np_X10_bit (Nat.le_trans (by decide) hd) (by decide) (Nat.le_refl _) (Nat.le_refl _) wlen rfl (Nat.le_of_ble_eq_true rfl) (fun r_ h_ p964 => ?_)
                  obtain ⟨v965, rfl, rfl, h966⟩ := p964
                  refine J_ior dX5_run_142 ?_
                  obtain ⟨u967, e968⟩ : ∃ z, z = ms u926 58 1 ((u562 58 1) ||| v965) := ⟨_, rfl⟩
                  refine J_put (C := RX5) (T := TX5) (Z := 7) (ci := 5) (f := 1) (ty0 := tyX5) dX5_run_143 inG5 rfl tyX5_ok nmX5 (by decide) k320 rfl rfl wc_58 (Nat.le_of_ble_eq_true rfl) (fun _ _ => ⟨rfl, rfl⟩) (ws e968 wk_58 rfl) ?_
                  refine J_lv [0, 1, 2, 3, 4, 5, 6] rfl ?_
                  exact jn944 u967 (fun c k0_ => (ms_c e968 k0_)) (fun j k1_ => (ms_i e968 k1_)) (bd_r (ms_e e968) (bd_or (k := 9) (h := 511) bm565 h966 (by decide)))
            refine J_ifB_eq (tgt := 114) dX5_run_97 (by decide) (fun c920 => ?_) (fun c920 => ?_)
            · refine J_lv [0, 1, 2, 3, 4, 5, 6] rfl ?_
              exact jn930 u918 (fun c k0_ => rfl) (fun j k3_ => rfl) (bd_r (congrFun (ms_c e919 (Nat.ne_of_beq_eq_false rfl)) 3) bm566)
            · refine J_aload_n (i := 0) (j := 0) dX5_run_100 rfl rfl ?_
              refine J_dup dX5_run_101 rfl ?_
              refine J_get (C := RX5) (T := TX5) (Z := 7) (ci := 5) (f := 3) dX5_run_102 inG5 rfl (by decide) k326 wc_58 rfl ?_
              refine J_ci (v := u562 58 3) (congrFun (ms_c e919 (Nat.ne_of_beq_eq_false rfl)) 3) ?_
              refine J_iload (i := 5) (j := 5) dX5_run_105 rfl ?_
              refine J_callSN (As := [.int w561]) (rest := [.int (u562 58 3), .ref 58]) dX5_run_107 (c_bit9 (d := 0) (u := u918) (g := g) (ex := ex) (pond := w561)  (by decide) (bd_w (l := (-1)) (h := 8) (bd_lt_hi bw561 (i_nle c773) hp0) (by decide))) hq.n k818 k819 k87 k820 np_X10_bit (Nat.le_trans (by decide) hd) (by decide) (Nat.le_refl _) (Nat.le_refl _) wlen rfl (Nat.le_of_ble_eq_true rfl) (fun r_ h_ p969 => ?_)
              obtain ⟨v970, rfl, rfl, h971⟩ := p969
              refine J_ior dX5_run_110 ?_
              obtain ⟨u972, e973⟩ : ∃ z, z = ms u918 58 3 ((u562 58 3) ||| v970) := ⟨_, rfl⟩
              refine J_put (C := RX5) (T := TX5) (Z := 7) (ci := 5) (f := 3) (ty0 := tyX5) dX5_run_111 inG5 rfl tyX5_ok nmX5 (by decide) k326 rfl rfl wc_58 (Nat.le_of_ble_eq_true rfl) (fun _ _ => ⟨rfl, rfl⟩) (ws e973 wk_58 rfl) ?_
              refine J_lv [0, 1, 2, 3, 4, 5, 6] rfl ?_
              exact jn930 u972 (fun c k0_ => (ms_c e973 k0_)) (fun j k3_ => (ms_i e973 k3_)) (bd_r (ms_e e973) (bd_or (k := 9) (h := 511) bm566 h971 (by decide)))
          refine J_ifB_eq (tgt := 85) dX5_run_78 (by decide) (fun c914 => ?_) (fun c914 => ?_)
          · refine J_aload_n (i := 1) (j := 2) dX5_run_85 rfl rfl ?_
            refine J_iload (i := 5) (j := 6) dX5_run_86 rfl ?_
            refine J_iconst (v := 1) dX5_run_88 (by decide) ?_
            refine J_callV (As := [.int w561, .int 1]) (rest := [.int (steps * (hof u t w561 (2 : Int32))), .int v912, .int w561, .ref 59]) dX5_run_89 (c_H_of (d := 0) (u := u562) (g := g) (ex := ex) (pond := w561) (column := 1) (t := t) (by decide) hs_t) hq.n k814 k749 k750 (zh0c hs_t) rfl rfl k89 k751 np_X1_of (Nat.le_trans (by decide) hd) (by decide) (Nat.le_refl _) (Nat.le_refl _) wlen rfl (Nat.le_of_ble_eq_true rfl) (fun r_ h_ p974 => ?_)
            obtain ⟨rfl, rfl⟩ := p974
            refine J_ci (v := (hof u t w561 (1 : Int32))) (hof_c ((fr563 (t + 1) (nin_s (i := 1) hs_t (by decide))).trans ((fr11 (t + 1) (sne (i := 1) (c := 59) hs_t (by decide))).trans ((ms_c e8 (sne (i := 1) (c := 58) hs_t (by decide))).trans ((ms_c e6 (sne (i := 1) (c := 58) hs_t (by decide))).trans ((ms_c e4 (sne (i := 1) (c := 58) hs_t (by decide))).trans (ms_c e2 (sne (i := 1) (c := 58) hs_t (by decide))))))))) ?_
            refine J_lv [1, 2, 3, 4, 5, 6, 0] rfl ?_
            exact jn917 (hof u t w561 (1 : Int32)) 
          · refine J_iconst (v := 0) dX5_run_81 (by decide) ?_
            refine J_goto (tgt := 92) dX5_run_82 (by decide) ?_
            refine J_lv [1, 2, 3, 4, 5, 6, 0] rfl ?_
            exact jn917 (0 : Int32) 
  refine J_lv [1, 2, 3, 4, 5, 0] rfl ?_
  exact lp769 _ (0 : Int32) u10 (bd_w (l := 0) (h := 9) (bd_c (v := 0) (lo := 0) (hi := 0) (by decide)) (by decide)) (fun c k_ => rfl) (fun j k1_ k3_ k4_ => rfl) (bd_r ((congrFun (fr11 58 (Nat.ne_of_beq_eq_false rfl)) 1).trans ((ms_i e8 (Nat.ne_of_beq_eq_false rfl)).trans ((ms_i e6 (Nat.ne_of_beq_eq_false rfl)).trans (ms_e e4)))) (bd_w (l := 0) (h := 511) (bd_c (v := 0) (lo := 0) (hi := 0) (by decide)) (by decide))) (bd_r ((congrFun (fr11 58 (Nat.ne_of_beq_eq_false rfl)) 3).trans ((ms_i e8 (Nat.ne_of_beq_eq_false rfl)).trans (ms_e e6))) (bd_w (l := 0) (h := 511) (bd_c (v := 0) (lo := 0) (hi := 0) (by decide)) (by decide))) (Nat.lt_succ_self _)
