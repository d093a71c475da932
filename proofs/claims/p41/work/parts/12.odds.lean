theorem k756 : Cond.methodLink RX4 71 yX1_of ∈ gt := gt_3_7 (i := 22) rfl rfl
theorem k757 : Cond.methodLink RX4 79 yX1_put ∈ gt := gt_3_7 (i := 23) rfl rfl
theorem k146 : Cond.fieldLinkNest RX4 83 "PondStair$Hill" "days" "[I" "PondStair" ∈ nt := nt_1_2 (i := 12) rfl rfl
theorem k740 : Cond.methodLink RX4 51 yX1_has ∈ gt := gt_3_7 (i := 6) rfl rfl
theorem k744 : Cond.methodLink RX4 55 yX1_isOut ∈ gt := gt_3_7 (i := 10) rfl rfl
theorem k770 : Cond.methodLink RX4 75 yX1_takeOut ∈ gt := gt_3_8 (i := 12) rfl rfl
theorem k752 : Cond.methodLink RX4 58 yX4_mends ∈ gt := gt_3_7 (i := 18) rfl rfl
theorem k754 : Cond.instanceMethod yX4_mends ∈ gt := gt_3_7 (i := 20) rfl rfl
theorem k14 : Cond.selects RX4 yX4_mends yX4_mends ∈ gt := gs_1 (i := 14) rfl rfl
theorem k755 : Cond.code yX4_mends cX4_mends 3 (some .boolean) ∈ gt := gt_3_7 (i := 21) rfl rfl
theorem np_X4_mends : yX4_mends.cls ≠ "java/lang/invoke/MethodHandle" ∧ yX4_mends.cls ≠ "java/lang/invoke/VarHandle" ∧ (parseMethodDescriptor yX4_mends.desc).map (fun d => d.parameters.length) = some 2 := ⟨cq_RX4.1, cq_RX4.2, pd_14⟩
theorem k758 : Cond.methodLink RX4 62 yX4_lowers ∈ gt := gt_3_8 (i := 0) rfl rfl
theorem k760 : Cond.instanceMethod yX4_lowers ∈ gt := gt_3_8 (i := 2) rfl rfl
theorem k15 : Cond.selects RX4 yX4_lowers yX4_lowers ∈ gt := gs_1 (i := 15) rfl rfl
theorem k761 : Cond.code yX4_lowers cX4_lowers 3 (some .boolean) ∈ gt := gt_3_8 (i := 3) rfl rfl
theorem np_X4_lowers : yX4_lowers.cls ≠ "java/lang/invoke/MethodHandle" ∧ yX4_lowers.cls ≠ "java/lang/invoke/VarHandle" ∧ (parseMethodDescriptor yX4_lowers.desc).map (fun d => d.parameters.length) = some 2 := ⟨cq_RX4.1, cq_RX4.2, pd_14⟩
theorem k762 : Cond.methodLink RX4 65 yX4_widens ∈ gt := gt_3_8 (i := 4) rfl rfl
theorem k764 : Cond.instanceMethod yX4_widens ∈ gt := gt_3_8 (i := 6) rfl rfl
theorem k16 : Cond.selects RX4 yX4_widens yX4_widens ∈ gt := gs_2 (i := 0) rfl rfl
theorem k765 : Cond.code yX4_widens cX4_widens 3 (some .boolean) ∈ gt := gt_3_8 (i := 7) rfl rfl
theorem np_X4_widens : yX4_widens.cls ≠ "java/lang/invoke/MethodHandle" ∧ yX4_widens.cls ≠ "java/lang/invoke/VarHandle" ∧ (parseMethodDescriptor yX4_widens.desc).map (fun d => d.parameters.length) = some 2 := ⟨cq_RX4.1, cq_RX4.2, pd_14⟩
theorem k766 : Cond.methodLink RX4 68 yX4_leads ∈ gt := gt_3_8 (i := 8) rfl rfl
theorem k768 : Cond.instanceMethod yX4_leads ∈ gt := gt_3_8 (i := 10) rfl rfl
theorem k17 : Cond.selects RX4 yX4_leads yX4_leads ∈ gt := gs_2 (i := 1) rfl rfl
theorem k769 : Cond.code yX4_leads cX4_leads 3 (some .boolean) ∈ gt := gt_3_8 (i := 11) rfl rfl
theorem np_X4_leads : yX4_leads.cls ≠ "java/lang/invoke/MethodHandle" ∧ yX4_leads.cls ≠ "java/lang/invoke/VarHandle" ∧ (parseMethodDescriptor yX4_leads.desc).map (fun d => d.parameters.length) = some 2 := ⟨cq_RX4.1, cq_RX4.2, pd_14⟩
theorem k735 : Cond.methodLink RX4 28 yX1_copy ∈ gt := gt_3_7 (i := 1) rfl rfl
theorem k681 : Cond.instanceMethod yX1_copy ∈ gt := gt_3_4 (i := 19) rfl rfl
theorem k682 : Cond.selects RX1 yX1_copy yX1_copy ∈ gt := gt_3_4 (i := 20) rfl rfl
theorem k683 : Cond.code yX1_copy cX1_copy 2 none ∈ gt := gt_3_4 (i := 21) rfl rfl
theorem np_X1_copy : yX1_copy.cls ≠ "java/lang/invoke/MethodHandle" ∧ yX1_copy.cls ≠ "java/lang/invoke/VarHandle" ∧ (parseMethodDescriptor yX1_copy.desc).map (fun d => d.parameters.length) = some 1 := ⟨cq_RX1.1, cq_RX1.2, pd_41⟩
theorem k169 : Cond.fieldLinkNest RX4 32 "PondStair$Works" "works" "I" "PondStair" ∈ nt := nt_1_3 (i := 11) rfl rfl
theorem k172 : Cond.fieldLinkNest RX4 37 "PondStair$Works" "kind" "[I" "PondStair" ∈ nt := nt_1_3 (i := 14) rfl rfl
theorem k174 : Cond.fieldLinkNest RX4 41 "PondStair$Works" "where" "[I" "PondStair" ∈ nt := nt_1_3 (i := 16) rfl rfl
theorem k176 : Cond.fieldLinkNest RX4 44 "PondStair$Works" "much" "[I" "PondStair" ∈ nt := nt_1_3 (i := 18) rfl rfl
theorem k736 : Cond.methodLink RX4 47 yX4_builds ∈ gt := gt_3_7 (i := 2) rfl rfl
theorem k738 : Cond.instanceMethod yX4_builds ∈ gt := gt_3_7 (i := 4) rfl rfl
theorem k13 : Cond.selects RX4 yX4_builds yX4_builds ∈ gt := gs_1 (i := 13) rfl rfl
theorem k739 : Cond.code yX4_builds cX4_builds 4 (some .boolean) ∈ gt := gt_3_7 (i := 5) rfl rfl
theorem np_X4_builds : yX4_builds.cls ≠ "java/lang/invoke/MethodHandle" ∧ yX4_builds.cls ≠ "java/lang/invoke/VarHandle" ∧ (parseMethodDescriptor yX4_builds.desc).map (fun d => d.parameters.length) = some 3 := ⟨cq_RX4.1, cq_RX4.2, pd_18⟩
theorem k703 : Cond.methodLink RX10 103 yX7_hasHill ∈ gt := gt_3_5 (i := 17) rfl rfl
theorem k704 : Cond.instanceMethod yX7_hasHill ∈ gt := gt_3_5 (i := 18) rfl rfl
theorem k705 : Cond.selects RX7 yX7_hasHill yX7_hasHill ∈ gt := gt_3_5 (i := 19) rfl rfl
theorem k706 : Cond.code yX7_hasHill cX7_hasHill 2 (some .boolean) ∈ gt := gt_3_5 (i := 20) rfl rfl
theorem np_X7_hasHill : yX7_hasHill.cls ≠ "java/lang/invoke/MethodHandle" ∧ yX7_hasHill.cls ≠ "java/lang/invoke/VarHandle" ∧ (parseMethodDescriptor yX7_hasHill.desc).map (fun d => d.parameters.length) = some 1 := ⟨cq_RX7.1, cq_RX7.2, pd_10⟩
theorem k195 : Cond.fieldLinkNest RX10 107 "PondStair$Told" "hill" "[LPondStair$Hill;" "PondStair" ∈ nt := nt_1_4 (i := 13) rfl rfl
theorem k731 : Cond.methodLink RX10 337 yX4_lay ∈ gt := gt_3_6 (i := 21) rfl rfl
theorem k732 : Cond.instanceMethod yX4_lay ∈ gt := gt_3_6 (i := 22) rfl rfl
theorem k733 : Cond.selects RX4 yX4_lay yX4_lay ∈ gt := gt_3_6 (i := 23) rfl rfl
theorem k734 : Cond.code yX4_lay cX4_lay 4 none ∈ gt := gt_3_7 (i := 0) rfl rfl
theorem np_X4_lay : yX4_lay.cls ≠ "java/lang/invoke/MethodHandle" ∧ yX4_lay.cls ≠ "java/lang/invoke/VarHandle" ∧ (parseMethodDescriptor yX4_lay.desc).map (fun d => d.parameters.length) = some 2 := ⟨cq_RX4.1, cq_RX4.2, pd_53⟩
theorem k727 : Cond.methodLink RX10 127 yX7_hasPlan ∈ gt := gt_3_6 (i := 17) rfl rfl
theorem k728 : Cond.instanceMethod yX7_hasPlan ∈ gt := gt_3_6 (i := 18) rfl rfl
theorem k729 : Cond.selects RX7 yX7_hasPlan yX7_hasPlan ∈ gt := gt_3_6 (i := 19) rfl rfl
theorem k730 : Cond.code yX7_hasPlan cX7_hasPlan 2 (some .boolean) ∈ gt := gt_3_6 (i := 20) rfl rfl
theorem np_X7_hasPlan : yX7_hasPlan.cls ≠ "java/lang/invoke/MethodHandle" ∧ yX7_hasPlan.cls ≠ "java/lang/invoke/VarHandle" ∧ (parseMethodDescriptor yX7_hasPlan.desc).map (fun d => d.parameters.length) = some 1 := ⟨cq_RX7.1, cq_RX7.2, pd_10⟩
theorem k199 : Cond.fieldLinkNest RX10 130 "PondStair$Told" "works" "[LPondStair$Works;" "PondStair" ∈ nt := nt_1_4 (i := 17) rfl rfl
theorem k132 : Cond.fieldLinkNest RX2 68 "PondStair$Hill" "ponds" "I" "PondStair" ∈ nt := nt_1_1 (i := 22) rfl rfl
theorem k874 : Cond.methodLinkNest RX2 71 yX10_isIn "PondStair" ∈ nt := nt_4_2 (i := 20) rfl rfl
theorem k875 : Cond.methodLink RX2 75 yX1_of ∈ gt := gt_4_2 (i := 21) rfl rfl
theorem k876 : Cond.methodLinkNest RX2 79 yX10_bit "PondStair" ∈ nt := nt_4_2 (i := 22) rfl rfl
theorem k865 : Cond.methodLink RX2 39 yX1_copy ∈ gt := gt_4_2 (i := 11) rfl rfl
theorem k866 : Cond.methodLink RX2 43 yX1_all ∈ gt := gt_4_2 (i := 12) rfl rfl
theorem k867 : Cond.methodLink RX2 47 yX1_harmOf ∈ gt := gt_4_2 (i := 13) rfl rfl
theorem k139 : Cond.fieldLinkNest RX2 51 "PondStair$Hill" "rains" "I" "PondStair" ∈ nt := nt_1_2 (i := 5) rfl rfl
theorem k868 : Cond.methodLink RX2 55 yX1_stepsOf ∈ gt := gt_4_2 (i := 14) rfl rfl
theorem k869 : Cond.methodLink RX2 58 yX5_run ∈ gt := gt_4_2 (i := 15) rfl rfl
theorem k806 : Cond.instanceMethod yX5_run ∈ gt := gt_4_0 (i := 0) rfl rfl
theorem k807 : Cond.selects RX5 yX5_run yX5_run ∈ gt := gt_4_0 (i := 1) rfl rfl
theorem k808 : Cond.code yX5_run cX5_run 7 none ∈ gt := gt_4_0 (i := 2) rfl rfl
theorem np_X5_run : yX5_run.cls ≠ "java/lang/invoke/MethodHandle" ∧ yX5_run.cls ≠ "java/lang/invoke/VarHandle" ∧ (parseMethodDescriptor yX5_run.desc).map (fun d => d.parameters.length) = some 4 := ⟨cq_RX5.1, cq_RX5.2, pd_50⟩
theorem k321 : Cond.fieldLinkNest RX2 62 "PondStair$Storm" "went" "I" "PondStair" ∈ nt := nt_1_9 (i := 19) rfl rfl
theorem k870 : Cond.methodLink RX2 64 yX2_weigh ∈ gt := gt_4_2 (i := 16) rfl rfl
theorem k871 : Cond.instanceMethod yX2_weigh ∈ gt := gt_4_2 (i := 17) rfl rfl
theorem k872 : Cond.selects RX2 yX2_weigh yX2_weigh ∈ gt := gt_4_2 (i := 18) rfl rfl
theorem k873 : Cond.code yX2_weigh cX2_weigh 7 none ∈ gt := gt_4_2 (i := 19) rfl rfl
theorem np_X2_weigh : yX2_weigh.cls ≠ "java/lang/invoke/MethodHandle" ∧ yX2_weigh.cls ≠ "java/lang/invoke/VarHandle" ∧ (parseMethodDescriptor yX2_weigh.desc).map (fun d => d.parameters.length) = some 2 := ⟨cq_RX2.1, cq_RX2.2, pd_13⟩
theorem k887 : Cond.methodLink RX2 82 yX2_isStorm ∈ gt := gt_4_3 (i := 9) rfl rfl
theorem k888 : Cond.static yX2_isStorm ∈ gt := gt_4_3 (i := 10) rfl rfl
theorem k889 : Cond.code yX2_isStorm cX2_isStorm 2 (some .boolean) ∈ gt := gt_4_3 (i := 11) rfl rfl
theorem np_X2_isStorm : yX2_isStorm.cls ≠ "java/lang/invoke/MethodHandle" ∧ yX2_isStorm.cls ≠ "java/lang/invoke/VarHandle" ∧ (parseMethodDescriptor yX2_isStorm.desc).map (fun d => d.parameters.length) = some 2 := ⟨cq_RX2.1, cq_RX2.2, pd_14⟩
theorem k890 : Cond.methodLink RX2 85 yX1_chanceOf ∈ gt := gt_4_3 (i := 12) rfl rfl
theorem k883 : Cond.methodLink RX2 99 yX2_parts ∈ gt := gt_4_3 (i := 5) rfl rfl
theorem k885 : Cond.instanceMethod yX2_parts ∈ gt := gt_4_3 (i := 7) rfl rfl
theorem k24 : Cond.selects RX2 yX2_parts yX2_parts ∈ gt := gs_2 (i := 8) rfl rfl
theorem k886 : Cond.code yX2_parts cX2_parts 3 (some .long) ∈ gt := gt_4_3 (i := 8) rfl rfl
theorem np_X2_parts : yX2_parts.cls ≠ "java/lang/invoke/MethodHandle" ∧ yX2_parts.cls ≠ "java/lang/invoke/VarHandle" ∧ (parseMethodDescriptor yX2_parts.desc).map (fun d => d.parameters.length) = some 2 := ⟨cq_RX2.1, cq_RX2.2, pd_12⟩
theorem k891 : Cond.methodLink RX2 103 yX2_wentBy ∈ gt := gt_4_3 (i := 13) rfl rfl
theorem k893 : Cond.instanceMethod yX2_wentBy ∈ gt := gt_4_3 (i := 15) rfl rfl
theorem k25 : Cond.selects RX2 yX2_wentBy yX2_wentBy ∈ gt := gs_2 (i := 9) rfl rfl
theorem k894 : Cond.code yX2_wentBy cX2_wentBy 3 (some .int) ∈ gt := gt_4_3 (i := 16) rfl rfl
theorem np_X2_wentBy : yX2_wentBy.cls ≠ "java/lang/invoke/MethodHandle" ∧ yX2_wentBy.cls ≠ "java/lang/invoke/VarHandle" ∧ (parseMethodDescriptor yX2_wentBy.desc).map (fun d => d.parameters.length) = some 2 := ⟨cq_RX2.1, cq_RX2.2, pd_11⟩
theorem k998 : Cond.methodLink RX2 88 yX1_weak ∈ gt := gt_4_8 (i := 0) rfl rfl
theorem k857 : Cond.instanceMethod yX1_weak ∈ gt := gt_4_2 (i := 3) rfl rfl
theorem k858 : Cond.selects RX1 yX1_weak yX1_weak ∈ gt := gt_4_2 (i := 4) rfl rfl
theorem k859 : Cond.code yX1_weak cX1_weak 3 (some .int) ∈ gt := gt_4_2 (i := 5) rfl rfl
theorem np_X1_weak : yX1_weak.cls ≠ "java/lang/invoke/MethodHandle" ∧ yX1_weak.cls ≠ "java/lang/invoke/VarHandle" ∧ (parseMethodDescriptor yX1_weak.desc).map (fun d => d.parameters.length) = some 0 := ⟨cq_RX1.1, cq_RX1.2, pd_1⟩
theorem k999 : Cond.methodLink RX2 91 yX2_look ∈ gt := gt_4_8 (i := 1) rfl rfl
theorem k862 : Cond.instanceMethod yX2_look ∈ gt := gt_4_2 (i := 8) rfl rfl
theorem k863 : Cond.selects RX2 yX2_look yX2_look ∈ gt := gt_4_2 (i := 9) rfl rfl
theorem k864 : Cond.code yX2_look cX2_look 6 none ∈ gt := gt_4_2 (i := 10) rfl rfl
theorem np_X2_look : yX2_look.cls ≠ "java/lang/invoke/MethodHandle" ∧ yX2_look.cls ≠ "java/lang/invoke/VarHandle" ∧ (parseMethodDescriptor yX2_look.desc).map (fun d => d.parameters.length) = some 3 := ⟨cq_RX2.1, cq_RX2.2, pd_47⟩
theorem k1000 : Cond.methodLink RX2 95 yX2_meanOf ∈ gt := gt_4_8 (i := 2) rfl rfl
theorem k908 : Cond.instanceMethod yX2_meanOf ∈ gt := gt_4_4 (i := 6) rfl rfl
theorem k909 : Cond.selects RX2 yX2_meanOf yX2_meanOf ∈ gt := gt_4_4 (i := 7) rfl rfl
theorem k910 : Cond.code yX2_meanOf cX2_meanOf 6 (some .long) ∈ gt := gt_4_4 (i := 8) rfl rfl
theorem np_X2_meanOf : yX2_meanOf.cls ≠ "java/lang/invoke/MethodHandle" ∧ yX2_meanOf.cls ≠ "java/lang/invoke/VarHandle" ∧ (parseMethodDescriptor yX2_meanOf.desc).map (fun d => d.parameters.length) = some 1 := ⟨cq_RX2.1, cq_RX2.2, pd_7⟩
theorem k919 : Cond.methodLink RX2 106 yJ7_fill_d0a16 ∈ gt := gt_4_4 (i := 17) rfl rfl
theorem k920 : Cond.static yJ7_fill_d0a16 ∈ gt := gt_4_4 (i := 18) rfl rfl
theorem k921 : Cond.code yJ7_fill_d0a16 cJ7_fill_d0a16 5 none ∈ gt := gt_4_4 (i := 19) rfl rfl
theorem np_J7_fill_d0a16 : yJ7_fill_d0a16.cls ≠ "java/lang/invoke/MethodHandle" ∧ yJ7_fill_d0a16.cls ≠ "java/lang/invoke/VarHandle" ∧ (parseMethodDescriptor yJ7_fill_d0a16.desc).map (fun d => d.parameters.length) = some 2 := ⟨cq_RJ7.1, cq_RJ7.2, pd_64⟩
theorem k1148 : Cond.methodLink RX2 112 yJ6_bitCount_0f7a4 ∈ gt := gt_5_4 (i := 6) rfl rfl
theorem k929 : Cond.static yJ6_bitCount_0f7a4 ∈ gt := gt_4_5 (i := 3) rfl rfl
theorem k105 : Cond.initialized RJ6 ∈ gt := gt_1_0 (i := 19) rfl rfl
theorem k930 : Cond.code yJ6_bitCount_0f7a4 cJ6_bitCount_0f7a4 1 (some .int) ∈ gt := gt_4_5 (i := 4) rfl rfl
theorem np_J6_bitCount_0f7a4 : yJ6_bitCount_0f7a4.cls ≠ "java/lang/invoke/MethodHandle" ∧ yJ6_bitCount_0f7a4.cls ≠ "java/lang/invoke/VarHandle" ∧ (parseMethodDescriptor yJ6_bitCount_0f7a4.desc).map (fun d => d.parameters.length) = some 1 := ⟨cq_RJ6.1, cq_RJ6.2, pd_6⟩
theorem k1149 : Cond.methodLink RX2 117 Lib.Math.max.name ∈ gt := gt_5_4 (i := 7) rfl rfl
theorem k1198 : Cond.constantLong RX2 122 (-1) ∈ gt := gt_5_6 (i := 8) rfl rfl
theorem k328 : Cond.fieldLinkNest RX2 124 "PondStair$Storm" "brook" "I" "PondStair" ∈ nt := nt_2_0 (i := 2) rfl rfl
theorem k723 : Cond.methodLink RX10 114 yX10_lays ∈ gt := gt_3_6 (i := 13) rfl rfl
theorem k725 : Cond.instanceMethod yX10_lays ∈ gt := gt_3_6 (i := 15) rfl rfl
theorem k12 : Cond.selects RX10 yX10_lays yX10_lays ∈ gt := gs_1 (i := 12) rfl rfl
theorem k726 : Cond.code yX10_lays cX10_lays 3 (some .boolean) ∈ gt := gt_3_6 (i := 16) rfl rfl
theorem np_X10_lays : yX10_lays.cls ≠ "java/lang/invoke/MethodHandle" ∧ yX10_lays.cls ≠ "java/lang/invoke/VarHandle" ∧ (parseMethodDescriptor yX10_lays.desc).map (fun d => d.parameters.length) = some 2 := ⟨cq_RX10.1, cq_RX10.2, pd_14⟩
theorem k295 : Cond.fieldLinkNest RX10 118 "PondStair$Site" "ground" "LPondStair$Hill;" "PondStair" ∈ nt := nt_1_8 (i := 17) rfl rfl
theorem k856 : Cond.methodLink RX10 341 yX1_weak ∈ gt := gt_4_2 (i := 2) rfl rfl
theorem k861 : Cond.methodLink RX10 344 yX2_look ∈ gt := gt_4_2 (i := 7) rfl rfl
theorem dX4_mends_0 : decode cX4_mends 0 = .ok (.aload_n 0, 1) := dqn_42 (k := 56) qh_cX4_mends rfl rfl
theorem dX4_mends_1 : decode cX4_mends 1 = .ok (.getfield 12, 3) := dqn_180 (k := 53) qh_cX4_mends rfl rfl rfl
theorem dX4_mends_4 : decode cX4_mends 4 = .ok (.iload_n 1, 1) := dqn_27 (k := 52) qh_cX4_mends rfl rfl
theorem dX4_mends_5 : decode cX4_mends 5 = .ok (.iconst 4, 1) := dqn_7 (k := 51) qh_cX4_mends rfl rfl
theorem dX4_mends_6 : decode cX4_mends 6 = .ok (.invokevirtual 71, 3) := dqn_182 (k := 48) qh_cX4_mends rfl rfl rfl
theorem dX4_mends_9 : decode cX4_mends 9 = .ok (.iload_n 2, 1) := dqn_28 (k := 47) qh_cX4_mends rfl rfl
theorem dX4_mends_10 : decode cX4_mends 10 = .ok (.if_icmp .ge 5, 3) := dqn_162 (k := 44) (u := 5) qh_cX4_mends rfl rfl rfl (sg_p rfl rfl)
theorem dX4_mends_13 : decode cX4_mends 13 = .ok (.iconst 0, 1) := dqn_3 (k := 43) qh_cX4_mends rfl rfl
theorem dX4_mends_14 : decode cX4_mends 14 = .ok (.ireturn, 1) := dqn_172 (k := 42) qh_cX4_mends rfl rfl
theorem dX4_mends_15 : decode cX4_mends 15 = .ok (.aload_n 0, 1) := dqn_42 (k := 41) qh_cX4_mends rfl rfl
theorem dX4_mends_16 : decode cX4_mends 16 = .ok (.getfield 12, 3) := dqn_180 (k := 38) qh_cX4_mends rfl rfl rfl
theorem dX4_mends_19 : decode cX4_mends 19 = .ok (.iload_n 1, 1) := dqn_27 (k := 37) qh_cX4_mends rfl rfl
theorem dX4_mends_20 : decode cX4_mends 20 = .ok (.iconst 4, 1) := dqn_7 (k := 36) qh_cX4_mends rfl rfl
theorem dX4_mends_21 : decode cX4_mends 21 = .ok (.aload_n 0, 1) := dqn_42 (k := 35) qh_cX4_mends rfl rfl
theorem dX4_mends_22 : decode cX4_mends 22 = .ok (.getfield 12, 3) := dqn_180 (k := 32) qh_cX4_mends rfl rfl rfl
theorem dX4_mends_25 : decode cX4_mends 25 = .ok (.iload_n 1, 1) := dqn_27 (k := 31) qh_cX4_mends rfl rfl
theorem dX4_mends_26 : decode cX4_mends 26 = .ok (.iconst 4, 1) := dqn_7 (k := 30) qh_cX4_mends rfl rfl
theorem dX4_mends_27 : decode cX4_mends 27 = .ok (.invokevirtual 71, 3) := dqn_182 (k := 27) qh_cX4_mends rfl rfl rfl
theorem dX4_mends_30 : decode cX4_mends 30 = .ok (.iload_n 2, 1) := dqn_28 (k := 26) qh_cX4_mends rfl rfl
theorem dX4_mends_31 : decode cX4_mends 31 = .ok (.isub, 1) := dqn_100 (k := 25) qh_cX4_mends rfl rfl
theorem dX4_mends_32 : decode cX4_mends 32 = .ok (.invokevirtual 79, 3) := dqn_182 (k := 22) qh_cX4_mends rfl rfl rfl
theorem dX4_mends_35 : decode cX4_mends 35 = .ok (.aload_n 0, 1) := dqn_42 (k := 21) qh_cX4_mends rfl rfl
theorem dX4_mends_36 : decode cX4_mends 36 = .ok (.dup, 1) := dqn_89 (k := 20) qh_cX4_mends rfl rfl
theorem dX4_mends_37 : decode cX4_mends 37 = .ok (.getfield 22, 3) := dqn_180 (k := 17) qh_cX4_mends rfl rfl rfl
theorem dX4_mends_40 : decode cX4_mends 40 = .ok (.aload_n 0, 1) := dqn_42 (k := 16) qh_cX4_mends rfl rfl
theorem dX4_mends_41 : decode cX4_mends 41 = .ok (.getfield 12, 3) := dqn_180 (k := 13) qh_cX4_mends rfl rfl rfl
theorem dX4_mends_44 : decode cX4_mends 44 = .ok (.getfield 83, 3) := dqn_180 (k := 10) qh_cX4_mends rfl rfl rfl
theorem dX4_mends_47 : decode cX4_mends 47 = .ok (.iconst 0, 1) := dqn_3 (k := 9) qh_cX4_mends rfl rfl
theorem dX4_mends_48 : decode cX4_mends 48 = .ok (.iaload, 1) := dqn_46 (k := 8) qh_cX4_mends rfl rfl
theorem dX4_mends_49 : decode cX4_mends 49 = .ok (.iload_n 2, 1) := dqn_28 (k := 7) qh_cX4_mends rfl rfl
theorem dX4_mends_50 : decode cX4_mends 50 = .ok (.imul, 1) := dqn_104 (k := 6) qh_cX4_mends rfl rfl
theorem dX4_mends_51 : decode cX4_mends 51 = .ok (.iadd, 1) := dqn_96 (k := 5) qh_cX4_mends rfl rfl
theorem dX4_mends_52 : decode cX4_mends 52 = .ok (.putfield 22, 3) := dqn_181 (k := 2) qh_cX4_mends rfl rfl rfl
theorem dX4_mends_55 : decode cX4_mends 55 = .ok (.iconst 1, 1) := dqn_4 (k := 1) qh_cX4_mends rfl rfl
theorem dX4_mends_56 : decode cX4_mends 56 = .ok (.ireturn, 1) := dqn_172 (k := 0) qh_cX4_mends rfl rfl
theorem dX4_lowers_0 : decode cX4_lowers 0 = .ok (.aload_n 0, 1) := dqn_42 (k := 57) qh_cX4_lowers rfl rfl
theorem dX4_lowers_1 : decode cX4_lowers 1 = .ok (.getfield 12, 3) := dqn_180 (k := 54) qh_cX4_lowers rfl rfl rfl
theorem dX4_lowers_4 : decode cX4_lowers 4 = .ok (.iload_n 1, 1) := dqn_27 (k := 53) qh_cX4_lowers rfl rfl
theorem dX4_lowers_5 : decode cX4_lowers 5 = .ok (.iconst 1, 1) := dqn_4 (k := 52) qh_cX4_lowers rfl rfl
theorem dX4_lowers_6 : decode cX4_lowers 6 = .ok (.invokevirtual 71, 3) := dqn_182 (k := 49) qh_cX4_lowers rfl rfl rfl
theorem dX4_lowers_9 : decode cX4_lowers 9 = .ok (.iload_n 2, 1) := dqn_28 (k := 48) qh_cX4_lowers rfl rfl
theorem dX4_lowers_10 : decode cX4_lowers 10 = .ok (.if_icmp .ge 5, 3) := dqn_162 (k := 45) (u := 5) qh_cX4_lowers rfl rfl rfl (sg_p rfl rfl)
theorem dX4_lowers_13 : decode cX4_lowers 13 = .ok (.iconst 0, 1) := dqn_3 (k := 44) qh_cX4_lowers rfl rfl
theorem dX4_lowers_14 : decode cX4_lowers 14 = .ok (.ireturn, 1) := dqn_172 (k := 43) qh_cX4_lowers rfl rfl
theorem dX4_lowers_15 : decode cX4_lowers 15 = .ok (.aload_n 0, 1) := dqn_42 (k := 42) qh_cX4_lowers rfl rfl
theorem dX4_lowers_16 : decode cX4_lowers 16 = .ok (.getfield 12, 3) := dqn_180 (k := 39) qh_cX4_lowers rfl rfl rfl
theorem dX4_lowers_19 : decode cX4_lowers 19 = .ok (.iload_n 1, 1) := dqn_27 (k := 38) qh_cX4_lowers rfl rfl
theorem dX4_lowers_20 : decode cX4_lowers 20 = .ok (.iconst 1, 1) := dqn_4 (k := 37) qh_cX4_lowers rfl rfl
theorem dX4_lowers_21 : decode cX4_lowers 21 = .ok (.aload_n 0, 1) := dqn_42 (k := 36) qh_cX4_lowers rfl rfl
theorem dX4_lowers_22 : decode cX4_lowers 22 = .ok (.getfield 12, 3) := dqn_180 (k := 33) qh_cX4_lowers rfl rfl rfl
theorem dX4_lowers_25 : decode cX4_lowers 25 = .ok (.iload_n 1, 1) := dqn_27 (k := 32) qh_cX4_lowers rfl rfl
theorem dX4_lowers_26 : decode cX4_lowers 26 = .ok (.iconst 1, 1) := dqn_4 (k := 31) qh_cX4_lowers rfl rfl
theorem dX4_lowers_27 : decode cX4_lowers 27 = .ok (.invokevirtual 71, 3) := dqn_182 (k := 28) qh_cX4_lowers rfl rfl rfl
theorem dX4_lowers_30 : decode cX4_lowers 30 = .ok (.iload_n 2, 1) := dqn_28 (k := 27) qh_cX4_lowers rfl rfl
theorem dX4_lowers_31 : decode cX4_lowers 31 = .ok (.isub, 1) := dqn_100 (k := 26) qh_cX4_lowers rfl rfl
theorem dX4_lowers_32 : decode cX4_lowers 32 = .ok (.invokevirtual 79, 3) := dqn_182 (k := 23) qh_cX4_lowers rfl rfl rfl
theorem dX4_lowers_35 : decode cX4_lowers 35 = .ok (.aload_n 0, 1) := dqn_42 (k := 22) qh_cX4_lowers rfl rfl
theorem dX4_lowers_36 : decode cX4_lowers 36 = .ok (.dup, 1) := dqn_89 (k := 21) qh_cX4_lowers rfl rfl
theorem dX4_lowers_37 : decode cX4_lowers 37 = .ok (.getfield 25, 3) := dqn_180 (k := 18) qh_cX4_lowers rfl rfl rfl
theorem dX4_lowers_40 : decode cX4_lowers 40 = .ok (.aload_n 0, 1) := dqn_42 (k := 17) qh_cX4_lowers rfl rfl
theorem dX4_lowers_41 : decode cX4_lowers 41 = .ok (.getfield 12, 3) := dqn_180 (k := 14) qh_cX4_lowers rfl rfl rfl
theorem dX4_lowers_44 : decode cX4_lowers 44 = .ok (.iload_n 1, 1) := dqn_27 (k := 13) qh_cX4_lowers rfl rfl
theorem dX4_lowers_45 : decode cX4_lowers 45 = .ok (.bipush 7, 2) := dqn_16 (k := 11) (u := 7) qh_cX4_lowers rfl rfl rfl (by decide)
theorem dX4_lowers_47 : decode cX4_lowers 47 = .ok (.invokevirtual 71, 3) := dqn_182 (k := 8) qh_cX4_lowers rfl rfl rfl
theorem dX4_lowers_50 : decode cX4_lowers 50 = .ok (.iload_n 2, 1) := dqn_28 (k := 7) qh_cX4_lowers rfl rfl
theorem dX4_lowers_51 : decode cX4_lowers 51 = .ok (.imul, 1) := dqn_104 (k := 6) qh_cX4_lowers rfl rfl
theorem dX4_lowers_52 : decode cX4_lowers 52 = .ok (.iadd, 1) := dqn_96 (k := 5) qh_cX4_lowers rfl rfl
theorem dX4_lowers_53 : decode cX4_lowers 53 = .ok (.putfield 25, 3) := dqn_181 (k := 2) qh_cX4_lowers rfl rfl rfl
theorem dX4_lowers_56 : decode cX4_lowers 56 = .ok (.iconst 1, 1) := dqn_4 (k := 1) qh_cX4_lowers rfl rfl
theorem dX4_lowers_57 : decode cX4_lowers 57 = .ok (.ireturn, 1) := dqn_172 (k := 0) qh_cX4_lowers rfl rfl
theorem dX4_widens_0 : decode cX4_widens 0 = .ok (.aload_n 0, 1) := dqn_42 (k := 59) qh_cX4_widens rfl rfl
theorem dX4_widens_1 : decode cX4_widens 1 = .ok (.getfield 12, 3) := dqn_180 (k := 56) qh_cX4_widens rfl rfl rfl
theorem dX4_widens_4 : decode cX4_widens 4 = .ok (.iload_n 1, 1) := dqn_27 (k := 55) qh_cX4_widens rfl rfl
theorem dX4_widens_5 : decode cX4_widens 5 = .ok (.iconst 3, 1) := dqn_6 (k := 54) qh_cX4_widens rfl rfl
theorem dX4_widens_6 : decode cX4_widens 6 = .ok (.invokevirtual 71, 3) := dqn_182 (k := 51) qh_cX4_widens rfl rfl rfl
theorem dX4_widens_9 : decode cX4_widens 9 = .ok (.iload_n 2, 1) := dqn_28 (k := 50) qh_cX4_widens rfl rfl
theorem dX4_widens_10 : decode cX4_widens 10 = .ok (.iadd, 1) := dqn_96 (k := 49) qh_cX4_widens rfl rfl
theorem dX4_widens_11 : decode cX4_widens 11 = .ok (.bipush 24, 2) := dqn_16 (k := 47) (u := 24) qh_cX4_widens rfl rfl rfl (by decide)
theorem dX4_widens_13 : decode cX4_widens 13 = .ok (.if_icmp .le 5, 3) := dqn_164 (k := 44) (u := 5) qh_cX4_widens rfl rfl rfl (sg_p rfl rfl)
theorem dX4_widens_16 : decode cX4_widens 16 = .ok (.iconst 0, 1) := dqn_3 (k := 43) qh_cX4_widens rfl rfl
theorem dX4_widens_17 : decode cX4_widens 17 = .ok (.ireturn, 1) := dqn_172 (k := 42) qh_cX4_widens rfl rfl
theorem dX4_widens_18 : decode cX4_widens 18 = .ok (.aload_n 0, 1) := dqn_42 (k := 41) qh_cX4_widens rfl rfl
theorem dX4_widens_19 : decode cX4_widens 19 = .ok (.getfield 12, 3) := dqn_180 (k := 38) qh_cX4_widens rfl rfl rfl
theorem dX4_widens_22 : decode cX4_widens 22 = .ok (.iload_n 1, 1) := dqn_27 (k := 37) qh_cX4_widens rfl rfl
theorem dX4_widens_23 : decode cX4_widens 23 = .ok (.iconst 3, 1) := dqn_6 (k := 36) qh_cX4_widens rfl rfl
theorem dX4_widens_24 : decode cX4_widens 24 = .ok (.aload_n 0, 1) := dqn_42 (k := 35) qh_cX4_widens rfl rfl
theorem dX4_widens_25 : decode cX4_widens 25 = .ok (.getfield 12, 3) := dqn_180 (k := 32) qh_cX4_widens rfl rfl rfl
theorem dX4_widens_28 : decode cX4_widens 28 = .ok (.iload_n 1, 1) := dqn_27 (k := 31) qh_cX4_widens rfl rfl
theorem dX4_widens_29 : decode cX4_widens 29 = .ok (.iconst 3, 1) := dqn_6 (k := 30) qh_cX4_widens rfl rfl
theorem dX4_widens_30 : decode cX4_widens 30 = .ok (.invokevirtual 71, 3) := dqn_182 (k := 27) qh_cX4_widens rfl rfl rfl
theorem dX4_widens_33 : decode cX4_widens 33 = .ok (.iload_n 2, 1) := dqn_28 (k := 26) qh_cX4_widens rfl rfl
theorem dX4_widens_34 : decode cX4_widens 34 = .ok (.iadd, 1) := dqn_96 (k := 25) qh_cX4_widens rfl rfl
theorem dX4_widens_35 : decode cX4_widens 35 = .ok (.invokevirtual 79, 3) := dqn_182 (k := 22) qh_cX4_widens rfl rfl rfl
theorem dX4_widens_38 : decode cX4_widens 38 = .ok (.aload_n 0, 1) := dqn_42 (k := 21) qh_cX4_widens rfl rfl
theorem dX4_widens_39 : decode cX4_widens 39 = .ok (.dup, 1) := dqn_89 (k := 20) qh_cX4_widens rfl rfl
theorem dX4_widens_40 : decode cX4_widens 40 = .ok (.getfield 22, 3) := dqn_180 (k := 17) qh_cX4_widens rfl rfl rfl
theorem dX4_widens_43 : decode cX4_widens 43 = .ok (.aload_n 0, 1) := dqn_42 (k := 16) qh_cX4_widens rfl rfl
theorem dX4_widens_44 : decode cX4_widens 44 = .ok (.getfield 12, 3) := dqn_180 (k := 13) qh_cX4_widens rfl rfl rfl
theorem dX4_widens_47 : decode cX4_widens 47 = .ok (.getfield 83, 3) := dqn_180 (k := 10) qh_cX4_widens rfl rfl rfl
theorem dX4_widens_50 : decode cX4_widens 50 = .ok (.iconst 1, 1) := dqn_4 (k := 9) qh_cX4_widens rfl rfl
theorem dX4_widens_51 : decode cX4_widens 51 = .ok (.iaload, 1) := dqn_46 (k := 8) qh_cX4_widens rfl rfl
theorem dX4_widens_52 : decode cX4_widens 52 = .ok (.iload_n 2, 1) := dqn_28 (k := 7) qh_cX4_widens rfl rfl
theorem dX4_widens_53 : decode cX4_widens 53 = .ok (.imul, 1) := dqn_104 (k := 6) qh_cX4_widens rfl rfl
theorem dX4_widens_54 : decode cX4_widens 54 = .ok (.iadd, 1) := dqn_96 (k := 5) qh_cX4_widens rfl rfl
theorem dX4_widens_55 : decode cX4_widens 55 = .ok (.putfield 22, 3) := dqn_181 (k := 2) qh_cX4_widens rfl rfl rfl
theorem dX4_widens_58 : decode cX4_widens 58 = .ok (.iconst 1, 1) := dqn_4 (k := 1) qh_cX4_widens rfl rfl
theorem dX4_widens_59 : decode cX4_widens 59 = .ok (.ireturn, 1) := dqn_172 (k := 0) qh_cX4_widens rfl rfl
theorem dX4_leads_0 : decode cX4_leads 0 = .ok (.aload_n 0, 1) := dqn_42 (k := 48) qh_cX4_leads rfl rfl
theorem dX4_leads_1 : decode cX4_leads 1 = .ok (.getfield 12, 3) := dqn_180 (k := 45) qh_cX4_leads rfl rfl rfl
theorem dX4_leads_4 : decode cX4_leads 4 = .ok (.iload_n 2, 1) := dqn_28 (k := 44) qh_cX4_leads rfl rfl
theorem dX4_leads_5 : decode cX4_leads 5 = .ok (.invokevirtual 51, 3) := dqn_182 (k := 41) qh_cX4_leads rfl rfl rfl
theorem dX4_leads_8 : decode cX4_leads 8 = .ok (.ifCond .eq 8, 3) := dqn_153 (k := 38) (u := 8) qh_cX4_leads rfl rfl rfl (sg_p rfl rfl)
theorem dX4_leads_11 : decode cX4_leads 11 = .ok (.iload_n 2, 1) := dqn_28 (k := 37) qh_cX4_leads rfl rfl
theorem dX4_leads_12 : decode cX4_leads 12 = .ok (.iload_n 1, 1) := dqn_27 (k := 36) qh_cX4_leads rfl rfl
theorem dX4_leads_13 : decode cX4_leads 13 = .ok (.if_icmp .gt 5, 3) := dqn_163 (k := 33) (u := 5) qh_cX4_leads rfl rfl rfl (sg_p rfl rfl)
theorem dX4_leads_16 : decode cX4_leads 16 = .ok (.iconst 0, 1) := dqn_3 (k := 32) qh_cX4_leads rfl rfl
theorem dX4_leads_17 : decode cX4_leads 17 = .ok (.ireturn, 1) := dqn_172 (k := 31) qh_cX4_leads rfl rfl
theorem dX4_leads_18 : decode cX4_leads 18 = .ok (.aload_n 0, 1) := dqn_42 (k := 30) qh_cX4_leads rfl rfl
theorem dX4_leads_19 : decode cX4_leads 19 = .ok (.getfield 12, 3) := dqn_180 (k := 27) qh_cX4_leads rfl rfl rfl
theorem dX4_leads_22 : decode cX4_leads 22 = .ok (.iload_n 1, 1) := dqn_27 (k := 26) qh_cX4_leads rfl rfl
theorem dX4_leads_23 : decode cX4_leads 23 = .ok (.bipush 8, 2) := dqn_16 (k := 24) (u := 8) qh_cX4_leads rfl rfl rfl (by decide)
theorem dX4_leads_25 : decode cX4_leads 25 = .ok (.iload_n 2, 1) := dqn_28 (k := 23) qh_cX4_leads rfl rfl
theorem dX4_leads_26 : decode cX4_leads 26 = .ok (.invokevirtual 79, 3) := dqn_182 (k := 20) qh_cX4_leads rfl rfl rfl
theorem dX4_leads_29 : decode cX4_leads 29 = .ok (.aload_n 0, 1) := dqn_42 (k := 19) qh_cX4_leads rfl rfl
theorem dX4_leads_30 : decode cX4_leads 30 = .ok (.dup, 1) := dqn_89 (k := 18) qh_cX4_leads rfl rfl
theorem dX4_leads_31 : decode cX4_leads 31 = .ok (.getfield 22, 3) := dqn_180 (k := 15) qh_cX4_leads rfl rfl rfl
theorem dX4_leads_34 : decode cX4_leads 34 = .ok (.aload_n 0, 1) := dqn_42 (k := 14) qh_cX4_leads rfl rfl
theorem dX4_leads_35 : decode cX4_leads 35 = .ok (.getfield 12, 3) := dqn_180 (k := 11) qh_cX4_leads rfl rfl rfl
theorem dX4_leads_38 : decode cX4_leads 38 = .ok (.getfield 83, 3) := dqn_180 (k := 8) qh_cX4_leads rfl rfl rfl
theorem dX4_leads_41 : decode cX4_leads 41 = .ok (.iconst 2, 1) := dqn_5 (k := 7) qh_cX4_leads rfl rfl
theorem dX4_leads_42 : decode cX4_leads 42 = .ok (.iaload, 1) := dqn_46 (k := 6) qh_cX4_leads rfl rfl
theorem dX4_leads_43 : decode cX4_leads 43 = .ok (.iadd, 1) := dqn_96 (k := 5) qh_cX4_leads rfl rfl
theorem dX4_leads_44 : decode cX4_leads 44 = .ok (.putfield 22, 3) := dqn_181 (k := 2) qh_cX4_leads rfl rfl rfl
theorem dX4_leads_47 : decode cX4_leads 47 = .ok (.iconst 1, 1) := dqn_4 (k := 1) qh_cX4_leads rfl rfl
theorem dX4_leads_48 : decode cX4_leads 48 = .ok (.ireturn, 1) := dqn_172 (k := 0) qh_cX4_leads rfl rfl
theorem dX4_builds_0 : decode cX4_builds 0 = .ok (.aload_n 0, 1) := dqn_42 (k := 122) qh_cX4_builds rfl rfl
theorem dX4_builds_1 : decode cX4_builds 1 = .ok (.getfield 12, 3) := dqn_180 (k := 119) qh_cX4_builds rfl rfl rfl
theorem dX4_builds_4 : decode cX4_builds 4 = .ok (.iload_n 2, 1) := dqn_28 (k := 118) qh_cX4_builds rfl rfl
theorem dX4_builds_5 : decode cX4_builds 5 = .ok (.invokevirtual 51, 3) := dqn_182 (k := 115) qh_cX4_builds rfl rfl rfl
theorem dX4_builds_8 : decode cX4_builds 8 = .ok (.ifCond .eq 14, 3) := dqn_153 (k := 112) (u := 14) qh_cX4_builds rfl rfl rfl (sg_p rfl rfl)
theorem dX4_builds_11 : decode cX4_builds 11 = .ok (.aload_n 0, 1) := dqn_42 (k := 111) qh_cX4_builds rfl rfl
theorem dX4_builds_12 : decode cX4_builds 12 = .ok (.getfield 12, 3) := dqn_180 (k := 108) qh_cX4_builds rfl rfl rfl
theorem dX4_builds_15 : decode cX4_builds 15 = .ok (.iload_n 2, 1) := dqn_28 (k := 107) qh_cX4_builds rfl rfl
theorem dX4_builds_16 : decode cX4_builds 16 = .ok (.invokevirtual 55, 3) := dqn_182 (k := 104) qh_cX4_builds rfl rfl rfl
theorem dX4_builds_19 : decode cX4_builds 19 = .ok (.ifCond .eq 5, 3) := dqn_153 (k := 101) (u := 5) qh_cX4_builds rfl rfl rfl (sg_p rfl rfl)
theorem dX4_builds_22 : decode cX4_builds 22 = .ok (.iconst 0, 1) := dqn_3 (k := 100) qh_cX4_builds rfl rfl
theorem dX4_builds_23 : decode cX4_builds 23 = .ok (.ireturn, 1) := dqn_172 (k := 99) qh_cX4_builds rfl rfl
theorem dX4_builds_24 : decode cX4_builds 24 = .ok (.iload_n 1, 1) := dqn_27 (k := 98) qh_cX4_builds rfl rfl
theorem dX4_builds_25 : decode cX4_builds 25 = .ok (.tableswitch 59 0 3 #[31, 38, 45, 52], 31) := by decide +kernel
theorem dX4_builds_56 : decode cX4_builds 56 = .ok (.aload_n 0, 1) := dqn_42 (k := 66) qh_cX4_builds rfl rfl
theorem dX4_builds_57 : decode cX4_builds 57 = .ok (.iload_n 2, 1) := dqn_28 (k := 65) qh_cX4_builds rfl rfl
theorem dX4_builds_58 : decode cX4_builds 58 = .ok (.iload_n 3, 1) := dqn_29 (k := 64) qh_cX4_builds rfl rfl
theorem dX4_builds_59 : decode cX4_builds 59 = .ok (.invokevirtual 58, 3) := dqn_182 (k := 61) qh_cX4_builds rfl rfl rfl
theorem dX4_builds_62 : decode cX4_builds 62 = .ok (.ireturn, 1) := dqn_172 (k := 60) qh_cX4_builds rfl rfl
theorem dX4_builds_63 : decode cX4_builds 63 = .ok (.aload_n 0, 1) := dqn_42 (k := 59) qh_cX4_builds rfl rfl
theorem dX4_builds_64 : decode cX4_builds 64 = .ok (.iload_n 2, 1) := dqn_28 (k := 58) qh_cX4_builds rfl rfl
theorem dX4_builds_65 : decode cX4_builds 65 = .ok (.iload_n 3, 1) := dqn_29 (k := 57) qh_cX4_builds rfl rfl
theorem dX4_builds_66 : decode cX4_builds 66 = .ok (.invokevirtual 62, 3) := dqn_182 (k := 54) qh_cX4_builds rfl rfl rfl
theorem dX4_builds_69 : decode cX4_builds 69 = .ok (.ireturn, 1) := dqn_172 (k := 53) qh_cX4_builds rfl rfl
theorem dX4_builds_70 : decode cX4_builds 70 = .ok (.aload_n 0, 1) := dqn_42 (k := 52) qh_cX4_builds rfl rfl
theorem dX4_builds_71 : decode cX4_builds 71 = .ok (.iload_n 2, 1) := dqn_28 (k := 51) qh_cX4_builds rfl rfl
theorem dX4_builds_72 : decode cX4_builds 72 = .ok (.iload_n 3, 1) := dqn_29 (k := 50) qh_cX4_builds rfl rfl
theorem dX4_builds_73 : decode cX4_builds 73 = .ok (.invokevirtual 65, 3) := dqn_182 (k := 47) qh_cX4_builds rfl rfl rfl
theorem dX4_builds_76 : decode cX4_builds 76 = .ok (.ireturn, 1) := dqn_172 (k := 46) qh_cX4_builds rfl rfl
theorem dX4_builds_77 : decode cX4_builds 77 = .ok (.aload_n 0, 1) := dqn_42 (k := 45) qh_cX4_builds rfl rfl
theorem dX4_builds_78 : decode cX4_builds 78 = .ok (.iload_n 2, 1) := dqn_28 (k := 44) qh_cX4_builds rfl rfl
theorem dX4_builds_79 : decode cX4_builds 79 = .ok (.iload_n 3, 1) := dqn_29 (k := 43) qh_cX4_builds rfl rfl
theorem dX4_builds_80 : decode cX4_builds 80 = .ok (.invokevirtual 68, 3) := dqn_182 (k := 40) qh_cX4_builds rfl rfl rfl
theorem dX4_builds_83 : decode cX4_builds 83 = .ok (.ireturn, 1) := dqn_172 (k := 39) qh_cX4_builds rfl rfl
theorem dX4_builds_84 : decode cX4_builds 84 = .ok (.aload_n 0, 1) := dqn_42 (k := 38) qh_cX4_builds rfl rfl
theorem dX4_builds_85 : decode cX4_builds 85 = .ok (.dup, 1) := dqn_89 (k := 37) qh_cX4_builds rfl rfl
theorem dX4_builds_86 : decode cX4_builds 86 = .ok (.getfield 25, 3) := dqn_180 (k := 34) qh_cX4_builds rfl rfl rfl
theorem dX4_builds_89 : decode cX4_builds 89 = .ok (.aload_n 0, 1) := dqn_42 (k := 33) qh_cX4_builds rfl rfl
theorem dX4_builds_90 : decode cX4_builds 90 = .ok (.getfield 12, 3) := dqn_180 (k := 30) qh_cX4_builds rfl rfl rfl
theorem dX4_builds_93 : decode cX4_builds 93 = .ok (.iload_n 2, 1) := dqn_28 (k := 29) qh_cX4_builds rfl rfl
theorem dX4_builds_94 : decode cX4_builds 94 = .ok (.bipush 7, 2) := dqn_16 (k := 27) (u := 7) qh_cX4_builds rfl rfl rfl (by decide)
theorem dX4_builds_96 : decode cX4_builds 96 = .ok (.invokevirtual 71, 3) := dqn_182 (k := 24) qh_cX4_builds rfl rfl rfl
theorem dX4_builds_99 : decode cX4_builds 99 = .ok (.aload_n 0, 1) := dqn_42 (k := 23) qh_cX4_builds rfl rfl
theorem dX4_builds_100 : decode cX4_builds 100 = .ok (.getfield 12, 3) := dqn_180 (k := 20) qh_cX4_builds rfl rfl rfl
theorem dX4_builds_103 : decode cX4_builds 103 = .ok (.iload_n 2, 1) := dqn_28 (k := 19) qh_cX4_builds rfl rfl
theorem dX4_builds_104 : decode cX4_builds 104 = .ok (.iconst 1, 1) := dqn_4 (k := 18) qh_cX4_builds rfl rfl
theorem dX4_builds_105 : decode cX4_builds 105 = .ok (.invokevirtual 71, 3) := dqn_182 (k := 15) qh_cX4_builds rfl rfl rfl
theorem dX4_builds_108 : decode cX4_builds 108 = .ok (.imul, 1) := dqn_104 (k := 14) qh_cX4_builds rfl rfl
theorem dX4_builds_109 : decode cX4_builds 109 = .ok (.iadd, 1) := dqn_96 (k := 13) qh_cX4_builds rfl rfl
theorem dX4_builds_110 : decode cX4_builds 110 = .ok (.putfield 25, 3) := dqn_181 (k := 10) qh_cX4_builds rfl rfl rfl
theorem dX4_builds_113 : decode cX4_builds 113 = .ok (.aload_n 0, 1) := dqn_42 (k := 9) qh_cX4_builds rfl rfl
theorem dX4_builds_114 : decode cX4_builds 114 = .ok (.getfield 12, 3) := dqn_180 (k := 6) qh_cX4_builds rfl rfl rfl
theorem dX4_builds_117 : decode cX4_builds 117 = .ok (.iload_n 2, 1) := dqn_28 (k := 5) qh_cX4_builds rfl rfl
theorem dX4_builds_118 : decode cX4_builds 118 = .ok (.invokevirtual 75, 3) := dqn_182 (k := 2) qh_cX4_builds rfl rfl rfl
theorem dX4_builds_121 : decode cX4_builds 121 = .ok (.iconst 1, 1) := dqn_4 (k := 1) qh_cX4_builds rfl rfl
theorem dX4_builds_122 : decode cX4_builds 122 = .ok (.ireturn, 1) := dqn_172 (k := 0) qh_cX4_builds rfl rfl
theorem dX4_lay_0 : decode cX4_lay 0 = .ok (.aload_n 0, 1) := dqn_42 (k := 75) qh_cX4_lay rfl rfl
theorem dX4_lay_1 : decode cX4_lay 1 = .ok (.getfield 12, 3) := dqn_180 (k := 72) qh_cX4_lay rfl rfl rfl
theorem dX4_lay_4 : decode cX4_lay 4 = .ok (.aload_n 1, 1) := dqn_43 (k := 71) qh_cX4_lay rfl rfl
theorem dX4_lay_5 : decode cX4_lay 5 = .ok (.invokevirtual 28, 3) := dqn_182 (k := 68) qh_cX4_lay rfl rfl rfl
theorem dX4_lay_8 : decode cX4_lay 8 = .ok (.aload_n 0, 1) := dqn_42 (k := 67) qh_cX4_lay rfl rfl
theorem dX4_lay_9 : decode cX4_lay 9 = .ok (.iconst 0, 1) := dqn_3 (k := 66) qh_cX4_lay rfl rfl
theorem dX4_lay_10 : decode cX4_lay 10 = .ok (.putfield 18, 3) := dqn_181 (k := 63) qh_cX4_lay rfl rfl rfl
theorem dX4_lay_13 : decode cX4_lay 13 = .ok (.aload_n 0, 1) := dqn_42 (k := 62) qh_cX4_lay rfl rfl
theorem dX4_lay_14 : decode cX4_lay 14 = .ok (.iconst 0, 1) := dqn_3 (k := 61) qh_cX4_lay rfl rfl
theorem dX4_lay_15 : decode cX4_lay 15 = .ok (.putfield 22, 3) := dqn_181 (k := 58) qh_cX4_lay rfl rfl rfl
theorem dX4_lay_18 : decode cX4_lay 18 = .ok (.aload_n 0, 1) := dqn_42 (k := 57) qh_cX4_lay rfl rfl
theorem dX4_lay_19 : decode cX4_lay 19 = .ok (.iconst 0, 1) := dqn_3 (k := 56) qh_cX4_lay rfl rfl
theorem dX4_lay_20 : decode cX4_lay 20 = .ok (.putfield 25, 3) := dqn_181 (k := 53) qh_cX4_lay rfl rfl rfl
theorem dX4_lay_23 : decode cX4_lay 23 = .ok (.iconst 0, 1) := dqn_3 (k := 52) qh_cX4_lay rfl rfl
theorem dX4_lay_24 : decode cX4_lay 24 = .ok (.istore_n 3, 1) := dqn_62 (k := 51) qh_cX4_lay rfl rfl
theorem dX4_lay_25 : decode cX4_lay 25 = .ok (.iload_n 3, 1) := dqn_29 (k := 50) qh_cX4_lay rfl rfl
theorem dX4_lay_26 : decode cX4_lay 26 = .ok (.aload_n 2, 1) := dqn_44 (k := 49) qh_cX4_lay rfl rfl
theorem dX4_lay_27 : decode cX4_lay 27 = .ok (.getfield 32, 3) := dqn_180 (k := 46) qh_cX4_lay rfl rfl rfl
theorem dX4_lay_30 : decode cX4_lay 30 = .ok (.if_icmp .ge 45, 3) := dqn_162 (k := 43) (u := 45) qh_cX4_lay rfl rfl rfl (sg_p rfl rfl)
theorem dX4_lay_33 : decode cX4_lay 33 = .ok (.aload_n 0, 1) := dqn_42 (k := 42) qh_cX4_lay rfl rfl
theorem dX4_lay_34 : decode cX4_lay 34 = .ok (.aload_n 2, 1) := dqn_44 (k := 41) qh_cX4_lay rfl rfl
theorem dX4_lay_35 : decode cX4_lay 35 = .ok (.getfield 37, 3) := dqn_180 (k := 38) qh_cX4_lay rfl rfl rfl
theorem dX4_lay_38 : decode cX4_lay 38 = .ok (.iload_n 3, 1) := dqn_29 (k := 37) qh_cX4_lay rfl rfl
theorem dX4_lay_39 : decode cX4_lay 39 = .ok (.iaload, 1) := dqn_46 (k := 36) qh_cX4_lay rfl rfl
theorem dX4_lay_40 : decode cX4_lay 40 = .ok (.aload_n 2, 1) := dqn_44 (k := 35) qh_cX4_lay rfl rfl
theorem dX4_lay_41 : decode cX4_lay 41 = .ok (.getfield 41, 3) := dqn_180 (k := 32) qh_cX4_lay rfl rfl rfl
theorem dX4_lay_44 : decode cX4_lay 44 = .ok (.iload_n 3, 1) := dqn_29 (k := 31) qh_cX4_lay rfl rfl
theorem dX4_lay_45 : decode cX4_lay 45 = .ok (.iaload, 1) := dqn_46 (k := 30) qh_cX4_lay rfl rfl
theorem dX4_lay_46 : decode cX4_lay 46 = .ok (.aload_n 2, 1) := dqn_44 (k := 29) qh_cX4_lay rfl rfl
theorem dX4_lay_47 : decode cX4_lay 47 = .ok (.getfield 44, 3) := dqn_180 (k := 26) qh_cX4_lay rfl rfl rfl
theorem dX4_lay_50 : decode cX4_lay 50 = .ok (.iload_n 3, 1) := dqn_29 (k := 25) qh_cX4_lay rfl rfl
theorem dX4_lay_51 : decode cX4_lay 51 = .ok (.iaload, 1) := dqn_46 (k := 24) qh_cX4_lay rfl rfl
theorem dX4_lay_52 : decode cX4_lay 52 = .ok (.invokevirtual 47, 3) := dqn_182 (k := 21) qh_cX4_lay rfl rfl rfl
theorem dX4_lay_55 : decode cX4_lay 55 = .ok (.ifCond .ne 4, 3) := dqn_154 (k := 18) (u := 4) qh_cX4_lay rfl rfl rfl (sg_p rfl rfl)
theorem dX4_lay_58 : decode cX4_lay 58 = .ok (.return_, 1) := dqn_177 (k := 17) qh_cX4_lay rfl rfl
theorem dX4_lay_59 : decode cX4_lay 59 = .ok (.aload_n 0, 1) := dqn_42 (k := 16) qh_cX4_lay rfl rfl
theorem dX4_lay_60 : decode cX4_lay 60 = .ok (.dup, 1) := dqn_89 (k := 15) qh_cX4_lay rfl rfl
theorem dX4_lay_61 : decode cX4_lay 61 = .ok (.getfield 18, 3) := dqn_180 (k := 12) qh_cX4_lay rfl rfl rfl
theorem dX4_lay_64 : decode cX4_lay 64 = .ok (.iconst 1, 1) := dqn_4 (k := 11) qh_cX4_lay rfl rfl
theorem dX4_lay_65 : decode cX4_lay 65 = .ok (.iadd, 1) := dqn_96 (k := 10) qh_cX4_lay rfl rfl
theorem dX4_lay_66 : decode cX4_lay 66 = .ok (.putfield 18, 3) := dqn_181 (k := 7) qh_cX4_lay rfl rfl rfl
theorem dX4_lay_69 : decode cX4_lay 69 = .ok (.iinc 3 1, 3) := dqn_132 (k := 4) (u := 1) qh_cX4_lay rfl rfl rfl rfl (by decide)
theorem dX4_lay_72 : decode cX4_lay 72 = .ok (.goto (-47), 3) := dqn_167 (k := 1) (u := 65489) qh_cX4_lay rfl rfl rfl (sg_n (k := 47) rfl rfl rfl)
theorem dX4_lay_75 : decode cX4_lay 75 = .ok (.return_, 1) := dqn_177 (k := 0) qh_cX4_lay rfl rfl
theorem dX7_hasHill_0 : decode cX7_hasHill 0 = .ok (.iload_n 1, 1) := dqn_27 (k := 17) qh_cX7_hasHill rfl rfl
theorem dX7_hasHill_1 : decode cX7_hasHill 1 = .ok (.ifCond .lt 15, 3) := dqn_155 (k := 14) (u := 15) qh_cX7_hasHill rfl rfl rfl (sg_p rfl rfl)
theorem dX7_hasHill_4 : decode cX7_hasHill 4 = .ok (.iload_n 1, 1) := dqn_27 (k := 13) qh_cX7_hasHill rfl rfl
theorem dX7_hasHill_5 : decode cX7_hasHill 5 = .ok (.aload_n 0, 1) := dqn_42 (k := 12) qh_cX7_hasHill rfl rfl
theorem dX7_hasHill_6 : decode cX7_hasHill 6 = .ok (.getfield 31, 3) := dqn_180 (k := 9) qh_cX7_hasHill rfl rfl rfl
theorem dX7_hasHill_9 : decode cX7_hasHill 9 = .ok (.if_icmp .ge 7, 3) := dqn_162 (k := 6) (u := 7) qh_cX7_hasHill rfl rfl rfl (sg_p rfl rfl)
theorem dX7_hasHill_12 : decode cX7_hasHill 12 = .ok (.iconst 1, 1) := dqn_4 (k := 5) qh_cX7_hasHill rfl rfl
theorem dX7_hasHill_13 : decode cX7_hasHill 13 = .ok (.goto 4, 3) := dqn_167 (k := 2) (u := 4) qh_cX7_hasHill rfl rfl rfl (sg_p rfl rfl)
theorem dX7_hasHill_16 : decode cX7_hasHill 16 = .ok (.iconst 0, 1) := dqn_3 (k := 1) qh_cX7_hasHill rfl rfl
theorem dX7_hasHill_17 : decode cX7_hasHill 17 = .ok (.ireturn, 1) := dqn_172 (k := 0) qh_cX7_hasHill rfl rfl
theorem dX7_hasPlan_0 : decode cX7_hasPlan 0 = .ok (.iload_n 1, 1) := dqn_27 (k := 17) qh_cX7_hasPlan rfl rfl
theorem dX7_hasPlan_1 : decode cX7_hasPlan 1 = .ok (.ifCond .lt 15, 3) := dqn_155 (k := 14) (u := 15) qh_cX7_hasPlan rfl rfl rfl (sg_p rfl rfl)
theorem dX7_hasPlan_4 : decode cX7_hasPlan 4 = .ok (.iload_n 1, 1) := dqn_27 (k := 13) qh_cX7_hasPlan rfl rfl
theorem dX7_hasPlan_5 : decode cX7_hasPlan 5 = .ok (.aload_n 0, 1) := dqn_42 (k := 12) qh_cX7_hasPlan rfl rfl
theorem dX7_hasPlan_6 : decode cX7_hasPlan 6 = .ok (.getfield 40, 3) := dqn_180 (k := 9) qh_cX7_hasPlan rfl rfl rfl
theorem dX7_hasPlan_9 : decode cX7_hasPlan 9 = .ok (.if_icmp .ge 7, 3) := dqn_162 (k := 6) (u := 7) qh_cX7_hasPlan rfl rfl rfl (sg_p rfl rfl)
theorem dX7_hasPlan_12 : decode cX7_hasPlan 12 = .ok (.iconst 1, 1) := dqn_4 (k := 5) qh_cX7_hasPlan rfl rfl
theorem dX7_hasPlan_13 : decode cX7_hasPlan 13 = .ok (.goto 4, 3) := dqn_167 (k := 2) (u := 4) qh_cX7_hasPlan rfl rfl rfl (sg_p rfl rfl)
theorem dX7_hasPlan_16 : decode cX7_hasPlan 16 = .ok (.iconst 0, 1) := dqn_3 (k := 1) qh_cX7_hasPlan rfl rfl
theorem dX7_hasPlan_17 : decode cX7_hasPlan 17 = .ok (.ireturn, 1) := dqn_172 (k := 0) qh_cX7_hasPlan rfl rfl
theorem dX10_lays_0 : decode cX10_lays 0 = .ok (.aload_n 0, 1) := dqn_42 (k := 67) qh_cX10_lays rfl rfl
theorem dX10_lays_1 : decode cX10_lays 1 = .ok (.getfield 10, 3) := dqn_180 (k := 64) qh_cX10_lays rfl rfl rfl
theorem dX10_lays_4 : decode cX10_lays 4 = .ok (.iload_n 1, 1) := dqn_27 (k := 63) qh_cX10_lays rfl rfl
theorem dX10_lays_5 : decode cX10_lays 5 = .ok (.invokevirtual 103, 3) := dqn_182 (k := 60) qh_cX10_lays rfl rfl rfl
theorem dX10_lays_8 : decode cX10_lays 8 = .ok (.ifCond .eq 19, 3) := dqn_153 (k := 57) (u := 19) qh_cX10_lays rfl rfl rfl (sg_p rfl rfl)
theorem dX10_lays_11 : decode cX10_lays 11 = .ok (.iload_n 2, 1) := dqn_28 (k := 56) qh_cX10_lays rfl rfl
theorem dX10_lays_12 : decode cX10_lays 12 = .ok (.iconst (-1), 1) := dqn_2 (k := 55) qh_cX10_lays rfl rfl
theorem dX10_lays_13 : decode cX10_lays 13 = .ok (.if_icmp .eq 16, 3) := dqn_159 (k := 52) (u := 16) qh_cX10_lays rfl rfl rfl (sg_p rfl rfl)
theorem dX10_lays_16 : decode cX10_lays 16 = .ok (.aload_n 0, 1) := dqn_42 (k := 51) qh_cX10_lays rfl rfl
theorem dX10_lays_17 : decode cX10_lays 17 = .ok (.getfield 10, 3) := dqn_180 (k := 48) qh_cX10_lays rfl rfl rfl
theorem dX10_lays_20 : decode cX10_lays 20 = .ok (.iload_n 2, 1) := dqn_28 (k := 47) qh_cX10_lays rfl rfl
theorem dX10_lays_21 : decode cX10_lays 21 = .ok (.invokevirtual 127, 3) := dqn_182 (k := 44) qh_cX10_lays rfl rfl rfl
theorem dX10_lays_24 : decode cX10_lays 24 = .ok (.ifCond .ne 5, 3) := dqn_154 (k := 41) (u := 5) qh_cX10_lays rfl rfl rfl (sg_p rfl rfl)
theorem dX10_lays_27 : decode cX10_lays 27 = .ok (.iconst 0, 1) := dqn_3 (k := 40) qh_cX10_lays rfl rfl
theorem dX10_lays_28 : decode cX10_lays 28 = .ok (.ireturn, 1) := dqn_172 (k := 39) qh_cX10_lays rfl rfl
theorem dX10_lays_29 : decode cX10_lays 29 = .ok (.aload_n 0, 1) := dqn_42 (k := 38) qh_cX10_lays rfl rfl
theorem dX10_lays_30 : decode cX10_lays 30 = .ok (.getfield 34, 3) := dqn_180 (k := 35) qh_cX10_lays rfl rfl rfl
theorem dX10_lays_33 : decode cX10_lays 33 = .ok (.aload_n 0, 1) := dqn_42 (k := 34) qh_cX10_lays rfl rfl
theorem dX10_lays_34 : decode cX10_lays 34 = .ok (.getfield 10, 3) := dqn_180 (k := 31) qh_cX10_lays rfl rfl rfl
theorem dX10_lays_37 : decode cX10_lays 37 = .ok (.getfield 107, 3) := dqn_180 (k := 28) qh_cX10_lays rfl rfl rfl
theorem dX10_lays_40 : decode cX10_lays 40 = .ok (.iload_n 1, 1) := dqn_27 (k := 27) qh_cX10_lays rfl rfl
theorem dX10_lays_41 : decode cX10_lays 41 = .ok (.aaload, 1) := dqn_50 (k := 26) qh_cX10_lays rfl rfl
theorem dX10_lays_42 : decode cX10_lays 42 = .ok (.iload_n 2, 1) := dqn_28 (k := 25) qh_cX10_lays rfl rfl
theorem dX10_lays_43 : decode cX10_lays 43 = .ok (.iconst (-1), 1) := dqn_2 (k := 24) qh_cX10_lays rfl rfl
theorem dX10_lays_44 : decode cX10_lays 44 = .ok (.if_icmp .ne 10, 3) := dqn_160 (k := 21) (u := 10) qh_cX10_lays rfl rfl rfl (sg_p rfl rfl)
theorem dX10_lays_47 : decode cX10_lays 47 = .ok (.aload_n 0, 1) := dqn_42 (k := 20) qh_cX10_lays rfl rfl
theorem dX10_lays_48 : decode cX10_lays 48 = .ok (.getfield 41, 3) := dqn_180 (k := 17) qh_cX10_lays rfl rfl rfl
theorem dX10_lays_51 : decode cX10_lays 51 = .ok (.goto 12, 3) := dqn_167 (k := 14) (u := 12) qh_cX10_lays rfl rfl rfl (sg_p rfl rfl)
theorem dX10_lays_54 : decode cX10_lays 54 = .ok (.aload_n 0, 1) := dqn_42 (k := 13) qh_cX10_lays rfl rfl
theorem dX10_lays_55 : decode cX10_lays 55 = .ok (.getfield 10, 3) := dqn_180 (k := 10) qh_cX10_lays rfl rfl rfl
theorem dX10_lays_58 : decode cX10_lays 58 = .ok (.getfield 130, 3) := dqn_180 (k := 7) qh_cX10_lays rfl rfl rfl
theorem dX10_lays_61 : decode cX10_lays 61 = .ok (.iload_n 2, 1) := dqn_28 (k := 6) qh_cX10_lays rfl rfl
theorem dX10_lays_62 : decode cX10_lays 62 = .ok (.aaload, 1) := dqn_50 (k := 5) qh_cX10_lays rfl rfl
theorem dX10_lays_63 : decode cX10_lays 63 = .ok (.invokevirtual 337, 3) := dqn_182 (k := 2) qh_cX10_lays rfl rfl rfl
theorem dX10_lays_66 : decode cX10_lays 66 = .ok (.iconst 1, 1) := dqn_4 (k := 1) qh_cX10_lays rfl rfl
theorem dX10_lays_67 : decode cX10_lays 67 = .ok (.ireturn, 1) := dqn_172 (k := 0) qh_cX10_lays rfl rfl
theorem dX2_isStorm_0 : decode cX2_isStorm 0 = .ok (.iload_n 0, 1) := dqn_26 (k := 25) qh_cX2_isStorm rfl rfl
theorem dX2_isStorm_1 : decode cX2_isStorm 1 = .ok (.ifCond .lt 23, 3) := dqn_155 (k := 22) (u := 23) qh_cX2_isStorm rfl rfl rfl (sg_p rfl rfl)
theorem dX2_isStorm_4 : decode cX2_isStorm 4 = .ok (.iload_n 0, 1) := dqn_26 (k := 21) qh_cX2_isStorm rfl rfl
theorem dX2_isStorm_5 : decode cX2_isStorm 5 = .ok (.iconst 4, 1) := dqn_7 (k := 20) qh_cX2_isStorm rfl rfl
theorem dX2_isStorm_6 : decode cX2_isStorm 6 = .ok (.if_icmp .ge 18, 3) := dqn_162 (k := 17) (u := 18) qh_cX2_isStorm rfl rfl rfl (sg_p rfl rfl)
theorem dX2_isStorm_9 : decode cX2_isStorm 9 = .ok (.iload_n 1, 1) := dqn_27 (k := 16) qh_cX2_isStorm rfl rfl
theorem dX2_isStorm_10 : decode cX2_isStorm 10 = .ok (.ifCond .lt 14, 3) := dqn_155 (k := 13) (u := 14) qh_cX2_isStorm rfl rfl rfl (sg_p rfl rfl)
theorem dX2_isStorm_13 : decode cX2_isStorm 13 = .ok (.iload_n 1, 1) := dqn_27 (k := 12) qh_cX2_isStorm rfl rfl
theorem dX2_isStorm_14 : decode cX2_isStorm 14 = .ok (.sipush 512, 3) := dqn_17 (k := 9) (u := 512) qh_cX2_isStorm rfl rfl rfl (sg_p rfl rfl)
theorem dX2_isStorm_17 : decode cX2_isStorm 17 = .ok (.if_icmp .ge 7, 3) := dqn_162 (k := 6) (u := 7) qh_cX2_isStorm rfl rfl rfl (sg_p rfl rfl)
theorem dX2_isStorm_20 : decode cX2_isStorm 20 = .ok (.iconst 1, 1) := dqn_4 (k := 5) qh_cX2_isStorm rfl rfl
theorem dX2_isStorm_21 : decode cX2_isStorm 21 = .ok (.goto 4, 3) := dqn_167 (k := 2) (u := 4) qh_cX2_isStorm rfl rfl rfl (sg_p rfl rfl)
theorem dX2_isStorm_24 : decode cX2_isStorm 24 = .ok (.iconst 0, 1) := dqn_3 (k := 1) qh_cX2_isStorm rfl rfl
theorem dX2_isStorm_25 : decode cX2_isStorm 25 = .ok (.ireturn, 1) := dqn_172 (k := 0) qh_cX2_isStorm rfl rfl
theorem dX2_weigh_0 : decode cX2_weigh 0 = .ok (.aload_n 0, 1) := dqn_42 (k := 120) qh_cX2_weigh rfl rfl
theorem dX2_weigh_1 : decode cX2_weigh 1 = .ok (.getfield 32, 3) := dqn_180 (k := 117) qh_cX2_weigh rfl rfl rfl
theorem dX2_weigh_4 : decode cX2_weigh 4 = .ok (.iconst 0, 1) := dqn_3 (k := 116) qh_cX2_weigh rfl rfl
theorem dX2_weigh_5 : decode cX2_weigh 5 = .ok (.lconst 1, 1) := dqn_10 (k := 115) qh_cX2_weigh rfl rfl
theorem dX2_weigh_6 : decode cX2_weigh 6 = .ok (.lastore, 1) := dqn_80 (k := 114) qh_cX2_weigh rfl rfl
theorem dX2_weigh_7 : decode cX2_weigh 7 = .ok (.iconst 0, 1) := dqn_3 (k := 113) qh_cX2_weigh rfl rfl
theorem dX2_weigh_8 : decode cX2_weigh 8 = .ok (.istore_n 3, 1) := dqn_62 (k := 112) qh_cX2_weigh rfl rfl
theorem dX2_weigh_9 : decode cX2_weigh 9 = .ok (.iload_n 3, 1) := dqn_29 (k := 111) qh_cX2_weigh rfl rfl
theorem dX2_weigh_10 : decode cX2_weigh 10 = .ok (.aload_n 0, 1) := dqn_42 (k := 110) qh_cX2_weigh rfl rfl
theorem dX2_weigh_11 : decode cX2_weigh 11 = .ok (.getfield 21, 3) := dqn_180 (k := 107) qh_cX2_weigh rfl rfl rfl
theorem dX2_weigh_14 : decode cX2_weigh 14 = .ok (.getfield 68, 3) := dqn_180 (k := 104) qh_cX2_weigh rfl rfl rfl
theorem dX2_weigh_17 : decode cX2_weigh 17 = .ok (.if_icmp .ge 103, 3) := dqn_162 (k := 101) (u := 103) qh_cX2_weigh rfl rfl rfl (sg_p rfl rfl)
theorem dX2_weigh_20 : decode cX2_weigh 20 = .ok (.iload_n 3, 1) := dqn_29 (k := 100) qh_cX2_weigh rfl rfl
theorem dX2_weigh_21 : decode cX2_weigh 21 = .ok (.bipush 9, 2) := dqn_16 (k := 98) (u := 9) qh_cX2_weigh rfl rfl rfl (by decide)
theorem dX2_weigh_23 : decode cX2_weigh 23 = .ok (.if_icmp .ge 97, 3) := dqn_162 (k := 95) (u := 97) qh_cX2_weigh rfl rfl rfl (sg_p rfl rfl)
theorem dX2_weigh_26 : decode cX2_weigh 26 = .ok (.iload_n 1, 1) := dqn_27 (k := 94) qh_cX2_weigh rfl rfl
theorem dX2_weigh_27 : decode cX2_weigh 27 = .ok (.iload_n 3, 1) := dqn_29 (k := 93) qh_cX2_weigh rfl rfl
theorem dX2_weigh_28 : decode cX2_weigh 28 = .ok (.invokestatic 71, 3) := dqn_184 (k := 90) qh_cX2_weigh rfl rfl rfl
theorem dX2_weigh_31 : decode cX2_weigh 31 = .ok (.ifCond .eq 7, 3) := dqn_153 (k := 87) (u := 7) qh_cX2_weigh rfl rfl rfl (sg_p rfl rfl)
theorem dX2_weigh_34 : decode cX2_weigh 34 = .ok (.iconst 0, 1) := dqn_3 (k := 86) qh_cX2_weigh rfl rfl
theorem dX2_weigh_35 : decode cX2_weigh 35 = .ok (.goto 18, 3) := dqn_167 (k := 83) (u := 18) qh_cX2_weigh rfl rfl rfl (sg_p rfl rfl)
theorem dX2_weigh_38 : decode cX2_weigh 38 = .ok (.aload_n 0, 1) := dqn_42 (k := 82) qh_cX2_weigh rfl rfl
theorem dX2_weigh_39 : decode cX2_weigh 39 = .ok (.getfield 21, 3) := dqn_180 (k := 79) qh_cX2_weigh rfl rfl rfl
theorem dX2_weigh_42 : decode cX2_weigh 42 = .ok (.iload_n 3, 1) := dqn_29 (k := 78) qh_cX2_weigh rfl rfl
theorem dX2_weigh_43 : decode cX2_weigh 43 = .ok (.iconst 4, 1) := dqn_7 (k := 77) qh_cX2_weigh rfl rfl
theorem dX2_weigh_44 : decode cX2_weigh 44 = .ok (.invokevirtual 75, 3) := dqn_182 (k := 74) qh_cX2_weigh rfl rfl rfl
theorem dX2_weigh_47 : decode cX2_weigh 47 = .ok (.iload_n 2, 1) := dqn_28 (k := 73) qh_cX2_weigh rfl rfl
theorem dX2_weigh_48 : decode cX2_weigh 48 = .ok (.iload_n 3, 1) := dqn_29 (k := 72) qh_cX2_weigh rfl rfl
theorem dX2_weigh_49 : decode cX2_weigh 49 = .ok (.ishr, 1) := dqn_122 (k := 71) qh_cX2_weigh rfl rfl
theorem dX2_weigh_50 : decode cX2_weigh 50 = .ok (.iconst 1, 1) := dqn_4 (k := 70) qh_cX2_weigh rfl rfl
theorem dX2_weigh_51 : decode cX2_weigh 51 = .ok (.iand, 1) := dqn_126 (k := 69) qh_cX2_weigh rfl rfl
theorem dX2_weigh_52 : decode cX2_weigh 52 = .ok (.iadd, 1) := dqn_96 (k := 68) qh_cX2_weigh rfl rfl
theorem dX2_weigh_53 : decode cX2_weigh 53 = .ok (.istore 4, 2) := dqn_54 (k := 66) qh_cX2_weigh rfl rfl rfl
theorem dX2_weigh_55 : decode cX2_weigh 55 = .ok (.iload_n 3, 1) := dqn_29 (k := 65) qh_cX2_weigh rfl rfl
theorem dX2_weigh_56 : decode cX2_weigh 56 = .ok (.invokestatic 79, 3) := dqn_184 (k := 62) qh_cX2_weigh rfl rfl rfl
theorem dX2_weigh_59 : decode cX2_weigh 59 = .ok (.istore 5, 2) := dqn_54 (k := 60) qh_cX2_weigh rfl rfl rfl
theorem dX2_weigh_61 : decode cX2_weigh 61 = .ok (.iconst 0, 1) := dqn_3 (k := 59) qh_cX2_weigh rfl rfl
theorem dX2_weigh_62 : decode cX2_weigh 62 = .ok (.istore 6, 2) := dqn_54 (k := 57) qh_cX2_weigh rfl rfl rfl
theorem dX2_weigh_64 : decode cX2_weigh 64 = .ok (.iload 6, 2) := dqn_21 (k := 55) qh_cX2_weigh rfl rfl rfl
theorem dX2_weigh_66 : decode cX2_weigh 66 = .ok (.iload 5, 2) := dqn_21 (k := 53) qh_cX2_weigh rfl rfl rfl
theorem dX2_weigh_68 : decode cX2_weigh 68 = .ok (.if_icmp .ge 46, 3) := dqn_162 (k := 50) (u := 46) qh_cX2_weigh rfl rfl rfl (sg_p rfl rfl)
theorem dX2_weigh_71 : decode cX2_weigh 71 = .ok (.aload_n 0, 1) := dqn_42 (k := 49) qh_cX2_weigh rfl rfl
theorem dX2_weigh_72 : decode cX2_weigh 72 = .ok (.getfield 32, 3) := dqn_180 (k := 46) qh_cX2_weigh rfl rfl rfl
theorem dX2_weigh_75 : decode cX2_weigh 75 = .ok (.iload 6, 2) := dqn_21 (k := 44) qh_cX2_weigh rfl rfl rfl
theorem dX2_weigh_77 : decode cX2_weigh 77 = .ok (.iload 5, 2) := dqn_21 (k := 42) qh_cX2_weigh rfl rfl rfl
theorem dX2_weigh_79 : decode cX2_weigh 79 = .ok (.ior, 1) := dqn_128 (k := 41) qh_cX2_weigh rfl rfl
theorem dX2_weigh_80 : decode cX2_weigh 80 = .ok (.aload_n 0, 1) := dqn_42 (k := 40) qh_cX2_weigh rfl rfl
theorem dX2_weigh_81 : decode cX2_weigh 81 = .ok (.getfield 32, 3) := dqn_180 (k := 37) qh_cX2_weigh rfl rfl rfl
theorem dX2_weigh_84 : decode cX2_weigh 84 = .ok (.iload 6, 2) := dqn_21 (k := 35) qh_cX2_weigh rfl rfl rfl
theorem dX2_weigh_86 : decode cX2_weigh 86 = .ok (.laload, 1) := dqn_47 (k := 34) qh_cX2_weigh rfl rfl
theorem dX2_weigh_87 : decode cX2_weigh 87 = .ok (.iload 4, 2) := dqn_21 (k := 32) qh_cX2_weigh rfl rfl rfl
theorem dX2_weigh_89 : decode cX2_weigh 89 = .ok (.i2l, 1) := dqn_133 (k := 31) qh_cX2_weigh rfl rfl
theorem dX2_weigh_90 : decode cX2_weigh 90 = .ok (.lmul, 1) := dqn_105 (k := 30) qh_cX2_weigh rfl rfl
theorem dX2_weigh_91 : decode cX2_weigh 91 = .ok (.lastore, 1) := dqn_80 (k := 29) qh_cX2_weigh rfl rfl
theorem dX2_weigh_92 : decode cX2_weigh 92 = .ok (.aload_n 0, 1) := dqn_42 (k := 28) qh_cX2_weigh rfl rfl
theorem dX2_weigh_93 : decode cX2_weigh 93 = .ok (.getfield 32, 3) := dqn_180 (k := 25) qh_cX2_weigh rfl rfl rfl
theorem dX2_weigh_96 : decode cX2_weigh 96 = .ok (.iload 6, 2) := dqn_21 (k := 23) qh_cX2_weigh rfl rfl rfl
theorem dX2_weigh_98 : decode cX2_weigh 98 = .ok (.dup2, 1) := dqn_92 (k := 22) qh_cX2_weigh rfl rfl
theorem dX2_weigh_99 : decode cX2_weigh 99 = .ok (.laload, 1) := dqn_47 (k := 21) qh_cX2_weigh rfl rfl
theorem dX2_weigh_100 : decode cX2_weigh 100 = .ok (.bipush 10, 2) := dqn_16 (k := 19) (u := 10) qh_cX2_weigh rfl rfl rfl (by decide)
theorem dX2_weigh_102 : decode cX2_weigh 102 = .ok (.iload 4, 2) := dqn_21 (k := 17) qh_cX2_weigh rfl rfl rfl
theorem dX2_weigh_104 : decode cX2_weigh 104 = .ok (.isub, 1) := dqn_100 (k := 16) qh_cX2_weigh rfl rfl
theorem dX2_weigh_105 : decode cX2_weigh 105 = .ok (.i2l, 1) := dqn_133 (k := 15) qh_cX2_weigh rfl rfl
theorem dX2_weigh_106 : decode cX2_weigh 106 = .ok (.lmul, 1) := dqn_105 (k := 14) qh_cX2_weigh rfl rfl
theorem dX2_weigh_107 : decode cX2_weigh 107 = .ok (.lastore, 1) := dqn_80 (k := 13) qh_cX2_weigh rfl rfl
theorem dX2_weigh_108 : decode cX2_weigh 108 = .ok (.iinc 6 1, 3) := dqn_132 (k := 10) (u := 1) qh_cX2_weigh rfl rfl rfl rfl (by decide)
theorem dX2_weigh_111 : decode cX2_weigh 111 = .ok (.goto (-47), 3) := dqn_167 (k := 7) (u := 65489) qh_cX2_weigh rfl rfl rfl (sg_n (k := 47) rfl rfl rfl)
theorem dX2_weigh_114 : decode cX2_weigh 114 = .ok (.iinc 3 1, 3) := dqn_132 (k := 4) (u := 1) qh_cX2_weigh rfl rfl rfl rfl (by decide)
theorem dX2_weigh_117 : decode cX2_weigh 117 = .ok (.goto (-108), 3) := dqn_167 (k := 1) (u := 65428) qh_cX2_weigh rfl rfl rfl (sg_n (k := 108) rfl rfl rfl)
theorem dX2_weigh_120 : decode cX2_weigh 120 = .ok (.return_, 1) := dqn_177 (k := 0) qh_cX2_weigh rfl rfl
theorem dX2_look_0 : decode cX2_look 0 = .ok (.aload_n 0, 1) := dqn_42 (k := 168) qh_cX2_look rfl rfl
theorem dX2_look_1 : decode cX2_look 1 = .ok (.getfield 21, 3) := dqn_180 (k := 165) qh_cX2_look rfl rfl rfl
theorem dX2_look_4 : decode cX2_look 4 = .ok (.aload_n 1, 1) := dqn_43 (k := 164) qh_cX2_look rfl rfl
theorem dX2_look_5 : decode cX2_look 5 = .ok (.invokevirtual 39, 3) := dqn_182 (k := 161) qh_cX2_look rfl rfl rfl
theorem dX2_look_8 : decode cX2_look 8 = .ok (.iconst 0, 1) := dqn_3 (k := 160) qh_cX2_look rfl rfl
theorem dX2_look_9 : decode cX2_look 9 = .ok (.istore 4, 2) := dqn_54 (k := 158) qh_cX2_look rfl rfl rfl
theorem dX2_look_11 : decode cX2_look 11 = .ok (.iload 4, 2) := dqn_21 (k := 156) qh_cX2_look rfl rfl rfl
theorem dX2_look_13 : decode cX2_look 13 = .ok (.aload_n 0, 1) := dqn_42 (k := 155) qh_cX2_look rfl rfl
theorem dX2_look_14 : decode cX2_look 14 = .ok (.getfield 21, 3) := dqn_180 (k := 152) qh_cX2_look rfl rfl rfl
theorem dX2_look_17 : decode cX2_look 17 = .ok (.invokevirtual 43, 3) := dqn_182 (k := 149) qh_cX2_look rfl rfl rfl
theorem dX2_look_20 : decode cX2_look 20 = .ok (.if_icmp .gt 33, 3) := dqn_163 (k := 146) (u := 33) qh_cX2_look rfl rfl rfl (sg_p rfl rfl)
theorem dX2_look_23 : decode cX2_look 23 = .ok (.iload 4, 2) := dqn_21 (k := 144) qh_cX2_look rfl rfl rfl
theorem dX2_look_25 : decode cX2_look 25 = .ok (.sipush 512, 3) := dqn_17 (k := 141) (u := 512) qh_cX2_look rfl rfl rfl (sg_p rfl rfl)
theorem dX2_look_28 : decode cX2_look 28 = .ok (.if_icmp .ge 25, 3) := dqn_162 (k := 138) (u := 25) qh_cX2_look rfl rfl rfl (sg_p rfl rfl)
theorem dX2_look_31 : decode cX2_look 31 = .ok (.aload_n 0, 1) := dqn_42 (k := 137) qh_cX2_look rfl rfl
theorem dX2_look_32 : decode cX2_look 32 = .ok (.getfield 29, 3) := dqn_180 (k := 134) qh_cX2_look rfl rfl rfl
theorem dX2_look_35 : decode cX2_look 35 = .ok (.iload 4, 2) := dqn_21 (k := 132) qh_cX2_look rfl rfl rfl
theorem dX2_look_37 : decode cX2_look 37 = .ok (.aload_n 0, 1) := dqn_42 (k := 131) qh_cX2_look rfl rfl
theorem dX2_look_38 : decode cX2_look 38 = .ok (.getfield 21, 3) := dqn_180 (k := 128) qh_cX2_look rfl rfl rfl
theorem dX2_look_41 : decode cX2_look 41 = .ok (.iload 4, 2) := dqn_21 (k := 126) qh_cX2_look rfl rfl rfl
theorem dX2_look_43 : decode cX2_look 43 = .ok (.invokevirtual 47, 3) := dqn_182 (k := 123) qh_cX2_look rfl rfl rfl
theorem dX2_look_46 : decode cX2_look 46 = .ok (.iastore, 1) := dqn_79 (k := 122) qh_cX2_look rfl rfl
theorem dX2_look_47 : decode cX2_look 47 = .ok (.iinc 4 1, 3) := dqn_132 (k := 119) (u := 1) qh_cX2_look rfl rfl rfl rfl (by decide)
theorem dX2_look_50 : decode cX2_look 50 = .ok (.goto (-39), 3) := dqn_167 (k := 116) (u := 65497) qh_cX2_look rfl rfl rfl (sg_n (k := 39) rfl rfl rfl)
theorem dX2_look_53 : decode cX2_look 53 = .ok (.iconst 0, 1) := dqn_3 (k := 115) qh_cX2_look rfl rfl
theorem dX2_look_54 : decode cX2_look 54 = .ok (.istore 4, 2) := dqn_54 (k := 113) qh_cX2_look rfl rfl rfl
theorem dX2_look_56 : decode cX2_look 56 = .ok (.iload 4, 2) := dqn_21 (k := 111) qh_cX2_look rfl rfl rfl
theorem dX2_look_58 : decode cX2_look 58 = .ok (.aload_n 0, 1) := dqn_42 (k := 110) qh_cX2_look rfl rfl
theorem dX2_look_59 : decode cX2_look 59 = .ok (.getfield 21, 3) := dqn_180 (k := 107) qh_cX2_look rfl rfl rfl
theorem dX2_look_62 : decode cX2_look 62 = .ok (.getfield 51, 3) := dqn_180 (k := 104) qh_cX2_look rfl rfl rfl
theorem dX2_look_65 : decode cX2_look 65 = .ok (.if_icmp .ge 97, 3) := dqn_162 (k := 101) (u := 97) qh_cX2_look rfl rfl rfl (sg_p rfl rfl)
theorem dX2_look_68 : decode cX2_look 68 = .ok (.iload 4, 2) := dqn_21 (k := 99) qh_cX2_look rfl rfl rfl
theorem dX2_look_70 : decode cX2_look 70 = .ok (.iconst 4, 1) := dqn_7 (k := 98) qh_cX2_look rfl rfl
theorem dX2_look_71 : decode cX2_look 71 = .ok (.if_icmp .ge 91, 3) := dqn_162 (k := 95) (u := 91) qh_cX2_look rfl rfl rfl (sg_p rfl rfl)
theorem dX2_look_74 : decode cX2_look 74 = .ok (.iconst 0, 1) := dqn_3 (k := 94) qh_cX2_look rfl rfl
theorem dX2_look_75 : decode cX2_look 75 = .ok (.istore 5, 2) := dqn_54 (k := 92) qh_cX2_look rfl rfl rfl
theorem dX2_look_77 : decode cX2_look 77 = .ok (.iload 5, 2) := dqn_21 (k := 90) qh_cX2_look rfl rfl rfl
theorem dX2_look_79 : decode cX2_look 79 = .ok (.aload_n 0, 1) := dqn_42 (k := 89) qh_cX2_look rfl rfl
theorem dX2_look_80 : decode cX2_look 80 = .ok (.getfield 21, 3) := dqn_180 (k := 86) qh_cX2_look rfl rfl rfl
theorem dX2_look_83 : decode cX2_look 83 = .ok (.invokevirtual 43, 3) := dqn_182 (k := 83) qh_cX2_look rfl rfl rfl
theorem dX2_look_86 : decode cX2_look 86 = .ok (.if_icmp .gt 70, 3) := dqn_163 (k := 80) (u := 70) qh_cX2_look rfl rfl rfl (sg_p rfl rfl)
theorem dX2_look_89 : decode cX2_look 89 = .ok (.iload 5, 2) := dqn_21 (k := 78) qh_cX2_look rfl rfl rfl
theorem dX2_look_91 : decode cX2_look 91 = .ok (.sipush 512, 3) := dqn_17 (k := 75) (u := 512) qh_cX2_look rfl rfl rfl (sg_p rfl rfl)
theorem dX2_look_94 : decode cX2_look 94 = .ok (.if_icmp .ge 62, 3) := dqn_162 (k := 72) (u := 62) qh_cX2_look rfl rfl rfl (sg_p rfl rfl)
theorem dX2_look_97 : decode cX2_look 97 = .ok (.iload 5, 2) := dqn_21 (k := 70) qh_cX2_look rfl rfl rfl
theorem dX2_look_99 : decode cX2_look 99 = .ok (.iload_n 3, 1) := dqn_29 (k := 69) qh_cX2_look rfl rfl
theorem dX2_look_100 : decode cX2_look 100 = .ok (.iconst (-1), 1) := dqn_2 (k := 68) qh_cX2_look rfl rfl
theorem dX2_look_101 : decode cX2_look 101 = .ok (.ixor, 1) := dqn_130 (k := 67) qh_cX2_look rfl rfl
theorem dX2_look_102 : decode cX2_look 102 = .ok (.iand, 1) := dqn_126 (k := 66) qh_cX2_look rfl rfl
theorem dX2_look_103 : decode cX2_look 103 = .ok (.ifCond .ne 47, 3) := dqn_154 (k := 63) (u := 47) qh_cX2_look rfl rfl rfl (sg_p rfl rfl)
theorem dX2_look_106 : decode cX2_look 106 = .ok (.aload_n 0, 1) := dqn_42 (k := 62) qh_cX2_look rfl rfl
theorem dX2_look_107 : decode cX2_look 107 = .ok (.getfield 12, 3) := dqn_180 (k := 59) qh_cX2_look rfl rfl rfl
theorem dX2_look_110 : decode cX2_look 110 = .ok (.aload_n 0, 1) := dqn_42 (k := 58) qh_cX2_look rfl rfl
theorem dX2_look_111 : decode cX2_look 111 = .ok (.getfield 21, 3) := dqn_180 (k := 55) qh_cX2_look rfl rfl rfl
theorem dX2_look_114 : decode cX2_look 114 = .ok (.aload_n 0, 1) := dqn_42 (k := 54) qh_cX2_look rfl rfl
theorem dX2_look_115 : decode cX2_look 115 = .ok (.getfield 21, 3) := dqn_180 (k := 51) qh_cX2_look rfl rfl rfl
theorem dX2_look_118 : decode cX2_look 118 = .ok (.iload 4, 2) := dqn_21 (k := 49) qh_cX2_look rfl rfl rfl
theorem dX2_look_120 : decode cX2_look 120 = .ok (.invokevirtual 55, 3) := dqn_182 (k := 46) qh_cX2_look rfl rfl rfl
theorem dX2_look_123 : decode cX2_look 123 = .ok (.iload 5, 2) := dqn_21 (k := 44) qh_cX2_look rfl rfl rfl
theorem dX2_look_125 : decode cX2_look 125 = .ok (.iload_n 2, 1) := dqn_28 (k := 43) qh_cX2_look rfl rfl
theorem dX2_look_126 : decode cX2_look 126 = .ok (.invokevirtual 58, 3) := dqn_182 (k := 40) qh_cX2_look rfl rfl rfl
theorem dX2_look_129 : decode cX2_look 129 = .ok (.aload_n 0, 1) := dqn_42 (k := 39) qh_cX2_look rfl rfl
theorem dX2_look_130 : decode cX2_look 130 = .ok (.getfield 25, 3) := dqn_180 (k := 36) qh_cX2_look rfl rfl rfl
theorem dX2_look_133 : decode cX2_look 133 = .ok (.iload 4, 2) := dqn_21 (k := 34) qh_cX2_look rfl rfl rfl
theorem dX2_look_135 : decode cX2_look 135 = .ok (.sipush 512, 3) := dqn_17 (k := 31) (u := 512) qh_cX2_look rfl rfl rfl (sg_p rfl rfl)
theorem dX2_look_138 : decode cX2_look 138 = .ok (.imul, 1) := dqn_104 (k := 30) qh_cX2_look rfl rfl
theorem dX2_look_139 : decode cX2_look 139 = .ok (.iload 5, 2) := dqn_21 (k := 28) qh_cX2_look rfl rfl rfl
theorem dX2_look_141 : decode cX2_look 141 = .ok (.iadd, 1) := dqn_96 (k := 27) qh_cX2_look rfl rfl
theorem dX2_look_142 : decode cX2_look 142 = .ok (.aload_n 0, 1) := dqn_42 (k := 26) qh_cX2_look rfl rfl
theorem dX2_look_143 : decode cX2_look 143 = .ok (.getfield 12, 3) := dqn_180 (k := 23) qh_cX2_look rfl rfl rfl
theorem dX2_look_146 : decode cX2_look 146 = .ok (.getfield 62, 3) := dqn_180 (k := 20) qh_cX2_look rfl rfl rfl
theorem dX2_look_149 : decode cX2_look 149 = .ok (.iastore, 1) := dqn_79 (k := 19) qh_cX2_look rfl rfl
theorem dX2_look_150 : decode cX2_look 150 = .ok (.iinc 5 1, 3) := dqn_132 (k := 16) (u := 1) qh_cX2_look rfl rfl rfl rfl (by decide)
theorem dX2_look_153 : decode cX2_look 153 = .ok (.goto (-76), 3) := dqn_167 (k := 13) (u := 65460) qh_cX2_look rfl rfl rfl (sg_n (k := 76) rfl rfl rfl)
theorem dX2_look_156 : decode cX2_look 156 = .ok (.iinc 4 1, 3) := dqn_132 (k := 10) (u := 1) qh_cX2_look rfl rfl rfl rfl (by decide)
theorem dX2_look_159 : decode cX2_look 159 = .ok (.goto (-103), 3) := dqn_167 (k := 7) (u := 65433) qh_cX2_look rfl rfl rfl (sg_n (k := 103) rfl rfl rfl)
theorem dX2_look_162 : decode cX2_look 162 = .ok (.aload_n 0, 1) := dqn_42 (k := 6) qh_cX2_look rfl rfl
theorem dX2_look_163 : decode cX2_look 163 = .ok (.iconst 0, 1) := dqn_3 (k := 5) qh_cX2_look rfl rfl
theorem dX2_look_164 : decode cX2_look 164 = .ok (.iconst 0, 1) := dqn_3 (k := 4) qh_cX2_look rfl rfl
theorem dX2_look_165 : decode cX2_look 165 = .ok (.invokevirtual 64, 3) := dqn_182 (k := 1) qh_cX2_look rfl rfl rfl
theorem dX2_look_168 : decode cX2_look 168 = .ok (.return_, 1) := dqn_177 (k := 0) qh_cX2_look rfl rfl
theorem dX2_parts_0 : decode cX2_parts 0 = .ok (.iload_n 1, 1) := dqn_27 (k := 28) qh_cX2_parts rfl rfl
theorem dX2_parts_1 : decode cX2_parts 1 = .ok (.iload_n 2, 1) := dqn_28 (k := 27) qh_cX2_parts rfl rfl
theorem dX2_parts_2 : decode cX2_parts 2 = .ok (.invokestatic 82, 3) := dqn_184 (k := 24) qh_cX2_parts rfl rfl rfl
theorem dX2_parts_5 : decode cX2_parts 5 = .ok (.ifCond .eq 22, 3) := dqn_153 (k := 21) (u := 22) qh_cX2_parts rfl rfl rfl (sg_p rfl rfl)
theorem dX2_parts_8 : decode cX2_parts 8 = .ok (.aload_n 0, 1) := dqn_42 (k := 20) qh_cX2_parts rfl rfl
theorem dX2_parts_9 : decode cX2_parts 9 = .ok (.getfield 32, 3) := dqn_180 (k := 17) qh_cX2_parts rfl rfl rfl
theorem dX2_parts_12 : decode cX2_parts 12 = .ok (.iload_n 2, 1) := dqn_28 (k := 16) qh_cX2_parts rfl rfl
theorem dX2_parts_13 : decode cX2_parts 13 = .ok (.laload, 1) := dqn_47 (k := 15) qh_cX2_parts rfl rfl
theorem dX2_parts_14 : decode cX2_parts 14 = .ok (.aload_n 0, 1) := dqn_42 (k := 14) qh_cX2_parts rfl rfl
theorem dX2_parts_15 : decode cX2_parts 15 = .ok (.getfield 21, 3) := dqn_180 (k := 11) qh_cX2_parts rfl rfl rfl
theorem dX2_parts_18 : decode cX2_parts 18 = .ok (.iload_n 1, 1) := dqn_27 (k := 10) qh_cX2_parts rfl rfl
theorem dX2_parts_19 : decode cX2_parts 19 = .ok (.invokevirtual 85, 3) := dqn_182 (k := 7) qh_cX2_parts rfl rfl rfl
theorem dX2_parts_22 : decode cX2_parts 22 = .ok (.i2l, 1) := dqn_133 (k := 6) qh_cX2_parts rfl rfl
theorem dX2_parts_23 : decode cX2_parts 23 = .ok (.lmul, 1) := dqn_105 (k := 5) qh_cX2_parts rfl rfl
theorem dX2_parts_24 : decode cX2_parts 24 = .ok (.goto 4, 3) := dqn_167 (k := 2) (u := 4) qh_cX2_parts rfl rfl rfl (sg_p rfl rfl)
theorem dX2_parts_27 : decode cX2_parts 27 = .ok (.lconst 0, 1) := dqn_9 (k := 1) qh_cX2_parts rfl rfl
theorem dX2_parts_28 : decode cX2_parts 28 = .ok (.lreturn, 1) := dqn_173 (k := 0) qh_cX2_parts rfl rfl
theorem dX2_wentBy_0 : decode cX2_wentBy 0 = .ok (.iload_n 1, 1) := dqn_27 (k := 24) qh_cX2_wentBy rfl rfl
theorem dX2_wentBy_1 : decode cX2_wentBy 1 = .ok (.iload_n 2, 1) := dqn_28 (k := 23) qh_cX2_wentBy rfl rfl
theorem dX2_wentBy_2 : decode cX2_wentBy 2 = .ok (.invokestatic 82, 3) := dqn_184 (k := 20) qh_cX2_wentBy rfl rfl rfl
theorem dX2_wentBy_5 : decode cX2_wentBy 5 = .ok (.ifCond .eq 18, 3) := dqn_153 (k := 17) (u := 18) qh_cX2_wentBy rfl rfl rfl (sg_p rfl rfl)
theorem dX2_wentBy_8 : decode cX2_wentBy 8 = .ok (.aload_n 0, 1) := dqn_42 (k := 16) qh_cX2_wentBy rfl rfl
theorem dX2_wentBy_9 : decode cX2_wentBy 9 = .ok (.getfield 25, 3) := dqn_180 (k := 13) qh_cX2_wentBy rfl rfl rfl
theorem dX2_wentBy_12 : decode cX2_wentBy 12 = .ok (.iload_n 1, 1) := dqn_27 (k := 12) qh_cX2_wentBy rfl rfl
theorem dX2_wentBy_13 : decode cX2_wentBy 13 = .ok (.sipush 512, 3) := dqn_17 (k := 9) (u := 512) qh_cX2_wentBy rfl rfl rfl (sg_p rfl rfl)
theorem dX2_wentBy_16 : decode cX2_wentBy 16 = .ok (.imul, 1) := dqn_104 (k := 8) qh_cX2_wentBy rfl rfl
theorem dX2_wentBy_17 : decode cX2_wentBy 17 = .ok (.iload_n 2, 1) := dqn_28 (k := 7) qh_cX2_wentBy rfl rfl
theorem dX2_wentBy_18 : decode cX2_wentBy 18 = .ok (.iadd, 1) := dqn_96 (k := 6) qh_cX2_wentBy rfl rfl
theorem dX2_wentBy_19 : decode cX2_wentBy 19 = .ok (.iaload, 1) := dqn_46 (k := 5) qh_cX2_wentBy rfl rfl
theorem dX2_wentBy_20 : decode cX2_wentBy 20 = .ok (.goto 4, 3) := dqn_167 (k := 2) (u := 4) qh_cX2_wentBy rfl rfl rfl (sg_p rfl rfl)
theorem dX2_wentBy_23 : decode cX2_wentBy 23 = .ok (.iconst 0, 1) := dqn_3 (k := 1) qh_cX2_wentBy rfl rfl
theorem dX2_wentBy_24 : decode cX2_wentBy 24 = .ok (.ireturn, 1) := dqn_172 (k := 0) qh_cX2_wentBy rfl rfl
theorem dX2_meanOf_0 : decode cX2_meanOf 0 = .ok (.lconst 0, 1) := dqn_9 (k := 86) qh_cX2_meanOf rfl rfl
theorem dX2_meanOf_1 : decode cX2_meanOf 1 = .ok (.lstore_n 2, 1) := dqn_65 (k := 85) qh_cX2_meanOf rfl rfl
theorem dX2_meanOf_2 : decode cX2_meanOf 2 = .ok (.iconst 0, 1) := dqn_3 (k := 84) qh_cX2_meanOf rfl rfl
theorem dX2_meanOf_3 : decode cX2_meanOf 3 = .ok (.istore 4, 2) := dqn_54 (k := 82) qh_cX2_meanOf rfl rfl rfl
theorem dX2_meanOf_5 : decode cX2_meanOf 5 = .ok (.iload 4, 2) := dqn_21 (k := 80) qh_cX2_meanOf rfl rfl rfl
theorem dX2_meanOf_7 : decode cX2_meanOf 7 = .ok (.aload_n 0, 1) := dqn_42 (k := 79) qh_cX2_meanOf rfl rfl
theorem dX2_meanOf_8 : decode cX2_meanOf 8 = .ok (.getfield 21, 3) := dqn_180 (k := 76) qh_cX2_meanOf rfl rfl rfl
theorem dX2_meanOf_11 : decode cX2_meanOf 11 = .ok (.getfield 51, 3) := dqn_180 (k := 73) qh_cX2_meanOf rfl rfl rfl
theorem dX2_meanOf_14 : decode cX2_meanOf 14 = .ok (.if_icmp .ge 71, 3) := dqn_162 (k := 70) (u := 71) qh_cX2_meanOf rfl rfl rfl (sg_p rfl rfl)
theorem dX2_meanOf_17 : decode cX2_meanOf 17 = .ok (.iconst 0, 1) := dqn_3 (k := 69) qh_cX2_meanOf rfl rfl
theorem dX2_meanOf_18 : decode cX2_meanOf 18 = .ok (.istore 5, 2) := dqn_54 (k := 67) qh_cX2_meanOf rfl rfl rfl
theorem dX2_meanOf_20 : decode cX2_meanOf 20 = .ok (.iload 5, 2) := dqn_21 (k := 65) qh_cX2_meanOf rfl rfl rfl
theorem dX2_meanOf_22 : decode cX2_meanOf 22 = .ok (.aload_n 0, 1) := dqn_42 (k := 64) qh_cX2_meanOf rfl rfl
theorem dX2_meanOf_23 : decode cX2_meanOf 23 = .ok (.getfield 21, 3) := dqn_180 (k := 61) qh_cX2_meanOf rfl rfl rfl
theorem dX2_meanOf_26 : decode cX2_meanOf 26 = .ok (.invokevirtual 43, 3) := dqn_182 (k := 58) qh_cX2_meanOf rfl rfl rfl
theorem dX2_meanOf_29 : decode cX2_meanOf 29 = .ok (.if_icmp .gt 50, 3) := dqn_163 (k := 55) (u := 50) qh_cX2_meanOf rfl rfl rfl (sg_p rfl rfl)
theorem dX2_meanOf_32 : decode cX2_meanOf 32 = .ok (.aload_n 0, 1) := dqn_42 (k := 54) qh_cX2_meanOf rfl rfl
theorem dX2_meanOf_33 : decode cX2_meanOf 33 = .ok (.iload 4, 2) := dqn_21 (k := 52) qh_cX2_meanOf rfl rfl rfl
theorem dX2_meanOf_35 : decode cX2_meanOf 35 = .ok (.iload 5, 2) := dqn_21 (k := 50) qh_cX2_meanOf rfl rfl rfl
theorem dX2_meanOf_37 : decode cX2_meanOf 37 = .ok (.invokevirtual 99, 3) := dqn_182 (k := 47) qh_cX2_meanOf rfl rfl rfl
theorem dX2_meanOf_40 : decode cX2_meanOf 40 = .ok (.lconst 0, 1) := dqn_9 (k := 46) qh_cX2_meanOf rfl rfl
theorem dX2_meanOf_41 : decode cX2_meanOf 41 = .ok (.lcmp, 1) := dqn_148 (k := 45) qh_cX2_meanOf rfl rfl
theorem dX2_meanOf_42 : decode cX2_meanOf 42 = .ok (.ifCond .le 31, 3) := dqn_158 (k := 42) (u := 31) qh_cX2_meanOf rfl rfl rfl (sg_p rfl rfl)
theorem dX2_meanOf_45 : decode cX2_meanOf 45 = .ok (.lload_n 2, 1) := dqn_32 (k := 41) qh_cX2_meanOf rfl rfl
theorem dX2_meanOf_46 : decode cX2_meanOf 46 = .ok (.aload_n 0, 1) := dqn_42 (k := 40) qh_cX2_meanOf rfl rfl
theorem dX2_meanOf_47 : decode cX2_meanOf 47 = .ok (.iload 4, 2) := dqn_21 (k := 38) qh_cX2_meanOf rfl rfl rfl
theorem dX2_meanOf_49 : decode cX2_meanOf 49 = .ok (.iload 5, 2) := dqn_21 (k := 36) qh_cX2_meanOf rfl rfl rfl
theorem dX2_meanOf_51 : decode cX2_meanOf 51 = .ok (.invokevirtual 99, 3) := dqn_182 (k := 33) qh_cX2_meanOf rfl rfl rfl
theorem dX2_meanOf_54 : decode cX2_meanOf 54 = .ok (.aload_n 0, 1) := dqn_42 (k := 32) qh_cX2_meanOf rfl rfl
theorem dX2_meanOf_55 : decode cX2_meanOf 55 = .ok (.getfield 29, 3) := dqn_180 (k := 29) qh_cX2_meanOf rfl rfl rfl
theorem dX2_meanOf_58 : decode cX2_meanOf 58 = .ok (.aload_n 0, 1) := dqn_42 (k := 28) qh_cX2_meanOf rfl rfl
theorem dX2_meanOf_59 : decode cX2_meanOf 59 = .ok (.iload 4, 2) := dqn_21 (k := 26) qh_cX2_meanOf rfl rfl rfl
theorem dX2_meanOf_61 : decode cX2_meanOf 61 = .ok (.iload 5, 2) := dqn_21 (k := 24) qh_cX2_meanOf rfl rfl rfl
theorem dX2_meanOf_63 : decode cX2_meanOf 63 = .ok (.invokevirtual 103, 3) := dqn_182 (k := 21) qh_cX2_meanOf rfl rfl rfl
theorem dX2_meanOf_66 : decode cX2_meanOf 66 = .ok (.iload_n 1, 1) := dqn_27 (k := 20) qh_cX2_meanOf rfl rfl
theorem dX2_meanOf_67 : decode cX2_meanOf 67 = .ok (.iand, 1) := dqn_126 (k := 19) qh_cX2_meanOf rfl rfl
theorem dX2_meanOf_68 : decode cX2_meanOf 68 = .ok (.iaload, 1) := dqn_46 (k := 18) qh_cX2_meanOf rfl rfl
theorem dX2_meanOf_69 : decode cX2_meanOf 69 = .ok (.i2l, 1) := dqn_133 (k := 17) qh_cX2_meanOf rfl rfl
theorem dX2_meanOf_70 : decode cX2_meanOf 70 = .ok (.lmul, 1) := dqn_105 (k := 16) qh_cX2_meanOf rfl rfl
theorem dX2_meanOf_71 : decode cX2_meanOf 71 = .ok (.ladd, 1) := dqn_97 (k := 15) qh_cX2_meanOf rfl rfl
theorem dX2_meanOf_72 : decode cX2_meanOf 72 = .ok (.lstore_n 2, 1) := dqn_65 (k := 14) qh_cX2_meanOf rfl rfl
theorem dX2_meanOf_73 : decode cX2_meanOf 73 = .ok (.iinc 5 1, 3) := dqn_132 (k := 11) (u := 1) qh_cX2_meanOf rfl rfl rfl rfl (by decide)
theorem dX2_meanOf_76 : decode cX2_meanOf 76 = .ok (.goto (-56), 3) := dqn_167 (k := 8) (u := 65480) qh_cX2_meanOf rfl rfl rfl (sg_n (k := 56) rfl rfl rfl)
theorem dX2_meanOf_79 : decode cX2_meanOf 79 = .ok (.iinc 4 1, 3) := dqn_132 (k := 5) (u := 1) qh_cX2_meanOf rfl rfl rfl rfl (by decide)
theorem dX2_meanOf_82 : decode cX2_meanOf 82 = .ok (.goto (-77), 3) := dqn_167 (k := 2) (u := 65459) qh_cX2_meanOf rfl rfl rfl (sg_n (k := 77) rfl rfl rfl)
theorem dX2_meanOf_85 : decode cX2_meanOf 85 = .ok (.lload_n 2, 1) := dqn_32 (k := 1) qh_cX2_meanOf rfl rfl
theorem dX2_meanOf_86 : decode cX2_meanOf 86 = .ok (.lreturn, 1) := dqn_173 (k := 0) qh_cX2_meanOf rfl rfl
theorem dX2_wholeMean_0 : decode cX2_wholeMean 0 = .ok (.aload_n 0, 1) := dqn_42 (k := 21) qh_cX2_wholeMean rfl rfl
theorem dX2_wholeMean_1 : decode cX2_wholeMean 1 = .ok (.aload_n 1, 1) := dqn_43 (k := 20) qh_cX2_wholeMean rfl rfl
theorem dX2_wholeMean_2 : decode cX2_wholeMean 2 = .ok (.iload_n 2, 1) := dqn_28 (k := 19) qh_cX2_wholeMean rfl rfl
theorem dX2_wholeMean_3 : decode cX2_wholeMean 3 = .ok (.aload_n 1, 1) := dqn_43 (k := 18) qh_cX2_wholeMean rfl rfl
theorem dX2_wholeMean_4 : decode cX2_wholeMean 4 = .ok (.invokevirtual 88, 3) := dqn_182 (k := 15) qh_cX2_wholeMean rfl rfl rfl
theorem dX2_wholeMean_7 : decode cX2_wholeMean 7 = .ok (.invokevirtual 91, 3) := dqn_182 (k := 12) qh_cX2_wholeMean rfl rfl rfl
theorem dX2_wholeMean_10 : decode cX2_wholeMean 10 = .ok (.aload_n 0, 1) := dqn_42 (k := 11) qh_cX2_wholeMean rfl rfl
theorem dX2_wholeMean_11 : decode cX2_wholeMean 11 = .ok (.aload_n 0, 1) := dqn_42 (k := 10) qh_cX2_wholeMean rfl rfl
theorem dX2_wholeMean_12 : decode cX2_wholeMean 12 = .ok (.getfield 21, 3) := dqn_180 (k := 7) qh_cX2_wholeMean rfl rfl rfl
theorem dX2_wholeMean_15 : decode cX2_wholeMean 15 = .ok (.invokevirtual 43, 3) := dqn_182 (k := 4) qh_cX2_wholeMean rfl rfl rfl
theorem dX2_wholeMean_18 : decode cX2_wholeMean 18 = .ok (.invokevirtual 95, 3) := dqn_182 (k := 1) qh_cX2_wholeMean rfl rfl rfl
theorem dX2_wholeMean_21 : decode cX2_wholeMean 21 = .ok (.lreturn, 1) := dqn_173 (k := 0) qh_cX2_wholeMean rfl rfl
theorem dX2_partsOf_0 : decode cX2_partsOf 0 = .ok (.lconst 0, 1) := dqn_9 (k := 83) qh_cX2_partsOf rfl rfl
theorem dX2_partsOf_1 : decode cX2_partsOf 1 = .ok (.lstore_n 2, 1) := dqn_65 (k := 82) qh_cX2_partsOf rfl rfl
theorem dX2_partsOf_2 : decode cX2_partsOf 2 = .ok (.iconst 0, 1) := dqn_3 (k := 81) qh_cX2_partsOf rfl rfl
theorem dX2_partsOf_3 : decode cX2_partsOf 3 = .ok (.istore 4, 2) := dqn_54 (k := 79) qh_cX2_partsOf rfl rfl rfl
theorem dX2_partsOf_5 : decode cX2_partsOf 5 = .ok (.iload 4, 2) := dqn_21 (k := 77) qh_cX2_partsOf rfl rfl rfl
theorem dX2_partsOf_7 : decode cX2_partsOf 7 = .ok (.aload_n 0, 1) := dqn_42 (k := 76) qh_cX2_partsOf rfl rfl
theorem dX2_partsOf_8 : decode cX2_partsOf 8 = .ok (.getfield 21, 3) := dqn_180 (k := 73) qh_cX2_partsOf rfl rfl rfl
theorem dX2_partsOf_11 : decode cX2_partsOf 11 = .ok (.getfield 51, 3) := dqn_180 (k := 70) qh_cX2_partsOf rfl rfl rfl
theorem dX2_partsOf_14 : decode cX2_partsOf 14 = .ok (.if_icmp .ge 68, 3) := dqn_162 (k := 67) (u := 68) qh_cX2_partsOf rfl rfl rfl (sg_p rfl rfl)
theorem dX2_partsOf_17 : decode cX2_partsOf 17 = .ok (.iconst 0, 1) := dqn_3 (k := 66) qh_cX2_partsOf rfl rfl
theorem dX2_partsOf_18 : decode cX2_partsOf 18 = .ok (.istore 5, 2) := dqn_54 (k := 64) qh_cX2_partsOf rfl rfl rfl
theorem dX2_partsOf_20 : decode cX2_partsOf 20 = .ok (.iload 5, 2) := dqn_21 (k := 62) qh_cX2_partsOf rfl rfl rfl
theorem dX2_partsOf_22 : decode cX2_partsOf 22 = .ok (.aload_n 0, 1) := dqn_42 (k := 61) qh_cX2_partsOf rfl rfl
theorem dX2_partsOf_23 : decode cX2_partsOf 23 = .ok (.getfield 21, 3) := dqn_180 (k := 58) qh_cX2_partsOf rfl rfl rfl
theorem dX2_partsOf_26 : decode cX2_partsOf 26 = .ok (.invokevirtual 43, 3) := dqn_182 (k := 55) qh_cX2_partsOf rfl rfl rfl
theorem dX2_partsOf_29 : decode cX2_partsOf 29 = .ok (.if_icmp .gt 47, 3) := dqn_163 (k := 52) (u := 47) qh_cX2_partsOf rfl rfl rfl (sg_p rfl rfl)
theorem dX2_partsOf_32 : decode cX2_partsOf 32 = .ok (.aload_n 0, 1) := dqn_42 (k := 51) qh_cX2_partsOf rfl rfl
theorem dX2_partsOf_33 : decode cX2_partsOf 33 = .ok (.iload 4, 2) := dqn_21 (k := 49) qh_cX2_partsOf rfl rfl rfl
theorem dX2_partsOf_35 : decode cX2_partsOf 35 = .ok (.iload 5, 2) := dqn_21 (k := 47) qh_cX2_partsOf rfl rfl rfl
theorem dX2_partsOf_37 : decode cX2_partsOf 37 = .ok (.invokevirtual 99, 3) := dqn_182 (k := 44) qh_cX2_partsOf rfl rfl rfl
theorem dX2_partsOf_40 : decode cX2_partsOf 40 = .ok (.lconst 0, 1) := dqn_9 (k := 43) qh_cX2_partsOf rfl rfl
theorem dX2_partsOf_41 : decode cX2_partsOf 41 = .ok (.lcmp, 1) := dqn_148 (k := 42) qh_cX2_partsOf rfl rfl
theorem dX2_partsOf_42 : decode cX2_partsOf 42 = .ok (.ifCond .le 28, 3) := dqn_158 (k := 39) (u := 28) qh_cX2_partsOf rfl rfl rfl (sg_p rfl rfl)
theorem dX2_partsOf_45 : decode cX2_partsOf 45 = .ok (.aload_n 0, 1) := dqn_42 (k := 38) qh_cX2_partsOf rfl rfl
theorem dX2_partsOf_46 : decode cX2_partsOf 46 = .ok (.iload 4, 2) := dqn_21 (k := 36) qh_cX2_partsOf rfl rfl rfl
theorem dX2_partsOf_48 : decode cX2_partsOf 48 = .ok (.iload 5, 2) := dqn_21 (k := 34) qh_cX2_partsOf rfl rfl rfl
theorem dX2_partsOf_50 : decode cX2_partsOf 50 = .ok (.invokevirtual 103, 3) := dqn_182 (k := 31) qh_cX2_partsOf rfl rfl rfl
theorem dX2_partsOf_53 : decode cX2_partsOf 53 = .ok (.iload_n 1, 1) := dqn_27 (k := 30) qh_cX2_partsOf rfl rfl
theorem dX2_partsOf_54 : decode cX2_partsOf 54 = .ok (.iand, 1) := dqn_126 (k := 29) qh_cX2_partsOf rfl rfl
theorem dX2_partsOf_55 : decode cX2_partsOf 55 = .ok (.iload_n 1, 1) := dqn_27 (k := 28) qh_cX2_partsOf rfl rfl
theorem dX2_partsOf_56 : decode cX2_partsOf 56 = .ok (.if_icmp .ne 14, 3) := dqn_160 (k := 25) (u := 14) qh_cX2_partsOf rfl rfl rfl (sg_p rfl rfl)
theorem dX2_partsOf_59 : decode cX2_partsOf 59 = .ok (.lload_n 2, 1) := dqn_32 (k := 24) qh_cX2_partsOf rfl rfl
theorem dX2_partsOf_60 : decode cX2_partsOf 60 = .ok (.aload_n 0, 1) := dqn_42 (k := 23) qh_cX2_partsOf rfl rfl
theorem dX2_partsOf_61 : decode cX2_partsOf 61 = .ok (.iload 4, 2) := dqn_21 (k := 21) qh_cX2_partsOf rfl rfl rfl
theorem dX2_partsOf_63 : decode cX2_partsOf 63 = .ok (.iload 5, 2) := dqn_21 (k := 19) qh_cX2_partsOf rfl rfl rfl
theorem dX2_partsOf_65 : decode cX2_partsOf 65 = .ok (.invokevirtual 99, 3) := dqn_182 (k := 16) qh_cX2_partsOf rfl rfl rfl
theorem dX2_partsOf_68 : decode cX2_partsOf 68 = .ok (.ladd, 1) := dqn_97 (k := 15) qh_cX2_partsOf rfl rfl
theorem dX2_partsOf_69 : decode cX2_partsOf 69 = .ok (.lstore_n 2, 1) := dqn_65 (k := 14) qh_cX2_partsOf rfl rfl
theorem dX2_partsOf_70 : decode cX2_partsOf 70 = .ok (.iinc 5 1, 3) := dqn_132 (k := 11) (u := 1) qh_cX2_partsOf rfl rfl rfl rfl (by decide)
theorem dX2_partsOf_73 : decode cX2_partsOf 73 = .ok (.goto (-53), 3) := dqn_167 (k := 8) (u := 65483) qh_cX2_partsOf rfl rfl rfl (sg_n (k := 53) rfl rfl rfl)
theorem dX2_partsOf_76 : decode cX2_partsOf 76 = .ok (.iinc 4 1, 3) := dqn_132 (k := 5) (u := 1) qh_cX2_partsOf rfl rfl rfl rfl (by decide)
theorem dX2_partsOf_79 : decode cX2_partsOf 79 = .ok (.goto (-74), 3) := dqn_167 (k := 2) (u := 65462) qh_cX2_partsOf rfl rfl rfl (sg_n (k := 74) rfl rfl rfl)
theorem dX2_partsOf_82 : decode cX2_partsOf 82 = .ok (.lload_n 2, 1) := dqn_32 (k := 1) qh_cX2_partsOf rfl rfl
theorem dX2_partsOf_83 : decode cX2_partsOf 83 = .ok (.lreturn, 1) := dqn_173 (k := 0) qh_cX2_partsOf rfl rfl
theorem dX2_likeliest_0 : decode cX2_likeliest 0 = .ok (.aload_n 0, 1) := dqn_42 (k := 117) qh_cX2_likeliest rfl rfl
theorem dX2_likeliest_1 : decode cX2_likeliest 1 = .ok (.getfield 36, 3) := dqn_180 (k := 114) qh_cX2_likeliest rfl rfl rfl
theorem dX2_likeliest_4 : decode cX2_likeliest 4 = .ok (.lconst 0, 1) := dqn_9 (k := 113) qh_cX2_likeliest rfl rfl
theorem dX2_likeliest_5 : decode cX2_likeliest 5 = .ok (.invokestatic 106, 3) := dqn_184 (k := 110) qh_cX2_likeliest rfl rfl rfl
theorem dX2_likeliest_8 : decode cX2_likeliest 8 = .ok (.iconst 0, 1) := dqn_3 (k := 109) qh_cX2_likeliest rfl rfl
theorem dX2_likeliest_9 : decode cX2_likeliest 9 = .ok (.istore_n 1, 1) := dqn_60 (k := 108) qh_cX2_likeliest rfl rfl
theorem dX2_likeliest_10 : decode cX2_likeliest 10 = .ok (.iload_n 1, 1) := dqn_27 (k := 107) qh_cX2_likeliest rfl rfl
theorem dX2_likeliest_11 : decode cX2_likeliest 11 = .ok (.aload_n 0, 1) := dqn_42 (k := 106) qh_cX2_likeliest rfl rfl
theorem dX2_likeliest_12 : decode cX2_likeliest 12 = .ok (.getfield 21, 3) := dqn_180 (k := 103) qh_cX2_likeliest rfl rfl rfl
theorem dX2_likeliest_15 : decode cX2_likeliest 15 = .ok (.getfield 51, 3) := dqn_180 (k := 100) qh_cX2_likeliest rfl rfl rfl
theorem dX2_likeliest_18 : decode cX2_likeliest 18 = .ok (.if_icmp .ge 59, 3) := dqn_162 (k := 97) (u := 59) qh_cX2_likeliest rfl rfl rfl (sg_p rfl rfl)
theorem dX2_likeliest_21 : decode cX2_likeliest 21 = .ok (.iconst 0, 1) := dqn_3 (k := 96) qh_cX2_likeliest rfl rfl
theorem dX2_likeliest_22 : decode cX2_likeliest 22 = .ok (.istore_n 2, 1) := dqn_61 (k := 95) qh_cX2_likeliest rfl rfl
theorem dX2_likeliest_23 : decode cX2_likeliest 23 = .ok (.iload_n 2, 1) := dqn_28 (k := 94) qh_cX2_likeliest rfl rfl
theorem dX2_likeliest_24 : decode cX2_likeliest 24 = .ok (.aload_n 0, 1) := dqn_42 (k := 93) qh_cX2_likeliest rfl rfl
theorem dX2_likeliest_25 : decode cX2_likeliest 25 = .ok (.getfield 21, 3) := dqn_180 (k := 90) qh_cX2_likeliest rfl rfl rfl
theorem dX2_likeliest_28 : decode cX2_likeliest 28 = .ok (.invokevirtual 43, 3) := dqn_182 (k := 87) qh_cX2_likeliest rfl rfl rfl
theorem dX2_likeliest_31 : decode cX2_likeliest 31 = .ok (.if_icmp .gt 40, 3) := dqn_163 (k := 84) (u := 40) qh_cX2_likeliest rfl rfl rfl (sg_p rfl rfl)
theorem dX2_likeliest_34 : decode cX2_likeliest 34 = .ok (.aload_n 0, 1) := dqn_42 (k := 83) qh_cX2_likeliest rfl rfl
theorem dX2_likeliest_35 : decode cX2_likeliest 35 = .ok (.iload_n 1, 1) := dqn_27 (k := 82) qh_cX2_likeliest rfl rfl
theorem dX2_likeliest_36 : decode cX2_likeliest 36 = .ok (.iload_n 2, 1) := dqn_28 (k := 81) qh_cX2_likeliest rfl rfl
theorem dX2_likeliest_37 : decode cX2_likeliest 37 = .ok (.invokevirtual 99, 3) := dqn_182 (k := 78) qh_cX2_likeliest rfl rfl rfl
theorem dX2_likeliest_40 : decode cX2_likeliest 40 = .ok (.lconst 0, 1) := dqn_9 (k := 77) qh_cX2_likeliest rfl rfl
theorem dX2_likeliest_41 : decode cX2_likeliest 41 = .ok (.lcmp, 1) := dqn_148 (k := 76) qh_cX2_likeliest rfl rfl
theorem dX2_likeliest_42 : decode cX2_likeliest 42 = .ok (.ifCond .le 23, 3) := dqn_158 (k := 73) (u := 23) qh_cX2_likeliest rfl rfl rfl (sg_p rfl rfl)
theorem dX2_likeliest_45 : decode cX2_likeliest 45 = .ok (.aload_n 0, 1) := dqn_42 (k := 72) qh_cX2_likeliest rfl rfl
theorem dX2_likeliest_46 : decode cX2_likeliest 46 = .ok (.getfield 36, 3) := dqn_180 (k := 69) qh_cX2_likeliest rfl rfl rfl
theorem dX2_likeliest_49 : decode cX2_likeliest 49 = .ok (.aload_n 0, 1) := dqn_42 (k := 68) qh_cX2_likeliest rfl rfl
theorem dX2_likeliest_50 : decode cX2_likeliest 50 = .ok (.iload_n 1, 1) := dqn_27 (k := 67) qh_cX2_likeliest rfl rfl
theorem dX2_likeliest_51 : decode cX2_likeliest 51 = .ok (.iload_n 2, 1) := dqn_28 (k := 66) qh_cX2_likeliest rfl rfl
theorem dX2_likeliest_52 : decode cX2_likeliest 52 = .ok (.invokevirtual 103, 3) := dqn_182 (k := 63) qh_cX2_likeliest rfl rfl rfl
theorem dX2_likeliest_55 : decode cX2_likeliest 55 = .ok (.dup2, 1) := dqn_92 (k := 62) qh_cX2_likeliest rfl rfl
theorem dX2_likeliest_56 : decode cX2_likeliest 56 = .ok (.laload, 1) := dqn_47 (k := 61) qh_cX2_likeliest rfl rfl
theorem dX2_likeliest_57 : decode cX2_likeliest 57 = .ok (.aload_n 0, 1) := dqn_42 (k := 60) qh_cX2_likeliest rfl rfl
theorem dX2_likeliest_58 : decode cX2_likeliest 58 = .ok (.iload_n 1, 1) := dqn_27 (k := 59) qh_cX2_likeliest rfl rfl
theorem dX2_likeliest_59 : decode cX2_likeliest 59 = .ok (.iload_n 2, 1) := dqn_28 (k := 58) qh_cX2_likeliest rfl rfl
theorem dX2_likeliest_60 : decode cX2_likeliest 60 = .ok (.invokevirtual 99, 3) := dqn_182 (k := 55) qh_cX2_likeliest rfl rfl rfl
theorem dX2_likeliest_63 : decode cX2_likeliest 63 = .ok (.ladd, 1) := dqn_97 (k := 54) qh_cX2_likeliest rfl rfl
theorem dX2_likeliest_64 : decode cX2_likeliest 64 = .ok (.lastore, 1) := dqn_80 (k := 53) qh_cX2_likeliest rfl rfl
theorem dX2_likeliest_65 : decode cX2_likeliest 65 = .ok (.iinc 2 1, 3) := dqn_132 (k := 50) (u := 1) qh_cX2_likeliest rfl rfl rfl rfl (by decide)
theorem dX2_likeliest_68 : decode cX2_likeliest 68 = .ok (.goto (-45), 3) := dqn_167 (k := 47) (u := 65491) qh_cX2_likeliest rfl rfl rfl (sg_n (k := 45) rfl rfl rfl)
theorem dX2_likeliest_71 : decode cX2_likeliest 71 = .ok (.iinc 1 1, 3) := dqn_132 (k := 44) (u := 1) qh_cX2_likeliest rfl rfl rfl rfl (by decide)
theorem dX2_likeliest_74 : decode cX2_likeliest 74 = .ok (.goto (-64), 3) := dqn_167 (k := 41) (u := 65472) qh_cX2_likeliest rfl rfl rfl (sg_n (k := 64) rfl rfl rfl)
theorem dX2_likeliest_77 : decode cX2_likeliest 77 = .ok (.iconst 0, 1) := dqn_3 (k := 40) qh_cX2_likeliest rfl rfl
theorem dX2_likeliest_78 : decode cX2_likeliest 78 = .ok (.istore_n 1, 1) := dqn_60 (k := 39) qh_cX2_likeliest rfl rfl
theorem dX2_likeliest_79 : decode cX2_likeliest 79 = .ok (.iconst 1, 1) := dqn_4 (k := 38) qh_cX2_likeliest rfl rfl
theorem dX2_likeliest_80 : decode cX2_likeliest 80 = .ok (.istore_n 2, 1) := dqn_61 (k := 37) qh_cX2_likeliest rfl rfl
theorem dX2_likeliest_81 : decode cX2_likeliest 81 = .ok (.iload_n 2, 1) := dqn_28 (k := 36) qh_cX2_likeliest rfl rfl
theorem dX2_likeliest_82 : decode cX2_likeliest 82 = .ok (.aload_n 0, 1) := dqn_42 (k := 35) qh_cX2_likeliest rfl rfl
theorem dX2_likeliest_83 : decode cX2_likeliest 83 = .ok (.getfield 21, 3) := dqn_180 (k := 32) qh_cX2_likeliest rfl rfl rfl
theorem dX2_likeliest_86 : decode cX2_likeliest 86 = .ok (.invokevirtual 43, 3) := dqn_182 (k := 29) qh_cX2_likeliest rfl rfl rfl
theorem dX2_likeliest_89 : decode cX2_likeliest 89 = .ok (.if_icmp .gt 27, 3) := dqn_163 (k := 26) (u := 27) qh_cX2_likeliest rfl rfl rfl (sg_p rfl rfl)
theorem dX2_likeliest_92 : decode cX2_likeliest 92 = .ok (.aload_n 0, 1) := dqn_42 (k := 25) qh_cX2_likeliest rfl rfl
theorem dX2_likeliest_93 : decode cX2_likeliest 93 = .ok (.getfield 36, 3) := dqn_180 (k := 22) qh_cX2_likeliest rfl rfl rfl
theorem dX2_likeliest_96 : decode cX2_likeliest 96 = .ok (.iload_n 2, 1) := dqn_28 (k := 21) qh_cX2_likeliest rfl rfl
theorem dX2_likeliest_97 : decode cX2_likeliest 97 = .ok (.laload, 1) := dqn_47 (k := 20) qh_cX2_likeliest rfl rfl
theorem dX2_likeliest_98 : decode cX2_likeliest 98 = .ok (.aload_n 0, 1) := dqn_42 (k := 19) qh_cX2_likeliest rfl rfl
theorem dX2_likeliest_99 : decode cX2_likeliest 99 = .ok (.getfield 36, 3) := dqn_180 (k := 16) qh_cX2_likeliest rfl rfl rfl
theorem dX2_likeliest_102 : decode cX2_likeliest 102 = .ok (.iload_n 1, 1) := dqn_27 (k := 15) qh_cX2_likeliest rfl rfl
theorem dX2_likeliest_103 : decode cX2_likeliest 103 = .ok (.laload, 1) := dqn_47 (k := 14) qh_cX2_likeliest rfl rfl
theorem dX2_likeliest_104 : decode cX2_likeliest 104 = .ok (.lcmp, 1) := dqn_148 (k := 13) qh_cX2_likeliest rfl rfl
theorem dX2_likeliest_105 : decode cX2_likeliest 105 = .ok (.ifCond .le 5, 3) := dqn_158 (k := 10) (u := 5) qh_cX2_likeliest rfl rfl rfl (sg_p rfl rfl)
theorem dX2_likeliest_108 : decode cX2_likeliest 108 = .ok (.iload_n 2, 1) := dqn_28 (k := 9) qh_cX2_likeliest rfl rfl
theorem dX2_likeliest_109 : decode cX2_likeliest 109 = .ok (.istore_n 1, 1) := dqn_60 (k := 8) qh_cX2_likeliest rfl rfl
theorem dX2_likeliest_110 : decode cX2_likeliest 110 = .ok (.iinc 2 1, 3) := dqn_132 (k := 5) (u := 1) qh_cX2_likeliest rfl rfl rfl rfl (by decide)
theorem dX2_likeliest_113 : decode cX2_likeliest 113 = .ok (.goto (-32), 3) := dqn_167 (k := 2) (u := 65504) qh_cX2_likeliest rfl rfl rfl (sg_n (k := 32) rfl rfl rfl)
theorem dX2_likeliest_116 : decode cX2_likeliest 116 = .ok (.iload_n 1, 1) := dqn_27 (k := 1) qh_cX2_likeliest rfl rfl
theorem dX2_likeliest_117 : decode cX2_likeliest 117 = .ok (.ireturn, 1) := dqn_172 (k := 0) qh_cX2_likeliest rfl rfl
theorem dX2_mostThatWent_0 : decode cX2_mostThatWent 0 = .ok (.iconst 0, 1) := dqn_3 (k := 75) qh_cX2_mostThatWent rfl rfl
theorem dX2_mostThatWent_1 : decode cX2_mostThatWent 1 = .ok (.istore_n 1, 1) := dqn_60 (k := 74) qh_cX2_mostThatWent rfl rfl
theorem dX2_mostThatWent_2 : decode cX2_mostThatWent 2 = .ok (.aload_n 0, 1) := dqn_42 (k := 73) qh_cX2_mostThatWent rfl rfl
theorem dX2_mostThatWent_3 : decode cX2_mostThatWent 3 = .ok (.getfield 21, 3) := dqn_180 (k := 70) qh_cX2_mostThatWent rfl rfl rfl
theorem dX2_mostThatWent_6 : decode cX2_mostThatWent 6 = .ok (.invokevirtual 88, 3) := dqn_182 (k := 67) qh_cX2_mostThatWent rfl rfl rfl
theorem dX2_mostThatWent_9 : decode cX2_mostThatWent 9 = .ok (.istore_n 2, 1) := dqn_61 (k := 66) qh_cX2_mostThatWent rfl rfl
theorem dX2_mostThatWent_10 : decode cX2_mostThatWent 10 = .ok (.iconst 0, 1) := dqn_3 (k := 65) qh_cX2_mostThatWent rfl rfl
theorem dX2_mostThatWent_11 : decode cX2_mostThatWent 11 = .ok (.istore_n 3, 1) := dqn_62 (k := 64) qh_cX2_mostThatWent rfl rfl
theorem dX2_mostThatWent_12 : decode cX2_mostThatWent 12 = .ok (.iload_n 3, 1) := dqn_29 (k := 63) qh_cX2_mostThatWent rfl rfl
theorem dX2_mostThatWent_13 : decode cX2_mostThatWent 13 = .ok (.aload_n 0, 1) := dqn_42 (k := 62) qh_cX2_mostThatWent rfl rfl
theorem dX2_mostThatWent_14 : decode cX2_mostThatWent 14 = .ok (.getfield 21, 3) := dqn_180 (k := 59) qh_cX2_mostThatWent rfl rfl rfl
theorem dX2_mostThatWent_17 : decode cX2_mostThatWent 17 = .ok (.getfield 51, 3) := dqn_180 (k := 56) qh_cX2_mostThatWent rfl rfl rfl
theorem dX2_mostThatWent_20 : decode cX2_mostThatWent 20 = .ok (.if_icmp .ge 54, 3) := dqn_162 (k := 53) (u := 54) qh_cX2_mostThatWent rfl rfl rfl (sg_p rfl rfl)
theorem dX2_mostThatWent_23 : decode cX2_mostThatWent 23 = .ok (.iconst 0, 1) := dqn_3 (k := 52) qh_cX2_mostThatWent rfl rfl
theorem dX2_mostThatWent_24 : decode cX2_mostThatWent 24 = .ok (.istore 4, 2) := dqn_54 (k := 50) qh_cX2_mostThatWent rfl rfl rfl
theorem dX2_mostThatWent_26 : decode cX2_mostThatWent 26 = .ok (.iload 4, 2) := dqn_21 (k := 48) qh_cX2_mostThatWent rfl rfl rfl
theorem dX2_mostThatWent_28 : decode cX2_mostThatWent 28 = .ok (.aload_n 0, 1) := dqn_42 (k := 47) qh_cX2_mostThatWent rfl rfl
theorem dX2_mostThatWent_29 : decode cX2_mostThatWent 29 = .ok (.getfield 21, 3) := dqn_180 (k := 44) qh_cX2_mostThatWent rfl rfl rfl
theorem dX2_mostThatWent_32 : decode cX2_mostThatWent 32 = .ok (.invokevirtual 43, 3) := dqn_182 (k := 41) qh_cX2_mostThatWent rfl rfl rfl
theorem dX2_mostThatWent_35 : decode cX2_mostThatWent 35 = .ok (.if_icmp .gt 33, 3) := dqn_163 (k := 38) (u := 33) qh_cX2_mostThatWent rfl rfl rfl (sg_p rfl rfl)
theorem dX2_mostThatWent_38 : decode cX2_mostThatWent 38 = .ok (.iload 4, 2) := dqn_21 (k := 36) qh_cX2_mostThatWent rfl rfl rfl
theorem dX2_mostThatWent_40 : decode cX2_mostThatWent 40 = .ok (.iload_n 2, 1) := dqn_28 (k := 35) qh_cX2_mostThatWent rfl rfl
theorem dX2_mostThatWent_41 : decode cX2_mostThatWent 41 = .ok (.iconst (-1), 1) := dqn_2 (k := 34) qh_cX2_mostThatWent rfl rfl
theorem dX2_mostThatWent_42 : decode cX2_mostThatWent 42 = .ok (.ixor, 1) := dqn_130 (k := 33) qh_cX2_mostThatWent rfl rfl
theorem dX2_mostThatWent_43 : decode cX2_mostThatWent 43 = .ok (.iand, 1) := dqn_126 (k := 32) qh_cX2_mostThatWent rfl rfl
theorem dX2_mostThatWent_44 : decode cX2_mostThatWent 44 = .ok (.ifCond .ne 18, 3) := dqn_154 (k := 29) (u := 18) qh_cX2_mostThatWent rfl rfl rfl (sg_p rfl rfl)
theorem dX2_mostThatWent_47 : decode cX2_mostThatWent 47 = .ok (.iload_n 1, 1) := dqn_27 (k := 28) qh_cX2_mostThatWent rfl rfl
theorem dX2_mostThatWent_48 : decode cX2_mostThatWent 48 = .ok (.aload_n 0, 1) := dqn_42 (k := 27) qh_cX2_mostThatWent rfl rfl
theorem dX2_mostThatWent_49 : decode cX2_mostThatWent 49 = .ok (.iload_n 3, 1) := dqn_29 (k := 26) qh_cX2_mostThatWent rfl rfl
theorem dX2_mostThatWent_50 : decode cX2_mostThatWent 50 = .ok (.iload 4, 2) := dqn_21 (k := 24) qh_cX2_mostThatWent rfl rfl rfl
theorem dX2_mostThatWent_52 : decode cX2_mostThatWent 52 = .ok (.invokevirtual 103, 3) := dqn_182 (k := 21) qh_cX2_mostThatWent rfl rfl rfl
theorem dX2_mostThatWent_55 : decode cX2_mostThatWent 55 = .ok (.invokestatic 112, 3) := dqn_184 (k := 18) qh_cX2_mostThatWent rfl rfl rfl
theorem dX2_mostThatWent_58 : decode cX2_mostThatWent 58 = .ok (.invokestatic 117, 3) := dqn_184 (k := 15) qh_cX2_mostThatWent rfl rfl rfl
theorem dX2_mostThatWent_61 : decode cX2_mostThatWent 61 = .ok (.istore_n 1, 1) := dqn_60 (k := 14) qh_cX2_mostThatWent rfl rfl
theorem dX2_mostThatWent_62 : decode cX2_mostThatWent 62 = .ok (.iinc 4 1, 3) := dqn_132 (k := 11) (u := 1) qh_cX2_mostThatWent rfl rfl rfl rfl (by decide)
theorem dX2_mostThatWent_65 : decode cX2_mostThatWent 65 = .ok (.goto (-39), 3) := dqn_167 (k := 8) (u := 65497) qh_cX2_mostThatWent rfl rfl rfl (sg_n (k := 39) rfl rfl rfl)
theorem dX2_mostThatWent_68 : decode cX2_mostThatWent 68 = .ok (.iinc 3 1, 3) := dqn_132 (k := 5) (u := 1) qh_cX2_mostThatWent rfl rfl rfl rfl (by decide)
theorem dX2_mostThatWent_71 : decode cX2_mostThatWent 71 = .ok (.goto (-59), 3) := dqn_167 (k := 2) (u := 65477) qh_cX2_mostThatWent rfl rfl rfl (sg_n (k := 59) rfl rfl rfl)
theorem dX2_mostThatWent_74 : decode cX2_mostThatWent 74 = .ok (.iload_n 1, 1) := dqn_27 (k := 1) qh_cX2_mostThatWent rfl rfl
theorem dX2_mostThatWent_75 : decode cX2_mostThatWent 75 = .ok (.ireturn, 1) := dqn_172 (k := 0) qh_cX2_mostThatWent rfl rfl
theorem dX2_worstTold_0 : decode cX2_worstTold 0 = .ok (.iconst (-1), 1) := dqn_2 (k := 163) qh_cX2_worstTold rfl rfl
theorem dX2_worstTold_1 : decode cX2_worstTold 1 = .ok (.istore_n 2, 1) := dqn_61 (k := 162) qh_cX2_worstTold rfl rfl
theorem dX2_worstTold_2 : decode cX2_worstTold 2 = .ok (.iconst 0, 1) := dqn_3 (k := 161) qh_cX2_worstTold rfl rfl
theorem dX2_worstTold_3 : decode cX2_worstTold 3 = .ok (.istore_n 3, 1) := dqn_62 (k := 160) qh_cX2_worstTold rfl rfl
theorem dX2_worstTold_4 : decode cX2_worstTold 4 = .ok (.iconst (-1), 1) := dqn_2 (k := 159) qh_cX2_worstTold rfl rfl
theorem dX2_worstTold_5 : decode cX2_worstTold 5 = .ok (.istore 4, 2) := dqn_54 (k := 157) qh_cX2_worstTold rfl rfl rfl
theorem dX2_worstTold_7 : decode cX2_worstTold 7 = .ok (.iconst 0, 1) := dqn_3 (k := 156) qh_cX2_worstTold rfl rfl
theorem dX2_worstTold_8 : decode cX2_worstTold 8 = .ok (.istore 5, 2) := dqn_54 (k := 154) qh_cX2_worstTold rfl rfl rfl
theorem dX2_worstTold_10 : decode cX2_worstTold 10 = .ok (.iload 5, 2) := dqn_21 (k := 152) qh_cX2_worstTold rfl rfl rfl
theorem dX2_worstTold_12 : decode cX2_worstTold 12 = .ok (.aload_n 0, 1) := dqn_42 (k := 151) qh_cX2_worstTold rfl rfl
theorem dX2_worstTold_13 : decode cX2_worstTold 13 = .ok (.getfield 21, 3) := dqn_180 (k := 148) qh_cX2_worstTold rfl rfl rfl
theorem dX2_worstTold_16 : decode cX2_worstTold 16 = .ok (.getfield 51, 3) := dqn_180 (k := 145) qh_cX2_worstTold rfl rfl rfl
theorem dX2_worstTold_19 : decode cX2_worstTold 19 = .ok (.if_icmp .ge 82, 3) := dqn_162 (k := 142) (u := 82) qh_cX2_worstTold rfl rfl rfl (sg_p rfl rfl)
theorem dX2_worstTold_22 : decode cX2_worstTold 22 = .ok (.iconst 0, 1) := dqn_3 (k := 141) qh_cX2_worstTold rfl rfl
theorem dX2_worstTold_23 : decode cX2_worstTold 23 = .ok (.istore 6, 2) := dqn_54 (k := 139) qh_cX2_worstTold rfl rfl rfl
theorem dX2_worstTold_25 : decode cX2_worstTold 25 = .ok (.iload 6, 2) := dqn_21 (k := 137) qh_cX2_worstTold rfl rfl rfl
theorem dX2_worstTold_27 : decode cX2_worstTold 27 = .ok (.aload_n 0, 1) := dqn_42 (k := 136) qh_cX2_worstTold rfl rfl
theorem dX2_worstTold_28 : decode cX2_worstTold 28 = .ok (.getfield 21, 3) := dqn_180 (k := 133) qh_cX2_worstTold rfl rfl rfl
theorem dX2_worstTold_31 : decode cX2_worstTold 31 = .ok (.invokevirtual 43, 3) := dqn_182 (k := 130) qh_cX2_worstTold rfl rfl rfl
theorem dX2_worstTold_34 : decode cX2_worstTold 34 = .ok (.if_icmp .gt 61, 3) := dqn_163 (k := 127) (u := 61) qh_cX2_worstTold rfl rfl rfl (sg_p rfl rfl)
theorem dX2_worstTold_37 : decode cX2_worstTold 37 = .ok (.aload_n 0, 1) := dqn_42 (k := 126) qh_cX2_worstTold rfl rfl
theorem dX2_worstTold_38 : decode cX2_worstTold 38 = .ok (.iload 5, 2) := dqn_21 (k := 124) qh_cX2_worstTold rfl rfl rfl
theorem dX2_worstTold_40 : decode cX2_worstTold 40 = .ok (.iload 6, 2) := dqn_21 (k := 122) qh_cX2_worstTold rfl rfl rfl
theorem dX2_worstTold_42 : decode cX2_worstTold 42 = .ok (.invokevirtual 99, 3) := dqn_182 (k := 119) qh_cX2_worstTold rfl rfl rfl
theorem dX2_worstTold_45 : decode cX2_worstTold 45 = .ok (.lconst 0, 1) := dqn_9 (k := 118) qh_cX2_worstTold rfl rfl
theorem dX2_worstTold_46 : decode cX2_worstTold 46 = .ok (.lcmp, 1) := dqn_148 (k := 117) qh_cX2_worstTold rfl rfl
theorem dX2_worstTold_47 : decode cX2_worstTold 47 = .ok (.ifCond .le 42, 3) := dqn_158 (k := 114) (u := 42) qh_cX2_worstTold rfl rfl rfl (sg_p rfl rfl)
theorem dX2_worstTold_50 : decode cX2_worstTold 50 = .ok (.aload_n 0, 1) := dqn_42 (k := 113) qh_cX2_worstTold rfl rfl
theorem dX2_worstTold_51 : decode cX2_worstTold 51 = .ok (.getfield 29, 3) := dqn_180 (k := 110) qh_cX2_worstTold rfl rfl rfl
theorem dX2_worstTold_54 : decode cX2_worstTold 54 = .ok (.aload_n 0, 1) := dqn_42 (k := 109) qh_cX2_worstTold rfl rfl
theorem dX2_worstTold_55 : decode cX2_worstTold 55 = .ok (.iload 5, 2) := dqn_21 (k := 107) qh_cX2_worstTold rfl rfl rfl
theorem dX2_worstTold_57 : decode cX2_worstTold 57 = .ok (.iload 6, 2) := dqn_21 (k := 105) qh_cX2_worstTold rfl rfl rfl
theorem dX2_worstTold_59 : decode cX2_worstTold 59 = .ok (.invokevirtual 103, 3) := dqn_182 (k := 102) qh_cX2_worstTold rfl rfl rfl
theorem dX2_worstTold_62 : decode cX2_worstTold 62 = .ok (.iaload, 1) := dqn_46 (k := 101) qh_cX2_worstTold rfl rfl
theorem dX2_worstTold_63 : decode cX2_worstTold 63 = .ok (.iload 4, 2) := dqn_21 (k := 99) qh_cX2_worstTold rfl rfl rfl
theorem dX2_worstTold_65 : decode cX2_worstTold 65 = .ok (.if_icmp .le 24, 3) := dqn_164 (k := 96) (u := 24) qh_cX2_worstTold rfl rfl rfl (sg_p rfl rfl)
theorem dX2_worstTold_68 : decode cX2_worstTold 68 = .ok (.aload_n 0, 1) := dqn_42 (k := 95) qh_cX2_worstTold rfl rfl
theorem dX2_worstTold_69 : decode cX2_worstTold 69 = .ok (.getfield 29, 3) := dqn_180 (k := 92) qh_cX2_worstTold rfl rfl rfl
theorem dX2_worstTold_72 : decode cX2_worstTold 72 = .ok (.aload_n 0, 1) := dqn_42 (k := 91) qh_cX2_worstTold rfl rfl
theorem dX2_worstTold_73 : decode cX2_worstTold 73 = .ok (.iload 5, 2) := dqn_21 (k := 89) qh_cX2_worstTold rfl rfl rfl
theorem dX2_worstTold_75 : decode cX2_worstTold 75 = .ok (.iload 6, 2) := dqn_21 (k := 87) qh_cX2_worstTold rfl rfl rfl
theorem dX2_worstTold_77 : decode cX2_worstTold 77 = .ok (.invokevirtual 103, 3) := dqn_182 (k := 84) qh_cX2_worstTold rfl rfl rfl
theorem dX2_worstTold_80 : decode cX2_worstTold 80 = .ok (.iaload, 1) := dqn_46 (k := 83) qh_cX2_worstTold rfl rfl
theorem dX2_worstTold_81 : decode cX2_worstTold 81 = .ok (.istore 4, 2) := dqn_54 (k := 81) qh_cX2_worstTold rfl rfl rfl
theorem dX2_worstTold_83 : decode cX2_worstTold 83 = .ok (.iload 5, 2) := dqn_21 (k := 79) qh_cX2_worstTold rfl rfl rfl
theorem dX2_worstTold_85 : decode cX2_worstTold 85 = .ok (.istore_n 2, 1) := dqn_61 (k := 78) qh_cX2_worstTold rfl rfl
theorem dX2_worstTold_86 : decode cX2_worstTold 86 = .ok (.iload 6, 2) := dqn_21 (k := 76) qh_cX2_worstTold rfl rfl rfl
theorem dX2_worstTold_88 : decode cX2_worstTold 88 = .ok (.istore_n 3, 1) := dqn_62 (k := 75) qh_cX2_worstTold rfl rfl
theorem dX2_worstTold_89 : decode cX2_worstTold 89 = .ok (.iinc 6 1, 3) := dqn_132 (k := 72) (u := 1) qh_cX2_worstTold rfl rfl rfl rfl (by decide)
theorem dX2_worstTold_92 : decode cX2_worstTold 92 = .ok (.goto (-67), 3) := dqn_167 (k := 69) (u := 65469) qh_cX2_worstTold rfl rfl rfl (sg_n (k := 67) rfl rfl rfl)
theorem dX2_worstTold_95 : decode cX2_worstTold 95 = .ok (.iinc 5 1, 3) := dqn_132 (k := 66) (u := 1) qh_cX2_worstTold rfl rfl rfl rfl (by decide)
theorem dX2_worstTold_98 : decode cX2_worstTold 98 = .ok (.goto (-88), 3) := dqn_167 (k := 63) (u := 65448) qh_cX2_worstTold rfl rfl rfl (sg_n (k := 88) rfl rfl rfl)
theorem dX2_worstTold_101 : decode cX2_worstTold 101 = .ok (.iload_n 1, 1) := dqn_27 (k := 62) qh_cX2_worstTold rfl rfl
theorem dX2_worstTold_102 : decode cX2_worstTold 102 = .ok (.tableswitch 58 0 3 #[30, 33, 36, 40], 30) := by decide +kernel
theorem dX2_worstTold_132 : decode cX2_worstTold 132 = .ok (.iload_n 2, 1) := dqn_28 (k := 31) qh_cX2_worstTold rfl rfl
theorem dX2_worstTold_133 : decode cX2_worstTold 133 = .ok (.i2l, 1) := dqn_133 (k := 30) qh_cX2_worstTold rfl rfl
theorem dX2_worstTold_134 : decode cX2_worstTold 134 = .ok (.lreturn, 1) := dqn_173 (k := 29) qh_cX2_worstTold rfl rfl
theorem dX2_worstTold_135 : decode cX2_worstTold 135 = .ok (.iload_n 3, 1) := dqn_29 (k := 28) qh_cX2_worstTold rfl rfl
theorem dX2_worstTold_136 : decode cX2_worstTold 136 = .ok (.i2l, 1) := dqn_133 (k := 27) qh_cX2_worstTold rfl rfl
theorem dX2_worstTold_137 : decode cX2_worstTold 137 = .ok (.lreturn, 1) := dqn_173 (k := 26) qh_cX2_worstTold rfl rfl
theorem dX2_worstTold_138 : decode cX2_worstTold 138 = .ok (.iload 4, 2) := dqn_21 (k := 24) qh_cX2_worstTold rfl rfl rfl
theorem dX2_worstTold_140 : decode cX2_worstTold 140 = .ok (.i2l, 1) := dqn_133 (k := 23) qh_cX2_worstTold rfl rfl
theorem dX2_worstTold_141 : decode cX2_worstTold 141 = .ok (.lreturn, 1) := dqn_173 (k := 22) qh_cX2_worstTold rfl rfl
theorem dX2_worstTold_142 : decode cX2_worstTold 142 = .ok (.iload_n 2, 1) := dqn_28 (k := 21) qh_cX2_worstTold rfl rfl
theorem dX2_worstTold_143 : decode cX2_worstTold 143 = .ok (.iconst (-1), 1) := dqn_2 (k := 20) qh_cX2_worstTold rfl rfl
theorem dX2_worstTold_144 : decode cX2_worstTold 144 = .ok (.if_icmp .ne 9, 3) := dqn_160 (k := 17) (u := 9) qh_cX2_worstTold rfl rfl rfl (sg_p rfl rfl)
theorem dX2_worstTold_147 : decode cX2_worstTold 147 = .ok (.ldc2_w 122, 3) := dqn_20 (k := 14) qh_cX2_worstTold rfl rfl rfl
theorem dX2_worstTold_150 : decode cX2_worstTold 150 = .ok (.goto 9, 3) := dqn_167 (k := 11) (u := 9) qh_cX2_worstTold rfl rfl rfl (sg_p rfl rfl)
theorem dX2_worstTold_153 : decode cX2_worstTold 153 = .ok (.aload_n 0, 1) := dqn_42 (k := 10) qh_cX2_worstTold rfl rfl
theorem dX2_worstTold_154 : decode cX2_worstTold 154 = .ok (.iload_n 2, 1) := dqn_28 (k := 9) qh_cX2_worstTold rfl rfl
theorem dX2_worstTold_155 : decode cX2_worstTold 155 = .ok (.iload_n 3, 1) := dqn_29 (k := 8) qh_cX2_worstTold rfl rfl
theorem dX2_worstTold_156 : decode cX2_worstTold 156 = .ok (.invokevirtual 99, 3) := dqn_182 (k := 5) qh_cX2_worstTold rfl rfl rfl
theorem dX2_worstTold_159 : decode cX2_worstTold 159 = .ok (.lreturn, 1) := dqn_173 (k := 4) qh_cX2_worstTold rfl rfl
theorem dX2_worstTold_160 : decode cX2_worstTold 160 = .ok (.ldc2_w 122, 3) := dqn_20 (k := 1) qh_cX2_worstTold rfl rfl rfl
theorem dX2_worstTold_163 : decode cX2_worstTold 163 = .ok (.lreturn, 1) := dqn_173 (k := 0) qh_cX2_worstTold rfl rfl
theorem dX2_mostInBrook_0 : decode cX2_mostInBrook 0 = .ok (.iconst 0, 1) := dqn_3 (k := 85) qh_cX2_mostInBrook rfl rfl
theorem dX2_mostInBrook_1 : decode cX2_mostInBrook 1 = .ok (.istore_n 1, 1) := dqn_60 (k := 84) qh_cX2_mostInBrook rfl rfl
theorem dX2_mostInBrook_2 : decode cX2_mostInBrook 2 = .ok (.iconst 0, 1) := dqn_3 (k := 83) qh_cX2_mostInBrook rfl rfl
theorem dX2_mostInBrook_3 : decode cX2_mostInBrook 3 = .ok (.istore_n 2, 1) := dqn_61 (k := 82) qh_cX2_mostInBrook rfl rfl
theorem dX2_mostInBrook_4 : decode cX2_mostInBrook 4 = .ok (.iload_n 2, 1) := dqn_28 (k := 81) qh_cX2_mostInBrook rfl rfl
theorem dX2_mostInBrook_5 : decode cX2_mostInBrook 5 = .ok (.aload_n 0, 1) := dqn_42 (k := 80) qh_cX2_mostInBrook rfl rfl
theorem dX2_mostInBrook_6 : decode cX2_mostInBrook 6 = .ok (.getfield 21, 3) := dqn_180 (k := 77) qh_cX2_mostInBrook rfl rfl rfl
theorem dX2_mostInBrook_9 : decode cX2_mostInBrook 9 = .ok (.getfield 51, 3) := dqn_180 (k := 74) qh_cX2_mostInBrook rfl rfl rfl
theorem dX2_mostInBrook_12 : decode cX2_mostInBrook 12 = .ok (.if_icmp .ge 72, 3) := dqn_162 (k := 71) (u := 72) qh_cX2_mostInBrook rfl rfl rfl (sg_p rfl rfl)
theorem dX2_mostInBrook_15 : decode cX2_mostInBrook 15 = .ok (.iconst 0, 1) := dqn_3 (k := 70) qh_cX2_mostInBrook rfl rfl
theorem dX2_mostInBrook_16 : decode cX2_mostInBrook 16 = .ok (.istore_n 3, 1) := dqn_62 (k := 69) qh_cX2_mostInBrook rfl rfl
theorem dX2_mostInBrook_17 : decode cX2_mostInBrook 17 = .ok (.iload_n 3, 1) := dqn_29 (k := 68) qh_cX2_mostInBrook rfl rfl
theorem dX2_mostInBrook_18 : decode cX2_mostInBrook 18 = .ok (.aload_n 0, 1) := dqn_42 (k := 67) qh_cX2_mostInBrook rfl rfl
theorem dX2_mostInBrook_19 : decode cX2_mostInBrook 19 = .ok (.getfield 21, 3) := dqn_180 (k := 64) qh_cX2_mostInBrook rfl rfl rfl
theorem dX2_mostInBrook_22 : decode cX2_mostInBrook 22 = .ok (.invokevirtual 43, 3) := dqn_182 (k := 61) qh_cX2_mostInBrook rfl rfl rfl
theorem dX2_mostInBrook_25 : decode cX2_mostInBrook 25 = .ok (.if_icmp .gt 53, 3) := dqn_163 (k := 58) (u := 53) qh_cX2_mostInBrook rfl rfl rfl (sg_p rfl rfl)
theorem dX2_mostInBrook_28 : decode cX2_mostInBrook 28 = .ok (.aload_n 0, 1) := dqn_42 (k := 57) qh_cX2_mostInBrook rfl rfl
theorem dX2_mostInBrook_29 : decode cX2_mostInBrook 29 = .ok (.iload_n 2, 1) := dqn_28 (k := 56) qh_cX2_mostInBrook rfl rfl
theorem dX2_mostInBrook_30 : decode cX2_mostInBrook 30 = .ok (.iload_n 3, 1) := dqn_29 (k := 55) qh_cX2_mostInBrook rfl rfl
theorem dX2_mostInBrook_31 : decode cX2_mostInBrook 31 = .ok (.invokevirtual 99, 3) := dqn_182 (k := 52) qh_cX2_mostInBrook rfl rfl rfl
theorem dX2_mostInBrook_34 : decode cX2_mostInBrook 34 = .ok (.lconst 0, 1) := dqn_9 (k := 51) qh_cX2_mostInBrook rfl rfl
theorem dX2_mostInBrook_35 : decode cX2_mostInBrook 35 = .ok (.lcmp, 1) := dqn_148 (k := 50) qh_cX2_mostInBrook rfl rfl
theorem dX2_mostInBrook_36 : decode cX2_mostInBrook 36 = .ok (.ifCond .le 36, 3) := dqn_158 (k := 47) (u := 36) qh_cX2_mostInBrook rfl rfl rfl (sg_p rfl rfl)
theorem dX2_mostInBrook_39 : decode cX2_mostInBrook 39 = .ok (.aload_n 0, 1) := dqn_42 (k := 46) qh_cX2_mostInBrook rfl rfl
theorem dX2_mostInBrook_40 : decode cX2_mostInBrook 40 = .ok (.getfield 12, 3) := dqn_180 (k := 43) qh_cX2_mostInBrook rfl rfl rfl
theorem dX2_mostInBrook_43 : decode cX2_mostInBrook 43 = .ok (.aload_n 0, 1) := dqn_42 (k := 42) qh_cX2_mostInBrook rfl rfl
theorem dX2_mostInBrook_44 : decode cX2_mostInBrook 44 = .ok (.getfield 21, 3) := dqn_180 (k := 39) qh_cX2_mostInBrook rfl rfl rfl
theorem dX2_mostInBrook_47 : decode cX2_mostInBrook 47 = .ok (.aload_n 0, 1) := dqn_42 (k := 38) qh_cX2_mostInBrook rfl rfl
theorem dX2_mostInBrook_48 : decode cX2_mostInBrook 48 = .ok (.getfield 21, 3) := dqn_180 (k := 35) qh_cX2_mostInBrook rfl rfl rfl
theorem dX2_mostInBrook_51 : decode cX2_mostInBrook 51 = .ok (.iload_n 2, 1) := dqn_28 (k := 34) qh_cX2_mostInBrook rfl rfl
theorem dX2_mostInBrook_52 : decode cX2_mostInBrook 52 = .ok (.invokevirtual 55, 3) := dqn_182 (k := 31) qh_cX2_mostInBrook rfl rfl rfl
theorem dX2_mostInBrook_55 : decode cX2_mostInBrook 55 = .ok (.iload_n 3, 1) := dqn_29 (k := 30) qh_cX2_mostInBrook rfl rfl
theorem dX2_mostInBrook_56 : decode cX2_mostInBrook 56 = .ok (.iconst (-1), 1) := dqn_2 (k := 29) qh_cX2_mostInBrook rfl rfl
theorem dX2_mostInBrook_57 : decode cX2_mostInBrook 57 = .ok (.invokevirtual 58, 3) := dqn_182 (k := 26) qh_cX2_mostInBrook rfl rfl rfl
theorem dX2_mostInBrook_60 : decode cX2_mostInBrook 60 = .ok (.iload_n 1, 1) := dqn_27 (k := 25) qh_cX2_mostInBrook rfl rfl
theorem dX2_mostInBrook_61 : decode cX2_mostInBrook 61 = .ok (.aload_n 0, 1) := dqn_42 (k := 24) qh_cX2_mostInBrook rfl rfl
theorem dX2_mostInBrook_62 : decode cX2_mostInBrook 62 = .ok (.getfield 12, 3) := dqn_180 (k := 21) qh_cX2_mostInBrook rfl rfl rfl
theorem dX2_mostInBrook_65 : decode cX2_mostInBrook 65 = .ok (.getfield 124, 3) := dqn_180 (k := 18) qh_cX2_mostInBrook rfl rfl rfl
theorem dX2_mostInBrook_68 : decode cX2_mostInBrook 68 = .ok (.invokestatic 117, 3) := dqn_184 (k := 15) qh_cX2_mostInBrook rfl rfl rfl
theorem dX2_mostInBrook_71 : decode cX2_mostInBrook 71 = .ok (.istore_n 1, 1) := dqn_60 (k := 14) qh_cX2_mostInBrook rfl rfl
theorem dX2_mostInBrook_72 : decode cX2_mostInBrook 72 = .ok (.iinc 3 1, 3) := dqn_132 (k := 11) (u := 1) qh_cX2_mostInBrook rfl rfl rfl rfl (by decide)
theorem dX2_mostInBrook_75 : decode cX2_mostInBrook 75 = .ok (.goto (-58), 3) := dqn_167 (k := 8) (u := 65478) qh_cX2_mostInBrook rfl rfl rfl (sg_n (k := 58) rfl rfl rfl)
theorem dX2_mostInBrook_78 : decode cX2_mostInBrook 78 = .ok (.iinc 2 1, 3) := dqn_132 (k := 5) (u := 1) qh_cX2_mostInBrook rfl rfl rfl rfl (by decide)
theorem dX2_mostInBrook_81 : decode cX2_mostInBrook 81 = .ok (.goto (-77), 3) := dqn_167 (k := 2) (u := 65459) qh_cX2_mostInBrook rfl rfl rfl (sg_n (k := 77) rfl rfl rfl)
theorem dX2_mostInBrook_84 : decode cX2_mostInBrook 84 = .ok (.iload_n 1, 1) := dqn_27 (k := 1) qh_cX2_mostInBrook rfl rfl
theorem dX2_mostInBrook_85 : decode cX2_mostInBrook 85 = .ok (.ireturn, 1) := dqn_172 (k := 0) qh_cX2_mostInBrook rfl rfl
theorem dX10_looks_0 : decode cX10_looks 0 = .ok (.aload_n 0, 1) := dqn_42 (k := 37) qh_cX10_looks rfl rfl
theorem dX10_looks_1 : decode cX10_looks 1 = .ok (.iload_n 1, 1) := dqn_27 (k := 36) qh_cX10_looks rfl rfl
theorem dX10_looks_2 : decode cX10_looks 2 = .ok (.iload_n 2, 1) := dqn_28 (k := 35) qh_cX10_looks rfl rfl
theorem dX10_looks_3 : decode cX10_looks 3 = .ok (.invokevirtual 114, 3) := dqn_182 (k := 32) qh_cX10_looks rfl rfl rfl
theorem dX10_looks_6 : decode cX10_looks 6 = .ok (.ifCond .ne 5, 3) := dqn_154 (k := 29) (u := 5) qh_cX10_looks rfl rfl rfl (sg_p rfl rfl)
theorem dX10_looks_9 : decode cX10_looks 9 = .ok (.iconst 0, 1) := dqn_3 (k := 28) qh_cX10_looks rfl rfl
theorem dX10_looks_10 : decode cX10_looks 10 = .ok (.ireturn, 1) := dqn_172 (k := 27) qh_cX10_looks rfl rfl
theorem dX10_looks_11 : decode cX10_looks 11 = .ok (.aload_n 0, 1) := dqn_42 (k := 26) qh_cX10_looks rfl rfl
theorem dX10_looks_12 : decode cX10_looks 12 = .ok (.getfield 63, 3) := dqn_180 (k := 23) qh_cX10_looks rfl rfl rfl
theorem dX10_looks_15 : decode cX10_looks 15 = .ok (.aload_n 0, 1) := dqn_42 (k := 22) qh_cX10_looks rfl rfl
theorem dX10_looks_16 : decode cX10_looks 16 = .ok (.getfield 34, 3) := dqn_180 (k := 19) qh_cX10_looks rfl rfl rfl
theorem dX10_looks_19 : decode cX10_looks 19 = .ok (.getfield 118, 3) := dqn_180 (k := 16) qh_cX10_looks rfl rfl rfl
theorem dX10_looks_22 : decode cX10_looks 22 = .ok (.iconst (-1), 1) := dqn_2 (k := 15) qh_cX10_looks rfl rfl
theorem dX10_looks_23 : decode cX10_looks 23 = .ok (.aload_n 0, 1) := dqn_42 (k := 14) qh_cX10_looks rfl rfl
theorem dX10_looks_24 : decode cX10_looks 24 = .ok (.getfield 34, 3) := dqn_180 (k := 11) qh_cX10_looks rfl rfl rfl
theorem dX10_looks_27 : decode cX10_looks 27 = .ok (.getfield 118, 3) := dqn_180 (k := 8) qh_cX10_looks rfl rfl rfl
theorem dX10_looks_30 : decode cX10_looks 30 = .ok (.invokevirtual 341, 3) := dqn_182 (k := 5) qh_cX10_looks rfl rfl rfl
theorem dX10_looks_33 : decode cX10_looks 33 = .ok (.invokevirtual 344, 3) := dqn_182 (k := 2) qh_cX10_looks rfl rfl rfl
theorem dX10_looks_36 : decode cX10_looks 36 = .ok (.iconst 1, 1) := dqn_4 (k := 1) qh_cX10_looks rfl rfl
theorem dX10_looks_37 : decode cX10_looks 37 = .ok (.ireturn, 1) := dqn_172 (k := 0) qh_cX10_looks rfl rfl
set_option maxHeartbeats 4000000 in
set_option maxRecDepth 100000 in
theorem c_Si_mends {d : Nat} {u : Nat → Nat → Int32} {g : Nat → Nat → Int64} {ex : List MC} {pond : Int32} {much : Int32} (hd : 1 ≤ d) (hp0 : Bd 0 9 (u 44 0)) (hp1 : Bd 0 4 (u 44 2)) (hp2 : AB u 45 (-1) 999) (hp3 : Bd 0 999 much) : CT con0 d 0 0 yX4_mends cX4_mends 3 (some .boolean) [.ref 43, .int pond, .int much] (Wd u g ex) (fun r h2 => ∃ (z : Bool) (u2 : Nat → Nat → Int32), r = some (.int (bI z)) ∧ h2 = Wd u2 g ex ∧ AB u2 45 (-1) 999 ∧ (∀ c, c ≠ 43 → c ≠ 45 → u2 c = u c) ∧ (∀ j, j ≠ 2 → u2 43 j = u 43 j)) := by
  refine CT_of (by decide) (Nat.le_of_ble_eq_true rfl) (fun x hq => ?_)
  show J x yX4_mends cX4_mends 3 (some .boolean) d 0 0 (Wd u g ex).length 0 [(0, .ref 43), (1, .int pond), (2, .int much)] [] (Wd u g ex) 0 0
  refine J_aload_n (i := 0) (j := 0) dX4_mends_0 rfl rfl ?_
  refine J_get (C := RX4) (T := TX4) (Z := 4) (ci := 4) (f := 0) dX4_mends_1 inG4 rfl (by decide) k294 wc_43 rfl ?_
  refine J_iload_n (i := 1) (j := 1) dX4_mends_4 rfl rfl ?_
  refine J_iconst (v := 4) dX4_mends_5 (by decide) ?_
  refine J_callV (As := [.int pond, .int 4]) (rest := []) dX4_mends_6 (c_H_of (d := 0) (u := u) (g := g) (ex := ex) (pond := pond) (column := 4) (t := 44) (by decide) (by decide)) hq.n k756 k749 k750 wc_44 rfl rfl k89 k751 np_X1_of (Nat.le_trans (by decide) hd) (by decide) (Nat.le_refl _) (Nat.le_refl _) wlen rfl (Nat.le_of_ble_eq_true rfl) (fun r_ h_ p1 => ?_)
  obtain ⟨rfl, rfl⟩ := p1
  refine J_iload_n (i := 2) (j := 2) dX4_mends_9 rfl rfl ?_
  refine J_icmp_ge (tgt := 15) dX4_mends_10 (by decide) (fun c2 => ?_) (fun c2 => ?_)
  · refine J_aload_n (i := 0) (j := 0) dX4_mends_15 rfl rfl ?_
    refine J_get (C := RX4) (T := TX4) (Z := 4) (ci := 4) (f := 0) dX4_mends_16 inG4 rfl (by decide) k294 wc_43 rfl ?_
    refine J_iload_n (i := 1) (j := 1) dX4_mends_19 rfl rfl ?_
    refine J_iconst (v := 4) dX4_mends_20 (by decide) ?_
    refine J_aload_n (i := 0) (j := 0) dX4_mends_21 rfl rfl ?_
    refine J_get (C := RX4) (T := TX4) (Z := 4) (ci := 4) (f := 0) dX4_mends_22 inG4 rfl (by decide) k294 wc_43 rfl ?_
    refine J_iload_n (i := 1) (j := 1) dX4_mends_25 rfl rfl ?_
    refine J_iconst (v := 4) dX4_mends_26 (by decide) ?_
    refine J_callV (As := [.int pond, .int 4]) (rest := [.int 4, .int pond, .ref 44]) dX4_mends_27 (c_H_of (d := 0) (u := u) (g := g) (ex := ex) (pond := pond) (column := 4) (t := 44) (by decide) (by decide)) hq.n k756 k749 k750 wc_44 rfl rfl k89 k751 np_X1_of (Nat.le_trans (by decide) hd) (by decide) (Nat.le_refl _) (Nat.le_refl _) wlen rfl (Nat.le_of_ble_eq_true rfl) (fun r_ h_ p3 => ?_)
    obtain ⟨rfl, rfl⟩ := p3
    refine J_iload_n (i := 2) (j := 2) dX4_mends_30 rfl rfl ?_
    refine J_isub dX4_mends_31 ?_
    refine J_callV (As := [.int pond, .int 4, .int ((hof u 44 pond (4 : Int32)) - much)]) (rest := []) dX4_mends_32 (c_H_putB (d := 0) (u := u) (g := g) (ex := ex) (pond := pond) (column := 4) (value := ((hof u 44 pond (4 : Int32)) - much)) (t := 44) (by decide) (by decide) hp2 (bd_w (l := (-1)) (h := 999) (bd_subl (h := 999) (bd_le_lo (hof_b hp2 (by decide)) c2 hp3) hp3 c2 (by decide)) (by decide))) hq.n k757 k650 k651 wc_44 rfl rfl k89 k652 np_X1_put (Nat.le_trans (by decide) hd) (by decide) (Nat.le_refl _) (Nat.le_refl _) wlen rfl (Nat.le_of_ble_eq_true rfl) (fun r_ h_ p4 => ?_)
    obtain ⟨u5, rfl, rfl, h6, fr7⟩ := p4
    refine J_aload_n (i := 0) (j := 0) dX4_mends_35 rfl rfl ?_
    refine J_dup dX4_mends_36 rfl ?_
    refine J_get (C := RX4) (T := TX4) (Z := 4) (ci := 4) (f := 2) dX4_mends_37 inG4 rfl (by decide) k298 wc_43 rfl ?_
    refine J_ci (v := u 43 2) (congrFun (fr7 43 (Nat.ne_of_beq_eq_false rfl)) 2) ?_
    refine J_aload_n (i := 0) (j := 0) dX4_mends_40 rfl rfl ?_
    refine J_get (C := RX4) (T := TX4) (Z := 4) (ci := 4) (f := 0) dX4_mends_41 inG4 rfl (by decide) k294 wc_43 rfl ?_
    refine J_getN (C := RX1) (T := TX1) (Z := 6) (ci := 1) (f := 5) dX4_mends_44 inG1 rfl (by decide) k146 wc_44 rfl ?_
    refine J_iconst (v := 0) dX4_mends_47 (by decide) ?_
    refine J_iald dX4_mends_48 wc_48 (vin (bd_c (v := 0) (lo := 0) (hi := 0) (by decide)) (by decide)) ?_
    refine J_ci (v := u 48 0) (congrFun (fr7 48 (Nat.ne_of_beq_eq_false rfl)) 0) ?_
    refine J_iload_n (i := 2) (j := 2) dX4_mends_49 rfl rfl ?_
    refine J_imul dX4_mends_50 ?_
    refine J_iadd dX4_mends_51 ?_
    obtain ⟨u8, e9⟩ : ∃ z, z = ms u5 43 2 ((u 43 2) + ((u 48 0) * much)) := ⟨_, rfl⟩
    refine J_put (C := RX4) (T := TX4) (Z := 4) (ci := 4) (f := 2) (ty0 := tyX4) dX4_mends_52 inG4 rfl tyX4_ok nmX4 (by decide) k298 rfl rfl wc_43 (Nat.le_of_ble_eq_true rfl) (fun _ _ => ⟨rfl, rfl⟩) (ws e9 wk_43 rfl) ?_
    refine J_iconst (v := 1) dX4_mends_55 (by decide) ?_
    exact J_zret hq dX4_mends_56 rfl rfl wlen (Nat.le_refl _) (Nat.le_refl _) ⟨true, u8, rfl, rfl, (ab_c (ms_c e9 (Nat.ne_of_beq_eq_false rfl)) h6), (fun c k0_ k1_ => ((ms_c e9 k0_).trans (fr7 c k1_))), (fun j k2_ => ((ms_i e9 k2_).trans (congrFun (fr7 43 (Nat.ne_of_beq_eq_false rfl)) j)))⟩
  · refine J_iconst (v := 0) dX4_mends_13 (by decide) ?_
    exact J_zret hq dX4_mends_14 rfl rfl wlen (Nat.le_refl _) (Nat.le_refl _) ⟨false, u, rfl, rfl, hp2, (fun c k0_ k1_ => rfl), (fun j k2_ => rfl)⟩
set_option maxHeartbeats 4000000 in
set_option maxRecDepth 100000 in
theorem c_Si_lowers {d : Nat} {u : Nat → Nat → Int32} {g : Nat → Nat → Int64} {ex : List MC} {pond : Int32} {much : Int32} (hd : 1 ≤ d) (hp0 : Bd 0 9 (u 44 0)) (hp1 : Bd 0 4 (u 44 2)) (hp2 : AB u 45 (-1) 999) (hp3 : Bd 0 999 much) : CT con0 d 0 0 yX4_lowers cX4_lowers 3 (some .boolean) [.ref 43, .int pond, .int much] (Wd u g ex) (fun r h2 => ∃ (z : Bool) (u2 : Nat → Nat → Int32), r = some (.int (bI z)) ∧ h2 = Wd u2 g ex ∧ AB u2 45 (-1) 999 ∧ (∀ c, c ≠ 43 → c ≠ 45 → u2 c = u c) ∧ (∀ j, j ≠ 3 → u2 43 j = u 43 j)) := by
  refine CT_of (by decide) (Nat.le_of_ble_eq_true rfl) (fun x hq => ?_)
  show J x yX4_lowers cX4_lowers 3 (some .boolean) d 0 0 (Wd u g ex).length 0 [(0, .ref 43), (1, .int pond), (2, .int much)] [] (Wd u g ex) 0 0
  refine J_aload_n (i := 0) (j := 0) dX4_lowers_0 rfl rfl ?_
  refine J_get (C := RX4) (T := TX4) (Z := 4) (ci := 4) (f := 0) dX4_lowers_1 inG4 rfl (by decide) k294 wc_43 rfl ?_
  refine J_iload_n (i := 1) (j := 1) dX4_lowers_4 rfl rfl ?_
  refine J_iconst (v := 1) dX4_lowers_5 (by decide) ?_
  refine J_callV (As := [.int pond, .int 1]) (rest := []) dX4_lowers_6 (c_H_of (d := 0) (u := u) (g := g) (ex := ex) (pond := pond) (column := 1) (t := 44) (by decide) (by decide)) hq.n k756 k749 k750 wc_44 rfl rfl k89 k751 np_X1_of (Nat.le_trans (by decide) hd) (by decide) (Nat.le_refl _) (Nat.le_refl _) wlen rfl (Nat.le_of_ble_eq_true rfl) (fun r_ h_ p1 => ?_)
  obtain ⟨rfl, rfl⟩ := p1
  refine J_iload_n (i := 2) (j := 2) dX4_lowers_9 rfl rfl ?_
  refine J_icmp_ge (tgt := 15) dX4_lowers_10 (by decide) (fun c2 => ?_) (fun c2 => ?_)
  · refine J_aload_n (i := 0) (j := 0) dX4_lowers_15 rfl rfl ?_
    refine J_get (C := RX4) (T := TX4) (Z := 4) (ci := 4) (f := 0) dX4_lowers_16 inG4 rfl (by decide) k294 wc_43 rfl ?_
    refine J_iload_n (i := 1) (j := 1) dX4_lowers_19 rfl rfl ?_
    refine J_iconst (v := 1) dX4_lowers_20 (by decide) ?_
    refine J_aload_n (i := 0) (j := 0) dX4_lowers_21 rfl rfl ?_
    refine J_get (C := RX4) (T := TX4) (Z := 4) (ci := 4) (f := 0) dX4_lowers_22 inG4 rfl (by decide) k294 wc_43 rfl ?_
    refine J_iload_n (i := 1) (j := 1) dX4_lowers_25 rfl rfl ?_
    refine J_iconst (v := 1) dX4_lowers_26 (by decide) ?_
    refine J_callV (As := [.int pond, .int 1]) (rest := [.int 1, .int pond, .ref 44]) dX4_lowers_27 (c_H_of (d := 0) (u := u) (g := g) (ex := ex) (pond := pond) (column := 1) (t := 44) (by decide) (by decide)) hq.n k756 k749 k750 wc_44 rfl rfl k89 k751 np_X1_of (Nat.le_trans (by decide) hd) (by decide) (Nat.le_refl _) (Nat.le_refl _) wlen rfl (Nat.le_of_ble_eq_true rfl) (fun r_ h_ p3 => ?_)
    obtain ⟨rfl, rfl⟩ := p3
    refine J_iload_n (i := 2) (j := 2) dX4_lowers_30 rfl rfl ?_
    refine J_isub dX4_lowers_31 ?_
    refine J_callV (As := [.int pond, .int 1, .int ((hof u 44 pond (1 : Int32)) - much)]) (rest := []) dX4_lowers_32 (c_H_putB (d := 0) (u := u) (g := g) (ex := ex) (pond := pond) (column := 1) (value := ((hof u 44 pond (1 : Int32)) - much)) (t := 44) (by decide) (by decide) hp2 (bd_w (l := (-1)) (h := 999) (bd_subl (h := 999) (bd_le_lo (hof_b hp2 (by decide)) c2 hp3) hp3 c2 (by decide)) (by decide))) hq.n k757 k650 k651 wc_44 rfl rfl k89 k652 np_X1_put (Nat.le_trans (by decide) hd) (by decide) (Nat.le_refl _) (Nat.le_refl _) wlen rfl (Nat.le_of_ble_eq_true rfl) (fun r_ h_ p4 => ?_)
    obtain ⟨u5, rfl, rfl, h6, fr7⟩ := p4
    refine J_aload_n (i := 0) (j := 0) dX4_lowers_35 rfl rfl ?_
    refine J_dup dX4_lowers_36 rfl ?_
    refine J_get (C := RX4) (T := TX4) (Z := 4) (ci := 4) (f := 3) dX4_lowers_37 inG4 rfl (by decide) k300 wc_43 rfl ?_
    refine J_ci (v := u 43 3) (congrFun (fr7 43 (Nat.ne_of_beq_eq_false rfl)) 3) ?_
    refine J_aload_n (i := 0) (j := 0) dX4_lowers_40 rfl rfl ?_
    refine J_get (C := RX4) (T := TX4) (Z := 4) (ci := 4) (f := 0) dX4_lowers_41 inG4 rfl (by decide) k294 wc_43 rfl ?_
    refine J_iload_n (i := 1) (j := 1) dX4_lowers_44 rfl rfl ?_
    refine J_bipush (v := 7) dX4_lowers_45 (by decide) ?_
    refine J_callV (As := [.int pond, .int 7]) (rest := [.int (u 43 3), .ref 43]) dX4_lowers_47 (c_H_of (d := 0) (u := u5) (g := g) (ex := ex) (pond := pond) (column := 7) (t := 44) (by decide) (by decide)) hq.n k756 k749 k750 wc_44 rfl rfl k89 k751 np_X1_of (Nat.le_trans (by decide) hd) (by decide) (Nat.le_refl _) (Nat.le_refl _) wlen rfl (Nat.le_of_ble_eq_true rfl) (fun r_ h_ p8 => ?_)
    obtain ⟨rfl, rfl⟩ := p8
    refine J_iload_n (i := 2) (j := 2) dX4_lowers_50 rfl rfl ?_
    refine J_imul dX4_lowers_51 ?_
    refine J_iadd dX4_lowers_52 ?_
    obtain ⟨u9, e10⟩ : ∃ z, z = ms u5 43 3 ((u 43 3) + ((hof u5 44 pond (7 : Int32)) * much)) := ⟨_, rfl⟩
    refine J_put (C := RX4) (T := TX4) (Z := 4) (ci := 4) (f := 3) (ty0 := tyX4) dX4_lowers_53 inG4 rfl tyX4_ok nmX4 (by decide) k300 rfl rfl wc_43 (Nat.le_of_ble_eq_true rfl) (fun _ _ => ⟨rfl, rfl⟩) (ws e10 wk_43 rfl) ?_
    refine J_iconst (v := 1) dX4_lowers_56 (by decide) ?_
    exact J_zret hq dX4_lowers_57 rfl rfl wlen (Nat.le_refl _) (Nat.le_refl _) ⟨true, u9, rfl, rfl, (ab_c (ms_c e10 (Nat.ne_of_beq_eq_false rfl)) h6), (fun c k0_ k1_ => ((ms_c e10 k0_).trans (fr7 c k1_))), (fun j k3_ => ((ms_i e10 k3_).trans (congrFun (fr7 43 (Nat.ne_of_beq_eq_false rfl)) j)))⟩
  · refine J_iconst (v := 0) dX4_lowers_13 (by decide) ?_
    exact J_zret hq dX4_lowers_14 rfl rfl wlen (Nat.le_refl _) (Nat.le_refl _) ⟨false, u, rfl, rfl, hp2, (fun c k0_ k1_ => rfl), (fun j k3_ => rfl)⟩
set_option maxHeartbeats 4000000 in
set_option maxRecDepth 100000 in
theorem c_Si_widens {d : Nat} {u : Nat → Nat → Int32} {g : Nat → Nat → Int64} {ex : List MC} {pond : Int32} {much : Int32} (hd : 1 ≤ d) (hp0 : Bd 0 9 (u 44 0)) (hp1 : Bd 0 4 (u 44 2)) (hp2 : AB u 45 (-1) 999) (hp3 : Bd 0 999 much) : CT con0 d 0 0 yX4_widens cX4_widens 3 (some .boolean) [.ref 43, .int pond, .int much] (Wd u g ex) (fun r h2 => ∃ (z : Bool) (u2 : Nat → Nat → Int32), r = some (.int (bI z)) ∧ h2 = Wd u2 g ex ∧ AB u2 45 (-1) 999 ∧ (∀ c, c ≠ 43 → c ≠ 45 → u2 c = u c) ∧ (∀ j, j ≠ 2 → u2 43 j = u 43 j)) := by
  refine CT_of (by decide) (Nat.le_of_ble_eq_true rfl) (fun x hq => ?_)
  show J x yX4_widens cX4_widens 3 (some .boolean) d 0 0 (Wd u g ex).length 0 [(0, .ref 43), (1, .int pond), (2, .int much)] [] (Wd u g ex) 0 0
  refine J_aload_n (i := 0) (j := 0) dX4_widens_0 rfl rfl ?_
  refine J_get (C := RX4) (T := TX4) (Z := 4) (ci := 4) (f := 0) dX4_widens_1 inG4 rfl (by decide) k294 wc_43 rfl ?_
  refine J_iload_n (i := 1) (j := 1) dX4_widens_4 rfl rfl ?_
  refine J_iconst (v := 3) dX4_widens_5 (by decide) ?_
  refine J_callV (As := [.int pond, .int 3]) (rest := []) dX4_widens_6 (c_H_of (d := 0) (u := u) (g := g) (ex := ex) (pond := pond) (column := 3) (t := 44) (by decide) (by decide)) hq.n k756 k749 k750 wc_44 rfl rfl k89 k751 np_X1_of (Nat.le_trans (by decide) hd) (by decide) (Nat.le_refl _) (Nat.le_refl _) wlen rfl (Nat.le_of_ble_eq_true rfl) (fun r_ h_ p1 => ?_)
  obtain ⟨rfl, rfl⟩ := p1
  refine J_iload_n (i := 2) (j := 2) dX4_widens_9 rfl rfl ?_
  refine J_iadd dX4_widens_10 ?_
  refine J_bipush (v := 24) dX4_widens_11 (by decide) ?_
  refine J_icmp_le (tgt := 18) dX4_widens_13 (by decide) (fun c2 => ?_) (fun c2 => ?_)
  · refine J_aload_n (i := 0) (j := 0) dX4_widens_18 rfl rfl ?_
    refine J_get (C := RX4) (T := TX4) (Z := 4) (ci := 4) (f := 0) dX4_widens_19 inG4 rfl (by decide) k294 wc_43 rfl ?_
    refine J_iload_n (i := 1) (j := 1) dX4_widens_22 rfl rfl ?_
    refine J_iconst (v := 3) dX4_widens_23 (by decide) ?_
    refine J_aload_n (i := 0) (j := 0) dX4_widens_24 rfl rfl ?_
    refine J_get (C := RX4) (T := TX4) (Z := 4) (ci := 4) (f := 0) dX4_widens_25 inG4 rfl (by decide) k294 wc_43 rfl ?_
    refine J_iload_n (i := 1) (j := 1) dX4_widens_28 rfl rfl ?_
    refine J_iconst (v := 3) dX4_widens_29 (by decide) ?_
    refine J_callV (As := [.int pond, .int 3]) (rest := [.int 3, .int pond, .ref 44]) dX4_widens_30 (c_H_of (d := 0) (u := u) (g := g) (ex := ex) (pond := pond) (column := 3) (t := 44) (by decide) (by decide)) hq.n k756 k749 k750 wc_44 rfl rfl k89 k751 np_X1_of (Nat.le_trans (by decide) hd) (by decide) (Nat.le_refl _) (Nat.le_refl _) wlen rfl (Nat.le_of_ble_eq_true rfl) (fun r_ h_ p3 => ?_)
    obtain ⟨rfl, rfl⟩ := p3
    refine J_iload_n (i := 2) (j := 2) dX4_widens_33 rfl rfl ?_
    refine J_iadd dX4_widens_34 ?_
    refine J_callV (As := [.int pond, .int 3, .int ((hof u 44 pond (3 : Int32)) + much)]) (rest := []) dX4_widens_35 (c_H_putB (d := 0) (u := u) (g := g) (ex := ex) (pond := pond) (column := 3) (value := ((hof u 44 pond (3 : Int32)) + much)) (t := 44) (by decide) (by decide) hp2 (bd_w (l := (-1)) (h := 999) (bd_le_hi (bd_add (l := (-1)) (h := 1998) (hof_b hp2 (by decide)) hp3 (by decide)) c2 (bd_c (v := 24) (lo := 24) (hi := 24) (by decide))) (by decide))) hq.n k757 k650 k651 wc_44 rfl rfl k89 k652 np_X1_put (Nat.le_trans (by decide) hd) (by decide) (Nat.le_refl _) (Nat.le_refl _) wlen rfl (Nat.le_of_ble_eq_true rfl) (fun r_ h_ p4 => ?_)
    obtain ⟨u5, rfl, rfl, h6, fr7⟩ := p4
    refine J_aload_n (i := 0) (j := 0) dX4_widens_38 rfl rfl ?_
    refine J_dup dX4_widens_39 rfl ?_
    refine J_get (C := RX4) (T := TX4) (Z := 4) (ci := 4) (f := 2) dX4_widens_40 inG4 rfl (by decide) k298 wc_43 rfl ?_
    refine J_ci (v := u 43 2) (congrFun (fr7 43 (Nat.ne_of_beq_eq_false rfl)) 2) ?_
    refine J_aload_n (i := 0) (j := 0) dX4_widens_43 rfl rfl ?_
    refine J_get (C := RX4) (T := TX4) (Z := 4) (ci := 4) (f := 0) dX4_widens_44 inG4 rfl (by decide) k294 wc_43 rfl ?_
    refine J_getN (C := RX1) (T := TX1) (Z := 6) (ci := 1) (f := 5) dX4_widens_47 inG1 rfl (by decide) k146 wc_44 rfl ?_
    refine J_iconst (v := 1) dX4_widens_50 (by decide) ?_
    refine J_iald dX4_widens_51 wc_48 (vin (bd_c (v := 1) (lo := 1) (hi := 1) (by decide)) (by decide)) ?_
    refine J_ci (v := u 48 1) (congrFun (fr7 48 (Nat.ne_of_beq_eq_false rfl)) 1) ?_
    refine J_iload_n (i := 2) (j := 2) dX4_widens_52 rfl rfl ?_
    refine J_imul dX4_widens_53 ?_
    refine J_iadd dX4_widens_54 ?_
    obtain ⟨u8, e9⟩ : ∃ z, z = ms u5 43 2 ((u 43 2) + ((u 48 1) * much)) := ⟨_, rfl⟩
    refine J_put (C := RX4) (T := TX4) (Z := 4) (ci := 4) (f := 2) (ty0 := tyX4) dX4_widens_55 inG4 rfl tyX4_ok nmX4 (by decide) k298 rfl rfl wc_43 (Nat.le_of_ble_eq_true rfl) (fun _ _ => ⟨rfl, rfl⟩) (ws e9 wk_43 rfl) ?_
    refine J_iconst (v := 1) dX4_widens_58 (by decide) ?_
    exact J_zret hq dX4_widens_59 rfl rfl wlen (Nat.le_refl _) (Nat.le_refl _) ⟨true, u8, rfl, rfl, (ab_c (ms_c e9 (Nat.ne_of_beq_eq_false rfl)) h6), (fun c k0_ k1_ => ((ms_c e9 k0_).trans (fr7 c k1_))), (fun j k2_ => ((ms_i e9 k2_).trans (congrFun (fr7 43 (Nat.ne_of_beq_eq_false rfl)) j)))⟩
  · refine J_iconst (v := 0) dX4_widens_16 (by decide) ?_
    exact J_zret hq dX4_widens_17 rfl rfl wlen (Nat.le_refl _) (Nat.le_refl _) ⟨false, u, rfl, rfl, hp2, (fun c k0_ k1_ => rfl), (fun j k2_ => rfl)⟩
set_option maxHeartbeats 4000000 in
set_option maxRecDepth 100000 in
theorem c_Si_leads {d : Nat} {u : Nat → Nat → Int32} {g : Nat → Nat → Int64} {ex : List MC} {pond : Int32} {much : Int32} (hd : 1 ≤ d) (hp0 : Bd 0 9 (u 44 0)) (hp1 : Bd 0 4 (u 44 2)) (hp2 : AB u 45 (-1) 999) (hp3 : Bd 0 999 much) : CT con0 d 0 0 yX4_leads cX4_leads 3 (some .boolean) [.ref 43, .int pond, .int much] (Wd u g ex) (fun r h2 => ∃ (z : Bool) (u2 : Nat → Nat → Int32), r = some (.int (bI z)) ∧ h2 = Wd u2 g ex ∧ AB u2 45 (-1) 999 ∧ (∀ c, c ≠ 43 → c ≠ 45 → u2 c = u c) ∧ (∀ j, j ≠ 2 → u2 43 j = u 43 j)) := by
  refine CT_of (by decide) (Nat.le_of_ble_eq_true rfl) (fun x hq => ?_)
  show J x yX4_leads cX4_leads 3 (some .boolean) d 0 0 (Wd u g ex).length 0 [(0, .ref 43), (1, .int pond), (2, .int much)] [] (Wd u g ex) 0 0
  refine J_aload_n (i := 0) (j := 0) dX4_leads_0 rfl rfl ?_
  refine J_get (C := RX4) (T := TX4) (Z := 4) (ci := 4) (f := 0) dX4_leads_1 inG4 rfl (by decide) k294 wc_43 rfl ?_
  refine J_iload_n (i := 2) (j := 2) dX4_leads_4 rfl rfl ?_
  refine J_callV (As := [.int much]) (rest := []) dX4_leads_5 (c_H_has (d := 0) (u := u) (g := g) (ex := ex) (pond := much) (t := 44) (by decide) (by decide) hp0 hp1) hq.n k740 k741 k742 wc_44 rfl rfl k89 k743 np_X1_has (Nat.le_trans (by decide) hd) (by decide) (Nat.le_refl _) (Nat.le_refl _) wlen rfl (Nat.le_of_ble_eq_true rfl) (fun r_ h_ p1 => ?_)
  obtain ⟨t2, rfl, rfl, h3⟩ := p1
  refine J_ifB_eq (tgt := 16) dX4_leads_8 (by decide) (fun c4 => ?_) (fun c4 => ?_)
  · refine J_iconst (v := 0) dX4_leads_16 (by decide) ?_
    exact J_zret hq dX4_leads_17 rfl rfl wlen (Nat.le_refl _) (Nat.le_refl _) ⟨false, u, rfl, rfl, hp2, (fun c k0_ k1_ => rfl), (fun j k2_ => rfl)⟩
  · refine J_iload_n (i := 2) (j := 2) dX4_leads_11 rfl rfl ?_
    refine J_iload_n (i := 1) (j := 1) dX4_leads_12 rfl rfl ?_
    refine J_icmp_gt (tgt := 18) dX4_leads_13 (by decide) (fun c5 => ?_) (fun c5 => ?_)
    · refine J_aload_n (i := 0) (j := 0) dX4_leads_18 rfl rfl ?_
      refine J_get (C := RX4) (T := TX4) (Z := 4) (ci := 4) (f := 0) dX4_leads_19 inG4 rfl (by decide) k294 wc_43 rfl ?_
      refine J_iload_n (i := 1) (j := 1) dX4_leads_22 rfl rfl ?_
      refine J_bipush (v := 8) dX4_leads_23 (by decide) ?_
      refine J_iload_n (i := 2) (j := 2) dX4_leads_25 rfl rfl ?_
      refine J_callV (As := [.int pond, .int 8, .int much]) (rest := []) dX4_leads_26 (c_H_putB (d := 0) (u := u) (g := g) (ex := ex) (pond := pond) (column := 8) (value := much) (t := 44) (by decide) (by decide) hp2 (bd_w (l := (-1)) (h := 999) (h3 c4) (by decide))) hq.n k757 k650 k651 wc_44 rfl rfl k89 k652 np_X1_put (Nat.le_trans (by decide) hd) (by decide) (Nat.le_refl _) (Nat.le_refl _) wlen rfl (Nat.le_of_ble_eq_true rfl) (fun r_ h_ p6 => ?_)
      obtain ⟨u7, rfl, rfl, h8, fr9⟩ := p6
      refine J_aload_n (i := 0) (j := 0) dX4_leads_29 rfl rfl ?_
      refine J_dup dX4_leads_30 rfl ?_
      refine J_get (C := RX4) (T := TX4) (Z := 4) (ci := 4) (f := 2) dX4_leads_31 inG4 rfl (by decide) k298 wc_43 rfl ?_
      refine J_ci (v := u 43 2) (congrFun (fr9 43 (Nat.ne_of_beq_eq_false rfl)) 2) ?_
      refine J_aload_n (i := 0) (j := 0) dX4_leads_34 rfl rfl ?_
      refine J_get (C := RX4) (T := TX4) (Z := 4) (ci := 4) (f := 0) dX4_leads_35 inG4 rfl (by decide) k294 wc_43 rfl ?_
      refine J_getN (C := RX1) (T := TX1) (Z := 6) (ci := 1) (f := 5) dX4_leads_38 inG1 rfl (by decide) k146 wc_44 rfl ?_
      refine J_iconst (v := 2) dX4_leads_41 (by decide) ?_
      refine J_iald dX4_leads_42 wc_48 (vin (bd_c (v := 2) (lo := 2) (hi := 2) (by decide)) (by decide)) ?_
      refine J_ci (v := u 48 2) (congrFun (fr9 48 (Nat.ne_of_beq_eq_false rfl)) 2) ?_
      refine J_iadd dX4_leads_43 ?_
      obtain ⟨u10, e11⟩ : ∃ z, z = ms u7 43 2 ((u 43 2) + (u 48 2)) := ⟨_, rfl⟩
      refine J_put (C := RX4) (T := TX4) (Z := 4) (ci := 4) (f := 2) (ty0 := tyX4) dX4_leads_44 inG4 rfl tyX4_ok nmX4 (by decide) k298 rfl rfl wc_43 (Nat.le_of_ble_eq_true rfl) (fun _ _ => ⟨rfl, rfl⟩) (ws e11 wk_43 rfl) ?_
      refine J_iconst (v := 1) dX4_leads_47 (by decide) ?_
      exact J_zret hq dX4_leads_48 rfl rfl wlen (Nat.le_refl _) (Nat.le_refl _) ⟨true, u10, rfl, rfl, (ab_c (ms_c e11 (Nat.ne_of_beq_eq_false rfl)) h8), (fun c k0_ k1_ => ((ms_c e11 k0_).trans (fr9 c k1_))), (fun j k2_ => ((ms_i e11 k2_).trans (congrFun (fr9 43 (Nat.ne_of_beq_eq_false rfl)) j)))⟩
    · refine J_iconst (v := 0) dX4_leads_16 (by decide) ?_
      exact J_zret hq dX4_leads_17 rfl rfl wlen (Nat.le_refl _) (Nat.le_refl _) ⟨false, u, rfl, rfl, hp2, (fun c k0_ k1_ => rfl), (fun j k2_ => rfl)⟩
set_option maxHeartbeats 4000000 in
set_option maxRecDepth 100000 in
theorem c_Si_builds {d : Nat} {u : Nat → Nat → Int32} {g : Nat → Nat → Int64} {ex : List MC} {kind : Int32} {pond : Int32} {much : Int32} (hd : 2 ≤ d) (hp0 : Bd 0 9 (u 44 0)) (hp1 : Bd 0 4 (u 44 2)) (hp2 : AB u 45 (-1) 999) (hp3 : (kind = 4 ∨ Bd 0 999 much)) : CT con0 d 0 0 yX4_builds cX4_builds 4 (some .boolean) [.ref 43, .int kind, .int pond, .int much] (Wd u g ex) (fun r h2 => ∃ (z : Bool) (u2 : Nat → Nat → Int32), r = some (.int (bI z)) ∧ h2 = Wd u2 g ex ∧ AB u2 45 (-1) 999 ∧ (∀ c, c ≠ 43 → c ≠ 45 → u2 c = u c) ∧ (∀ j, j ≠ 2 → j ≠ 3 → u2 43 j = u 43 j)) := by
  refine CT_of (by decide) (Nat.le_of_ble_eq_true rfl) (fun x hq => ?_)
  show J x yX4_builds cX4_builds 4 (some .boolean) d 0 0 (Wd u g ex).length 0 [(0, .ref 43), (1, .int kind), (2, .int pond), (3, .int much)] [] (Wd u g ex) 0 0
  rcases hp3 with hk | hk
  · refine J_aload_n (i := 0) (j := 0) dX4_builds_0 rfl rfl ?_
    refine J_get (C := RX4) (T := TX4) (Z := 4) (ci := 4) (f := 0) dX4_builds_1 inG4 rfl (by decide) k294 wc_43 rfl ?_
    refine J_iload_n (i := 2) (j := 2) dX4_builds_4 rfl rfl ?_
    refine J_callV (As := [.int pond]) (rest := []) dX4_builds_5 (c_H_has (d := 0) (u := u) (g := g) (ex := ex) (pond := pond) (t := 44) (by decide) (by decide) hp0 hp1) hq.n k740 k741 k742 wc_44 rfl rfl k89 k743 np_X1_has (Nat.le_trans (by decide) hd) (by decide) (Nat.le_refl _) (Nat.le_refl _) wlen rfl (Nat.le_of_ble_eq_true rfl) (fun r_ h_ p1 => ?_)
    obtain ⟨t2, rfl, rfl, h3⟩ := p1
    refine J_ifB_eq (tgt := 22) dX4_builds_8 (by decide) (fun c4 => ?_) (fun c4 => ?_)
    · refine J_iconst (v := 0) dX4_builds_22 (by decide) ?_
      exact J_zret hq dX4_builds_23 rfl rfl wlen (Nat.le_refl _) (Nat.le_refl _) ⟨false, u, rfl, rfl, hp2, (fun c k0_ k1_ => rfl), (fun j k2_ k3_ => rfl)⟩
    · refine J_aload_n (i := 0) (j := 0) dX4_builds_11 rfl rfl ?_
      refine J_get (C := RX4) (T := TX4) (Z := 4) (ci := 4) (f := 0) dX4_builds_12 inG4 rfl (by decide) k294 wc_43 rfl ?_
      refine J_iload_n (i := 2) (j := 2) dX4_builds_15 rfl rfl ?_
      refine J_callV (As := [.int pond]) (rest := []) dX4_builds_16 (c_H_isOut (d := 1) (u := u) (g := g) (ex := ex) (pond := pond) (t := 44) (by decide) (by decide)) hq.n k744 k745 k746 wc_44 rfl rfl k89 k747 np_X1_isOut (Nat.le_trans (by decide) hd) (by decide) (Nat.le_refl _) (Nat.le_refl _) wlen rfl (Nat.le_of_ble_eq_true rfl) (fun r_ h_ p5 => ?_)
      obtain ⟨t6, rfl, rfl⟩ := p5
      refine J_ifB_eq (tgt := 24) dX4_builds_19 (by decide) (fun c7 => ?_) (fun c7 => ?_)
      · refine J_iload_n (i := 1) (j := 1) dX4_builds_24 rfl rfl ?_
        by_cases c8 : kind = 0
        · exact (bd_neq c8 (bd_r hk (bd_c (v := 4) (lo := 4) (hi := 4) (by decide))) (bd_c (v := 0) (lo := 0) (hi := 0) (by decide)) (by decide)).elim
        by_cases c9 : kind = 1
        · exact (bd_neq c9 (bd_r hk (bd_c (v := 4) (lo := 4) (hi := 4) (by decide))) (bd_c (v := 1) (lo := 1) (hi := 1) (by decide)) (by decide)).elim
        by_cases c10 : kind = 2
        · exact (bd_neq c10 (bd_r hk (bd_c (v := 4) (lo := 4) (hi := 4) (by decide))) (bd_c (v := 2) (lo := 2) (hi := 2) (by decide)) (by decide)).elim
        by_cases c11 : kind = 3
        · exact (bd_neq c11 (bd_r hk (bd_c (v := 4) (lo := 4) (hi := 4) (by decide))) (bd_c (v := 3) (lo := 3) (hi := 3) (by decide)) (by decide)).elim
        · refine J_tableOut (tgt := 84) dX4_builds_25 (by have e0 := int_ne (k := 0) c8 (by decide); have e1 := int_ne (k := 1) c9 (by decide); have e2 := int_ne (k := 2) c10 (by decide); have e3 := int_ne (k := 3) c11 (by decide); omega) (by decide) ?_
          refine J_aload_n (i := 0) (j := 0) dX4_builds_84 rfl rfl ?_
          refine J_dup dX4_builds_85 rfl ?_
          refine J_get (C := RX4) (T := TX4) (Z := 4) (ci := 4) (f := 3) dX4_builds_86 inG4 rfl (by decide) k300 wc_43 rfl ?_
          refine J_aload_n (i := 0) (j := 0) dX4_builds_89 rfl rfl ?_
          refine J_get (C := RX4) (T := TX4) (Z := 4) (ci := 4) (f := 0) dX4_builds_90 inG4 rfl (by decide) k294 wc_43 rfl ?_
          refine J_iload_n (i := 2) (j := 2) dX4_builds_93 rfl rfl ?_
          refine J_bipush (v := 7) dX4_builds_94 (by decide) ?_
          refine J_callV (As := [.int pond, .int 7]) (rest := [.int (u 43 3), .ref 43]) dX4_builds_96 (c_H_of (d := 0) (u := u) (g := g) (ex := ex) (pond := pond) (column := 7) (t := 44) (by decide) (by decide)) hq.n k756 k749 k750 wc_44 rfl rfl k89 k751 np_X1_of (Nat.le_trans (by decide) hd) (by decide) (Nat.le_refl _) (Nat.le_refl _) wlen rfl (Nat.le_of_ble_eq_true rfl) (fun r_ h_ p12 => ?_)
          obtain ⟨rfl, rfl⟩ := p12
          refine J_aload_n (i := 0) (j := 0) dX4_builds_99 rfl rfl ?_
          refine J_get (C := RX4) (T := TX4) (Z := 4) (ci := 4) (f := 0) dX4_builds_100 inG4 rfl (by decide) k294 wc_43 rfl ?_
          refine J_iload_n (i := 2) (j := 2) dX4_builds_103 rfl rfl ?_
          refine J_iconst (v := 1) dX4_builds_104 (by decide) ?_
          refine J_callV (As := [.int pond, .int 1]) (rest := [.int (hof u 44 pond (7 : Int32)), .int (u 43 3), .ref 43]) dX4_builds_105 (c_H_of (d := 0) (u := u) (g := g) (ex := ex) (pond := pond) (column := 1) (t := 44) (by decide) (by decide)) hq.n k756 k749 k750 wc_44 rfl rfl k89 k751 np_X1_of (Nat.le_trans (by decide) hd) (by decide) (Nat.le_refl _) (Nat.le_refl _) wlen rfl (Nat.le_of_ble_eq_true rfl) (fun r_ h_ p13 => ?_)
          obtain ⟨rfl, rfl⟩ := p13
          refine J_imul dX4_builds_108 ?_
          refine J_iadd dX4_builds_109 ?_
          obtain ⟨u14, e15⟩ : ∃ z, z = ms u 43 3 ((u 43 3) + ((hof u 44 pond (7 : Int32)) * (hof u 44 pond (1 : Int32)))) := ⟨_, rfl⟩
          refine J_put (C := RX4) (T := TX4) (Z := 4) (ci := 4) (f := 3) (ty0 := tyX4) dX4_builds_110 inG4 rfl tyX4_ok nmX4 (by decide) k300 rfl rfl wc_43 (Nat.le_of_ble_eq_true rfl) (fun _ _ => ⟨rfl, rfl⟩) (ws e15 wk_43 rfl) ?_
          refine J_aload_n (i := 0) (j := 0) dX4_builds_113 rfl rfl ?_
          refine J_get (C := RX4) (T := TX4) (Z := 4) (ci := 4) (f := 0) dX4_builds_114 inG4 rfl (by decide) k294 wc_43 rfl ?_
          refine J_iload_n (i := 2) (j := 2) dX4_builds_117 rfl rfl ?_
          refine J_callV (As := [.int pond]) (rest := []) dX4_builds_118 (c_H_takeOutB (d := 1) (u := u14) (g := g) (ex := ex) (pond := pond) (t := 44) (by decide) (by decide) (ab_c (ms_c e15 (Nat.ne_of_beq_eq_false rfl)) hp2)) hq.n k770 k771 k772 wc_44 rfl rfl k89 k773 np_X1_takeOut (Nat.le_trans (by decide) hd) (by decide) (Nat.le_refl _) (Nat.le_refl _) wlen rfl (Nat.le_of_ble_eq_true rfl) (fun r_ h_ p16 => ?_)
          obtain ⟨u17, rfl, rfl, h18, fr19⟩ := p16
          refine J_iconst (v := 1) dX4_builds_121 (by decide) ?_
          exact J_zret hq dX4_builds_122 rfl rfl wlen (Nat.le_refl _) (Nat.le_refl _) ⟨true, u17, rfl, rfl, h18, (fun c k0_ k1_ => ((fr19 c k1_).trans (ms_c e15 k0_))), (fun j k2_ k3_ => ((congrFun (fr19 43 (Nat.ne_of_beq_eq_false rfl)) j).trans (ms_i e15 k3_)))⟩
      · refine J_iconst (v := 0) dX4_builds_22 (by decide) ?_
        exact J_zret hq dX4_builds_23 rfl rfl wlen (Nat.le_refl _) (Nat.le_refl _) ⟨false, u, rfl, rfl, hp2, (fun c k0_ k1_ => rfl), (fun j k2_ k3_ => rfl)⟩
  · refine J_aload_n (i := 0) (j := 0) dX4_builds_0 rfl rfl ?_
    refine J_get (C := RX4) (T := TX4) (Z := 4) (ci := 4) (f := 0) dX4_builds_1 inG4 rfl (by decide) k294 wc_43 rfl ?_
    refine J_iload_n (i := 2) (j := 2) dX4_builds_4 rfl rfl ?_
    refine J_callV (As := [.int pond]) (rest := []) dX4_builds_5 (c_H_has (d := 0) (u := u) (g := g) (ex := ex) (pond := pond) (t := 44) (by decide) (by decide) hp0 hp1) hq.n k740 k741 k742 wc_44 rfl rfl k89 k743 np_X1_has (Nat.le_trans (by decide) hd) (by decide) (Nat.le_refl _) (Nat.le_refl _) wlen rfl (Nat.le_of_ble_eq_true rfl) (fun r_ h_ p20 => ?_)
    obtain ⟨t21, rfl, rfl, h22⟩ := p20
    refine J_ifB_eq (tgt := 22) dX4_builds_8 (by decide) (fun c23 => ?_) (fun c23 => ?_)
    · refine J_iconst (v := 0) dX4_builds_22 (by decide) ?_
      exact J_zret hq dX4_builds_23 rfl rfl wlen (Nat.le_refl _) (Nat.le_refl _) ⟨false, u, rfl, rfl, hp2, (fun c k0_ k1_ => rfl), (fun j k2_ k3_ => rfl)⟩
    · refine J_aload_n (i := 0) (j := 0) dX4_builds_11 rfl rfl ?_
      refine J_get (C := RX4) (T := TX4) (Z := 4) (ci := 4) (f := 0) dX4_builds_12 inG4 rfl (by decide) k294 wc_43 rfl ?_
      refine J_iload_n (i := 2) (j := 2) dX4_builds_15 rfl rfl ?_
      refine J_callV (As := [.int pond]) (rest := []) dX4_builds_16 (c_H_isOut (d := 1) (u := u) (g := g) (ex := ex) (pond := pond) (t := 44) (by decide) (by decide)) hq.n k744 k745 k746 wc_44 rfl rfl k89 k747 np_X1_isOut (Nat.le_trans (by decide) hd) (by decide) (Nat.le_refl _) (Nat.le_refl _) wlen rfl (Nat.le_of_ble_eq_true rfl) (fun r_ h_ p24 => ?_)
      obtain ⟨t25, rfl, rfl⟩ := p24
      refine J_ifB_eq (tgt := 24) dX4_builds_19 (by decide) (fun c26 => ?_) (fun c26 => ?_)
      · refine J_iload_n (i := 1) (j := 1) dX4_builds_24 rfl rfl ?_
        by_cases c27 : kind = 0
        · refine J_ci (v := 0) c27 ?_
          refine J_tableIn (tgt := 56) (off := 31) dX4_builds_25 (by decide) (by decide) (by decide) (by decide) ?_
          refine J_aload_n (i := 0) (j := 0) dX4_builds_56 rfl rfl ?_
          refine J_iload_n (i := 2) (j := 2) dX4_builds_57 rfl rfl ?_
          refine J_iload_n (i := 3) (j := 3) dX4_builds_58 rfl rfl ?_
          refine J_callV (As := [.int pond, .int much]) (rest := []) dX4_builds_59 (c_Si_mends (d := 1) (u := u) (g := g) (ex := ex) (pond := pond) (much := much)  (by decide) hp0 hp1 hp2 hk) hq.n k752 k754 k14 wc_43 rfl rfl k93 k755 np_X4_mends (Nat.le_trans (by decide) hd) (by decide) (Nat.le_refl _) (Nat.le_refl _) wlen rfl (Nat.le_of_ble_eq_true rfl) (fun r_ h_ p28 => ?_)
          obtain ⟨t29, u30, rfl, rfl, h31, fr32, fc33⟩ := p28
          exact J_zret hq dX4_builds_62 rfl (bI_n _) wlen (Nat.le_refl _) (Nat.le_refl _) ⟨t29, u30, rfl, rfl, h31, (fun c k0_ k1_ => (fr32 c k0_ k1_)), (fun j k2_ k3_ => (fc33 j k2_))⟩
        by_cases c34 : kind = 1
        · refine J_ci (v := 1) c34 ?_
          refine J_tableIn (tgt := 63) (off := 38) dX4_builds_25 (by decide) (by decide) (by decide) (by decide) ?_
          refine J_aload_n (i := 0) (j := 0) dX4_builds_63 rfl rfl ?_
          refine J_iload_n (i := 2) (j := 2) dX4_builds_64 rfl rfl ?_
          refine J_iload_n (i := 3) (j := 3) dX4_builds_65 rfl rfl ?_
          refine J_callV (As := [.int pond, .int much]) (rest := []) dX4_builds_66 (c_Si_lowers (d := 1) (u := u) (g := g) (ex := ex) (pond := pond) (much := much)  (by decide) hp0 hp1 hp2 hk) hq.n k758 k760 k15 wc_43 rfl rfl k93 k761 np_X4_lowers (Nat.le_trans (by decide) hd) (by decide) (Nat.le_refl _) (Nat.le_refl _) wlen rfl (Nat.le_of_ble_eq_true rfl) (fun r_ h_ p35 => ?_)
          obtain ⟨t36, u37, rfl, rfl, h38, fr39, fc40⟩ := p35
          exact J_zret hq dX4_builds_69 rfl (bI_n _) wlen (Nat.le_refl _) (Nat.le_refl _) ⟨t36, u37, rfl, rfl, h38, (fun c k0_ k1_ => (fr39 c k0_ k1_)), (fun j k2_ k3_ => (fc40 j k3_))⟩
        by_cases c41 : kind = 2
        · refine J_ci (v := 2) c41 ?_
          refine J_tableIn (tgt := 70) (off := 45) dX4_builds_25 (by decide) (by decide) (by decide) (by decide) ?_
          refine J_aload_n (i := 0) (j := 0) dX4_builds_70 rfl rfl ?_
          refine J_iload_n (i := 2) (j := 2) dX4_builds_71 rfl rfl ?_
          refine J_iload_n (i := 3) (j := 3) dX4_builds_72 rfl rfl ?_
          refine J_callV (As := [.int pond, .int much]) (rest := []) dX4_builds_73 (c_Si_widens (d := 1) (u := u) (g := g) (ex := ex) (pond := pond) (much := much)  (by decide) hp0 hp1 hp2 hk) hq.n k762 k764 k16 wc_43 rfl rfl k93 k765 np_X4_widens (Nat.le_trans (by decide) hd) (by decide) (Nat.le_refl _) (Nat.le_refl _) wlen rfl (Nat.le_of_ble_eq_true rfl) (fun r_ h_ p42 => ?_)
          obtain ⟨t43, u44, rfl, rfl, h45, fr46, fc47⟩ := p42
          exact J_zret hq dX4_builds_76 rfl (bI_n _) wlen (Nat.le_refl _) (Nat.le_refl _) ⟨t43, u44, rfl, rfl, h45, (fun c k0_ k1_ => (fr46 c k0_ k1_)), (fun j k2_ k3_ => (fc47 j k2_))⟩
        by_cases c48 : kind = 3
        · refine J_ci (v := 3) c48 ?_
          refine J_tableIn (tgt := 77) (off := 52) dX4_builds_25 (by decide) (by decide) (by decide) (by decide) ?_
          refine J_aload_n (i := 0) (j := 0) dX4_builds_77 rfl rfl ?_
          refine J_iload_n (i := 2) (j := 2) dX4_builds_78 rfl rfl ?_
          refine J_iload_n (i := 3) (j := 3) dX4_builds_79 rfl rfl ?_
          refine J_callV (As := [.int pond, .int much]) (rest := []) dX4_builds_80 (c_Si_leads (d := 1) (u := u) (g := g) (ex := ex) (pond := pond) (much := much)  (by decide) hp0 hp1 hp2 hk) hq.n k766 k768 k17 wc_43 rfl rfl k93 k769 np_X4_leads (Nat.le_trans (by decide) hd) (by decide) (Nat.le_refl _) (Nat.le_refl _) wlen rfl (Nat.le_of_ble_eq_true rfl) (fun r_ h_ p49 => ?_)
          obtain ⟨t50, u51, rfl, rfl, h52, fr53, fc54⟩ := p49
          exact J_zret hq dX4_builds_83 rfl (bI_n _) wlen (Nat.le_refl _) (Nat.le_refl _) ⟨t50, u51, rfl, rfl, h52, (fun c k0_ k1_ => (fr53 c k0_ k1_)), (fun j k2_ k3_ => (fc54 j k2_))⟩
        · refine J_tableOut (tgt := 84) dX4_builds_25 (by have e0 := int_ne (k := 0) c27 (by decide); have e1 := int_ne (k := 1) c34 (by decide); have e2 := int_ne (k := 2) c41 (by decide); have e3 := int_ne (k := 3) c48 (by decide); omega) (by decide) ?_
          refine J_aload_n (i := 0) (j := 0) dX4_builds_84 rfl rfl ?_
          refine J_dup dX4_builds_85 rfl ?_
          refine J_get (C := RX4) (T := TX4) (Z := 4) (ci := 4) (f := 3) dX4_builds_86 inG4 rfl (by decide) k300 wc_43 rfl ?_
          refine J_aload_n (i := 0) (j := 0) dX4_builds_89 rfl rfl ?_
          refine J_get (C := RX4) (T := TX4) (Z := 4) (ci := 4) (f := 0) dX4_builds_90 inG4 rfl (by decide) k294 wc_43 rfl ?_
          refine J_iload_n (i := 2) (j := 2) dX4_builds_93 rfl rfl ?_
          refine J_bipush (v := 7) dX4_builds_94 (by decide) ?_
          refine J_callV (As := [.int pond, .int 7]) (rest := [.int (u 43 3), .ref 43]) dX4_builds_96 (c_H_of (d := 0) (u := u) (g := g) (ex := ex) (pond := pond) (column := 7) (t := 44) (by decide) (by decide)) hq.n k756 k749 k750 wc_44 rfl rfl k89 k751 np_X1_of (Nat.le_trans (by decide) hd) (by decide) (Nat.le_refl _) (Nat.le_refl _) wlen rfl (Nat.le_of_ble_eq_true rfl) (fun r_ h_ p55 => ?_)
          obtain ⟨rfl, rfl⟩ := p55
          refine J_aload_n (i := 0) (j := 0) dX4_builds_99 rfl rfl ?_
          refine J_get (C := RX4) (T := TX4) (Z := 4) (ci := 4) (f := 0) dX4_builds_100 inG4 rfl (by decide) k294 wc_43 rfl ?_
          refine J_iload_n (i := 2) (j := 2) dX4_builds_103 rfl rfl ?_
          refine J_iconst (v := 1) dX4_builds_104 (by decide) ?_
          refine J_callV (As := [.int pond, .int 1]) (rest := [.int (hof u 44 pond (7 : Int32)), .int (u 43 3), .ref 43]) dX4_builds_105 (c_H_of (d := 0) (u := u) (g := g) (ex := ex) (pond := pond) (column := 1) (t := 44) (by decide) (by decide)) hq.n k756 k749 k750 wc_44 rfl rfl k89 k751 np_X1_of (Nat.le_trans (by decide) hd) (by decide) (Nat.le_refl _) (Nat.le_refl _) wlen rfl (Nat.le_of_ble_eq_true rfl) (fun r_ h_ p56 => ?_)
          obtain ⟨rfl, rfl⟩ := p56
          refine J_imul dX4_builds_108 ?_
          refine J_iadd dX4_builds_109 ?_
          obtain ⟨u57, e58⟩ : ∃ z, z = ms u 43 3 ((u 43 3) + ((hof u 44 pond (7 : Int32)) * (hof u 44 pond (1 : Int32)))) := ⟨_, rfl⟩
          refine J_put (C := RX4) (T := TX4) (Z := 4) (ci := 4) (f := 3) (ty0 := tyX4) dX4_builds_110 inG4 rfl tyX4_ok nmX4 (by decide) k300 rfl rfl wc_43 (Nat.le_of_ble_eq_true rfl) (fun _ _ => ⟨rfl, rfl⟩) (ws e58 wk_43 rfl) ?_
          refine J_aload_n (i := 0) (j := 0) dX4_builds_113 rfl rfl ?_
          refine J_get (C := RX4) (T := TX4) (Z := 4) (ci := 4) (f := 0) dX4_builds_114 inG4 rfl (by decide) k294 wc_43 rfl ?_
          refine J_iload_n (i := 2) (j := 2) dX4_builds_117 rfl rfl ?_
          refine J_callV (As := [.int pond]) (rest := []) dX4_builds_118 (c_H_takeOutB (d := 1) (u := u57) (g := g) (ex := ex) (pond := pond) (t := 44) (by decide) (by decide) (ab_c (ms_c e58 (Nat.ne_of_beq_eq_false rfl)) hp2)) hq.n k770 k771 k772 wc_44 rfl rfl k89 k773 np_X1_takeOut (Nat.le_trans (by decide) hd) (by decide) (Nat.le_refl _) (Nat.le_refl _) wlen rfl (Nat.le_of_ble_eq_true rfl) (fun r_ h_ p59 => ?_)
          obtain ⟨u60, rfl, rfl, h61, fr62⟩ := p59
          refine J_iconst (v := 1) dX4_builds_121 (by decide) ?_
          exact J_zret hq dX4_builds_122 rfl rfl wlen (Nat.le_refl _) (Nat.le_refl _) ⟨true, u60, rfl, rfl, h61, (fun c k0_ k1_ => ((fr62 c k1_).trans (ms_c e58 k0_))), (fun j k2_ k3_ => ((congrFun (fr62 43 (Nat.ne_of_beq_eq_false rfl)) j).trans (ms_i e58 k3_)))⟩
      · refine J_iconst (v := 0) dX4_builds_22 (by decide) ?_
        exact J_zret hq dX4_builds_23 rfl rfl wlen (Nat.le_refl _) (Nat.le_refl _) ⟨false, u, rfl, rfl, hp2, (fun c k0_ k1_ => rfl), (fun j k2_ k3_ => rfl)⟩
set_option maxHeartbeats 4000000 in
set_option maxRecDepth 100000 in
theorem c_Si_lay_5_15 {d : Nat} {u : Nat → Nat → Int32} {g : Nat → Nat → Int64} {ex : List MC}  (hd : 3 ≤ d) (hp0 : Bd 0 9 (u 5 0)) (hp1 : Bd 0 4 (u 5 2)) (hp2 : Bd 0 12 (u 15 0)) (hp3 : AB u 6 (-1) 999) (hp4 : AB u 45 (-1) 999) (hp5 : (KM u 15)) : CT con0 d 0 0 yX4_lay cX4_lay 4 none [.ref 43, .ref 5, .ref 15] (Wd u g ex) (fun r h2 => ∃ (u2 : Nat → Nat → Int32), r = none ∧ h2 = Wd u2 g ex ∧ Bd 0 9 (u2 44 0) ∧ Bd 0 4 (u2 44 2) ∧ AB u2 45 (-1) 999 ∧ (∀ c, nin c [(43, 48)] = true → u2 c = u c) ∧ (∀ j, j ≠ 1 → j ≠ 2 → j ≠ 3 → u2 43 j = u 43 j) ∧ (∀ j, j ≠ 0 → j ≠ 2 → u2 44 j = u 44 j)) := by
  refine CT_of (by decide) (Nat.le_of_ble_eq_true rfl) (fun x hq => ?_)
  show J x yX4_lay cX4_lay 4 none d 0 0 (Wd u g ex).length 0 [(0, .ref 43), (1, .ref 5), (2, .ref 15)] [] (Wd u g ex) 0 0
  refine J_aload_n (i := 0) (j := 0) dX4_lay_0 rfl rfl ?_
  refine J_get (C := RX4) (T := TX4) (Z := 4) (ci := 4) (f := 0) dX4_lay_1 inG4 rfl (by decide) k294 wc_43 rfl ?_
  refine J_aload_n (i := 1) (j := 1) dX4_lay_4 rfl rfl ?_
  refine J_callV (As := [.ref 5]) (rest := []) dX4_lay_5 (c_H_copyB (d := 1) (u := u) (g := g) (ex := ex)  (t := 44) (f := 5) (by decide) (by decide) (by decide) (Nat.ne_of_beq_eq_false rfl) hp0 hp1 hp4 hp3) hq.n k735 k681 k682 wc_44 rfl rfl k89 k683 np_X1_copy (Nat.le_trans (by decide) hd) (by decide) (Nat.le_refl _) (Nat.le_refl _) wlen rfl (Nat.le_of_ble_eq_true rfl) (fun r_ h_ p1 => ?_)
  obtain ⟨u2, rfl, rfl, h3, h4, h5, fr6, fc7⟩ := p1
  refine J_aload_n (i := 0) (j := 0) dX4_lay_8 rfl rfl ?_
  refine J_iconst (v := 0) dX4_lay_9 (by decide) ?_
  obtain ⟨u8, e9⟩ : ∃ z, z = ms u2 43 1 0 := ⟨_, rfl⟩
  refine J_put (C := RX4) (T := TX4) (Z := 4) (ci := 4) (f := 1) (ty0 := tyX4) dX4_lay_10 inG4 rfl tyX4_ok nmX4 (by decide) k296 rfl rfl wc_43 (Nat.le_of_ble_eq_true rfl) (fun _ _ => ⟨rfl, rfl⟩) (ws e9 wk_43 rfl) ?_
  refine J_aload_n (i := 0) (j := 0) dX4_lay_13 rfl rfl ?_
  refine J_iconst (v := 0) dX4_lay_14 (by decide) ?_
  obtain ⟨u10, e11⟩ : ∃ z, z = ms u8 43 2 0 := ⟨_, rfl⟩
  refine J_put (C := RX4) (T := TX4) (Z := 4) (ci := 4) (f := 2) (ty0 := tyX4) dX4_lay_15 inG4 rfl tyX4_ok nmX4 (by decide) k298 rfl rfl wc_43 (Nat.le_of_ble_eq_true rfl) (fun _ _ => ⟨rfl, rfl⟩) (ws e11 wk_43 rfl) ?_
  refine J_aload_n (i := 0) (j := 0) dX4_lay_18 rfl rfl ?_
  refine J_iconst (v := 0) dX4_lay_19 (by decide) ?_
  obtain ⟨u12, e13⟩ : ∃ z, z = ms u10 43 3 0 := ⟨_, rfl⟩
  refine J_put (C := RX4) (T := TX4) (Z := 4) (ci := 4) (f := 3) (ty0 := tyX4) dX4_lay_20 inG4 rfl tyX4_ok nmX4 (by decide) k300 rfl rfl wc_43 (Nat.le_of_ble_eq_true rfl) (fun _ _ => ⟨rfl, rfl⟩) (ws e13 wk_43 rfl) ?_
  refine J_iconst (v := 0) dX4_lay_23 (by decide) ?_
  refine J_istore_n (i := 3) (lw := [(3, .int 0), (0, .ref 43), (1, .ref 5), (2, .ref 15)]) dX4_lay_24 rfl (by decide) rfl ?_
  have lp231 : ∀ (n232 : Nat) (w213 : Int32) (u214 : Nat → Nat → Int32), Bd 0 12 w213 → (∀ c, c ≠ 43 → c ≠ 45 → u214 c = u12 c) → (∀ j, j ≠ 1 → j ≠ 2 → j ≠ 3 → u214 43 j = u12 43 j) → AB u214 45 (-1) 999 → (12 - w213.toInt).toNat < n232 → J x yX4_lay cX4_lay 4 none d 0 0 (Wd u g ex).length 25 [(0, .ref 43), (2, .ref 15), (3, .int w213)] [] (Wd u214 g ex) 0 0 := by
    intro n232
    induction n232 with
    | zero => intro w213 u214 bw213 fr215 fc216 ab217 hm234; exact absurd hm234 (Nat.not_lt_zero _)
    | succ n232 ih233 =>
      intro w213 u214 bw213 fr215 fc216 ab217 hm234
      refine J_iload_n (i := 3) (j := 2) dX4_lay_25 rfl rfl ?_
      refine J_aload_n (i := 2) (j := 1) dX4_lay_26 rfl rfl ?_
      refine J_getN (C := RX8) (T := TX8) (Z := 4) (ci := 8) (f := 0) dX4_lay_27 inG8 rfl (by decide) k169 wc_15 rfl ?_
      refine J_ci (v := u 15 0) ((congrFun (fr215 15 (Nat.ne_of_beq_eq_false rfl) (Nat.ne_of_beq_eq_false rfl)) 0).trans ((congrFun (ms_c e13 (Nat.ne_of_beq_eq_false rfl)) 0).trans ((congrFun (ms_c e11 (Nat.ne_of_beq_eq_false rfl)) 0).trans ((congrFun (ms_c e9 (Nat.ne_of_beq_eq_false rfl)) 0).trans (congrFun (fr6 15 (Nat.ne_of_beq_eq_false rfl) (Nat.ne_of_beq_eq_false rfl) (Nat.ne_of_beq_eq_false rfl) (Nat.ne_of_beq_eq_false rfl) (Nat.ne_of_beq_eq_false rfl)) 0))))) ?_
      refine J_icmp_ge (tgt := 75) dX4_lay_30 (by decide) (fun c235 => ?_) (fun c235 => ?_)
      · exact J_vret hq dX4_lay_75 rfl wlen (Nat.le_refl _) (Nat.le_refl _) ⟨u214, rfl, rfl, (bd_r ((congrFun (fr215 44 (Nat.ne_of_beq_eq_false rfl) (Nat.ne_of_beq_eq_false rfl)) 0).trans ((congrFun (ms_c e13 (Nat.ne_of_beq_eq_false rfl)) 0).trans ((congrFun (ms_c e11 (Nat.ne_of_beq_eq_false rfl)) 0).trans (congrFun (ms_c e9 (Nat.ne_of_beq_eq_false rfl)) 0)))) h3), (bd_r ((congrFun (fr215 44 (Nat.ne_of_beq_eq_false rfl) (Nat.ne_of_beq_eq_false rfl)) 2).trans ((congrFun (ms_c e13 (Nat.ne_of_beq_eq_false rfl)) 2).trans ((congrFun (ms_c e11 (Nat.ne_of_beq_eq_false rfl)) 2).trans (congrFun (ms_c e9 (Nat.ne_of_beq_eq_false rfl)) 2)))) h4), ab217, (fun c k_ => ((fr215 c (nin_ne (a := 43) k_ rfl) (nin_ne (a := 45) k_ rfl)).trans ((ms_c e13 (nin_ne (a := 43) k_ rfl)).trans ((ms_c e11 (nin_ne (a := 43) k_ rfl)).trans ((ms_c e9 (nin_ne (a := 43) k_ rfl)).trans (fr6 c (nin_ne (a := 44) k_ rfl) (nin_ne (a := 45) k_ rfl) (nin_ne (a := 46) k_ rfl) (nin_ne (a := 47) k_ rfl) (nin_ne (a := 48) k_ rfl))))))), (fun j k1_ k2_ k3_ => ((fc216 j k1_ k2_ k3_).trans ((ms_i e13 k3_).trans ((ms_i e11 k2_).trans ((ms_i e9 k1_).trans (congrFun (fr6 43 (Nat.ne_of_beq_eq_false rfl) (Nat.ne_of_beq_eq_false rfl) (Nat.ne_of_beq_eq_false rfl) (Nat.ne_of_beq_eq_false rfl) (Nat.ne_of_beq_eq_false rfl)) j)))))), (fun j k0_ k2_ => ((congrFun (fr215 44 (Nat.ne_of_beq_eq_false rfl) (Nat.ne_of_beq_eq_false rfl)) j).trans ((congrFun (ms_c e13 (Nat.ne_of_beq_eq_false rfl)) j).trans ((congrFun (ms_c e11 (Nat.ne_of_beq_eq_false rfl)) j).trans ((congrFun (ms_c e9 (Nat.ne_of_beq_eq_false rfl)) j).trans (fc7 j k0_ k2_))))))⟩
      · refine J_aload_n (i := 0) (j := 0) dX4_lay_33 rfl rfl ?_
        refine J_aload_n (i := 2) (j := 1) dX4_lay_34 rfl rfl ?_
        refine J_getN (C := RX8) (T := TX8) (Z := 4) (ci := 8) (f := 1) dX4_lay_35 inG8 rfl (by decide) k172 wc_15 rfl ?_
        refine J_iload_n (i := 3) (j := 2) dX4_lay_38 rfl rfl ?_
        refine J_iald dX4_lay_39 wc_16 (vin (bd_lt_hi bw213 (i_nle c235) hp2) (by decide)) ?_
        refine J_topi (fun v236 qv236 => ?_)
        refine J_aload_n (i := 2) (j := 1) dX4_lay_40 rfl rfl ?_
        refine J_getN (C := RX8) (T := TX8) (Z := 4) (ci := 8) (f := 2) dX4_lay_41 inG8 rfl (by decide) k174 wc_15 rfl ?_
        refine J_iload_n (i := 3) (j := 2) dX4_lay_44 rfl rfl ?_
        refine J_iald dX4_lay_45 wc_17 (vin (bd_lt_hi bw213 (i_nle c235) hp2) (by decide)) ?_
        refine J_topi (fun v237 qv237 => ?_)
        refine J_aload_n (i := 2) (j := 1) dX4_lay_46 rfl rfl ?_
        refine J_getN (C := RX8) (T := TX8) (Z := 4) (ci := 8) (f := 3) dX4_lay_47 inG8 rfl (by decide) k176 wc_15 rfl ?_
        refine J_iload_n (i := 3) (j := 2) dX4_lay_50 rfl rfl ?_
        refine J_iald dX4_lay_51 wc_18 (vin (bd_lt_hi bw213 (i_nle c235) hp2) (by decide)) ?_
        refine J_topi (fun v238 qv238 => ?_)
        refine J_callV (As := [.int v236, .int v237, .int v238]) (rest := []) dX4_lay_52 (c_Si_builds (d := 2) (u := u214) (g := g) (ex := ex) (kind := v236) (pond := v237) (much := v238)  (by decide) (bd_r ((congrFun (fr215 44 (Nat.ne_of_beq_eq_false rfl) (Nat.ne_of_beq_eq_false rfl)) 0).trans ((congrFun (ms_c e13 (Nat.ne_of_beq_eq_false rfl)) 0).trans ((congrFun (ms_c e11 (Nat.ne_of_beq_eq_false rfl)) 0).trans (congrFun (ms_c e9 (Nat.ne_of_beq_eq_false rfl)) 0)))) h3) (bd_r ((congrFun (fr215 44 (Nat.ne_of_beq_eq_false rfl) (Nat.ne_of_beq_eq_false rfl)) 2).trans ((congrFun (ms_c e13 (Nat.ne_of_beq_eq_false rfl)) 2).trans ((congrFun (ms_c e11 (Nat.ne_of_beq_eq_false rfl)) 2).trans (congrFun (ms_c e9 (Nat.ne_of_beq_eq_false rfl)) 2)))) h4) ab217 (km_use qv236 qv238 ((km_c ((fr215 16 (Nat.ne_of_beq_eq_false rfl) (Nat.ne_of_beq_eq_false rfl)).trans ((ms_c e13 (Nat.ne_of_beq_eq_false rfl)).trans ((ms_c e11 (Nat.ne_of_beq_eq_false rfl)).trans ((ms_c e9 (Nat.ne_of_beq_eq_false rfl)).trans (fr6 16 (Nat.ne_of_beq_eq_false rfl) (Nat.ne_of_beq_eq_false rfl) (Nat.ne_of_beq_eq_false rfl) (Nat.ne_of_beq_eq_false rfl) (Nat.ne_of_beq_eq_false rfl)))))) ((fr215 18 (Nat.ne_of_beq_eq_false rfl) (Nat.ne_of_beq_eq_false rfl)).trans ((ms_c e13 (Nat.ne_of_beq_eq_false rfl)).trans ((ms_c e11 (Nat.ne_of_beq_eq_false rfl)).trans ((ms_c e9 (Nat.ne_of_beq_eq_false rfl)).trans (fr6 18 (Nat.ne_of_beq_eq_false rfl) (Nat.ne_of_beq_eq_false rfl) (Nat.ne_of_beq_eq_false rfl) (Nat.ne_of_beq_eq_false rfl) (Nat.ne_of_beq_eq_false rfl)))))) hp5) w213.toNatClampNeg))) hq.n k736 k738 k13 wc_43 rfl rfl k93 k739 np_X4_builds (Nat.le_trans (by decide) hd) (by decide) (Nat.le_refl _) (Nat.le_refl _) wlen rfl (Nat.le_of_ble_eq_true rfl) (fun r_ h_ p239 => ?_)
        obtain ⟨t240, u241, rfl, rfl, h242, fr243, fc244⟩ := p239
        refine J_ifB_ne (tgt := 59) dX4_lay_55 (by decide) (fun c245 => ?_) (fun c245 => ?_)
        · refine J_aload_n (i := 0) (j := 0) dX4_lay_59 rfl rfl ?_
          refine J_dup dX4_lay_60 rfl ?_
          refine J_get (C := RX4) (T := TX4) (Z := 4) (ci := 4) (f := 1) dX4_lay_61 inG4 rfl (by decide) k296 wc_43 rfl ?_
          refine J_ci (v := u214 43 1) (fc244 1 (Nat.ne_of_beq_eq_false rfl) (Nat.ne_of_beq_eq_false rfl)) ?_
          refine J_iconst (v := 1) dX4_lay_64 (by decide) ?_
          refine J_iadd dX4_lay_65 ?_
          obtain ⟨u246, e247⟩ : ∃ z, z = ms u241 43 1 ((u214 43 1) + 1) := ⟨_, rfl⟩
          refine J_put (C := RX4) (T := TX4) (Z := 4) (ci := 4) (f := 1) (ty0 := tyX4) dX4_lay_66 inG4 rfl tyX4_ok nmX4 (by decide) k296 rfl rfl wc_43 (Nat.le_of_ble_eq_true rfl) (fun _ _ => ⟨rfl, rfl⟩) (ws e247 wk_43 rfl) ?_
          refine J_iinc (i := 3) (j := 2) (v := (w213 + 1)) (lw := [(3, .int (w213 + 1)), (0, .ref 43), (2, .ref 15)]) dX4_lay_69 rfl rfl (by decide) rfl ?_
          refine J_goto (tgt := 25) dX4_lay_72 (by decide) ?_
          refine J_lv [1, 2, 0] rfl ?_
          exact ih233 (w213 + 1) u246 (bd_w (l := 0) (h := 12) (bd_add (l := 1) (h := 12) (bd_lt_hi bw213 (i_nle c235) hp2) (bd_c (v := 1) (lo := 1) (hi := 1) (by decide)) (by decide)) (by decide)) (fun c k0_ k1_ => ((ms_c e247 k0_).trans ((fr243 c k0_ k1_).trans (fr215 c k0_ k1_)))) (fun j k1_ k2_ k3_ => ((ms_i e247 k1_).trans ((fc244 j k2_ k3_).trans (fc216 j k1_ k2_ k3_)))) (ab_c (ms_c e247 (Nat.ne_of_beq_eq_false rfl)) h242) (mu_up 1 bw213 rfl (by decide) (bd_w (l := 1) (h := 12) (bd_add (l := 1) (h := 12) (bd_lt_hi bw213 (i_nle c235) hp2) (bd_c (v := 1) (lo := 1) (hi := 1) (by decide)) (by decide)) (by decide)) hm234)
        · exact J_vret hq dX4_lay_58 rfl wlen (Nat.le_refl _) (Nat.le_refl _) ⟨u241, rfl, rfl, (bd_r ((congrFun (fr243 44 (Nat.ne_of_beq_eq_false rfl) (Nat.ne_of_beq_eq_false rfl)) 0).trans ((congrFun (fr215 44 (Nat.ne_of_beq_eq_false rfl) (Nat.ne_of_beq_eq_false rfl)) 0).trans ((congrFun (ms_c e13 (Nat.ne_of_beq_eq_false rfl)) 0).trans ((congrFun (ms_c e11 (Nat.ne_of_beq_eq_false rfl)) 0).trans (congrFun (ms_c e9 (Nat.ne_of_beq_eq_false rfl)) 0))))) h3), (bd_r ((congrFun (fr243 44 (Nat.ne_of_beq_eq_false rfl) (Nat.ne_of_beq_eq_false rfl)) 2).trans ((congrFun (fr215 44 (Nat.ne_of_beq_eq_false rfl) (Nat.ne_of_beq_eq_false rfl)) 2).trans ((congrFun (ms_c e13 (Nat.ne_of_beq_eq_false rfl)) 2).trans ((congrFun (ms_c e11 (Nat.ne_of_beq_eq_false rfl)) 2).trans (congrFun (ms_c e9 (Nat.ne_of_beq_eq_false rfl)) 2))))) h4), h242, (fun c k_ => ((fr243 c (nin_ne (a := 43) k_ rfl) (nin_ne (a := 45) k_ rfl)).trans ((fr215 c (nin_ne (a := 43) k_ rfl) (nin_ne (a := 45) k_ rfl)).trans ((ms_c e13 (nin_ne (a := 43) k_ rfl)).trans ((ms_c e11 (nin_ne (a := 43) k_ rfl)).trans ((ms_c e9 (nin_ne (a := 43) k_ rfl)).trans (fr6 c (nin_ne (a := 44) k_ rfl) (nin_ne (a := 45) k_ rfl) (nin_ne (a := 46) k_ rfl) (nin_ne (a := 47) k_ rfl) (nin_ne (a := 48) k_ rfl)))))))), (fun j k1_ k2_ k3_ => ((fc244 j k2_ k3_).trans ((fc216 j k1_ k2_ k3_).trans ((ms_i e13 k3_).trans ((ms_i e11 k2_).trans ((ms_i e9 k1_).trans (congrFun (fr6 43 (Nat.ne_of_beq_eq_false rfl) (Nat.ne_of_beq_eq_false rfl) (Nat.ne_of_beq_eq_false rfl) (Nat.ne_of_beq_eq_false rfl) (Nat.ne_of_beq_eq_false rfl)) j))))))), (fun j k0_ k2_ => ((congrFun (fr243 44 (Nat.ne_of_beq_eq_false rfl) (Nat.ne_of_beq_eq_false rfl)) j).trans ((congrFun (fr215 44 (Nat.ne_of_beq_eq_false rfl) (Nat.ne_of_beq_eq_false rfl)) j).trans ((congrFun (ms_c e13 (Nat.ne_of_beq_eq_false rfl)) j).trans ((congrFun (ms_c e11 (Nat.ne_of_beq_eq_false rfl)) j).trans ((congrFun (ms_c e9 (Nat.ne_of_beq_eq_false rfl)) j).trans (fc7 j k0_ k2_)))))))⟩
  refine J_lv [1, 3, 0] rfl ?_
  exact lp231 _ (0 : Int32) u12 (bd_w (l := 0) (h := 12) (bd_c (v := 0) (lo := 0) (hi := 0) (by decide)) (by decide)) (fun c k0_ k1_ => rfl) (fun j k1_ k2_ k3_ => rfl) (ab_c ((ms_c e13 (Nat.ne_of_beq_eq_false rfl)).trans ((ms_c e11 (Nat.ne_of_beq_eq_false rfl)).trans (ms_c e9 (Nat.ne_of_beq_eq_false rfl)))) h5) (Nat.lt_succ_self _)
set_option maxHeartbeats 4000000 in
set_option maxRecDepth 100000 in
theorem c_Si_lay_5_19 {d : Nat} {u : Nat → Nat → Int32} {g : Nat → Nat → Int64} {ex : List MC}  (hd : 3 ≤ d) (hp0 : Bd 0 9 (u 5 0)) (hp1 : Bd 0 4 (u 5 2)) (hp2 : Bd 0 12 (u 19 0)) (hp3 : AB u 6 (-1) 999) (hp4 : AB u 45 (-1) 999) (hp5 : (KM u 19)) : CT con0 d 0 0 yX4_lay cX4_lay 4 none [.ref 43, .ref 5, .ref 19] (Wd u g ex) (fun r h2 => ∃ (u2 : Nat → Nat → Int32), r = none ∧ h2 = Wd u2 g ex ∧ Bd 0 9 (u2 44 0) ∧ Bd 0 4 (u2 44 2) ∧ AB u2 45 (-1) 999 ∧ (∀ c, nin c [(43, 48)] = true → u2 c = u c) ∧ (∀ j, j ≠ 1 → j ≠ 2 → j ≠ 3 → u2 43 j = u 43 j) ∧ (∀ j, j ≠ 0 → j ≠ 2 → u2 44 j = u 44 j)) := by
  refine CT_of (by decide) (Nat.le_of_ble_eq_true rfl) (fun x hq => ?_)
  show J x yX4_lay cX4_lay 4 none d 0 0 (Wd u g ex).length 0 [(0, .ref 43), (1, .ref 5), (2, .ref 19)] [] (Wd u g ex) 0 0
  refine J_aload_n (i := 0) (j := 0) dX4_lay_0 rfl rfl ?_
  refine J_get (C := RX4) (T := TX4) (Z := 4) (ci := 4) (f := 0) dX4_lay_1 inG4 rfl (by decide) k294 wc_43 rfl ?_
  refine J_aload_n (i := 1) (j := 1) dX4_lay_4 rfl rfl ?_
  refine J_callV (As := [.ref 5]) (rest := []) dX4_lay_5 (c_H_copyB (d := 1) (u := u) (g := g) (ex := ex)  (t := 44) (f := 5) (by decide) (by decide) (by decide) (Nat.ne_of_beq_eq_false rfl) hp0 hp1 hp4 hp3) hq.n k735 k681 k682 wc_44 rfl rfl k89 k683 np_X1_copy (Nat.le_trans (by decide) hd) (by decide) (Nat.le_refl _) (Nat.le_refl _) wlen rfl (Nat.le_of_ble_eq_true rfl) (fun r_ h_ p1 => ?_)
  obtain ⟨u2, rfl, rfl, h3, h4, h5, fr6, fc7⟩ := p1
  refine J_aload_n (i := 0) (j := 0) dX4_lay_8 rfl rfl ?_
  refine J_iconst (v := 0) dX4_lay_9 (by decide) ?_
  obtain ⟨u8, e9⟩ : ∃ z, z = ms u2 43 1 0 := ⟨_, rfl⟩
  refine J_put (C := RX4) (T := TX4) (Z := 4) (ci := 4) (f := 1) (ty0 := tyX4) dX4_lay_10 inG4 rfl tyX4_ok nmX4 (by decide) k296 rfl rfl wc_43 (Nat.le_of_ble_eq_true rfl) (fun _ _ => ⟨rfl, rfl⟩) (ws e9 wk_43 rfl) ?_
  refine J_aload_n (i := 0) (j := 0) dX4_lay_13 rfl rfl ?_
  refine J_iconst (v := 0) dX4_lay_14 (by decide) ?_
  obtain ⟨u10, e11⟩ : ∃ z, z = ms u8 43 2 0 := ⟨_, rfl⟩
  refine J_put (C := RX4) (T := TX4) (Z := 4) (ci := 4) (f := 2) (ty0 := tyX4) dX4_lay_15 inG4 rfl tyX4_ok nmX4 (by decide) k298 rfl rfl wc_43 (Nat.le_of_ble_eq_true rfl) (fun _ _ => ⟨rfl, rfl⟩) (ws e11 wk_43 rfl) ?_
  refine J_aload_n (i := 0) (j := 0) dX4_lay_18 rfl rfl ?_
  refine J_iconst (v := 0) dX4_lay_19 (by decide) ?_
  obtain ⟨u12, e13⟩ : ∃ z, z = ms u10 43 3 0 := ⟨_, rfl⟩
  refine J_put (C := RX4) (T := TX4) (Z := 4) (ci := 4) (f := 3) (ty0 := tyX4) dX4_lay_20 inG4 rfl tyX4_ok nmX4 (by decide) k300 rfl rfl wc_43 (Nat.le_of_ble_eq_true rfl) (fun _ _ => ⟨rfl, rfl⟩) (ws e13 wk_43 rfl) ?_
  refine J_iconst (v := 0) dX4_lay_23 (by decide) ?_
  refine J_istore_n (i := 3) (lw := [(3, .int 0), (0, .ref 43), (1, .ref 5), (2, .ref 19)]) dX4_lay_24 rfl (by decide) rfl ?_
  have lp231 : ∀ (n232 : Nat) (w213 : Int32) (u214 : Nat → Nat → Int32), Bd 0 12 w213 → (∀ c, c ≠ 43 → c ≠ 45 → u214 c = u12 c) → (∀ j, j ≠ 1 → j ≠ 2 → j ≠ 3 → u214 43 j = u12 43 j) → AB u214 45 (-1) 999 → (12 - w213.toInt).toNat < n232 → J x yX4_lay cX4_lay 4 none d 0 0 (Wd u g ex).length 25 [(0, .ref 43), (2, .ref 19), (3, .int w213)] [] (Wd u214 g ex) 0 0 := by
    intro n232
    induction n232 with
    | zero => intro w213 u214 bw213 fr215 fc216 ab217 hm234; exact absurd hm234 (Nat.not_lt_zero _)
    | succ n232 ih233 =>
      intro w213 u214 bw213 fr215 fc216 ab217 hm234
      refine J_iload_n (i := 3) (j := 2) dX4_lay_25 rfl rfl ?_
      refine J_aload_n (i := 2) (j := 1) dX4_lay_26 rfl rfl ?_
      refine J_getN (C := RX8) (T := TX8) (Z := 4) (ci := 8) (f := 0) dX4_lay_27 inG8 rfl (by decide) k169 wc_19 rfl ?_
      refine J_ci (v := u 19 0) ((congrFun (fr215 19 (Nat.ne_of_beq_eq_false rfl) (Nat.ne_of_beq_eq_false rfl)) 0).trans ((congrFun (ms_c e13 (Nat.ne_of_beq_eq_false rfl)) 0).trans ((congrFun (ms_c e11 (Nat.ne_of_beq_eq_false rfl)) 0).trans ((congrFun (ms_c e9 (Nat.ne_of_beq_eq_false rfl)) 0).trans (congrFun (fr6 19 (Nat.ne_of_beq_eq_false rfl) (Nat.ne_of_beq_eq_false rfl) (Nat.ne_of_beq_eq_false rfl) (Nat.ne_of_beq_eq_false rfl) (Nat.ne_of_beq_eq_false rfl)) 0))))) ?_
      refine J_icmp_ge (tgt := 75) dX4_lay_30 (by decide) (fun c235 => ?_) (fun c235 => ?_)
      · exact J_vret hq dX4_lay_75 rfl wlen (Nat.le_refl _) (Nat.le_refl _) ⟨u214, rfl, rfl, (bd_r ((congrFun (fr215 44 (Nat.ne_of_beq_eq_false rfl) (Nat.ne_of_beq_eq_false rfl)) 0).trans ((congrFun (ms_c e13 (Nat.ne_of_beq_eq_false rfl)) 0).trans ((congrFun (ms_c e11 (Nat.ne_of_beq_eq_false rfl)) 0).trans (congrFun (ms_c e9 (Nat.ne_of_beq_eq_false rfl)) 0)))) h3), (bd_r ((congrFun (fr215 44 (Nat.ne_of_beq_eq_false rfl) (Nat.ne_of_beq_eq_false rfl)) 2).trans ((congrFun (ms_c e13 (Nat.ne_of_beq_eq_false rfl)) 2).trans ((congrFun (ms_c e11 (Nat.ne_of_beq_eq_false rfl)) 2).trans (congrFun (ms_c e9 (Nat.ne_of_beq_eq_false rfl)) 2)))) h4), ab217, (fun c k_ => ((fr215 c (nin_ne (a := 43) k_ rfl) (nin_ne (a := 45) k_ rfl)).trans ((ms_c e13 (nin_ne (a := 43) k_ rfl)).trans ((ms_c e11 (nin_ne (a := 43) k_ rfl)).trans ((ms_c e9 (nin_ne (a := 43) k_ rfl)).trans (fr6 c (nin_ne (a := 44) k_ rfl) (nin_ne (a := 45) k_ rfl) (nin_ne (a := 46) k_ rfl) (nin_ne (a := 47) k_ rfl) (nin_ne (a := 48) k_ rfl))))))), (fun j k1_ k2_ k3_ => ((fc216 j k1_ k2_ k3_).trans ((ms_i e13 k3_).trans ((ms_i e11 k2_).trans ((ms_i e9 k1_).trans (congrFun (fr6 43 (Nat.ne_of_beq_eq_false rfl) (Nat.ne_of_beq_eq_false rfl) (Nat.ne_of_beq_eq_false rfl) (Nat.ne_of_beq_eq_false rfl) (Nat.ne_of_beq_eq_false rfl)) j)))))), (fun j k0_ k2_ => ((congrFun (fr215 44 (Nat.ne_of_beq_eq_false rfl) (Nat.ne_of_beq_eq_false rfl)) j).trans ((congrFun (ms_c e13 (Nat.ne_of_beq_eq_false rfl)) j).trans ((congrFun (ms_c e11 (Nat.ne_of_beq_eq_false rfl)) j).trans ((congrFun (ms_c e9 (Nat.ne_of_beq_eq_false rfl)) j).trans (fc7 j k0_ k2_))))))⟩
      · refine J_aload_n (i := 0) (j := 0) dX4_lay_33 rfl rfl ?_
        refine J_aload_n (i := 2) (j := 1) dX4_lay_34 rfl rfl ?_
        refine J_getN (C := RX8) (T := TX8) (Z := 4) (ci := 8) (f := 1) dX4_lay_35 inG8 rfl (by decide) k172 wc_19 rfl ?_
        refine J_iload_n (i := 3) (j := 2) dX4_lay_38 rfl rfl ?_
        refine J_iald dX4_lay_39 wc_20 (vin (bd_lt_hi bw213 (i_nle c235) hp2) (by decide)) ?_
        refine J_topi (fun v236 qv236 => ?_)
        refine J_aload_n (i := 2) (j := 1) dX4_lay_40 rfl rfl ?_
        refine J_getN (C := RX8) (T := TX8) (Z := 4) (ci := 8) (f := 2) dX4_lay_41 inG8 rfl (by decide) k174 wc_19 rfl ?_
        refine J_iload_n (i := 3) (j := 2) dX4_lay_44 rfl rfl ?_
        refine J_iald dX4_lay_45 wc_21 (vin (bd_lt_hi bw213 (i_nle c235) hp2) (by decide)) ?_
        refine J_topi (fun v237 qv237 => ?_)
        refine J_aload_n (i := 2) (j := 1) dX4_lay_46 rfl rfl ?_
        refine J_getN (C := RX8) (T := TX8) (Z := 4) (ci := 8) (f := 3) dX4_lay_47 inG8 rfl (by decide) k176 wc_19 rfl ?_
        refine J_iload_n (i := 3) (j := 2) dX4_lay_50 rfl rfl ?_
        refine J_iald dX4_lay_51 wc_22 (vin (bd_lt_hi bw213 (i_nle c235) hp2) (by decide)) ?_
        refine J_topi (fun v238 qv238 => ?_)
        refine J_callV (As := [.int v236, .int v237, .int v238]) (rest := []) dX4_lay_52 (c_Si_builds (d := 2) (u := u214) (g := g) (ex := ex) (kind := v236) (pond := v237) (much := v238)  (by decide) (bd_r ((congrFun (fr215 44 (Nat.ne_of_beq_eq_false rfl) (Nat.ne_of_beq_eq_false rfl)) 0).trans ((congrFun (ms_c e13 (Nat.ne_of_beq_eq_false rfl)) 0).trans ((congrFun (ms_c e11 (Nat.ne_of_beq_eq_false rfl)) 0).trans (congrFun (ms_c e9 (Nat.ne_of_beq_eq_false rfl)) 0)))) h3) (bd_r ((congrFun (fr215 44 (Nat.ne_of_beq_eq_false rfl) (Nat.ne_of_beq_eq_false rfl)) 2).trans ((congrFun (ms_c e13 (Nat.ne_of_beq_eq_false rfl)) 2).trans ((congrFun (ms_c e11 (Nat.ne_of_beq_eq_false rfl)) 2).trans (congrFun (ms_c e9 (Nat.ne_of_beq_eq_false rfl)) 2)))) h4) ab217 (km_use qv236 qv238 ((km_c ((fr215 20 (Nat.ne_of_beq_eq_false rfl) (Nat.ne_of_beq_eq_false rfl)).trans ((ms_c e13 (Nat.ne_of_beq_eq_false rfl)).trans ((ms_c e11 (Nat.ne_of_beq_eq_false rfl)).trans ((ms_c e9 (Nat.ne_of_beq_eq_false rfl)).trans (fr6 20 (Nat.ne_of_beq_eq_false rfl) (Nat.ne_of_beq_eq_false rfl) (Nat.ne_of_beq_eq_false rfl) (Nat.ne_of_beq_eq_false rfl) (Nat.ne_of_beq_eq_false rfl)))))) ((fr215 22 (Nat.ne_of_beq_eq_false rfl) (Nat.ne_of_beq_eq_false rfl)).trans ((ms_c e13 (Nat.ne_of_beq_eq_false rfl)).trans ((ms_c e11 (Nat.ne_of_beq_eq_false rfl)).trans ((ms_c e9 (Nat.ne_of_beq_eq_false rfl)).trans (fr6 22 (Nat.ne_of_beq_eq_false rfl) (Nat.ne_of_beq_eq_false rfl) (Nat.ne_of_beq_eq_false rfl) (Nat.ne_of_beq_eq_false rfl) (Nat.ne_of_beq_eq_false rfl)))))) hp5) w213.toNatClampNeg))) hq.n k736 k738 k13 wc_43 rfl rfl k93 k739 np_X4_builds (Nat.le_trans (by decide) hd) (by decide) (Nat.le_refl _) (Nat.le_refl _) wlen rfl (Nat.le_of_ble_eq_true rfl) (fun r_ h_ p239 => ?_)
        obtain ⟨t240, u241, rfl, rfl, h242, fr243, fc244⟩ := p239
        refine J_ifB_ne (tgt := 59) dX4_lay_55 (by decide) (fun c245 => ?_) (fun c245 => ?_)
        · refine J_aload_n (i := 0) (j := 0) dX4_lay_59 rfl rfl ?_
          refine J_dup dX4_lay_60 rfl ?_
          refine J_get (C := RX4) (T := TX4) (Z := 4) (ci := 4) (f := 1) dX4_lay_61 inG4 rfl (by decide) k296 wc_43 rfl ?_
          refine J_ci (v := u214 43 1) (fc244 1 (Nat.ne_of_beq_eq_false rfl) (Nat.ne_of_beq_eq_false rfl)) ?_
          refine J_iconst (v := 1) dX4_lay_64 (by decide) ?_
          refine J_iadd dX4_lay_65 ?_
          obtain ⟨u246, e247⟩ : ∃ z, z = ms u241 43 1 ((u214 43 1) + 1) := ⟨_, rfl⟩
          refine J_put (C := RX4) (T := TX4) (Z := 4) (ci := 4) (f := 1) (ty0 := tyX4) dX4_lay_66 inG4 rfl tyX4_ok nmX4 (by decide) k296 rfl rfl wc_43 (Nat.le_of_ble_eq_true rfl) (fun _ _ => ⟨rfl, rfl⟩) (ws e247 wk_43 rfl) ?_
          refine J_iinc (i := 3) (j := 2) (v := (w213 + 1)) (lw := [(3, .int (w213 + 1)), (0, .ref 43), (2, .ref 19)]) dX4_lay_69 rfl rfl (by decide) rfl ?_
          refine J_goto (tgt := 25) dX4_lay_72 (by decide) ?_
          refine J_lv [1, 2, 0] rfl ?_
          exact ih233 (w213 + 1) u246 (bd_w (l := 0) (h := 12) (bd_add (l := 1) (h := 12) (bd_lt_hi bw213 (i_nle c235) hp2) (bd_c (v := 1) (lo := 1) (hi := 1) (by decide)) (by decide)) (by decide)) (fun c k0_ k1_ => ((ms_c e247 k0_).trans ((fr243 c k0_ k1_).trans (fr215 c k0_ k1_)))) (fun j k1_ k2_ k3_ => ((ms_i e247 k1_).trans ((fc244 j k2_ k3_).trans (fc216 j k1_ k2_ k3_)))) (ab_c (ms_c e247 (Nat.ne_of_beq_eq_false rfl)) h242) (mu_up 1 bw213 rfl (by decide) (bd_w (l := 1) (h := 12) (bd_add (l := 1) (h := 12) (bd_lt_hi bw213 (i_nle c235) hp2) (bd_c (v := 1) (lo := 1) (hi := 1) (by decide)) (by decide)) (by decide)) hm234)
        · exact J_vret hq dX4_lay_58 rfl wlen (Nat.le_refl _) (Nat.le_refl _) ⟨u241, rfl, rfl, (bd_r ((congrFun (fr243 44 (Nat.ne_of_beq_eq_false rfl) (Nat.ne_of_beq_eq_false rfl)) 0).trans ((congrFun (fr215 44 (Nat.ne_of_beq_eq_false rfl) (Nat.ne_of_beq_eq_false rfl)) 0).trans ((congrFun (ms_c e13 (Nat.ne_of_beq_eq_false rfl)) 0).trans ((congrFun (ms_c e11 (Nat.ne_of_beq_eq_false rfl)) 0).trans (congrFun (ms_c e9 (Nat.ne_of_beq_eq_false rfl)) 0))))) h3), (bd_r ((congrFun (fr243 44 (Nat.ne_of_beq_eq_false rfl) (Nat.ne_of_beq_eq_false rfl)) 2).trans ((congrFun (fr215 44 (Nat.ne_of_beq_eq_false rfl) (Nat.ne_of_beq_eq_false rfl)) 2).trans ((congrFun (ms_c e13 (Nat.ne_of_beq_eq_false rfl)) 2).trans ((congrFun (ms_c e11 (Nat.ne_of_beq_eq_false rfl)) 2).trans (congrFun (ms_c e9 (Nat.ne_of_beq_eq_false rfl)) 2))))) h4), h242, (fun c k_ => ((fr243 c (nin_ne (a := 43) k_ rfl) (nin_ne (a := 45) k_ rfl)).trans ((fr215 c (nin_ne (a := 43) k_ rfl) (nin_ne (a := 45) k_ rfl)).trans ((ms_c e13 (nin_ne (a := 43) k_ rfl)).trans ((ms_c e11 (nin_ne (a := 43) k_ rfl)).trans ((ms_c e9 (nin_ne (a := 43) k_ rfl)).trans (fr6 c (nin_ne (a := 44) k_ rfl) (nin_ne (a := 45) k_ rfl) (nin_ne (a := 46) k_ rfl) (nin_ne (a := 47) k_ rfl) (nin_ne (a := 48) k_ rfl)))))))), (fun j k1_ k2_ k3_ => ((fc244 j k2_ k3_).trans ((fc216 j k1_ k2_ k3_).trans ((ms_i e13 k3_).trans ((ms_i e11 k2_).trans ((ms_i e9 k1_).trans (congrFun (fr6 43 (Nat.ne_of_beq_eq_false rfl) (Nat.ne_of_beq_eq_false rfl) (Nat.ne_of_beq_eq_false rfl) (Nat.ne_of_beq_eq_false rfl) (Nat.ne_of_beq_eq_false rfl)) j))))))), (fun j k0_ k2_ => ((congrFun (fr243 44 (Nat.ne_of_beq_eq_false rfl) (Nat.ne_of_beq_eq_false rfl)) j).trans ((congrFun (fr215 44 (Nat.ne_of_beq_eq_false rfl) (Nat.ne_of_beq_eq_false rfl)) j).trans ((congrFun (ms_c e13 (Nat.ne_of_beq_eq_false rfl)) j).trans ((congrFun (ms_c e11 (Nat.ne_of_beq_eq_false rfl)) j).trans ((congrFun (ms_c e9 (Nat.ne_of_beq_eq_false rfl)) j).trans (fc7 j k0_ k2_)))))))⟩
  refine J_lv [1, 3, 0] rfl ?_
  exact lp231 _ (0 : Int32) u12 (bd_w (l := 0) (h := 12) (bd_c (v := 0) (lo := 0) (hi := 0) (by decide)) (by decide)) (fun c k0_ k1_ => rfl) (fun j k1_ k2_ k3_ => rfl) (ab_c ((ms_c e13 (Nat.ne_of_beq_eq_false rfl)).trans ((ms_c e11 (Nat.ne_of_beq_eq_false rfl)).trans (ms_c e9 (Nat.ne_of_beq_eq_false rfl)))) h5) (Nat.lt_succ_self _)
set_option maxHeartbeats 4000000 in
set_option maxRecDepth 100000 in
theorem c_Si_lay_5_23 {d : Nat} {u : Nat → Nat → Int32} {g : Nat → Nat → Int64} {ex : List MC}  (hd : 3 ≤ d) (hp0 : Bd 0 9 (u 5 0)) (hp1 : Bd 0 4 (u 5 2)) (hp2 : Bd 0 12 (u 23 0)) (hp3 : AB u 6 (-1) 999) (hp4 : AB u 45 (-1) 999) (hp5 : (KM u 23)) : CT con0 d 0 0 yX4_lay cX4_lay 4 none [.ref 43, .ref 5, .ref 23] (Wd u g ex) (fun r h2 => ∃ (u2 : Nat → Nat → Int32), r = none ∧ h2 = Wd u2 g ex ∧ Bd 0 9 (u2 44 0) ∧ Bd 0 4 (u2 44 2) ∧ AB u2 45 (-1) 999 ∧ (∀ c, nin c [(43, 48)] = true → u2 c = u c) ∧ (∀ j, j ≠ 1 → j ≠ 2 → j ≠ 3 → u2 43 j = u 43 j) ∧ (∀ j, j ≠ 0 → j ≠ 2 → u2 44 j = u 44 j)) := by
  refine CT_of (by decide) (Nat.le_of_ble_eq_true rfl) (fun x hq => ?_)
  show J x yX4_lay cX4_lay 4 none d 0 0 (Wd u g ex).length 0 [(0, .ref 43), (1, .ref 5), (2, .ref 23)] [] (Wd u g ex) 0 0
  refine J_aload_n (i := 0) (j := 0) dX4_lay_0 rfl rfl ?_
  refine J_get (C := RX4) (T := TX4) (Z := 4) (ci := 4) (f := 0) dX4_lay_1 inG4 rfl (by decide) k294 wc_43 rfl ?_
  refine J_aload_n (i := 1) (j := 1) dX4_lay_4 rfl rfl ?_
  refine J_callV (As := [.ref 5]) (rest := []) dX4_lay_5 (c_H_copyB (d := 1) (u := u) (g := g) (ex := ex)  (t := 44) (f := 5) (by decide) (by decide) (by decide) (Nat.ne_of_beq_eq_false rfl) hp0 hp1 hp4 hp3) hq.n k735 k681 k682 wc_44 rfl rfl k89 k683 np_X1_copy (Nat.le_trans (by decide) hd) (by decide) (Nat.le_refl _) (Nat.le_refl _) wlen rfl (Nat.le_of_ble_eq_true rfl) (fun r_ h_ p1 => ?_)
  obtain ⟨u2, rfl, rfl, h3, h4, h5, fr6, fc7⟩ := p1
  refine J_aload_n (i := 0) (j := 0) dX4_lay_8 rfl rfl ?_
  refine J_iconst (v := 0) dX4_lay_9 (by decide) ?_
  obtain ⟨u8, e9⟩ : ∃ z, z = ms u2 43 1 0 := ⟨_, rfl⟩
  refine J_put (C := RX4) (T := TX4) (Z := 4) (ci := 4) (f := 1) (ty0 := tyX4) dX4_lay_10 inG4 rfl tyX4_ok nmX4 (by decide) k296 rfl rfl wc_43 (Nat.le_of_ble_eq_true rfl) (fun _ _ => ⟨rfl, rfl⟩) (ws e9 wk_43 rfl) ?_
  refine J_aload_n (i := 0) (j := 0) dX4_lay_13 rfl rfl ?_
  refine J_iconst (v := 0) dX4_lay_14 (by decide) ?_
  obtain ⟨u10, e11⟩ : ∃ z, z = ms u8 43 2 0 := ⟨_, rfl⟩
  refine J_put (C := RX4) (T := TX4) (Z := 4) (ci := 4) (f := 2) (ty0 := tyX4) dX4_lay_15 inG4 rfl tyX4_ok nmX4 (by decide) k298 rfl rfl wc_43 (Nat.le_of_ble_eq_true rfl) (fun _ _ => ⟨rfl, rfl⟩) (ws e11 wk_43 rfl) ?_
  refine J_aload_n (i := 0) (j := 0) dX4_lay_18 rfl rfl ?_
  refine J_iconst (v := 0) dX4_lay_19 (by decide) ?_
  obtain ⟨u12, e13⟩ : ∃ z, z = ms u10 43 3 0 := ⟨_, rfl⟩
  refine J_put (C := RX4) (T := TX4) (Z := 4) (ci := 4) (f := 3) (ty0 := tyX4) dX4_lay_20 inG4 rfl tyX4_ok nmX4 (by decide) k300 rfl rfl wc_43 (Nat.le_of_ble_eq_true rfl) (fun _ _ => ⟨rfl, rfl⟩) (ws e13 wk_43 rfl) ?_
  refine J_iconst (v := 0) dX4_lay_23 (by decide) ?_
  refine J_istore_n (i := 3) (lw := [(3, .int 0), (0, .ref 43), (1, .ref 5), (2, .ref 23)]) dX4_lay_24 rfl (by decide) rfl ?_
  have lp231 : ∀ (n232 : Nat) (w213 : Int32) (u214 : Nat → Nat → Int32), Bd 0 12 w213 → (∀ c, c ≠ 43 → c ≠ 45 → u214 c = u12 c) → (∀ j, j ≠ 1 → j ≠ 2 → j ≠ 3 → u214 43 j = u12 43 j) → AB u214 45 (-1) 999 → (12 - w213.toInt).toNat < n232 → J x yX4_lay cX4_lay 4 none d 0 0 (Wd u g ex).length 25 [(0, .ref 43), (2, .ref 23), (3, .int w213)] [] (Wd u214 g ex) 0 0 := by
    intro n232
    induction n232 with
    | zero => intro w213 u214 bw213 fr215 fc216 ab217 hm234; exact absurd hm234 (Nat.not_lt_zero _)
    | succ n232 ih233 =>
      intro w213 u214 bw213 fr215 fc216 ab217 hm234
      refine J_iload_n (i := 3) (j := 2) dX4_lay_25 rfl rfl ?_
      refine J_aload_n (i := 2) (j := 1) dX4_lay_26 rfl rfl ?_
      refine J_getN (C := RX8) (T := TX8) (Z := 4) (ci := 8) (f := 0) dX4_lay_27 inG8 rfl (by decide) k169 wc_23 rfl ?_
      refine J_ci (v := u 23 0) ((congrFun (fr215 23 (Nat.ne_of_beq_eq_false rfl) (Nat.ne_of_beq_eq_false rfl)) 0).trans ((congrFun (ms_c e13 (Nat.ne_of_beq_eq_false rfl)) 0).trans ((congrFun (ms_c e11 (Nat.ne_of_beq_eq_false rfl)) 0).trans ((congrFun (ms_c e9 (Nat.ne_of_beq_eq_false rfl)) 0).trans (congrFun (fr6 23 (Nat.ne_of_beq_eq_false rfl) (Nat.ne_of_beq_eq_false rfl) (Nat.ne_of_beq_eq_false rfl) (Nat.ne_of_beq_eq_false rfl) (Nat.ne_of_beq_eq_false rfl)) 0))))) ?_
      refine J_icmp_ge (tgt := 75) dX4_lay_30 (by decide) (fun c235 => ?_) (fun c235 => ?_)
      · exact J_vret hq dX4_lay_75 rfl wlen (Nat.le_refl _) (Nat.le_refl _) ⟨u214, rfl, rfl, (bd_r ((congrFun (fr215 44 (Nat.ne_of_beq_eq_false rfl) (Nat.ne_of_beq_eq_false rfl)) 0).trans ((congrFun (ms_c e13 (Nat.ne_of_beq_eq_false rfl)) 0).trans ((congrFun (ms_c e11 (Nat.ne_of_beq_eq_false rfl)) 0).trans (congrFun (ms_c e9 (Nat.ne_of_beq_eq_false rfl)) 0)))) h3), (bd_r ((congrFun (fr215 44 (Nat.ne_of_beq_eq_false rfl) (Nat.ne_of_beq_eq_false rfl)) 2).trans ((congrFun (ms_c e13 (Nat.ne_of_beq_eq_false rfl)) 2).trans ((congrFun (ms_c e11 (Nat.ne_of_beq_eq_false rfl)) 2).trans (congrFun (ms_c e9 (Nat.ne_of_beq_eq_false rfl)) 2)))) h4), ab217, (fun c k_ => ((fr215 c (nin_ne (a := 43) k_ rfl) (nin_ne (a := 45) k_ rfl)).trans ((ms_c e13 (nin_ne (a := 43) k_ rfl)).trans ((ms_c e11 (nin_ne (a := 43) k_ rfl)).trans ((ms_c e9 (nin_ne (a := 43) k_ rfl)).trans (fr6 c (nin_ne (a := 44) k_ rfl) (nin_ne (a := 45) k_ rfl) (nin_ne (a := 46) k_ rfl) (nin_ne (a := 47) k_ rfl) (nin_ne (a := 48) k_ rfl))))))), (fun j k1_ k2_ k3_ => ((fc216 j k1_ k2_ k3_).trans ((ms_i e13 k3_).trans ((ms_i e11 k2_).trans ((ms_i e9 k1_).trans (congrFun (fr6 43 (Nat.ne_of_beq_eq_false rfl) (Nat.ne_of_beq_eq_false rfl) (Nat.ne_of_beq_eq_false rfl) (Nat.ne_of_beq_eq_false rfl) (Nat.ne_of_beq_eq_false rfl)) j)))))), (fun j k0_ k2_ => ((congrFun (fr215 44 (Nat.ne_of_beq_eq_false rfl) (Nat.ne_of_beq_eq_false rfl)) j).trans ((congrFun (ms_c e13 (Nat.ne_of_beq_eq_false rfl)) j).trans ((congrFun (ms_c e11 (Nat.ne_of_beq_eq_false rfl)) j).trans ((congrFun (ms_c e9 (Nat.ne_of_beq_eq_false rfl)) j).trans (fc7 j k0_ k2_))))))⟩
      · refine J_aload_n (i := 0) (j := 0) dX4_lay_33 rfl rfl ?_
        refine J_aload_n (i := 2) (j := 1) dX4_lay_34 rfl rfl ?_
        refine J_getN (C := RX8) (T := TX8) (Z := 4) (ci := 8) (f := 1) dX4_lay_35 inG8 rfl (by decide) k172 wc_23 rfl ?_
        refine J_iload_n (i := 3) (j := 2) dX4_lay_38 rfl rfl ?_
        refine J_iald dX4_lay_39 wc_24 (vin (bd_lt_hi bw213 (i_nle c235) hp2) (by decide)) ?_
        refine J_topi (fun v236 qv236 => ?_)
        refine J_aload_n (i := 2) (j := 1) dX4_lay_40 rfl rfl ?_
        refine J_getN (C := RX8) (T := TX8) (Z := 4) (ci := 8) (f := 2) dX4_lay_41 inG8 rfl (by decide) k174 wc_23 rfl ?_
        refine J_iload_n (i := 3) (j := 2) dX4_lay_44 rfl rfl ?_
        refine J_iald dX4_lay_45 wc_25 (vin (bd_lt_hi bw213 (i_nle c235) hp2) (by decide)) ?_
        refine J_topi (fun v237 qv237 => ?_)
        refine J_aload_n (i := 2) (j := 1) dX4_lay_46 rfl rfl ?_
        refine J_getN (C := RX8) (T := TX8) (Z := 4) (ci := 8) (f := 3) dX4_lay_47 inG8 rfl (by decide) k176 wc_23 rfl ?_
        refine J_iload_n (i := 3) (j := 2) dX4_lay_50 rfl rfl ?_
        refine J_iald dX4_lay_51 wc_26 (vin (bd_lt_hi bw213 (i_nle c235) hp2) (by decide)) ?_
        refine J_topi (fun v238 qv238 => ?_)
        refine J_callV (As := [.int v236, .int v237, .int v238]) (rest := []) dX4_lay_52 (c_Si_builds (d := 2) (u := u214) (g := g) (ex := ex) (kind := v236) (pond := v237) (much := v238)  (by decide) (bd_r ((congrFun (fr215 44 (Nat.ne_of_beq_eq_false rfl) (Nat.ne_of_beq_eq_false rfl)) 0).trans ((congrFun (ms_c e13 (Nat.ne_of_beq_eq_false rfl)) 0).trans ((congrFun (ms_c e11 (Nat.ne_of_beq_eq_false rfl)) 0).trans (congrFun (ms_c e9 (Nat.ne_of_beq_eq_false rfl)) 0)))) h3) (bd_r ((congrFun (fr215 44 (Nat.ne_of_beq_eq_false rfl) (Nat.ne_of_beq_eq_false rfl)) 2).trans ((congrFun (ms_c e13 (Nat.ne_of_beq_eq_false rfl)) 2).trans ((congrFun (ms_c e11 (Nat.ne_of_beq_eq_false rfl)) 2).trans (congrFun (ms_c e9 (Nat.ne_of_beq_eq_false rfl)) 2)))) h4) ab217 (km_use qv236 qv238 ((km_c ((fr215 24 (Nat.ne_of_beq_eq_false rfl) (Nat.ne_of_beq_eq_false rfl)).trans ((ms_c e13 (Nat.ne_of_beq_eq_false rfl)).trans ((ms_c e11 (Nat.ne_of_beq_eq_false rfl)).trans ((ms_c e9 (Nat.ne_of_beq_eq_false rfl)).trans (fr6 24 (Nat.ne_of_beq_eq_false rfl) (Nat.ne_of_beq_eq_false rfl) (Nat.ne_of_beq_eq_false rfl) (Nat.ne_of_beq_eq_false rfl) (Nat.ne_of_beq_eq_false rfl)))))) ((fr215 26 (Nat.ne_of_beq_eq_false rfl) (Nat.ne_of_beq_eq_false rfl)).trans ((ms_c e13 (Nat.ne_of_beq_eq_false rfl)).trans ((ms_c e11 (Nat.ne_of_beq_eq_false rfl)).trans ((ms_c e9 (Nat.ne_of_beq_eq_false rfl)).trans (fr6 26 (Nat.ne_of_beq_eq_false rfl) (Nat.ne_of_beq_eq_false rfl) (Nat.ne_of_beq_eq_false rfl) (Nat.ne_of_beq_eq_false rfl) (Nat.ne_of_beq_eq_false rfl)))))) hp5) w213.toNatClampNeg))) hq.n k736 k738 k13 wc_43 rfl rfl k93 k739 np_X4_builds (Nat.le_trans (by decide) hd) (by decide) (Nat.le_refl _) (Nat.le_refl _) wlen rfl (Nat.le_of_ble_eq_true rfl) (fun r_ h_ p239 => ?_)
        obtain ⟨t240, u241, rfl, rfl, h242, fr243, fc244⟩ := p239
        refine J_ifB_ne (tgt := 59) dX4_lay_55 (by decide) (fun c245 => ?_) (fun c245 => ?_)
        · refine J_aload_n (i := 0) (j := 0) dX4_lay_59 rfl rfl ?_
          refine J_dup dX4_lay_60 rfl ?_
          refine J_get (C := RX4) (T := TX4) (Z := 4) (ci := 4) (f := 1) dX4_lay_61 inG4 rfl (by decide) k296 wc_43 rfl ?_
          refine J_ci (v := u214 43 1) (fc244 1 (Nat.ne_of_beq_eq_false rfl) (Nat.ne_of_beq_eq_false rfl)) ?_
          refine J_iconst (v := 1) dX4_lay_64 (by decide) ?_
          refine J_iadd dX4_lay_65 ?_
          obtain ⟨u246, e247⟩ : ∃ z, z = ms u241 43 1 ((u214 43 1) + 1) := ⟨_, rfl⟩
          refine J_put (C := RX4) (T := TX4) (Z := 4) (ci := 4) (f := 1) (ty0 := tyX4) dX4_lay_66 inG4 rfl tyX4_ok nmX4 (by decide) k296 rfl rfl wc_43 (Nat.le_of_ble_eq_true rfl) (fun _ _ => ⟨rfl, rfl⟩) (ws e247 wk_43 rfl) ?_
          refine J_iinc (i := 3) (j := 2) (v := (w213 + 1)) (lw := [(3, .int (w213 + 1)), (0, .ref 43), (2, .ref 23)]) dX4_lay_69 rfl rfl (by decide) rfl ?_
          refine J_goto (tgt := 25) dX4_lay_72 (by decide) ?_
          refine J_lv [1, 2, 0] rfl ?_
          exact ih233 (w213 + 1) u246 (bd_w (l := 0) (h := 12) (bd_add (l := 1) (h := 12) (bd_lt_hi bw213 (i_nle c235) hp2) (bd_c (v := 1) (lo := 1) (hi := 1) (by decide)) (by decide)) (by decide)) (fun c k0_ k1_ => ((ms_c e247 k0_).trans ((fr243 c k0_ k1_).trans (fr215 c k0_ k1_)))) (fun j k1_ k2_ k3_ => ((ms_i e247 k1_).trans ((fc244 j k2_ k3_).trans (fc216 j k1_ k2_ k3_)))) (ab_c (ms_c e247 (Nat.ne_of_beq_eq_false rfl)) h242) (mu_up 1 bw213 rfl (by decide) (bd_w (l := 1) (h := 12) (bd_add (l := 1) (h := 12) (bd_lt_hi bw213 (i_nle c235) hp2) (bd_c (v := 1) (lo := 1) (hi := 1) (by decide)) (by decide)) (by decide)) hm234)
        · exact J_vret hq dX4_lay_58 rfl wlen (Nat.le_refl _) (Nat.le_refl _) ⟨u241, rfl, rfl, (bd_r ((congrFun (fr243 44 (Nat.ne_of_beq_eq_false rfl) (Nat.ne_of_beq_eq_false rfl)) 0).trans ((congrFun (fr215 44 (Nat.ne_of_beq_eq_false rfl) (Nat.ne_of_beq_eq_false rfl)) 0).trans ((congrFun (ms_c e13 (Nat.ne_of_beq_eq_false rfl)) 0).trans ((congrFun (ms_c e11 (Nat.ne_of_beq_eq_false rfl)) 0).trans (congrFun (ms_c e9 (Nat.ne_of_beq_eq_false rfl)) 0))))) h3), (bd_r ((congrFun (fr243 44 (Nat.ne_of_beq_eq_false rfl) (Nat.ne_of_beq_eq_false rfl)) 2).trans ((congrFun (fr215 44 (Nat.ne_of_beq_eq_false rfl) (Nat.ne_of_beq_eq_false rfl)) 2).trans ((congrFun (ms_c e13 (Nat.ne_of_beq_eq_false rfl)) 2).trans ((congrFun (ms_c e11 (Nat.ne_of_beq_eq_false rfl)) 2).trans (congrFun (ms_c e9 (Nat.ne_of_beq_eq_false rfl)) 2))))) h4), h242, (fun c k_ => ((fr243 c (nin_ne (a := 43) k_ rfl) (nin_ne (a := 45) k_ rfl)).trans ((fr215 c (nin_ne (a := 43) k_ rfl) (nin_ne (a := 45) k_ rfl)).trans ((ms_c e13 (nin_ne (a := 43) k_ rfl)).trans ((ms_c e11 (nin_ne (a := 43) k_ rfl)).trans ((ms_c e9 (nin_ne (a := 43) k_ rfl)).trans (fr6 c (nin_ne (a := 44) k_ rfl) (nin_ne (a := 45) k_ rfl) (nin_ne (a := 46) k_ rfl) (nin_ne (a := 47) k_ rfl) (nin_ne (a := 48) k_ rfl)))))))), (fun j k1_ k2_ k3_ => ((fc244 j k2_ k3_).trans ((fc216 j k1_ k2_ k3_).trans ((ms_i e13 k3_).trans ((ms_i e11 k2_).trans ((ms_i e9 k1_).trans (congrFun (fr6 43 (Nat.ne_of_beq_eq_false rfl) (Nat.ne_of_beq_eq_false rfl) (Nat.ne_of_beq_eq_false rfl) (Nat.ne_of_beq_eq_false rfl) (Nat.ne_of_beq_eq_false rfl)) j))))))), (fun j k0_ k2_ => ((congrFun (fr243 44 (Nat.ne_of_beq_eq_false rfl) (Nat.ne_of_beq_eq_false rfl)) j).trans ((congrFun (fr215 44 (Nat.ne_of_beq_eq_false rfl) (Nat.ne_of_beq_eq_false rfl)) j).trans ((congrFun (ms_c e13 (Nat.ne_of_beq_eq_false rfl)) j).trans ((congrFun (ms_c e11 (Nat.ne_of_beq_eq_false rfl)) j).trans ((congrFun (ms_c e9 (Nat.ne_of_beq_eq_false rfl)) j).trans (fc7 j k0_ k2_)))))))⟩
  refine J_lv [1, 3, 0] rfl ?_
  exact lp231 _ (0 : Int32) u12 (bd_w (l := 0) (h := 12) (bd_c (v := 0) (lo := 0) (hi := 0) (by decide)) (by decide)) (fun c k0_ k1_ => rfl) (fun j k1_ k2_ k3_ => rfl) (ab_c ((ms_c e13 (Nat.ne_of_beq_eq_false rfl)).trans ((ms_c e11 (Nat.ne_of_beq_eq_false rfl)).trans (ms_c e9 (Nat.ne_of_beq_eq_false rfl)))) h5) (Nat.lt_succ_self _)
set_option maxHeartbeats 4000000 in
set_option maxRecDepth 100000 in
theorem c_Si_lay_5_49 {d : Nat} {u : Nat → Nat → Int32} {g : Nat → Nat → Int64} {ex : List MC}  (hd : 3 ≤ d) (hp0 : Bd 0 9 (u 5 0)) (hp1 : Bd 0 4 (u 5 2)) (hp2 : Bd 0 12 (u 49 0)) (hp3 : AB u 6 (-1) 999) (hp4 : AB u 45 (-1) 999) (hp5 : (KM u 49)) : CT con0 d 0 0 yX4_lay cX4_lay 4 none [.ref 43, .ref 5, .ref 49] (Wd u g ex) (fun r h2 => ∃ (u2 : Nat → Nat → Int32), r = none ∧ h2 = Wd u2 g ex ∧ Bd 0 9 (u2 44 0) ∧ Bd 0 4 (u2 44 2) ∧ AB u2 45 (-1) 999 ∧ (∀ c, nin c [(43, 48)] = true → u2 c = u c) ∧ (∀ j, j ≠ 1 → j ≠ 2 → j ≠ 3 → u2 43 j = u 43 j) ∧ (∀ j, j ≠ 0 → j ≠ 2 → u2 44 j = u 44 j)) := by
  refine CT_of (by decide) (Nat.le_of_ble_eq_true rfl) (fun x hq => ?_)
  show J x yX4_lay cX4_lay 4 none d 0 0 (Wd u g ex).length 0 [(0, .ref 43), (1, .ref 5), (2, .ref 49)] [] (Wd u g ex) 0 0
  refine J_aload_n (i := 0) (j := 0) dX4_lay_0 rfl rfl ?_
  refine J_get (C := RX4) (T := TX4) (Z := 4) (ci := 4) (f := 0) dX4_lay_1 inG4 rfl (by decide) k294 wc_43 rfl ?_
  refine J_aload_n (i := 1) (j := 1) dX4_lay_4 rfl rfl ?_
  refine J_callV (As := [.ref 5]) (rest := []) dX4_lay_5 (c_H_copyB (d := 1) (u := u) (g := g) (ex := ex)  (t := 44) (f := 5) (by decide) (by decide) (by decide) (Nat.ne_of_beq_eq_false rfl) hp0 hp1 hp4 hp3) hq.n k735 k681 k682 wc_44 rfl rfl k89 k683 np_X1_copy (Nat.le_trans (by decide) hd) (by decide) (Nat.le_refl _) (Nat.le_refl _) wlen rfl (Nat.le_of_ble_eq_true rfl) (fun r_ h_ p1 => ?_)
  obtain ⟨u2, rfl, rfl, h3, h4, h5, fr6, fc7⟩ := p1
  refine J_aload_n (i := 0) (j := 0) dX4_lay_8 rfl rfl ?_
  refine J_iconst (v := 0) dX4_lay_9 (by decide) ?_
  obtain ⟨u8, e9⟩ : ∃ z, z = ms u2 43 1 0 := ⟨_, rfl⟩
  refine J_put (C := RX4) (T := TX4) (Z := 4) (ci := 4) (f := 1) (ty0 := tyX4) dX4_lay_10 inG4 rfl tyX4_ok nmX4 (by decide) k296 rfl rfl wc_43 (Nat.le_of_ble_eq_true rfl) (fun _ _ => ⟨rfl, rfl⟩) (ws e9 wk_43 rfl) ?_
  refine J_aload_n (i := 0) (j := 0) dX4_lay_13 rfl rfl ?_
  refine J_iconst (v := 0) dX4_lay_14 (by decide) ?_
  obtain ⟨u10, e11⟩ : ∃ z, z = ms u8 43 2 0 := ⟨_, rfl⟩
  refine J_put (C := RX4) (T := TX4) (Z := 4) (ci := 4) (f := 2) (ty0 := tyX4) dX4_lay_15 inG4 rfl tyX4_ok nmX4 (by decide) k298 rfl rfl wc_43 (Nat.le_of_ble_eq_true rfl) (fun _ _ => ⟨rfl, rfl⟩) (ws e11 wk_43 rfl) ?_
  refine J_aload_n (i := 0) (j := 0) dX4_lay_18 rfl rfl ?_
  refine J_iconst (v := 0) dX4_lay_19 (by decide) ?_
  obtain ⟨u12, e13⟩ : ∃ z, z = ms u10 43 3 0 := ⟨_, rfl⟩
  refine J_put (C := RX4) (T := TX4) (Z := 4) (ci := 4) (f := 3) (ty0 := tyX4) dX4_lay_20 inG4 rfl tyX4_ok nmX4 (by decide) k300 rfl rfl wc_43 (Nat.le_of_ble_eq_true rfl) (fun _ _ => ⟨rfl, rfl⟩) (ws e13 wk_43 rfl) ?_
  refine J_iconst (v := 0) dX4_lay_23 (by decide) ?_
  refine J_istore_n (i := 3) (lw := [(3, .int 0), (0, .ref 43), (1, .ref 5), (2, .ref 49)]) dX4_lay_24 rfl (by decide) rfl ?_
  have lp231 : ∀ (n232 : Nat) (w213 : Int32) (u214 : Nat → Nat → Int32), Bd 0 12 w213 → (∀ c, c ≠ 43 → c ≠ 45 → u214 c = u12 c) → (∀ j, j ≠ 1 → j ≠ 2 → j ≠ 3 → u214 43 j = u12 43 j) → AB u214 45 (-1) 999 → (12 - w213.toInt).toNat < n232 → J x yX4_lay cX4_lay 4 none d 0 0 (Wd u g ex).length 25 [(0, .ref 43), (2, .ref 49), (3, .int w213)] [] (Wd u214 g ex) 0 0 := by
    intro n232
    induction n232 with
    | zero => intro w213 u214 bw213 fr215 fc216 ab217 hm234; exact absurd hm234 (Nat.not_lt_zero _)
    | succ n232 ih233 =>
      intro w213 u214 bw213 fr215 fc216 ab217 hm234
      refine J_iload_n (i := 3) (j := 2) dX4_lay_25 rfl rfl ?_
      refine J_aload_n (i := 2) (j := 1) dX4_lay_26 rfl rfl ?_
      refine J_getN (C := RX8) (T := TX8) (Z := 4) (ci := 8) (f := 0) dX4_lay_27 inG8 rfl (by decide) k169 wc_49 rfl ?_
      refine J_ci (v := u 49 0) ((congrFun (fr215 49 (Nat.ne_of_beq_eq_false rfl) (Nat.ne_of_beq_eq_false rfl)) 0).trans ((congrFun (ms_c e13 (Nat.ne_of_beq_eq_false rfl)) 0).trans ((congrFun (ms_c e11 (Nat.ne_of_beq_eq_false rfl)) 0).trans ((congrFun (ms_c e9 (Nat.ne_of_beq_eq_false rfl)) 0).trans (congrFun (fr6 49 (Nat.ne_of_beq_eq_false rfl) (Nat.ne_of_beq_eq_false rfl) (Nat.ne_of_beq_eq_false rfl) (Nat.ne_of_beq_eq_false rfl) (Nat.ne_of_beq_eq_false rfl)) 0))))) ?_
      refine J_icmp_ge (tgt := 75) dX4_lay_30 (by decide) (fun c235 => ?_) (fun c235 => ?_)
      · exact J_vret hq dX4_lay_75 rfl wlen (Nat.le_refl _) (Nat.le_refl _) ⟨u214, rfl, rfl, (bd_r ((congrFun (fr215 44 (Nat.ne_of_beq_eq_false rfl) (Nat.ne_of_beq_eq_false rfl)) 0).trans ((congrFun (ms_c e13 (Nat.ne_of_beq_eq_false rfl)) 0).trans ((congrFun (ms_c e11 (Nat.ne_of_beq_eq_false rfl)) 0).trans (congrFun (ms_c e9 (Nat.ne_of_beq_eq_false rfl)) 0)))) h3), (bd_r ((congrFun (fr215 44 (Nat.ne_of_beq_eq_false rfl) (Nat.ne_of_beq_eq_false rfl)) 2).trans ((congrFun (ms_c e13 (Nat.ne_of_beq_eq_false rfl)) 2).trans ((congrFun (ms_c e11 (Nat.ne_of_beq_eq_false rfl)) 2).trans (congrFun (ms_c e9 (Nat.ne_of_beq_eq_false rfl)) 2)))) h4), ab217, (fun c k_ => ((fr215 c (nin_ne (a := 43) k_ rfl) (nin_ne (a := 45) k_ rfl)).trans ((ms_c e13 (nin_ne (a := 43) k_ rfl)).trans ((ms_c e11 (nin_ne (a := 43) k_ rfl)).trans ((ms_c e9 (nin_ne (a := 43) k_ rfl)).trans (fr6 c (nin_ne (a := 44) k_ rfl) (nin_ne (a := 45) k_ rfl) (nin_ne (a := 46) k_ rfl) (nin_ne (a := 47) k_ rfl) (nin_ne (a := 48) k_ rfl))))))), (fun j k1_ k2_ k3_ => ((fc216 j k1_ k2_ k3_).trans ((ms_i e13 k3_).trans ((ms_i e11 k2_).trans ((ms_i e9 k1_).trans (congrFun (fr6 43 (Nat.ne_of_beq_eq_false rfl) (Nat.ne_of_beq_eq_false rfl) (Nat.ne_of_beq_eq_false rfl) (Nat.ne_of_beq_eq_false rfl) (Nat.ne_of_beq_eq_false rfl)) j)))))), (fun j k0_ k2_ => ((congrFun (fr215 44 (Nat.ne_of_beq_eq_false rfl) (Nat.ne_of_beq_eq_false rfl)) j).trans ((congrFun (ms_c e13 (Nat.ne_of_beq_eq_false rfl)) j).trans ((congrFun (ms_c e11 (Nat.ne_of_beq_eq_false rfl)) j).trans ((congrFun (ms_c e9 (Nat.ne_of_beq_eq_false rfl)) j).trans (fc7 j k0_ k2_))))))⟩
      · refine J_aload_n (i := 0) (j := 0) dX4_lay_33 rfl rfl ?_
        refine J_aload_n (i := 2) (j := 1) dX4_lay_34 rfl rfl ?_
        refine J_getN (C := RX8) (T := TX8) (Z := 4) (ci := 8) (f := 1) dX4_lay_35 inG8 rfl (by decide) k172 wc_49 rfl ?_
        refine J_iload_n (i := 3) (j := 2) dX4_lay_38 rfl rfl ?_
        refine J_iald dX4_lay_39 wc_50 (vin (bd_lt_hi bw213 (i_nle c235) hp2) (by decide)) ?_
        refine J_topi (fun v236 qv236 => ?_)
        refine J_aload_n (i := 2) (j := 1) dX4_lay_40 rfl rfl ?_
        refine J_getN (C := RX8) (T := TX8) (Z := 4) (ci := 8) (f := 2) dX4_lay_41 inG8 rfl (by decide) k174 wc_49 rfl ?_
        refine J_iload_n (i := 3) (j := 2) dX4_lay_44 rfl rfl ?_
        refine J_iald dX4_lay_45 wc_51 (vin (bd_lt_hi bw213 (i_nle c235) hp2) (by decide)) ?_
        refine J_topi (fun v237 qv237 => ?_)
        refine J_aload_n (i := 2) (j := 1) dX4_lay_46 rfl rfl ?_
        refine J_getN (C := RX8) (T := TX8) (Z := 4) (ci := 8) (f := 3) dX4_lay_47 inG8 rfl (by decide) k176 wc_49 rfl ?_
        refine J_iload_n (i := 3) (j := 2) dX4_lay_50 rfl rfl ?_
        refine J_iald dX4_lay_51 wc_52 (vin (bd_lt_hi bw213 (i_nle c235) hp2) (by decide)) ?_
        refine J_topi (fun v238 qv238 => ?_)
        refine J_callV (As := [.int v236, .int v237, .int v238]) (rest := []) dX4_lay_52 (c_Si_builds (d := 2) (u := u214) (g := g) (ex := ex) (kind := v236) (pond := v237) (much := v238)  (by decide) (bd_r ((congrFun (fr215 44 (Nat.ne_of_beq_eq_false rfl) (Nat.ne_of_beq_eq_false rfl)) 0).trans ((congrFun (ms_c e13 (Nat.ne_of_beq_eq_false rfl)) 0).trans ((congrFun (ms_c e11 (Nat.ne_of_beq_eq_false rfl)) 0).trans (congrFun (ms_c e9 (Nat.ne_of_beq_eq_false rfl)) 0)))) h3) (bd_r ((congrFun (fr215 44 (Nat.ne_of_beq_eq_false rfl) (Nat.ne_of_beq_eq_false rfl)) 2).trans ((congrFun (ms_c e13 (Nat.ne_of_beq_eq_false rfl)) 2).trans ((congrFun (ms_c e11 (Nat.ne_of_beq_eq_false rfl)) 2).trans (congrFun (ms_c e9 (Nat.ne_of_beq_eq_false rfl)) 2)))) h4) ab217 (km_use qv236 qv238 ((km_c ((fr215 50 (Nat.ne_of_beq_eq_false rfl) (Nat.ne_of_beq_eq_false rfl)).trans ((ms_c e13 (Nat.ne_of_beq_eq_false rfl)).trans ((ms_c e11 (Nat.ne_of_beq_eq_false rfl)).trans ((ms_c e9 (Nat.ne_of_beq_eq_false rfl)).trans (fr6 50 (Nat.ne_of_beq_eq_false rfl) (Nat.ne_of_beq_eq_false rfl) (Nat.ne_of_beq_eq_false rfl) (Nat.ne_of_beq_eq_false rfl) (Nat.ne_of_beq_eq_false rfl)))))) ((fr215 52 (Nat.ne_of_beq_eq_false rfl) (Nat.ne_of_beq_eq_false rfl)).trans ((ms_c e13 (Nat.ne_of_beq_eq_false rfl)).trans ((ms_c e11 (Nat.ne_of_beq_eq_false rfl)).trans ((ms_c e9 (Nat.ne_of_beq_eq_false rfl)).trans (fr6 52 (Nat.ne_of_beq_eq_false rfl) (Nat.ne_of_beq_eq_false rfl) (Nat.ne_of_beq_eq_false rfl) (Nat.ne_of_beq_eq_false rfl) (Nat.ne_of_beq_eq_false rfl)))))) hp5) w213.toNatClampNeg))) hq.n k736 k738 k13 wc_43 rfl rfl k93 k739 np_X4_builds (Nat.le_trans (by decide) hd) (by decide) (Nat.le_refl _) (Nat.le_refl _) wlen rfl (Nat.le_of_ble_eq_true rfl) (fun r_ h_ p239 => ?_)
        obtain ⟨t240, u241, rfl, rfl, h242, fr243, fc244⟩ := p239
        refine J_ifB_ne (tgt := 59) dX4_lay_55 (by decide) (fun c245 => ?_) (fun c245 => ?_)
        · refine J_aload_n (i := 0) (j := 0) dX4_lay_59 rfl rfl ?_
          refine J_dup dX4_lay_60 rfl ?_
          refine J_get (C := RX4) (T := TX4) (Z := 4) (ci := 4) (f := 1) dX4_lay_61 inG4 rfl (by decide) k296 wc_43 rfl ?_
          refine J_ci (v := u214 43 1) (fc244 1 (Nat.ne_of_beq_eq_false rfl) (Nat.ne_of_beq_eq_false rfl)) ?_
          refine J_iconst (v := 1) dX4_lay_64 (by decide) ?_
          refine J_iadd dX4_lay_65 ?_
          obtain ⟨u246, e247⟩ : ∃ z, z = ms u241 43 1 ((u214 43 1) + 1) := ⟨_, rfl⟩
          refine J_put (C := RX4) (T := TX4) (Z := 4) (ci := 4) (f := 1) (ty0 := tyX4) dX4_lay_66 inG4 rfl tyX4_ok nmX4 (by decide) k296 rfl rfl wc_43 (Nat.le_of_ble_eq_true rfl) (fun _ _ => ⟨rfl, rfl⟩) (ws e247 wk_43 rfl) ?_
          refine J_iinc (i := 3) (j := 2) (v := (w213 + 1)) (lw := [(3, .int (w213 + 1)), (0, .ref 43), (2, .ref 49)]) dX4_lay_69 rfl rfl (by decide) rfl ?_
          refine J_goto (tgt := 25) dX4_lay_72 (by decide) ?_
          refine J_lv [1, 2, 0] rfl ?_
          exact ih233 (w213 + 1) u246 (bd_w (l := 0) (h := 12) (bd_add (l := 1) (h := 12) (bd_lt_hi bw213 (i_nle c235) hp2) (bd_c (v := 1) (lo := 1) (hi := 1) (by decide)) (by decide)) (by decide)) (fun c k0_ k1_ => ((ms_c e247 k0_).trans ((fr243 c k0_ k1_).trans (fr215 c k0_ k1_)))) (fun j k1_ k2_ k3_ => ((ms_i e247 k1_).trans ((fc244 j k2_ k3_).trans (fc216 j k1_ k2_ k3_)))) (ab_c (ms_c e247 (Nat.ne_of_beq_eq_false rfl)) h242) (mu_up 1 bw213 rfl (by decide) (bd_w (l := 1) (h := 12) (bd_add (l := 1) (h := 12) (bd_lt_hi bw213 (i_nle c235) hp2) (bd_c (v := 1) (lo := 1) (hi := 1) (by decide)) (by decide)) (by decide)) hm234)
        · exact J_vret hq dX4_lay_58 rfl wlen (Nat.le_refl _) (Nat.le_refl _) ⟨u241, rfl, rfl, (bd_r ((congrFun (fr243 44 (Nat.ne_of_beq_eq_false rfl) (Nat.ne_of_beq_eq_false rfl)) 0).trans ((congrFun (fr215 44 (Nat.ne_of_beq_eq_false rfl) (Nat.ne_of_beq_eq_false rfl)) 0).trans ((congrFun (ms_c e13 (Nat.ne_of_beq_eq_false rfl)) 0).trans ((congrFun (ms_c e11 (Nat.ne_of_beq_eq_false rfl)) 0).trans (congrFun (ms_c e9 (Nat.ne_of_beq_eq_false rfl)) 0))))) h3), (bd_r ((congrFun (fr243 44 (Nat.ne_of_beq_eq_false rfl) (Nat.ne_of_beq_eq_false rfl)) 2).trans ((congrFun (fr215 44 (Nat.ne_of_beq_eq_false rfl) (Nat.ne_of_beq_eq_false rfl)) 2).trans ((congrFun (ms_c e13 (Nat.ne_of_beq_eq_false rfl)) 2).trans ((congrFun (ms_c e11 (Nat.ne_of_beq_eq_false rfl)) 2).trans (congrFun (ms_c e9 (Nat.ne_of_beq_eq_false rfl)) 2))))) h4), h242, (fun c k_ => ((fr243 c (nin_ne (a := 43) k_ rfl) (nin_ne (a := 45) k_ rfl)).trans ((fr215 c (nin_ne (a := 43) k_ rfl) (nin_ne (a := 45) k_ rfl)).trans ((ms_c e13 (nin_ne (a := 43) k_ rfl)).trans ((ms_c e11 (nin_ne (a := 43) k_ rfl)).trans ((ms_c e9 (nin_ne (a := 43) k_ rfl)).trans (fr6 c (nin_ne (a := 44) k_ rfl) (nin_ne (a := 45) k_ rfl) (nin_ne (a := 46) k_ rfl) (nin_ne (a := 47) k_ rfl) (nin_ne (a := 48) k_ rfl)))))))), (fun j k1_ k2_ k3_ => ((fc244 j k2_ k3_).trans ((fc216 j k1_ k2_ k3_).trans ((ms_i e13 k3_).trans ((ms_i e11 k2_).trans ((ms_i e9 k1_).trans (congrFun (fr6 43 (Nat.ne_of_beq_eq_false rfl) (Nat.ne_of_beq_eq_false rfl) (Nat.ne_of_beq_eq_false rfl) (Nat.ne_of_beq_eq_false rfl) (Nat.ne_of_beq_eq_false rfl)) j))))))), (fun j k0_ k2_ => ((congrFun (fr243 44 (Nat.ne_of_beq_eq_false rfl) (Nat.ne_of_beq_eq_false rfl)) j).trans ((congrFun (fr215 44 (Nat.ne_of_beq_eq_false rfl) (Nat.ne_of_beq_eq_false rfl)) j).trans ((congrFun (ms_c e13 (Nat.ne_of_beq_eq_false rfl)) j).trans ((congrFun (ms_c e11 (Nat.ne_of_beq_eq_false rfl)) j).trans ((congrFun (ms_c e9 (Nat.ne_of_beq_eq_false rfl)) j).trans (fc7 j k0_ k2_)))))))⟩
  refine J_lv [1, 3, 0] rfl ?_
  exact lp231 _ (0 : Int32) u12 (bd_w (l := 0) (h := 12) (bd_c (v := 0) (lo := 0) (hi := 0) (by decide)) (by decide)) (fun c k0_ k1_ => rfl) (fun j k1_ k2_ k3_ => rfl) (ab_c ((ms_c e13 (Nat.ne_of_beq_eq_false rfl)).trans ((ms_c e11 (Nat.ne_of_beq_eq_false rfl)).trans (ms_c e9 (Nat.ne_of_beq_eq_false rfl)))) h5) (Nat.lt_succ_self _)
set_option maxHeartbeats 4000000 in
set_option maxRecDepth 100000 in
theorem c_Si_lay_10_15 {d : Nat} {u : Nat → Nat → Int32} {g : Nat → Nat → Int64} {ex : List MC}  (hd : 3 ≤ d) (hp0 : Bd 0 9 (u 10 0)) (hp1 : Bd 0 4 (u 10 2)) (hp2 : Bd 0 12 (u 15 0)) (hp3 : AB u 11 (-1) 999) (hp4 : AB u 45 (-1) 999) (hp5 : (KM u 15)) : CT con0 d 0 0 yX4_lay cX4_lay 4 none [.ref 43, .ref 10, .ref 15] (Wd u g ex) (fun r h2 => ∃ (u2 : Nat → Nat → Int32), r = none ∧ h2 = Wd u2 g ex ∧ Bd 0 9 (u2 44 0) ∧ Bd 0 4 (u2 44 2) ∧ AB u2 45 (-1) 999 ∧ (∀ c, nin c [(43, 48)] = true → u2 c = u c) ∧ (∀ j, j ≠ 1 → j ≠ 2 → j ≠ 3 → u2 43 j = u 43 j) ∧ (∀ j, j ≠ 0 → j ≠ 2 → u2 44 j = u 44 j)) := by
  refine CT_of (by decide) (Nat.le_of_ble_eq_true rfl) (fun x hq => ?_)
  show J x yX4_lay cX4_lay 4 none d 0 0 (Wd u g ex).length 0 [(0, .ref 43), (1, .ref 10), (2, .ref 15)] [] (Wd u g ex) 0 0
  refine J_aload_n (i := 0) (j := 0) dX4_lay_0 rfl rfl ?_
  refine J_get (C := RX4) (T := TX4) (Z := 4) (ci := 4) (f := 0) dX4_lay_1 inG4 rfl (by decide) k294 wc_43 rfl ?_
  refine J_aload_n (i := 1) (j := 1) dX4_lay_4 rfl rfl ?_
  refine J_callV (As := [.ref 10]) (rest := []) dX4_lay_5 (c_H_copyB (d := 1) (u := u) (g := g) (ex := ex)  (t := 44) (f := 10) (by decide) (by decide) (by decide) (Nat.ne_of_beq_eq_false rfl) hp0 hp1 hp4 hp3) hq.n k735 k681 k682 wc_44 rfl rfl k89 k683 np_X1_copy (Nat.le_trans (by decide) hd) (by decide) (Nat.le_refl _) (Nat.le_refl _) wlen rfl (Nat.le_of_ble_eq_true rfl) (fun r_ h_ p1 => ?_)
  obtain ⟨u2, rfl, rfl, h3, h4, h5, fr6, fc7⟩ := p1
  refine J_aload_n (i := 0) (j := 0) dX4_lay_8 rfl rfl ?_
  refine J_iconst (v := 0) dX4_lay_9 (by decide) ?_
  obtain ⟨u8, e9⟩ : ∃ z, z = ms u2 43 1 0 := ⟨_, rfl⟩
  refine J_put (C := RX4) (T := TX4) (Z := 4) (ci := 4) (f := 1) (ty0 := tyX4) dX4_lay_10 inG4 rfl tyX4_ok nmX4 (by decide) k296 rfl rfl wc_43 (Nat.le_of_ble_eq_true rfl) (fun _ _ => ⟨rfl, rfl⟩) (ws e9 wk_43 rfl) ?_
  refine J_aload_n (i := 0) (j := 0) dX4_lay_13 rfl rfl ?_
  refine J_iconst (v := 0) dX4_lay_14 (by decide) ?_
  obtain ⟨u10, e11⟩ : ∃ z, z = ms u8 43 2 0 := ⟨_, rfl⟩
  refine J_put (C := RX4) (T := TX4) (Z := 4) (ci := 4) (f := 2) (ty0 := tyX4) dX4_lay_15 inG4 rfl tyX4_ok nmX4 (by decide) k298 rfl rfl wc_43 (Nat.le_of_ble_eq_true rfl) (fun _ _ => ⟨rfl, rfl⟩) (ws e11 wk_43 rfl) ?_
  refine J_aload_n (i := 0) (j := 0) dX4_lay_18 rfl rfl ?_
  refine J_iconst (v := 0) dX4_lay_19 (by decide) ?_
  obtain ⟨u12, e13⟩ : ∃ z, z = ms u10 43 3 0 := ⟨_, rfl⟩
  refine J_put (C := RX4) (T := TX4) (Z := 4) (ci := 4) (f := 3) (ty0 := tyX4) dX4_lay_20 inG4 rfl tyX4_ok nmX4 (by decide) k300 rfl rfl wc_43 (Nat.le_of_ble_eq_true rfl) (fun _ _ => ⟨rfl, rfl⟩) (ws e13 wk_43 rfl) ?_
  refine J_iconst (v := 0) dX4_lay_23 (by decide) ?_
  refine J_istore_n (i := 3) (lw := [(3, .int 0), (0, .ref 43), (1, .ref 10), (2, .ref 15)]) dX4_lay_24 rfl (by decide) rfl ?_
  have lp231 : ∀ (n232 : Nat) (w213 : Int32) (u214 : Nat → Nat → Int32), Bd 0 12 w213 → (∀ c, c ≠ 43 → c ≠ 45 → u214 c = u12 c) → (∀ j, j ≠ 1 → j ≠ 2 → j ≠ 3 → u214 43 j = u12 43 j) → AB u214 45 (-1) 999 → (12 - w213.toInt).toNat < n232 → J x yX4_lay cX4_lay 4 none d 0 0 (Wd u g ex).length 25 [(0, .ref 43), (2, .ref 15), (3, .int w213)] [] (Wd u214 g ex) 0 0 := by
    intro n232
    induction n232 with
    | zero => intro w213 u214 bw213 fr215 fc216 ab217 hm234; exact absurd hm234 (Nat.not_lt_zero _)
    | succ n232 ih233 =>
      intro w213 u214 bw213 fr215 fc216 ab217 hm234
      refine J_iload_n (i := 3) (j := 2) dX4_lay_25 rfl rfl ?_
      refine J_aload_n (i := 2) (j := 1) dX4_lay_26 rfl rfl ?_
      refine J_getN (C := RX8) (T := TX8) (Z := 4) (ci := 8) (f := 0) dX4_lay_27 inG8 rfl (by decide) k169 wc_15 rfl ?_
      refine J_ci (v := u 15 0) ((congrFun (fr215 15 (Nat.ne_of_beq_eq_false rfl) (Nat.ne_of_beq_eq_false rfl)) 0).trans ((congrFun (ms_c e13 (Nat.ne_of_beq_eq_false rfl)) 0).trans ((congrFun (ms_c e11 (Nat.ne_of_beq_eq_false rfl)) 0).trans ((congrFun (ms_c e9 (Nat.ne_of_beq_eq_false rfl)) 0).trans (congrFun (fr6 15 (Nat.ne_of_beq_eq_false rfl) (Nat.ne_of_beq_eq_false rfl) (Nat.ne_of_beq_eq_false rfl) (Nat.ne_of_beq_eq_false rfl) (Nat.ne_of_beq_eq_false rfl)) 0))))) ?_
      refine J_icmp_ge (tgt := 75) dX4_lay_30 (by decide) (fun c235 => ?_) (fun c235 => ?_)
      · exact J_vret hq dX4_lay_75 rfl wlen (Nat.le_refl _) (Nat.le_refl _) ⟨u214, rfl, rfl, (bd_r ((congrFun (fr215 44 (Nat.ne_of_beq_eq_false rfl) (Nat.ne_of_beq_eq_false rfl)) 0).trans ((congrFun (ms_c e13 (Nat.ne_of_beq_eq_false rfl)) 0).trans ((congrFun (ms_c e11 (Nat.ne_of_beq_eq_false rfl)) 0).trans (congrFun (ms_c e9 (Nat.ne_of_beq_eq_false rfl)) 0)))) h3), (bd_r ((congrFun (fr215 44 (Nat.ne_of_beq_eq_false rfl) (Nat.ne_of_beq_eq_false rfl)) 2).trans ((congrFun (ms_c e13 (Nat.ne_of_beq_eq_false rfl)) 2).trans ((congrFun (ms_c e11 (Nat.ne_of_beq_eq_false rfl)) 2).trans (congrFun (ms_c e9 (Nat.ne_of_beq_eq_false rfl)) 2)))) h4), ab217, (fun c k_ => ((fr215 c (nin_ne (a := 43) k_ rfl) (nin_ne (a := 45) k_ rfl)).trans ((ms_c e13 (nin_ne (a := 43) k_ rfl)).trans ((ms_c e11 (nin_ne (a := 43) k_ rfl)).trans ((ms_c e9 (nin_ne (a := 43) k_ rfl)).trans (fr6 c (nin_ne (a := 44) k_ rfl) (nin_ne (a := 45) k_ rfl) (nin_ne (a := 46) k_ rfl) (nin_ne (a := 47) k_ rfl) (nin_ne (a := 48) k_ rfl))))))), (fun j k1_ k2_ k3_ => ((fc216 j k1_ k2_ k3_).trans ((ms_i e13 k3_).trans ((ms_i e11 k2_).trans ((ms_i e9 k1_).trans (congrFun (fr6 43 (Nat.ne_of_beq_eq_false rfl) (Nat.ne_of_beq_eq_false rfl) (Nat.ne_of_beq_eq_false rfl) (Nat.ne_of_beq_eq_false rfl) (Nat.ne_of_beq_eq_false rfl)) j)))))), (fun j k0_ k2_ => ((congrFun (fr215 44 (Nat.ne_of_beq_eq_false rfl) (Nat.ne_of_beq_eq_false rfl)) j).trans ((congrFun (ms_c e13 (Nat.ne_of_beq_eq_false rfl)) j).trans ((congrFun (ms_c e11 (Nat.ne_of_beq_eq_false rfl)) j).trans ((congrFun (ms_c e9 (Nat.ne_of_beq_eq_false rfl)) j).trans (fc7 j k0_ k2_))))))⟩
      · refine J_aload_n (i := 0) (j := 0) dX4_lay_33 rfl rfl ?_
        refine J_aload_n (i := 2) (j := 1) dX4_lay_34 rfl rfl ?_
        refine J_getN (C := RX8) (T := TX8) (Z := 4) (ci := 8) (f := 1) dX4_lay_35 inG8 rfl (by decide) k172 wc_15 rfl ?_
        refine J_iload_n (i := 3) (j := 2) dX4_lay_38 rfl rfl ?_
        refine J_iald dX4_lay_39 wc_16 (vin (bd_lt_hi bw213 (i_nle c235) hp2) (by decide)) ?_
        refine J_topi (fun v236 qv236 => ?_)
        refine J_aload_n (i := 2) (j := 1) dX4_lay_40 rfl rfl ?_
        refine J_getN (C := RX8) (T := TX8) (Z := 4) (ci := 8) (f := 2) dX4_lay_41 inG8 rfl (by decide) k174 wc_15 rfl ?_
        refine J_iload_n (i := 3) (j := 2) dX4_lay_44 rfl rfl ?_
        refine J_iald dX4_lay_45 wc_17 (vin (bd_lt_hi bw213 (i_nle c235) hp2) (by decide)) ?_
        refine J_topi (fun v237 qv237 => ?_)
        refine J_aload_n (i := 2) (j := 1) dX4_lay_46 rfl rfl ?_
        refine J_getN (C := RX8) (T := TX8) (Z := 4) (ci := 8) (f := 3) dX4_lay_47 inG8 rfl (by decide) k176 wc_15 rfl ?_
        refine J_iload_n (i := 3) (j := 2) dX4_lay_50 rfl rfl ?_
        refine J_iald dX4_lay_51 wc_18 (vin (bd_lt_hi bw213 (i_nle c235) hp2) (by decide)) ?_
        refine J_topi (fun v238 qv238 => ?_)
        refine J_callV (As := [.int v236, .int v237, .int v238]) (rest := []) dX4_lay_52 (c_Si_builds (d := 2) (u := u214) (g := g) (ex := ex) (kind := v236) (pond := v237) (much := v238)  (by decide) (bd_r ((congrFun (fr215 44 (Nat.ne_of_beq_eq_false rfl) (Nat.ne_of_beq_eq_false rfl)) 0).trans ((congrFun (ms_c e13 (Nat.ne_of_beq_eq_false rfl)) 0).trans ((congrFun (ms_c e11 (Nat.ne_of_beq_eq_false rfl)) 0).trans (congrFun (ms_c e9 (Nat.ne_of_beq_eq_false rfl)) 0)))) h3) (bd_r ((congrFun (fr215 44 (Nat.ne_of_beq_eq_false rfl) (Nat.ne_of_beq_eq_false rfl)) 2).trans ((congrFun (ms_c e13 (Nat.ne_of_beq_eq_false rfl)) 2).trans ((congrFun (ms_c e11 (Nat.ne_of_beq_eq_false rfl)) 2).trans (congrFun (ms_c e9 (Nat.ne_of_beq_eq_false rfl)) 2)))) h4) ab217 (km_use qv236 qv238 ((km_c ((fr215 16 (Nat.ne_of_beq_eq_false rfl) (Nat.ne_of_beq_eq_false rfl)).trans ((ms_c e13 (Nat.ne_of_beq_eq_false rfl)).trans ((ms_c e11 (Nat.ne_of_beq_eq_false rfl)).trans ((ms_c e9 (Nat.ne_of_beq_eq_false rfl)).trans (fr6 16 (Nat.ne_of_beq_eq_false rfl) (Nat.ne_of_beq_eq_false rfl) (Nat.ne_of_beq_eq_false rfl) (Nat.ne_of_beq_eq_false rfl) (Nat.ne_of_beq_eq_false rfl)))))) ((fr215 18 (Nat.ne_of_beq_eq_false rfl) (Nat.ne_of_beq_eq_false rfl)).trans ((ms_c e13 (Nat.ne_of_beq_eq_false rfl)).trans ((ms_c e11 (Nat.ne_of_beq_eq_false rfl)).trans ((ms_c e9 (Nat.ne_of_beq_eq_false rfl)).trans (fr6 18 (Nat.ne_of_beq_eq_false rfl) (Nat.ne_of_beq_eq_false rfl) (Nat.ne_of_beq_eq_false rfl) (Nat.ne_of_beq_eq_false rfl) (Nat.ne_of_beq_eq_false rfl)))))) hp5) w213.toNatClampNeg))) hq.n k736 k738 k13 wc_43 rfl rfl k93 k739 np_X4_builds (Nat.le_trans (by decide) hd) (by decide) (Nat.le_refl _) (Nat.le_refl _) wlen rfl (Nat.le_of_ble_eq_true rfl) (fun r_ h_ p239 => ?_)
        obtain ⟨t240, u241, rfl, rfl, h242, fr243, fc244⟩ := p239
        refine J_ifB_ne (tgt := 59) dX4_lay_55 (by decide) (fun c245 => ?_) (fun c245 => ?_)
        · refine J_aload_n (i := 0) (j := 0) dX4_lay_59 rfl rfl ?_
          refine J_dup dX4_lay_60 rfl ?_
          refine J_get (C := RX4) (T := TX4) (Z := 4) (ci := 4) (f := 1) dX4_lay_61 inG4 rfl (by decide) k296 wc_43 rfl ?_
          refine J_ci (v := u214 43 1) (fc244 1 (Nat.ne_of_beq_eq_false rfl) (Nat.ne_of_beq_eq_false rfl)) ?_
          refine J_iconst (v := 1) dX4_lay_64 (by decide) ?_
          refine J_iadd dX4_lay_65 ?_
          obtain ⟨u246, e247⟩ : ∃ z, z = ms u241 43 1 ((u214 43 1) + 1) := ⟨_, rfl⟩
          refine J_put (C := RX4) (T := TX4) (Z := 4) (ci := 4) (f := 1) (ty0 := tyX4) dX4_lay_66 inG4 rfl tyX4_ok nmX4 (by decide) k296 rfl rfl wc_43 (Nat.le_of_ble_eq_true rfl) (fun _ _ => ⟨rfl, rfl⟩) (ws e247 wk_43 rfl) ?_
          refine J_iinc (i := 3) (j := 2) (v := (w213 + 1)) (lw := [(3, .int (w213 + 1)), (0, .ref 43), (2, .ref 15)]) dX4_lay_69 rfl rfl (by decide) rfl ?_
          refine J_goto (tgt := 25) dX4_lay_72 (by decide) ?_
          refine J_lv [1, 2, 0] rfl ?_
          exact ih233 (w213 + 1) u246 (bd_w (l := 0) (h := 12) (bd_add (l := 1) (h := 12) (bd_lt_hi bw213 (i_nle c235) hp2) (bd_c (v := 1) (lo := 1) (hi := 1) (by decide)) (by decide)) (by decide)) (fun c k0_ k1_ => ((ms_c e247 k0_).trans ((fr243 c k0_ k1_).trans (fr215 c k0_ k1_)))) (fun j k1_ k2_ k3_ => ((ms_i e247 k1_).trans ((fc244 j k2_ k3_).trans (fc216 j k1_ k2_ k3_)))) (ab_c (ms_c e247 (Nat.ne_of_beq_eq_false rfl)) h242) (mu_up 1 bw213 rfl (by decide) (bd_w (l := 1) (h := 12) (bd_add (l := 1) (h := 12) (bd_lt_hi bw213 (i_nle c235) hp2) (bd_c (v := 1) (lo := 1) (hi := 1) (by decide)) (by decide)) (by decide)) hm234)
        · exact J_vret hq dX4_lay_58 rfl wlen (Nat.le_refl _) (Nat.le_refl _) ⟨u241, rfl, rfl, (bd_r ((congrFun (fr243 44 (Nat.ne_of_beq_eq_false rfl) (Nat.ne_of_beq_eq_false rfl)) 0).trans ((congrFun (fr215 44 (Nat.ne_of_beq_eq_false rfl) (Nat.ne_of_beq_eq_false rfl)) 0).trans ((congrFun (ms_c e13 (Nat.ne_of_beq_eq_false rfl)) 0).trans ((congrFun (ms_c e11 (Nat.ne_of_beq_eq_false rfl)) 0).trans (congrFun (ms_c e9 (Nat.ne_of_beq_eq_false rfl)) 0))))) h3), (bd_r ((congrFun (fr243 44 (Nat.ne_of_beq_eq_false rfl) (Nat.ne_of_beq_eq_false rfl)) 2).trans ((congrFun (fr215 44 (Nat.ne_of_beq_eq_false rfl) (Nat.ne_of_beq_eq_false rfl)) 2).trans ((congrFun (ms_c e13 (Nat.ne_of_beq_eq_false rfl)) 2).trans ((congrFun (ms_c e11 (Nat.ne_of_beq_eq_false rfl)) 2).trans (congrFun (ms_c e9 (Nat.ne_of_beq_eq_false rfl)) 2))))) h4), h242, (fun c k_ => ((fr243 c (nin_ne (a := 43) k_ rfl) (nin_ne (a := 45) k_ rfl)).trans ((fr215 c (nin_ne (a := 43) k_ rfl) (nin_ne (a := 45) k_ rfl)).trans ((ms_c e13 (nin_ne (a := 43) k_ rfl)).trans ((ms_c e11 (nin_ne (a := 43) k_ rfl)).trans ((ms_c e9 (nin_ne (a := 43) k_ rfl)).trans (fr6 c (nin_ne (a := 44) k_ rfl) (nin_ne (a := 45) k_ rfl) (nin_ne (a := 46) k_ rfl) (nin_ne (a := 47) k_ rfl) (nin_ne (a := 48) k_ rfl)))))))), (fun j k1_ k2_ k3_ => ((fc244 j k2_ k3_).trans ((fc216 j k1_ k2_ k3_).trans ((ms_i e13 k3_).trans ((ms_i e11 k2_).trans ((ms_i e9 k1_).trans (congrFun (fr6 43 (Nat.ne_of_beq_eq_false rfl) (Nat.ne_of_beq_eq_false rfl) (Nat.ne_of_beq_eq_false rfl) (Nat.ne_of_beq_eq_false rfl) (Nat.ne_of_beq_eq_false rfl)) j))))))), (fun j k0_ k2_ => ((congrFun (fr243 44 (Nat.ne_of_beq_eq_false rfl) (Nat.ne_of_beq_eq_false rfl)) j).trans ((congrFun (fr215 44 (Nat.ne_of_beq_eq_false rfl) (Nat.ne_of_beq_eq_false rfl)) j).trans ((congrFun (ms_c e13 (Nat.ne_of_beq_eq_false rfl)) j).trans ((congrFun (ms_c e11 (Nat.ne_of_beq_eq_false rfl)) j).trans ((congrFun (ms_c e9 (Nat.ne_of_beq_eq_false rfl)) j).trans (fc7 j k0_ k2_)))))))⟩
  refine J_lv [1, 3, 0] rfl ?_
  exact lp231 _ (0 : Int32) u12 (bd_w (l := 0) (h := 12) (bd_c (v := 0) (lo := 0) (hi := 0) (by decide)) (by decide)) (fun c k0_ k1_ => rfl) (fun j k1_ k2_ k3_ => rfl) (ab_c ((ms_c e13 (Nat.ne_of_beq_eq_false rfl)).trans ((ms_c e11 (Nat.ne_of_beq_eq_false rfl)).trans (ms_c e9 (Nat.ne_of_beq_eq_false rfl)))) h5) (Nat.lt_succ_self _)
set_option maxHeartbeats 4000000 in
set_option maxRecDepth 100000 in
theorem c_Si_lay_10_19 {d : Nat} {u : Nat → Nat → Int32} {g : Nat → Nat → Int64} {ex : List MC}  (hd : 3 ≤ d) (hp0 : Bd 0 9 (u 10 0)) (hp1 : Bd 0 4 (u 10 2)) (hp2 : Bd 0 12 (u 19 0)) (hp3 : AB u 11 (-1) 999) (hp4 : AB u 45 (-1) 999) (hp5 : (KM u 19)) : CT con0 d 0 0 yX4_lay cX4_lay 4 none [.ref 43, .ref 10, .ref 19] (Wd u g ex) (fun r h2 => ∃ (u2 : Nat → Nat → Int32), r = none ∧ h2 = Wd u2 g ex ∧ Bd 0 9 (u2 44 0) ∧ Bd 0 4 (u2 44 2) ∧ AB u2 45 (-1) 999 ∧ (∀ c, nin c [(43, 48)] = true → u2 c = u c) ∧ (∀ j, j ≠ 1 → j ≠ 2 → j ≠ 3 → u2 43 j = u 43 j) ∧ (∀ j, j ≠ 0 → j ≠ 2 → u2 44 j = u 44 j)) := by
  refine CT_of (by decide) (Nat.le_of_ble_eq_true rfl) (fun x hq => ?_)
  show J x yX4_lay cX4_lay 4 none d 0 0 (Wd u g ex).length 0 [(0, .ref 43), (1, .ref 10), (2, .ref 19)] [] (Wd u g ex) 0 0
  refine J_aload_n (i := 0) (j := 0) dX4_lay_0 rfl rfl ?_
  refine J_get (C := RX4) (T := TX4) (Z := 4) (ci := 4) (f := 0) dX4_lay_1 inG4 rfl (by decide) k294 wc_43 rfl ?_
  refine J_aload_n (i := 1) (j := 1) dX4_lay_4 rfl rfl ?_
  refine J_callV (As := [.ref 10]) (rest := []) dX4_lay_5 (c_H_copyB (d := 1) (u := u) (g := g) (ex := ex)  (t := 44) (f := 10) (by decide) (by decide) (by decide) (Nat.ne_of_beq_eq_false rfl) hp0 hp1 hp4 hp3) hq.n k735 k681 k682 wc_44 rfl rfl k89 k683 np_X1_copy (Nat.le_trans (by decide) hd) (by decide) (Nat.le_refl _) (Nat.le_refl _) wlen rfl (Nat.le_of_ble_eq_true rfl) (fun r_ h_ p1 => ?_)
  obtain ⟨u2, rfl, rfl, h3, h4, h5, fr6, fc7⟩ := p1
  refine J_aload_n (i := 0) (j := 0) dX4_lay_8 rfl rfl ?_
  refine J_iconst (v := 0) dX4_lay_9 (by decide) ?_
  obtain ⟨u8, e9⟩ : ∃ z, z = ms u2 43 1 0 := ⟨_, rfl⟩
  refine J_put (C := RX4) (T := TX4) (Z := 4) (ci := 4) (f := 1) (ty0 := tyX4) dX4_lay_10 inG4 rfl tyX4_ok nmX4 (by decide) k296 rfl rfl wc_43 (Nat.le_of_ble_eq_true rfl) (fun _ _ => ⟨rfl, rfl⟩) (ws e9 wk_43 rfl) ?_
  refine J_aload_n (i := 0) (j := 0) dX4_lay_13 rfl rfl ?_
  refine J_iconst (v := 0) dX4_lay_14 (by decide) ?_
  obtain ⟨u10, e11⟩ : ∃ z, z = ms u8 43 2 0 := ⟨_, rfl⟩
  refine J_put (C := RX4) (T := TX4) (Z := 4) (ci := 4) (f := 2) (ty0 := tyX4) dX4_lay_15 inG4 rfl tyX4_ok nmX4 (by decide) k298 rfl rfl wc_43 (Nat.le_of_ble_eq_true rfl) (fun _ _ => ⟨rfl, rfl⟩) (ws e11 wk_43 rfl) ?_
  refine J_aload_n (i := 0) (j := 0) dX4_lay_18 rfl rfl ?_
  refine J_iconst (v := 0) dX4_lay_19 (by decide) ?_
  obtain ⟨u12, e13⟩ : ∃ z, z = ms u10 43 3 0 := ⟨_, rfl⟩
  refine J_put (C := RX4) (T := TX4) (Z := 4) (ci := 4) (f := 3) (ty0 := tyX4) dX4_lay_20 inG4 rfl tyX4_ok nmX4 (by decide) k300 rfl rfl wc_43 (Nat.le_of_ble_eq_true rfl) (fun _ _ => ⟨rfl, rfl⟩) (ws e13 wk_43 rfl) ?_
  refine J_iconst (v := 0) dX4_lay_23 (by decide) ?_
  refine J_istore_n (i := 3) (lw := [(3, .int 0), (0, .ref 43), (1, .ref 10), (2, .ref 19)]) dX4_lay_24 rfl (by decide) rfl ?_
  have lp231 : ∀ (n232 : Nat) (w213 : Int32) (u214 : Nat → Nat → Int32), Bd 0 12 w213 → (∀ c, c ≠ 43 → c ≠ 45 → u214 c = u12 c) → (∀ j, j ≠ 1 → j ≠ 2 → j ≠ 3 → u214 43 j = u12 43 j) → AB u214 45 (-1) 999 → (12 - w213.toInt).toNat < n232 → J x yX4_lay cX4_lay 4 none d 0 0 (Wd u g ex).length 25 [(0, .ref 43), (2, .ref 19), (3, .int w213)] [] (Wd u214 g ex) 0 0 := by
    intro n232
    induction n232 with
    | zero => intro w213 u214 bw213 fr215 fc216 ab217 hm234; exact absurd hm234 (Nat.not_lt_zero _)
    | succ n232 ih233 =>
      intro w213 u214 bw213 fr215 fc216 ab217 hm234
      refine J_iload_n (i := 3) (j := 2) dX4_lay_25 rfl rfl ?_
      refine J_aload_n (i := 2) (j := 1) dX4_lay_26 rfl rfl ?_
      refine J_getN (C := RX8) (T := TX8) (Z := 4) (ci := 8) (f := 0) dX4_lay_27 inG8 rfl (by decide) k169 wc_19 rfl ?_
      refine J_ci (v := u 19 0) ((congrFun (fr215 19 (Nat.ne_of_beq_eq_false rfl) (Nat.ne_of_beq_eq_false rfl)) 0).trans ((congrFun (ms_c e13 (Nat.ne_of_beq_eq_false rfl)) 0).trans ((congrFun (ms_c e11 (Nat.ne_of_beq_eq_false rfl)) 0).trans ((congrFun (ms_c e9 (Nat.ne_of_beq_eq_false rfl)) 0).trans (congrFun (fr6 19 (Nat.ne_of_beq_eq_false rfl) (Nat.ne_of_beq_eq_false rfl) (Nat.ne_of_beq_eq_false rfl) (Nat.ne_of_beq_eq_false rfl) (Nat.ne_of_beq_eq_false rfl)) 0))))) ?_
      refine J_icmp_ge (tgt := 75) dX4_lay_30 (by decide) (fun c235 => ?_) (fun c235 => ?_)
      · exact J_vret hq dX4_lay_75 rfl wlen (Nat.le_refl _) (Nat.le_refl _) ⟨u214, rfl, rfl, (bd_r ((congrFun (fr215 44 (Nat.ne_of_beq_eq_false rfl) (Nat.ne_of_beq_eq_false rfl)) 0).trans ((congrFun (ms_c e13 (Nat.ne_of_beq_eq_false rfl)) 0).trans ((congrFun (ms_c e11 (Nat.ne_of_beq_eq_false rfl)) 0).trans (congrFun (ms_c e9 (Nat.ne_of_beq_eq_false rfl)) 0)))) h3), (bd_r ((congrFun (fr215 44 (Nat.ne_of_beq_eq_false rfl) (Nat.ne_of_beq_eq_false rfl)) 2).trans ((congrFun (ms_c e13 (Nat.ne_of_beq_eq_false rfl)) 2).trans ((congrFun (ms_c e11 (Nat.ne_of_beq_eq_false rfl)) 2).trans (congrFun (ms_c e9 (Nat.ne_of_beq_eq_false rfl)) 2)))) h4), ab217, (fun c k_ => ((fr215 c (nin_ne (a := 43) k_ rfl) (nin_ne (a := 45) k_ rfl)).trans ((ms_c e13 (nin_ne (a := 43) k_ rfl)).trans ((ms_c e11 (nin_ne (a := 43) k_ rfl)).trans ((ms_c e9 (nin_ne (a := 43) k_ rfl)).trans (fr6 c (nin_ne (a := 44) k_ rfl) (nin_ne (a := 45) k_ rfl) (nin_ne (a := 46) k_ rfl) (nin_ne (a := 47) k_ rfl) (nin_ne (a := 48) k_ rfl))))))), (fun j k1_ k2_ k3_ => ((fc216 j k1_ k2_ k3_).trans ((ms_i e13 k3_).trans ((ms_i e11 k2_).trans ((ms_i e9 k1_).trans (congrFun (fr6 43 (Nat.ne_of_beq_eq_false rfl) (Nat.ne_of_beq_eq_false rfl) (Nat.ne_of_beq_eq_false rfl) (Nat.ne_of_beq_eq_false rfl) (Nat.ne_of_beq_eq_false rfl)) j)))))), (fun j k0_ k2_ => ((congrFun (fr215 44 (Nat.ne_of_beq_eq_false rfl) (Nat.ne_of_beq_eq_false rfl)) j).trans ((congrFun (ms_c e13 (Nat.ne_of_beq_eq_false rfl)) j).trans ((congrFun (ms_c e11 (Nat.ne_of_beq_eq_false rfl)) j).trans ((congrFun (ms_c e9 (Nat.ne_of_beq_eq_false rfl)) j).trans (fc7 j k0_ k2_))))))⟩
      · refine J_aload_n (i := 0) (j := 0) dX4_lay_33 rfl rfl ?_
        refine J_aload_n (i := 2) (j := 1) dX4_lay_34 rfl rfl ?_
        refine J_getN (C := RX8) (T := TX8) (Z := 4) (ci := 8) (f := 1) dX4_lay_35 inG8 rfl (by decide) k172 wc_19 rfl ?_
        refine J_iload_n (i := 3) (j := 2) dX4_lay_38 rfl rfl ?_
        refine J_iald dX4_lay_39 wc_20 (vin (bd_lt_hi bw213 (i_nle c235) hp2) (by decide)) ?_
        refine J_topi (fun v236 qv236 => ?_)
        refine J_aload_n (i := 2) (j := 1) dX4_lay_40 rfl rfl ?_
        refine J_getN (C := RX8) (T := TX8) (Z := 4) (ci := 8) (f := 2) dX4_lay_41 inG8 rfl (by decide) k174 wc_19 rfl ?_
        refine J_iload_n (i := 3) (j := 2) dX4_lay_44 rfl rfl ?_
        refine J_iald dX4_lay_45 wc_21 (vin (bd_lt_hi bw213 (i_nle c235) hp2) (by decide)) ?_
        refine J_topi (fun v237 qv237 => ?_)
        refine J_aload_n (i := 2) (j := 1) dX4_lay_46 rfl rfl ?_
        refine J_getN (C := RX8) (T := TX8) (Z := 4) (ci := 8) (f := 3) dX4_lay_47 inG8 rfl (by decide) k176 wc_19 rfl ?_
        refine J_iload_n (i := 3) (j := 2) dX4_lay_50 rfl rfl ?_
        refine J_iald dX4_lay_51 wc_22 (vin (bd_lt_hi bw213 (i_nle c235) hp2) (by decide)) ?_
        refine J_topi (fun v238 qv238 => ?_)
        refine J_callV (As := [.int v236, .int v237, .int v238]) (rest := []) dX4_lay_52 (c_Si_builds (d := 2) (u := u214) (g := g) (ex := ex) (kind := v236) (pond := v237) (much := v238)  (by decide) (bd_r ((congrFun (fr215 44 (Nat.ne_of_beq_eq_false rfl) (Nat.ne_of_beq_eq_false rfl)) 0).trans ((congrFun (ms_c e13 (Nat.ne_of_beq_eq_false rfl)) 0).trans ((congrFun (ms_c e11 (Nat.ne_of_beq_eq_false rfl)) 0).trans (congrFun (ms_c e9 (Nat.ne_of_beq_eq_false rfl)) 0)))) h3) (bd_r ((congrFun (fr215 44 (Nat.ne_of_beq_eq_false rfl) (Nat.ne_of_beq_eq_false rfl)) 2).trans ((congrFun (ms_c e13 (Nat.ne_of_beq_eq_false rfl)) 2).trans ((congrFun (ms_c e11 (Nat.ne_of_beq_eq_false rfl)) 2).trans (congrFun (ms_c e9 (Nat.ne_of_beq_eq_false rfl)) 2)))) h4) ab217 (km_use qv236 qv238 ((km_c ((fr215 20 (Nat.ne_of_beq_eq_false rfl) (Nat.ne_of_beq_eq_false rfl)).trans ((ms_c e13 (Nat.ne_of_beq_eq_false rfl)).trans ((ms_c e11 (Nat.ne_of_beq_eq_false rfl)).trans ((ms_c e9 (Nat.ne_of_beq_eq_false rfl)).trans (fr6 20 (Nat.ne_of_beq_eq_false rfl) (Nat.ne_of_beq_eq_false rfl) (Nat.ne_of_beq_eq_false rfl) (Nat.ne_of_beq_eq_false rfl) (Nat.ne_of_beq_eq_false rfl)))))) ((fr215 22 (Nat.ne_of_beq_eq_false rfl) (Nat.ne_of_beq_eq_false rfl)).trans ((ms_c e13 (Nat.ne_of_beq_eq_false rfl)).trans ((ms_c e11 (Nat.ne_of_beq_eq_false rfl)).trans ((ms_c e9 (Nat.ne_of_beq_eq_false rfl)).trans (fr6 22 (Nat.ne_of_beq_eq_false rfl) (Nat.ne_of_beq_eq_false rfl) (Nat.ne_of_beq_eq_false rfl) (Nat.ne_of_beq_eq_false rfl) (Nat.ne_of_beq_eq_false rfl)))))) hp5) w213.toNatClampNeg))) hq.n k736 k738 k13 wc_43 rfl rfl k93 k739 np_X4_builds (Nat.le_trans (by decide) hd) (by decide) (Nat.le_refl _) (Nat.le_refl _) wlen rfl (Nat.le_of_ble_eq_true rfl) (fun r_ h_ p239 => ?_)
        obtain ⟨t240, u241, rfl, rfl, h242, fr243, fc244⟩ := p239
        refine J_ifB_ne (tgt := 59) dX4_lay_55 (by decide) (fun c245 => ?_) (fun c245 => ?_)
        · refine J_aload_n (i := 0) (j := 0) dX4_lay_59 rfl rfl ?_
          refine J_dup dX4_lay_60 rfl ?_
          refine J_get (C := RX4) (T := TX4) (Z := 4) (ci := 4) (f := 1) dX4_lay_61 inG4 rfl (by decide) k296 wc_43 rfl ?_
          refine J_ci (v := u214 43 1) (fc244 1 (Nat.ne_of_beq_eq_false rfl) (Nat.ne_of_beq_eq_false rfl)) ?_
          refine J_iconst (v := 1) dX4_lay_64 (by decide) ?_
          refine J_iadd dX4_lay_65 ?_
          obtain ⟨u246, e247⟩ : ∃ z, z = ms u241 43 1 ((u214 43 1) + 1) := ⟨_, rfl⟩
          refine J_put (C := RX4) (T := TX4) (Z := 4) (ci := 4) (f := 1) (ty0 := tyX4) dX4_lay_66 inG4 rfl tyX4_ok nmX4 (by decide) k296 rfl rfl wc_43 (Nat.le_of_ble_eq_true rfl) (fun _ _ => ⟨rfl, rfl⟩) (ws e247 wk_43 rfl) ?_
          refine J_iinc (i := 3) (j := 2) (v := (w213 + 1)) (lw := [(3, .int (w213 + 1)), (0, .ref 43), (2, .ref 19)]) dX4_lay_69 rfl rfl (by decide) rfl ?_
          refine J_goto (tgt := 25) dX4_lay_72 (by decide) ?_
          refine J_lv [1, 2, 0] rfl ?_
          exact ih233 (w213 + 1) u246 (bd_w (l := 0) (h := 12) (bd_add (l := 1) (h := 12) (bd_lt_hi bw213 (i_nle c235) hp2) (bd_c (v := 1) (lo := 1) (hi := 1) (by decide)) (by decide)) (by decide)) (fun c k0_ k1_ => ((ms_c e247 k0_).trans ((fr243 c k0_ k1_).trans (fr215 c k0_ k1_)))) (fun j k1_ k2_ k3_ => ((ms_i e247 k1_).trans ((fc244 j k2_ k3_).trans (fc216 j k1_ k2_ k3_)))) (ab_c (ms_c e247 (Nat.ne_of_beq_eq_false rfl)) h242) (mu_up 1 bw213 rfl (by decide) (bd_w (l := 1) (h := 12) (bd_add (l := 1) (h := 12) (bd_lt_hi bw213 (i_nle c235) hp2) (bd_c (v := 1) (lo := 1) (hi := 1) (by decide)) (by decide)) (by decide)) hm234)
        · exact J_vret hq dX4_lay_58 rfl wlen (Nat.le_refl _) (Nat.le_refl _) ⟨u241, rfl, rfl, (bd_r ((congrFun (fr243 44 (Nat.ne_of_beq_eq_false rfl) (Nat.ne_of_beq_eq_false rfl)) 0).trans ((congrFun (fr215 44 (Nat.ne_of_beq_eq_false rfl) (Nat.ne_of_beq_eq_false rfl)) 0).trans ((congrFun (ms_c e13 (Nat.ne_of_beq_eq_false rfl)) 0).trans ((congrFun (ms_c e11 (Nat.ne_of_beq_eq_false rfl)) 0).trans (congrFun (ms_c e9 (Nat.ne_of_beq_eq_false rfl)) 0))))) h3), (bd_r ((congrFun (fr243 44 (Nat.ne_of_beq_eq_false rfl) (Nat.ne_of_beq_eq_false rfl)) 2).trans ((congrFun (fr215 44 (Nat.ne_of_beq_eq_false rfl) (Nat.ne_of_beq_eq_false rfl)) 2).trans ((congrFun (ms_c e13 (Nat.ne_of_beq_eq_false rfl)) 2).trans ((congrFun (ms_c e11 (Nat.ne_of_beq_eq_false rfl)) 2).trans (congrFun (ms_c e9 (Nat.ne_of_beq_eq_false rfl)) 2))))) h4), h242, (fun c k_ => ((fr243 c (nin_ne (a := 43) k_ rfl) (nin_ne (a := 45) k_ rfl)).trans ((fr215 c (nin_ne (a := 43) k_ rfl) (nin_ne (a := 45) k_ rfl)).trans ((ms_c e13 (nin_ne (a := 43) k_ rfl)).trans ((ms_c e11 (nin_ne (a := 43) k_ rfl)).trans ((ms_c e9 (nin_ne (a := 43) k_ rfl)).trans (fr6 c (nin_ne (a := 44) k_ rfl) (nin_ne (a := 45) k_ rfl) (nin_ne (a := 46) k_ rfl) (nin_ne (a := 47) k_ rfl) (nin_ne (a := 48) k_ rfl)))))))), (fun j k1_ k2_ k3_ => ((fc244 j k2_ k3_).trans ((fc216 j k1_ k2_ k3_).trans ((ms_i e13 k3_).trans ((ms_i e11 k2_).trans ((ms_i e9 k1_).trans (congrFun (fr6 43 (Nat.ne_of_beq_eq_false rfl) (Nat.ne_of_beq_eq_false rfl) (Nat.ne_of_beq_eq_false rfl) (Nat.ne_of_beq_eq_false rfl) (Nat.ne_of_beq_eq_false rfl)) j))))))), (fun j k0_ k2_ => ((congrFun (fr243 44 (Nat.ne_of_beq_eq_false rfl) (Nat.ne_of_beq_eq_false rfl)) j).trans ((congrFun (fr215 44 (Nat.ne_of_beq_eq_false rfl) (Nat.ne_of_beq_eq_false rfl)) j).trans ((congrFun (ms_c e13 (Nat.ne_of_beq_eq_false rfl)) j).trans ((congrFun (ms_c e11 (Nat.ne_of_beq_eq_false rfl)) j).trans ((congrFun (ms_c e9 (Nat.ne_of_beq_eq_false rfl)) j).trans (fc7 j k0_ k2_)))))))⟩
  refine J_lv [1, 3, 0] rfl ?_
  exact lp231 _ (0 : Int32) u12 (bd_w (l := 0) (h := 12) (bd_c (v := 0) (lo := 0) (hi := 0) (by decide)) (by decide)) (fun c k0_ k1_ => rfl) (fun j k1_ k2_ k3_ => rfl) (ab_c ((ms_c e13 (Nat.ne_of_beq_eq_false rfl)).trans ((ms_c e11 (Nat.ne_of_beq_eq_false rfl)).trans (ms_c e9 (Nat.ne_of_beq_eq_false rfl)))) h5) (Nat.lt_succ_self _)
set_option maxHeartbeats 4000000 in
set_option maxRecDepth 100000 in
theorem c_Si_lay_10_23 {d : Nat} {u : Nat → Nat → Int32} {g : Nat → Nat → Int64} {ex : List MC}  (hd : 3 ≤ d) (hp0 : Bd 0 9 (u 10 0)) (hp1 : Bd 0 4 (u 10 2)) (hp2 : Bd 0 12 (u 23 0)) (hp3 : AB u 11 (-1) 999) (hp4 : AB u 45 (-1) 999) (hp5 : (KM u 23)) : CT con0 d 0 0 yX4_lay cX4_lay 4 none [.ref 43, .ref 10, .ref 23] (Wd u g ex) (fun r h2 => ∃ (u2 : Nat → Nat → Int32), r = none ∧ h2 = Wd u2 g ex ∧ Bd 0 9 (u2 44 0) ∧ Bd 0 4 (u2 44 2) ∧ AB u2 45 (-1) 999 ∧ (∀ c, nin c [(43, 48)] = true → u2 c = u c) ∧ (∀ j, j ≠ 1 → j ≠ 2 → j ≠ 3 → u2 43 j = u 43 j) ∧ (∀ j, j ≠ 0 → j ≠ 2 → u2 44 j = u 44 j)) := by
  refine CT_of (by decide) (Nat.le_of_ble_eq_true rfl) (fun x hq => ?_)
  show J x yX4_lay cX4_lay 4 none d 0 0 (Wd u g ex).length 0 [(0, .ref 43), (1, .ref 10), (2, .ref 23)] [] (Wd u g ex) 0 0
  refine J_aload_n (i := 0) (j := 0) dX4_lay_0 rfl rfl ?_
  refine J_get (C := RX4) (T := TX4) (Z := 4) (ci := 4) (f := 0) dX4_lay_1 inG4 rfl (by decide) k294 wc_43 rfl ?_
  refine J_aload_n (i := 1) (j := 1) dX4_lay_4 rfl rfl ?_
  refine J_callV (As := [.ref 10]) (rest := []) dX4_lay_5 (c_H_copyB (d := 1) (u := u) (g := g) (ex := ex)  (t := 44) (f := 10) (by decide) (by decide) (by decide) (Nat.ne_of_beq_eq_false rfl) hp0 hp1 hp4 hp3) hq.n k735 k681 k682 wc_44 rfl rfl k89 k683 np_X1_copy (Nat.le_trans (by decide) hd) (by decide) (Nat.le_refl _) (Nat.le_refl _) wlen rfl (Nat.le_of_ble_eq_true rfl) (fun r_ h_ p1 => ?_)
  obtain ⟨u2, rfl, rfl, h3, h4, h5, fr6, fc7⟩ := p1
  refine J_aload_n (i := 0) (j := 0) dX4_lay_8 rfl rfl ?_
  refine J_iconst (v := 0) dX4_lay_9 (by decide) ?_
  obtain ⟨u8, e9⟩ : ∃ z, z = ms u2 43 1 0 := ⟨_, rfl⟩
  refine J_put (C := RX4) (T := TX4) (Z := 4) (ci := 4) (f := 1) (ty0 := tyX4) dX4_lay_10 inG4 rfl tyX4_ok nmX4 (by decide) k296 rfl rfl wc_43 (Nat.le_of_ble_eq_true rfl) (fun _ _ => ⟨rfl, rfl⟩) (ws e9 wk_43 rfl) ?_
  refine J_aload_n (i := 0) (j := 0) dX4_lay_13 rfl rfl ?_
  refine J_iconst (v := 0) dX4_lay_14 (by decide) ?_
  obtain ⟨u10, e11⟩ : ∃ z, z = ms u8 43 2 0 := ⟨_, rfl⟩
  refine J_put (C := RX4) (T := TX4) (Z := 4) (ci := 4) (f := 2) (ty0 := tyX4) dX4_lay_15 inG4 rfl tyX4_ok nmX4 (by decide) k298 rfl rfl wc_43 (Nat.le_of_ble_eq_true rfl) (fun _ _ => ⟨rfl, rfl⟩) (ws e11 wk_43 rfl) ?_
  refine J_aload_n (i := 0) (j := 0) dX4_lay_18 rfl rfl ?_
  refine J_iconst (v := 0) dX4_lay_19 (by decide) ?_
  obtain ⟨u12, e13⟩ : ∃ z, z = ms u10 43 3 0 := ⟨_, rfl⟩
  refine J_put (C := RX4) (T := TX4) (Z := 4) (ci := 4) (f := 3) (ty0 := tyX4) dX4_lay_20 inG4 rfl tyX4_ok nmX4 (by decide) k300 rfl rfl wc_43 (Nat.le_of_ble_eq_true rfl) (fun _ _ => ⟨rfl, rfl⟩) (ws e13 wk_43 rfl) ?_
  refine J_iconst (v := 0) dX4_lay_23 (by decide) ?_
  refine J_istore_n (i := 3) (lw := [(3, .int 0), (0, .ref 43), (1, .ref 10), (2, .ref 23)]) dX4_lay_24 rfl (by decide) rfl ?_
  have lp231 : ∀ (n232 : Nat) (w213 : Int32) (u214 : Nat → Nat → Int32), Bd 0 12 w213 → (∀ c, c ≠ 43 → c ≠ 45 → u214 c = u12 c) → (∀ j, j ≠ 1 → j ≠ 2 → j ≠ 3 → u214 43 j = u12 43 j) → AB u214 45 (-1) 999 → (12 - w213.toInt).toNat < n232 → J x yX4_lay cX4_lay 4 none d 0 0 (Wd u g ex).length 25 [(0, .ref 43), (2, .ref 23), (3, .int w213)] [] (Wd u214 g ex) 0 0 := by
    intro n232
    induction n232 with
    | zero => intro w213 u214 bw213 fr215 fc216 ab217 hm234; exact absurd hm234 (Nat.not_lt_zero _)
    | succ n232 ih233 =>
      intro w213 u214 bw213 fr215 fc216 ab217 hm234
      refine J_iload_n (i := 3) (j := 2) dX4_lay_25 rfl rfl ?_
      refine J_aload_n (i := 2) (j := 1) dX4_lay_26 rfl rfl ?_
      refine J_getN (C := RX8) (T := TX8) (Z := 4) (ci := 8) (f := 0) dX4_lay_27 inG8 rfl (by decide) k169 wc_23 rfl ?_
      refine J_ci (v := u 23 0) ((congrFun (fr215 23 (Nat.ne_of_beq_eq_false rfl) (Nat.ne_of_beq_eq_false rfl)) 0).trans ((congrFun (ms_c e13 (Nat.ne_of_beq_eq_false rfl)) 0).trans ((congrFun (ms_c e11 (Nat.ne_of_beq_eq_false rfl)) 0).trans ((congrFun (ms_c e9 (Nat.ne_of_beq_eq_false rfl)) 0).trans (congrFun (fr6 23 (Nat.ne_of_beq_eq_false rfl) (Nat.ne_of_beq_eq_false rfl) (Nat.ne_of_beq_eq_false rfl) (Nat.ne_of_beq_eq_false rfl) (Nat.ne_of_beq_eq_false rfl)) 0))))) ?_
      refine J_icmp_ge (tgt := 75) dX4_lay_30 (by decide) (fun c235 => ?_) (fun c235 => ?_)
      · exact J_vret hq dX4_lay_75 rfl wlen (Nat.le_refl _) (Nat.le_refl _) ⟨u214, rfl, rfl, (bd_r ((congrFun (fr215 44 (Nat.ne_of_beq_eq_false rfl) (Nat.ne_of_beq_eq_false rfl)) 0).trans ((congrFun (ms_c e13 (Nat.ne_of_beq_eq_false rfl)) 0).trans ((congrFun (ms_c e11 (Nat.ne_of_beq_eq_false rfl)) 0).trans (congrFun (ms_c e9 (Nat.ne_of_beq_eq_false rfl)) 0)))) h3), (bd_r ((congrFun (fr215 44 (Nat.ne_of_beq_eq_false rfl) (Nat.ne_of_beq_eq_false rfl)) 2).trans ((congrFun (ms_c e13 (Nat.ne_of_beq_eq_false rfl)) 2).trans ((congrFun (ms_c e11 (Nat.ne_of_beq_eq_false rfl)) 2).trans (congrFun (ms_c e9 (Nat.ne_of_beq_eq_false rfl)) 2)))) h4), ab217, (fun c k_ => ((fr215 c (nin_ne (a := 43) k_ rfl) (nin_ne (a := 45) k_ rfl)).trans ((ms_c e13 (nin_ne (a := 43) k_ rfl)).trans ((ms_c e11 (nin_ne (a := 43) k_ rfl)).trans ((ms_c e9 (nin_ne (a := 43) k_ rfl)).trans (fr6 c (nin_ne (a := 44) k_ rfl) (nin_ne (a := 45) k_ rfl) (nin_ne (a := 46) k_ rfl) (nin_ne (a := 47) k_ rfl) (nin_ne (a := 48) k_ rfl))))))), (fun j k1_ k2_ k3_ => ((fc216 j k1_ k2_ k3_).trans ((ms_i e13 k3_).trans ((ms_i e11 k2_).trans ((ms_i e9 k1_).trans (congrFun (fr6 43 (Nat.ne_of_beq_eq_false rfl) (Nat.ne_of_beq_eq_false rfl) (Nat.ne_of_beq_eq_false rfl) (Nat.ne_of_beq_eq_false rfl) (Nat.ne_of_beq_eq_false rfl)) j)))))), (fun j k0_ k2_ => ((congrFun (fr215 44 (Nat.ne_of_beq_eq_false rfl) (Nat.ne_of_beq_eq_false rfl)) j).trans ((congrFun (ms_c e13 (Nat.ne_of_beq_eq_false rfl)) j).trans ((congrFun (ms_c e11 (Nat.ne_of_beq_eq_false rfl)) j).trans ((congrFun (ms_c e9 (Nat.ne_of_beq_eq_false rfl)) j).trans (fc7 j k0_ k2_))))))⟩
      · refine J_aload_n (i := 0) (j := 0) dX4_lay_33 rfl rfl ?_
        refine J_aload_n (i := 2) (j := 1) dX4_lay_34 rfl rfl ?_
        refine J_getN (C := RX8) (T := TX8) (Z := 4) (ci := 8) (f := 1) dX4_lay_35 inG8 rfl (by decide) k172 wc_23 rfl ?_
        refine J_iload_n (i := 3) (j := 2) dX4_lay_38 rfl rfl ?_
        refine J_iald dX4_lay_39 wc_24 (vin (bd_lt_hi bw213 (i_nle c235) hp2) (by decide)) ?_
        refine J_topi (fun v236 qv236 => ?_)
        refine J_aload_n (i := 2) (j := 1) dX4_lay_40 rfl rfl ?_
        refine J_getN (C := RX8) (T := TX8) (Z := 4) (ci := 8) (f := 2) dX4_lay_41 inG8 rfl (by decide) k174 wc_23 rfl ?_
        refine J_iload_n (i := 3) (j := 2) dX4_lay_44 rfl rfl ?_
        refine J_iald dX4_lay_45 wc_25 (vin (bd_lt_hi bw213 (i_nle c235) hp2) (by decide)) ?_
        refine J_topi (fun v237 qv237 => ?_)
        refine J_aload_n (i := 2) (j := 1) dX4_lay_46 rfl rfl ?_
        refine J_getN (C := RX8) (T := TX8) (Z := 4) (ci := 8) (f := 3) dX4_lay_47 inG8 rfl (by decide) k176 wc_23 rfl ?_
        refine J_iload_n (i := 3) (j := 2) dX4_lay_50 rfl rfl ?_
        refine J_iald dX4_lay_51 wc_26 (vin (bd_lt_hi bw213 (i_nle c235) hp2) (by decide)) ?_
        refine J_topi (fun v238 qv238 => ?_)
        refine J_callV (As := [.int v236, .int v237, .int v238]) (rest := []) dX4_lay_52 (c_Si_builds (d := 2) (u := u214) (g := g) (ex := ex) (kind := v236) (pond := v237) (much := v238)  (by decide) (bd_r ((congrFun (fr215 44 (Nat.ne_of_beq_eq_false rfl) (Nat.ne_of_beq_eq_false rfl)) 0).trans ((congrFun (ms_c e13 (Nat.ne_of_beq_eq_false rfl)) 0).trans ((congrFun (ms_c e11 (Nat.ne_of_beq_eq_false rfl)) 0).trans (congrFun (ms_c e9 (Nat.ne_of_beq_eq_false rfl)) 0)))) h3) (bd_r ((congrFun (fr215 44 (Nat.ne_of_beq_eq_false rfl) (Nat.ne_of_beq_eq_false rfl)) 2).trans ((congrFun (ms_c e13 (Nat.ne_of_beq_eq_false rfl)) 2).trans ((congrFun (ms_c e11 (Nat.ne_of_beq_eq_false rfl)) 2).trans (congrFun (ms_c e9 (Nat.ne_of_beq_eq_false rfl)) 2)))) h4) ab217 (km_use qv236 qv238 ((km_c ((fr215 24 (Nat.ne_of_beq_eq_false rfl) (Nat.ne_of_beq_eq_false rfl)).trans ((ms_c e13 (Nat.ne_of_beq_eq_false rfl)).trans ((ms_c e11 (Nat.ne_of_beq_eq_false rfl)).trans ((ms_c e9 (Nat.ne_of_beq_eq_false rfl)).trans (fr6 24 (Nat.ne_of_beq_eq_false rfl) (Nat.ne_of_beq_eq_false rfl) (Nat.ne_of_beq_eq_false rfl) (Nat.ne_of_beq_eq_false rfl) (Nat.ne_of_beq_eq_false rfl)))))) ((fr215 26 (Nat.ne_of_beq_eq_false rfl) (Nat.ne_of_beq_eq_false rfl)).trans ((ms_c e13 (Nat.ne_of_beq_eq_false rfl)).trans ((ms_c e11 (Nat.ne_of_beq_eq_false rfl)).trans ((ms_c e9 (Nat.ne_of_beq_eq_false rfl)).trans (fr6 26 (Nat.ne_of_beq_eq_false rfl) (Nat.ne_of_beq_eq_false rfl) (Nat.ne_of_beq_eq_false rfl) (Nat.ne_of_beq_eq_false rfl) (Nat.ne_of_beq_eq_false rfl)))))) hp5) w213.toNatClampNeg))) hq.n k736 k738 k13 wc_43 rfl rfl k93 k739 np_X4_builds (Nat.le_trans (by decide) hd) (by decide) (Nat.le_refl _) (Nat.le_refl _) wlen rfl (Nat.le_of_ble_eq_true rfl) (fun r_ h_ p239 => ?_)
        obtain ⟨t240, u241, rfl, rfl, h242, fr243, fc244⟩ := p239
        refine J_ifB_ne (tgt := 59) dX4_lay_55 (by decide) (fun c245 => ?_) (fun c245 => ?_)
        · refine J_aload_n (i := 0) (j := 0) dX4_lay_59 rfl rfl ?_
          refine J_dup dX4_lay_60 rfl ?_
          refine J_get (C := RX4) (T := TX4) (Z := 4) (ci := 4) (f := 1) dX4_lay_61 inG4 rfl (by decide) k296 wc_43 rfl ?_
          refine J_ci (v := u214 43 1) (fc244 1 (Nat.ne_of_beq_eq_false rfl) (Nat.ne_of_beq_eq_false rfl)) ?_
          refine J_iconst (v := 1) dX4_lay_64 (by decide) ?_
          refine J_iadd dX4_lay_65 ?_
          obtain ⟨u246, e247⟩ : ∃ z, z = ms u241 43 1 ((u214 43 1) + 1) := ⟨_, rfl⟩
          refine J_put (C := RX4) (T := TX4) (Z := 4) (ci := 4) (f := 1) (ty0 := tyX4) dX4_lay_66 inG4 rfl tyX4_ok nmX4 (by decide) k296 rfl rfl wc_43 (Nat.le_of_ble_eq_true rfl) (fun _ _ => ⟨rfl, rfl⟩) (ws e247 wk_43 rfl) ?_
          refine J_iinc (i := 3) (j := 2) (v := (w213 + 1)) (lw := [(3, .int (w213 + 1)), (0, .ref 43), (2, .ref 23)]) dX4_lay_69 rfl rfl (by decide) rfl ?_
          refine J_goto (tgt := 25) dX4_lay_72 (by decide) ?_
          refine J_lv [1, 2, 0] rfl ?_
          exact ih233 (w213 + 1) u246 (bd_w (l := 0) (h := 12) (bd_add (l := 1) (h := 12) (bd_lt_hi bw213 (i_nle c235) hp2) (bd_c (v := 1) (lo := 1) (hi := 1) (by decide)) (by decide)) (by decide)) (fun c k0_ k1_ => ((ms_c e247 k0_).trans ((fr243 c k0_ k1_).trans (fr215 c k0_ k1_)))) (fun j k1_ k2_ k3_ => ((ms_i e247 k1_).trans ((fc244 j k2_ k3_).trans (fc216 j k1_ k2_ k3_)))) (ab_c (ms_c e247 (Nat.ne_of_beq_eq_false rfl)) h242) (mu_up 1 bw213 rfl (by decide) (bd_w (l := 1) (h := 12) (bd_add (l := 1) (h := 12) (bd_lt_hi bw213 (i_nle c235) hp2) (bd_c (v := 1) (lo := 1) (hi := 1) (by decide)) (by decide)) (by decide)) hm234)
        · exact J_vret hq dX4_lay_58 rfl wlen (Nat.le_refl _) (Nat.le_refl _) ⟨u241, rfl, rfl, (bd_r ((congrFun (fr243 44 (Nat.ne_of_beq_eq_false rfl) (Nat.ne_of_beq_eq_false rfl)) 0).trans ((congrFun (fr215 44 (Nat.ne_of_beq_eq_false rfl) (Nat.ne_of_beq_eq_false rfl)) 0).trans ((congrFun (ms_c e13 (Nat.ne_of_beq_eq_false rfl)) 0).trans ((congrFun (ms_c e11 (Nat.ne_of_beq_eq_false rfl)) 0).trans (congrFun (ms_c e9 (Nat.ne_of_beq_eq_false rfl)) 0))))) h3), (bd_r ((congrFun (fr243 44 (Nat.ne_of_beq_eq_false rfl) (Nat.ne_of_beq_eq_false rfl)) 2).trans ((congrFun (fr215 44 (Nat.ne_of_beq_eq_false rfl) (Nat.ne_of_beq_eq_false rfl)) 2).trans ((congrFun (ms_c e13 (Nat.ne_of_beq_eq_false rfl)) 2).trans ((congrFun (ms_c e11 (Nat.ne_of_beq_eq_false rfl)) 2).trans (congrFun (ms_c e9 (Nat.ne_of_beq_eq_false rfl)) 2))))) h4), h242, (fun c k_ => ((fr243 c (nin_ne (a := 43) k_ rfl) (nin_ne (a := 45) k_ rfl)).trans ((fr215 c (nin_ne (a := 43) k_ rfl) (nin_ne (a := 45) k_ rfl)).trans ((ms_c e13 (nin_ne (a := 43) k_ rfl)).trans ((ms_c e11 (nin_ne (a := 43) k_ rfl)).trans ((ms_c e9 (nin_ne (a := 43) k_ rfl)).trans (fr6 c (nin_ne (a := 44) k_ rfl) (nin_ne (a := 45) k_ rfl) (nin_ne (a := 46) k_ rfl) (nin_ne (a := 47) k_ rfl) (nin_ne (a := 48) k_ rfl)))))))), (fun j k1_ k2_ k3_ => ((fc244 j k2_ k3_).trans ((fc216 j k1_ k2_ k3_).trans ((ms_i e13 k3_).trans ((ms_i e11 k2_).trans ((ms_i e9 k1_).trans (congrFun (fr6 43 (Nat.ne_of_beq_eq_false rfl) (Nat.ne_of_beq_eq_false rfl) (Nat.ne_of_beq_eq_false rfl) (Nat.ne_of_beq_eq_false rfl) (Nat.ne_of_beq_eq_false rfl)) j))))))), (fun j k0_ k2_ => ((congrFun (fr243 44 (Nat.ne_of_beq_eq_false rfl) (Nat.ne_of_beq_eq_false rfl)) j).trans ((congrFun (fr215 44 (Nat.ne_of_beq_eq_false rfl) (Nat.ne_of_beq_eq_false rfl)) j).trans ((congrFun (ms_c e13 (Nat.ne_of_beq_eq_false rfl)) j).trans ((congrFun (ms_c e11 (Nat.ne_of_beq_eq_false rfl)) j).trans ((congrFun (ms_c e9 (Nat.ne_of_beq_eq_false rfl)) j).trans (fc7 j k0_ k2_)))))))⟩
  refine J_lv [1, 3, 0] rfl ?_
  exact lp231 _ (0 : Int32) u12 (bd_w (l := 0) (h := 12) (bd_c (v := 0) (lo := 0) (hi := 0) (by decide)) (by decide)) (fun c k0_ k1_ => rfl) (fun j k1_ k2_ k3_ => rfl) (ab_c ((ms_c e13 (Nat.ne_of_beq_eq_false rfl)).trans ((ms_c e11 (Nat.ne_of_beq_eq_false rfl)).trans (ms_c e9 (Nat.ne_of_beq_eq_false rfl)))) h5) (Nat.lt_succ_self _)
set_option maxHeartbeats 4000000 in
set_option maxRecDepth 100000 in
theorem c_Si_lay_10_49 {d : Nat} {u : Nat → Nat → Int32} {g : Nat → Nat → Int64} {ex : List MC}  (hd : 3 ≤ d) (hp0 : Bd 0 9 (u 10 0)) (hp1 : Bd 0 4 (u 10 2)) (hp2 : Bd 0 12 (u 49 0)) (hp3 : AB u 11 (-1) 999) (hp4 : AB u 45 (-1) 999) (hp5 : (KM u 49)) : CT con0 d 0 0 yX4_lay cX4_lay 4 none [.ref 43, .ref 10, .ref 49] (Wd u g ex) (fun r h2 => ∃ (u2 : Nat → Nat → Int32), r = none ∧ h2 = Wd u2 g ex ∧ Bd 0 9 (u2 44 0) ∧ Bd 0 4 (u2 44 2) ∧ AB u2 45 (-1) 999 ∧ (∀ c, nin c [(43, 48)] = true → u2 c = u c) ∧ (∀ j, j ≠ 1 → j ≠ 2 → j ≠ 3 → u2 43 j = u 43 j) ∧ (∀ j, j ≠ 0 → j ≠ 2 → u2 44 j = u 44 j)) := by
  refine CT_of (by decide) (Nat.le_of_ble_eq_true rfl) (fun x hq => ?_)
  show J x yX4_lay cX4_lay 4 none d 0 0 (Wd u g ex).length 0 [(0, .ref 43), (1, .ref 10), (2, .ref 49)] [] (Wd u g ex) 0 0
  refine J_aload_n (i := 0) (j := 0) dX4_lay_0 rfl rfl ?_
  refine J_get (C := RX4) (T := TX4) (Z := 4) (ci := 4) (f := 0) dX4_lay_1 inG4 rfl (by decide) k294 wc_43 rfl ?_
  refine J_aload_n (i := 1) (j := 1) dX4_lay_4 rfl rfl ?_
  refine J_callV (As := [.ref 10]) (rest := []) dX4_lay_5 (c_H_copyB (d := 1) (u := u) (g := g) (ex := ex)  (t := 44) (f := 10) (by decide) (by decide) (by decide) (Nat.ne_of_beq_eq_false rfl) hp0 hp1 hp4 hp3) hq.n k735 k681 k682 wc_44 rfl rfl k89 k683 np_X1_copy (Nat.le_trans (by decide) hd) (by decide) (Nat.le_refl _) (Nat.le_refl _) wlen rfl (Nat.le_of_ble_eq_true rfl) (fun r_ h_ p1 => ?_)
  obtain ⟨u2, rfl, rfl, h3, h4, h5, fr6, fc7⟩ := p1
  refine J_aload_n (i := 0) (j := 0) dX4_lay_8 rfl rfl ?_
  refine J_iconst (v := 0) dX4_lay_9 (by decide) ?_
  obtain ⟨u8, e9⟩ : ∃ z, z = ms u2 43 1 0 := ⟨_, rfl⟩
  refine J_put (C := RX4) (T := TX4) (Z := 4) (ci := 4) (f := 1) (ty0 := tyX4) dX4_lay_10 inG4 rfl tyX4_ok nmX4 (by decide) k296 rfl rfl wc_43 (Nat.le_of_ble_eq_true rfl) (fun _ _ => ⟨rfl, rfl⟩) (ws e9 wk_43 rfl) ?_
  refine J_aload_n (i := 0) (j := 0) dX4_lay_13 rfl rfl ?_
  refine J_iconst (v := 0) dX4_lay_14 (by decide) ?_
  obtain ⟨u10, e11⟩ : ∃ z, z = ms u8 43 2 0 := ⟨_, rfl⟩
  refine J_put (C := RX4) (T := TX4) (Z := 4) (ci := 4) (f := 2) (ty0 := tyX4) dX4_lay_15 inG4 rfl tyX4_ok nmX4 (by decide) k298 rfl rfl wc_43 (Nat.le_of_ble_eq_true rfl) (fun _ _ => ⟨rfl, rfl⟩) (ws e11 wk_43 rfl) ?_
  refine J_aload_n (i := 0) (j := 0) dX4_lay_18 rfl rfl ?_
  refine J_iconst (v := 0) dX4_lay_19 (by decide) ?_
  obtain ⟨u12, e13⟩ : ∃ z, z = ms u10 43 3 0 := ⟨_, rfl⟩
  refine J_put (C := RX4) (T := TX4) (Z := 4) (ci := 4) (f := 3) (ty0 := tyX4) dX4_lay_20 inG4 rfl tyX4_ok nmX4 (by decide) k300 rfl rfl wc_43 (Nat.le_of_ble_eq_true rfl) (fun _ _ => ⟨rfl, rfl⟩) (ws e13 wk_43 rfl) ?_
  refine J_iconst (v := 0) dX4_lay_23 (by decide) ?_
  refine J_istore_n (i := 3) (lw := [(3, .int 0), (0, .ref 43), (1, .ref 10), (2, .ref 49)]) dX4_lay_24 rfl (by decide) rfl ?_
  have lp231 : ∀ (n232 : Nat) (w213 : Int32) (u214 : Nat → Nat → Int32), Bd 0 12 w213 → (∀ c, c ≠ 43 → c ≠ 45 → u214 c = u12 c) → (∀ j, j ≠ 1 → j ≠ 2 → j ≠ 3 → u214 43 j = u12 43 j) → AB u214 45 (-1) 999 → (12 - w213.toInt).toNat < n232 → J x yX4_lay cX4_lay 4 none d 0 0 (Wd u g ex).length 25 [(0, .ref 43), (2, .ref 49), (3, .int w213)] [] (Wd u214 g ex) 0 0 := by
    intro n232
    induction n232 with
    | zero => intro w213 u214 bw213 fr215 fc216 ab217 hm234; exact absurd hm234 (Nat.not_lt_zero _)
    | succ n232 ih233 =>
      intro w213 u214 bw213 fr215 fc216 ab217 hm234
      refine J_iload_n (i := 3) (j := 2) dX4_lay_25 rfl rfl ?_
      refine J_aload_n (i := 2) (j := 1) dX4_lay_26 rfl rfl ?_
      refine J_getN (C := RX8) (T := TX8) (Z := 4) (ci := 8) (f := 0) dX4_lay_27 inG8 rfl (by decide) k169 wc_49 rfl ?_
      refine J_ci (v := u 49 0) ((congrFun (fr215 49 (Nat.ne_of_beq_eq_false rfl) (Nat.ne_of_beq_eq_false rfl)) 0).trans ((congrFun (ms_c e13 (Nat.ne_of_beq_eq_false rfl)) 0).trans ((congrFun (ms_c e11 (Nat.ne_of_beq_eq_false rfl)) 0).trans ((congrFun (ms_c e9 (Nat.ne_of_beq_eq_false rfl)) 0).trans (congrFun (fr6 49 (Nat.ne_of_beq_eq_false rfl) (Nat.ne_of_beq_eq_false rfl) (Nat.ne_of_beq_eq_false rfl) (Nat.ne_of_beq_eq_false rfl) (Nat.ne_of_beq_eq_false rfl)) 0))))) ?_
      refine J_icmp_ge (tgt := 75) dX4_lay_30 (by decide) (fun c235 => ?_) (fun c235 => ?_)
      · exact J_vret hq dX4_lay_75 rfl wlen (Nat.le_refl _) (Nat.le_refl _) ⟨u214, rfl, rfl, (bd_r ((congrFun (fr215 44 (Nat.ne_of_beq_eq_false rfl) (Nat.ne_of_beq_eq_false rfl)) 0).trans ((congrFun (ms_c e13 (Nat.ne_of_beq_eq_false rfl)) 0).trans ((congrFun (ms_c e11 (Nat.ne_of_beq_eq_false rfl)) 0).trans (congrFun (ms_c e9 (Nat.ne_of_beq_eq_false rfl)) 0)))) h3), (bd_r ((congrFun (fr215 44 (Nat.ne_of_beq_eq_false rfl) (Nat.ne_of_beq_eq_false rfl)) 2).trans ((congrFun (ms_c e13 (Nat.ne_of_beq_eq_false rfl)) 2).trans ((congrFun (ms_c e11 (Nat.ne_of_beq_eq_false rfl)) 2).trans (congrFun (ms_c e9 (Nat.ne_of_beq_eq_false rfl)) 2)))) h4), ab217, (fun c k_ => ((fr215 c (nin_ne (a := 43) k_ rfl) (nin_ne (a := 45) k_ rfl)).trans ((ms_c e13 (nin_ne (a := 43) k_ rfl)).trans ((ms_c e11 (nin_ne (a := 43) k_ rfl)).trans ((ms_c e9 (nin_ne (a := 43) k_ rfl)).trans (fr6 c (nin_ne (a := 44) k_ rfl) (nin_ne (a := 45) k_ rfl) (nin_ne (a := 46) k_ rfl) (nin_ne (a := 47) k_ rfl) (nin_ne (a := 48) k_ rfl))))))), (fun j k1_ k2_ k3_ => ((fc216 j k1_ k2_ k3_).trans ((ms_i e13 k3_).trans ((ms_i e11 k2_).trans ((ms_i e9 k1_).trans (congrFun (fr6 43 (Nat.ne_of_beq_eq_false rfl) (Nat.ne_of_beq_eq_false rfl) (Nat.ne_of_beq_eq_false rfl) (Nat.ne_of_beq_eq_false rfl) (Nat.ne_of_beq_eq_false rfl)) j)))))), (fun j k0_ k2_ => ((congrFun (fr215 44 (Nat.ne_of_beq_eq_false rfl) (Nat.ne_of_beq_eq_false rfl)) j).trans ((congrFun (ms_c e13 (Nat.ne_of_beq_eq_false rfl)) j).trans ((congrFun (ms_c e11 (Nat.ne_of_beq_eq_false rfl)) j).trans ((congrFun (ms_c e9 (Nat.ne_of_beq_eq_false rfl)) j).trans (fc7 j k0_ k2_))))))⟩
      · refine J_aload_n (i := 0) (j := 0) dX4_lay_33 rfl rfl ?_
        refine J_aload_n (i := 2) (j := 1) dX4_lay_34 rfl rfl ?_
        refine J_getN (C := RX8) (T := TX8) (Z := 4) (ci := 8) (f := 1) dX4_lay_35 inG8 rfl (by decide) k172 wc_49 rfl ?_
        refine J_iload_n (i := 3) (j := 2) dX4_lay_38 rfl rfl ?_
        refine J_iald dX4_lay_39 wc_50 (vin (bd_lt_hi bw213 (i_nle c235) hp2) (by decide)) ?_
        refine J_topi (fun v236 qv236 => ?_)
        refine J_aload_n (i := 2) (j := 1) dX4_lay_40 rfl rfl ?_
        refine J_getN (C := RX8) (T := TX8) (Z := 4) (ci := 8) (f := 2) dX4_lay_41 inG8 rfl (by decide) k174 wc_49 rfl ?_
        refine J_iload_n (i := 3) (j := 2) dX4_lay_44 rfl rfl ?_
        refine J_iald dX4_lay_45 wc_51 (vin (bd_lt_hi bw213 (i_nle c235) hp2) (by decide)) ?_
        refine J_topi (fun v237 qv237 => ?_)
        refine J_aload_n (i := 2) (j := 1) dX4_lay_46 rfl rfl ?_
        refine J_getN (C := RX8) (T := TX8) (Z := 4) (ci := 8) (f := 3) dX4_lay_47 inG8 rfl (by decide) k176 wc_49 rfl ?_
        refine J_iload_n (i := 3) (j := 2) dX4_lay_50 rfl rfl ?_
        refine J_iald dX4_lay_51 wc_52 (vin (bd_lt_hi bw213 (i_nle c235) hp2) (by decide)) ?_
        refine J_topi (fun v238 qv238 => ?_)
        refine J_callV (As := [.int v236, .int v237, .int v238]) (rest := []) dX4_lay_52 (c_Si_builds (d := 2) (u := u214) (g := g) (ex := ex) (kind := v236) (pond := v237) (much := v238)  (by decide) (bd_r ((congrFun (fr215 44 (Nat.ne_of_beq_eq_false rfl) (Nat.ne_of_beq_eq_false rfl)) 0).trans ((congrFun (ms_c e13 (Nat.ne_of_beq_eq_false rfl)) 0).trans ((congrFun (ms_c e11 (Nat.ne_of_beq_eq_false rfl)) 0).trans (congrFun (ms_c e9 (Nat.ne_of_beq_eq_false rfl)) 0)))) h3) (bd_r ((congrFun (fr215 44 (Nat.ne_of_beq_eq_false rfl) (Nat.ne_of_beq_eq_false rfl)) 2).trans ((congrFun (ms_c e13 (Nat.ne_of_beq_eq_false rfl)) 2).trans ((congrFun (ms_c e11 (Nat.ne_of_beq_eq_false rfl)) 2).trans (congrFun (ms_c e9 (Nat.ne_of_beq_eq_false rfl)) 2)))) h4) ab217 (km_use qv236 qv238 ((km_c ((fr215 50 (Nat.ne_of_beq_eq_false rfl) (Nat.ne_of_beq_eq_false rfl)).trans ((ms_c e13 (Nat.ne_of_beq_eq_false rfl)).trans ((ms_c e11 (Nat.ne_of_beq_eq_false rfl)).trans ((ms_c e9 (Nat.ne_of_beq_eq_false rfl)).trans (fr6 50 (Nat.ne_of_beq_eq_false rfl) (Nat.ne_of_beq_eq_false rfl) (Nat.ne_of_beq_eq_false rfl) (Nat.ne_of_beq_eq_false rfl) (Nat.ne_of_beq_eq_false rfl)))))) ((fr215 52 (Nat.ne_of_beq_eq_false rfl) (Nat.ne_of_beq_eq_false rfl)).trans ((ms_c e13 (Nat.ne_of_beq_eq_false rfl)).trans ((ms_c e11 (Nat.ne_of_beq_eq_false rfl)).trans ((ms_c e9 (Nat.ne_of_beq_eq_false rfl)).trans (fr6 52 (Nat.ne_of_beq_eq_false rfl) (Nat.ne_of_beq_eq_false rfl) (Nat.ne_of_beq_eq_false rfl) (Nat.ne_of_beq_eq_false rfl) (Nat.ne_of_beq_eq_false rfl)))))) hp5) w213.toNatClampNeg))) hq.n k736 k738 k13 wc_43 rfl rfl k93 k739 np_X4_builds (Nat.le_trans (by decide) hd) (by decide) (Nat.le_refl _) (Nat.le_refl _) wlen rfl (Nat.le_of_ble_eq_true rfl) (fun r_ h_ p239 => ?_)
        obtain ⟨t240, u241, rfl, rfl, h242, fr243, fc244⟩ := p239
        refine J_ifB_ne (tgt := 59) dX4_lay_55 (by decide) (fun c245 => ?_) (fun c245 => ?_)
        · refine J_aload_n (i := 0) (j := 0) dX4_lay_59 rfl rfl ?_
          refine J_dup dX4_lay_60 rfl ?_
          refine J_get (C := RX4) (T := TX4) (Z := 4) (ci := 4) (f := 1) dX4_lay_61 inG4 rfl (by decide) k296 wc_43 rfl ?_
          refine J_ci (v := u214 43 1) (fc244 1 (Nat.ne_of_beq_eq_false rfl) (Nat.ne_of_beq_eq_false rfl)) ?_
          refine J_iconst (v := 1) dX4_lay_64 (by decide) ?_
          refine J_iadd dX4_lay_65 ?_
          obtain ⟨u246, e247⟩ : ∃ z, z = ms u241 43 1 ((u214 43 1) + 1) := ⟨_, rfl⟩
          refine J_put (C := RX4) (T := TX4) (Z := 4) (ci := 4) (f := 1) (ty0 := tyX4) dX4_lay_66 inG4 rfl tyX4_ok nmX4 (by decide) k296 rfl rfl wc_43 (Nat.le_of_ble_eq_true rfl) (fun _ _ => ⟨rfl, rfl⟩) (ws e247 wk_43 rfl) ?_
          refine J_iinc (i := 3) (j := 2) (v := (w213 + 1)) (lw := [(3, .int (w213 + 1)), (0, .ref 43), (2, .ref 49)]) dX4_lay_69 rfl rfl (by decide) rfl ?_
          refine J_goto (tgt := 25) dX4_lay_72 (by decide) ?_
          refine J_lv [1, 2, 0] rfl ?_
          exact ih233 (w213 + 1) u246 (bd_w (l := 0) (h := 12) (bd_add (l := 1) (h := 12) (bd_lt_hi bw213 (i_nle c235) hp2) (bd_c (v := 1) (lo := 1) (hi := 1) (by decide)) (by decide)) (by decide)) (fun c k0_ k1_ => ((ms_c e247 k0_).trans ((fr243 c k0_ k1_).trans (fr215 c k0_ k1_)))) (fun j k1_ k2_ k3_ => ((ms_i e247 k1_).trans ((fc244 j k2_ k3_).trans (fc216 j k1_ k2_ k3_)))) (ab_c (ms_c e247 (Nat.ne_of_beq_eq_false rfl)) h242) (mu_up 1 bw213 rfl (by decide) (bd_w (l := 1) (h := 12) (bd_add (l := 1) (h := 12) (bd_lt_hi bw213 (i_nle c235) hp2) (bd_c (v := 1) (lo := 1) (hi := 1) (by decide)) (by decide)) (by decide)) hm234)
        · exact J_vret hq dX4_lay_58 rfl wlen (Nat.le_refl _) (Nat.le_refl _) ⟨u241, rfl, rfl, (bd_r ((congrFun (fr243 44 (Nat.ne_of_beq_eq_false rfl) (Nat.ne_of_beq_eq_false rfl)) 0).trans ((congrFun (fr215 44 (Nat.ne_of_beq_eq_false rfl) (Nat.ne_of_beq_eq_false rfl)) 0).trans ((congrFun (ms_c e13 (Nat.ne_of_beq_eq_false rfl)) 0).trans ((congrFun (ms_c e11 (Nat.ne_of_beq_eq_false rfl)) 0).trans (congrFun (ms_c e9 (Nat.ne_of_beq_eq_false rfl)) 0))))) h3), (bd_r ((congrFun (fr243 44 (Nat.ne_of_beq_eq_false rfl) (Nat.ne_of_beq_eq_false rfl)) 2).trans ((congrFun (fr215 44 (Nat.ne_of_beq_eq_false rfl) (Nat.ne_of_beq_eq_false rfl)) 2).trans ((congrFun (ms_c e13 (Nat.ne_of_beq_eq_false rfl)) 2).trans ((congrFun (ms_c e11 (Nat.ne_of_beq_eq_false rfl)) 2).trans (congrFun (ms_c e9 (Nat.ne_of_beq_eq_false rfl)) 2))))) h4), h242, (fun c k_ => ((fr243 c (nin_ne (a := 43) k_ rfl) (nin_ne (a := 45) k_ rfl)).trans ((fr215 c (nin_ne (a := 43) k_ rfl) (nin_ne (a := 45) k_ rfl)).trans ((ms_c e13 (nin_ne (a := 43) k_ rfl)).trans ((ms_c e11 (nin_ne (a := 43) k_ rfl)).trans ((ms_c e9 (nin_ne (a := 43) k_ rfl)).trans (fr6 c (nin_ne (a := 44) k_ rfl) (nin_ne (a := 45) k_ rfl) (nin_ne (a := 46) k_ rfl) (nin_ne (a := 47) k_ rfl) (nin_ne (a := 48) k_ rfl)))))))), (fun j k1_ k2_ k3_ => ((fc244 j k2_ k3_).trans ((fc216 j k1_ k2_ k3_).trans ((ms_i e13 k3_).trans ((ms_i e11 k2_).trans ((ms_i e9 k1_).trans (congrFun (fr6 43 (Nat.ne_of_beq_eq_false rfl) (Nat.ne_of_beq_eq_false rfl) (Nat.ne_of_beq_eq_false rfl) (Nat.ne_of_beq_eq_false rfl) (Nat.ne_of_beq_eq_false rfl)) j))))))), (fun j k0_ k2_ => ((congrFun (fr243 44 (Nat.ne_of_beq_eq_false rfl) (Nat.ne_of_beq_eq_false rfl)) j).trans ((congrFun (fr215 44 (Nat.ne_of_beq_eq_false rfl) (Nat.ne_of_beq_eq_false rfl)) j).trans ((congrFun (ms_c e13 (Nat.ne_of_beq_eq_false rfl)) j).trans ((congrFun (ms_c e11 (Nat.ne_of_beq_eq_false rfl)) j).trans ((congrFun (ms_c e9 (Nat.ne_of_beq_eq_false rfl)) j).trans (fc7 j k0_ k2_)))))))⟩
  refine J_lv [1, 3, 0] rfl ?_
  exact lp231 _ (0 : Int32) u12 (bd_w (l := 0) (h := 12) (bd_c (v := 0) (lo := 0) (hi := 0) (by decide)) (by decide)) (fun c k0_ k1_ => rfl) (fun j k1_ k2_ k3_ => rfl) (ab_c ((ms_c e13 (Nat.ne_of_beq_eq_false rfl)).trans ((ms_c e11 (Nat.ne_of_beq_eq_false rfl)).trans (ms_c e9 (Nat.ne_of_beq_eq_false rfl)))) h5) (Nat.lt_succ_self _)
set_option maxHeartbeats 4000000 in
set_option maxRecDepth 100000 in
theorem c_T_hasHill {d : Nat} {u : Nat → Nat → Int32} {g : Nat → Nat → Int64} {ex : List MC} {number : Int32} (hd : 0 ≤ d) (hp0 : Bd 0 2 (u 1 5)) : CT con0 d 0 0 yX7_hasHill cX7_hasHill 2 (some .boolean) [.ref 1, .int number] (Wd u g ex) (fun r h2 => ∃ (z : Bool), r = some (.int (bI z)) ∧ h2 = Wd u g ex ∧ (z = true → Bd 0 1 number)) := by
  refine CT_of (by decide) (Nat.le_of_ble_eq_true rfl) (fun x hq => ?_)
  show J x yX7_hasHill cX7_hasHill 2 (some .boolean) d 0 0 (Wd u g ex).length 0 [(0, .ref 1), (1, .int number)] [] (Wd u g ex) 0 0
  refine J_iload_n (i := 1) (j := 1) dX7_hasHill_0 rfl rfl ?_
  refine J_if_lt (tgt := 16) dX7_hasHill_1 (by decide) (fun c1 => ?_) (fun c1 => ?_)
  · refine J_iconst (v := 0) dX7_hasHill_16 (by decide) ?_
    exact J_zret hq dX7_hasHill_17 rfl rfl wlen (Nat.le_refl _) (Nat.le_refl _) ⟨false, rfl, rfl, (fun q => absurd q (by decide))⟩
  · refine J_iload_n (i := 1) (j := 1) dX7_hasHill_4 rfl rfl ?_
    refine J_aload_n (i := 0) (j := 0) dX7_hasHill_5 rfl rfl ?_
    refine J_get (C := RX7) (T := TX7) (Z := 8) (ci := 7) (f := 5) dX7_hasHill_6 inG7 rfl (by decide) k196 wc_1 rfl ?_
    refine J_icmp_ge (tgt := 16) dX7_hasHill_9 (by decide) (fun c2 => ?_) (fun c2 => ?_)
    · refine J_iconst (v := 0) dX7_hasHill_16 (by decide) ?_
      exact J_zret hq dX7_hasHill_17 rfl rfl wlen (Nat.le_refl _) (Nat.le_refl _) ⟨false, rfl, rfl, (fun q => absurd q (by decide))⟩
    · refine J_iconst (v := 1) dX7_hasHill_12 (by decide) ?_
      refine J_goto (tgt := 17) dX7_hasHill_13 (by decide) ?_
      exact J_zret hq dX7_hasHill_17 rfl rfl wlen (Nat.le_refl _) (Nat.le_refl _) ⟨true, rfl, rfl, (fun qb => (bd_lt_hi (bd_le_lo (bd_any number) (i_nlt c1) (bd_c (v := 0) (lo := 0) (hi := 0) (by decide))) (i_nle c2) hp0))⟩
set_option maxHeartbeats 4000000 in
set_option maxRecDepth 100000 in
theorem c_T_hasPlan {d : Nat} {u : Nat → Nat → Int32} {g : Nat → Nat → Int64} {ex : List MC} {number : Int32} (hd : 0 ≤ d) (hp0 : Bd 0 3 (u 1 7)) : CT con0 d 0 0 yX7_hasPlan cX7_hasPlan 2 (some .boolean) [.ref 1, .int number] (Wd u g ex) (fun r h2 => ∃ (z : Bool), r = some (.int (bI z)) ∧ h2 = Wd u g ex ∧ (z = true → Bd 0 2 number)) := by
  refine CT_of (by decide) (Nat.le_of_ble_eq_true rfl) (fun x hq => ?_)
  show J x yX7_hasPlan cX7_hasPlan 2 (some .boolean) d 0 0 (Wd u g ex).length 0 [(0, .ref 1), (1, .int number)] [] (Wd u g ex) 0 0
  refine J_iload_n (i := 1) (j := 1) dX7_hasPlan_0 rfl rfl ?_
  refine J_if_lt (tgt := 16) dX7_hasPlan_1 (by decide) (fun c1 => ?_) (fun c1 => ?_)
  · refine J_iconst (v := 0) dX7_hasPlan_16 (by decide) ?_
    exact J_zret hq dX7_hasPlan_17 rfl rfl wlen (Nat.le_refl _) (Nat.le_refl _) ⟨false, rfl, rfl, (fun q => absurd q (by decide))⟩
  · refine J_iload_n (i := 1) (j := 1) dX7_hasPlan_4 rfl rfl ?_
    refine J_aload_n (i := 0) (j := 0) dX7_hasPlan_5 rfl rfl ?_
    refine J_get (C := RX7) (T := TX7) (Z := 8) (ci := 7) (f := 7) dX7_hasPlan_6 inG7 rfl (by decide) k200 wc_1 rfl ?_
    refine J_icmp_ge (tgt := 16) dX7_hasPlan_9 (by decide) (fun c2 => ?_) (fun c2 => ?_)
    · refine J_iconst (v := 0) dX7_hasPlan_16 (by decide) ?_
      exact J_zret hq dX7_hasPlan_17 rfl rfl wlen (Nat.le_refl _) (Nat.le_refl _) ⟨false, rfl, rfl, (fun q => absurd q (by decide))⟩
    · refine J_iconst (v := 1) dX7_hasPlan_12 (by decide) ?_
      refine J_goto (tgt := 17) dX7_hasPlan_13 (by decide) ?_
      exact J_zret hq dX7_hasPlan_17 rfl rfl wlen (Nat.le_refl _) (Nat.le_refl _) ⟨true, rfl, rfl, (fun qb => (bd_lt_hi (bd_le_lo (bd_any number) (i_nlt c1) (bd_c (v := 0) (lo := 0) (hi := 0) (by decide))) (i_nle c2) hp0))⟩
set_option maxHeartbeats 4000000 in
set_option maxRecDepth 100000 in
theorem c_P_lays {d : Nat} {u : Nat → Nat → Int32} {g : Nat → Nat → Int64} {ex : List MC} {hill : Int32} {plan : Int32} (hd : 4 ≤ d) (hp0 : Bd 0 2 (u 1 5)) (hp1 : Bd 0 3 (u 1 7)) (hp2 : Bd 0 9 (u 44 0)) (hp3 : Bd 0 4 (u 44 2)) (hp4 : Bd 0 9 (u 5 0)) (hp5 : Bd 0 4 (u 5 2)) (hp6 : Bd 0 9 (u 10 0)) (hp7 : Bd 0 4 (u 10 2)) (hp8 : Bd 0 12 (u 15 0)) (hp9 : Bd 0 12 (u 19 0)) (hp10 : Bd 0 12 (u 23 0)) (hp11 : Bd 0 12 (u 49 0)) (hp12 : AB u 45 (-1) 999) (hp13 : AB u 6 (-1) 999) (hp14 : AB u 11 (-1) 999) (hp15 : (KM u 15)) (hp16 : (KM u 19)) (hp17 : (KM u 23)) (hp18 : (KM u 49)) : CT con0 d 0 0 yX10_lays cX10_lays 3 (some .boolean) [.ref 0, .int hill, .int plan] (Wd u g ex) (fun r h2 => ∃ (z : Bool) (u2 : Nat → Nat → Int32), r = some (.int (bI z)) ∧ h2 = Wd u2 g ex ∧ Bd 0 9 (u2 44 0) ∧ Bd 0 4 (u2 44 2) ∧ AB u2 45 (-1) 999 ∧ (∀ c, nin c [(43, 48)] = true → u2 c = u c) ∧ (∀ j, j ≠ 1 → j ≠ 2 → j ≠ 3 → u2 43 j = u 43 j) ∧ (∀ j, j ≠ 0 → j ≠ 2 → u2 44 j = u 44 j)) := by
  refine CT_of (by decide) (Nat.le_of_ble_eq_true rfl) (fun x hq => ?_)
  show J x yX10_lays cX10_lays 3 (some .boolean) d 0 0 (Wd u g ex).length 0 [(0, .ref 0), (1, .int hill), (2, .int plan)] [] (Wd u g ex) 0 0
  refine J_aload_n (i := 0) (j := 0) dX10_lays_0 rfl rfl ?_
  refine J_get (C := RX10) (T := TX10) (Z := 10) (ci := 10) (f := 0) dX10_lays_1 inG10 rfl (by decide) k423 wc_0 rfl ?_
  refine J_iload_n (i := 1) (j := 1) dX10_lays_4 rfl rfl ?_
  refine J_callV (As := [.int hill]) (rest := []) dX10_lays_5 (c_T_hasHill (d := 0) (u := u) (g := g) (ex := ex) (number := hill)  (by decide) hp0) hq.n k703 k704 k705 wc_1 rfl rfl k88 k706 np_X7_hasHill (Nat.le_trans (by decide) hd) (by decide) (Nat.le_refl _) (Nat.le_refl _) wlen rfl (Nat.le_of_ble_eq_true rfl) (fun r_ h_ p1 => ?_)
  obtain ⟨t2, rfl, rfl, h3⟩ := p1
  refine J_ifB_eq (tgt := 27) dX10_lays_8 (by decide) (fun c4 => ?_) (fun c4 => ?_)
  · refine J_iconst (v := 0) dX10_lays_27 (by decide) ?_
    exact J_zret hq dX10_lays_28 rfl rfl wlen (Nat.le_refl _) (Nat.le_refl _) ⟨false, u, rfl, rfl, hp2, hp3, hp12, (fun c k_ => rfl), (fun j k1_ k2_ k3_ => rfl), (fun j k0_ k2_ => rfl)⟩
  · refine J_iload_n (i := 2) (j := 2) dX10_lays_11 rfl rfl ?_
    refine J_iconst (v := (-1)) dX10_lays_12 (by decide) ?_
    refine J_icmp_eq (tgt := 29) dX10_lays_13 (by decide) (fun c5 => ?_) (fun c5 => ?_)
    · refine J_aload_n (i := 0) (j := 0) dX10_lays_29 rfl rfl ?_
      refine J_get (C := RX10) (T := TX10) (Z := 10) (ci := 10) (f := 4) dX10_lays_30 inG10 rfl (by decide) k427 wc_0 rfl ?_
      refine J_aload_n (i := 0) (j := 0) dX10_lays_33 rfl rfl ?_
      refine J_get (C := RX10) (T := TX10) (Z := 10) (ci := 10) (f := 0) dX10_lays_34 inG10 rfl (by decide) k423 wc_0 rfl ?_
      refine J_getN (C := RX7) (T := TX7) (Z := 8) (ci := 7) (f := 4) dX10_lays_37 inG7 rfl (by decide) k195 wc_1 rfl ?_
      refine J_iload_n (i := 1) (j := 1) dX10_lays_40 rfl rfl ?_
      have h6 := bd_cases2 (h3 c4)
      rcases h6 with h6_0 | h6_1
      · refine J_aald (q := 5) dX10_lays_41 wc_3 (fun _ => rfl) (vin (h3 c4) (by decide)) (by rw [h6_0]; rfl) ?_
        refine J_iload_n (i := 2) (j := 2) dX10_lays_42 rfl rfl ?_
        refine J_iconst (v := (-1)) dX10_lays_43 (by decide) ?_
        refine J_icmp_ne (tgt := 54) dX10_lays_44 (by decide) (fun c7 => ?_) (fun c7 => ?_)
        · exact (bd_no (bd_ne_lo (bd_r c5 (bd_c (v := (-1)) (lo := (-1)) (hi := (-1)) (by decide))) c7 (by decide)) (by decide)).elim
        · refine J_aload_n (i := 0) (j := 0) dX10_lays_47 rfl rfl ?_
          refine J_get (C := RX10) (T := TX10) (Z := 10) (ci := 10) (f := 5) dX10_lays_48 inG10 rfl (by decide) k428 wc_0 rfl ?_
          refine J_goto (tgt := 63) dX10_lays_51 (by decide) ?_
          refine J_callV (As := [.ref 5, .ref 49]) (rest := []) dX10_lays_63 (c_Si_lay_5_49 (d := 3) (u := u) (g := g) (ex := ex)   (by decide) hp4 hp5 hp11 hp13 hp12 hp18) hq.n k731 k732 k733 wc_43 rfl rfl k93 k734 np_X4_lay (Nat.le_trans (by decide) hd) (by decide) (Nat.le_refl _) (Nat.le_refl _) wlen rfl (Nat.le_of_ble_eq_true rfl) (fun r_ h_ p8 => ?_)
          obtain ⟨u9, rfl, rfl, h10, h11, h12, fr13, fc14, fc15⟩ := p8
          refine J_iconst (v := 1) dX10_lays_66 (by decide) ?_
          exact J_zret hq dX10_lays_67 rfl rfl wlen (Nat.le_refl _) (Nat.le_refl _) ⟨true, u9, rfl, rfl, h10, h11, h12, (fun c k_ => (fr13 c (nin_sub (M := [(43, 48)]) k_ rfl))), (fun j k1_ k2_ k3_ => (fc14 j k1_ k2_ k3_)), (fun j k0_ k2_ => (fc15 j k0_ k2_))⟩
      · refine J_aald (q := 10) dX10_lays_41 wc_3 (fun _ => rfl) (vin (h3 c4) (by decide)) (by rw [h6_1]; rfl) ?_
        refine J_iload_n (i := 2) (j := 2) dX10_lays_42 rfl rfl ?_
        refine J_iconst (v := (-1)) dX10_lays_43 (by decide) ?_
        refine J_icmp_ne (tgt := 54) dX10_lays_44 (by decide) (fun c16 => ?_) (fun c16 => ?_)
        · exact (bd_no (bd_ne_lo (bd_r c5 (bd_c (v := (-1)) (lo := (-1)) (hi := (-1)) (by decide))) c16 (by decide)) (by decide)).elim
        · refine J_aload_n (i := 0) (j := 0) dX10_lays_47 rfl rfl ?_
          refine J_get (C := RX10) (T := TX10) (Z := 10) (ci := 10) (f := 5) dX10_lays_48 inG10 rfl (by decide) k428 wc_0 rfl ?_
          refine J_goto (tgt := 63) dX10_lays_51 (by decide) ?_
          refine J_callV (As := [.ref 10, .ref 49]) (rest := []) dX10_lays_63 (c_Si_lay_10_49 (d := 3) (u := u) (g := g) (ex := ex)   (by decide) hp6 hp7 hp11 hp14 hp12 hp18) hq.n k731 k732 k733 wc_43 rfl rfl k93 k734 np_X4_lay (Nat.le_trans (by decide) hd) (by decide) (Nat.le_refl _) (Nat.le_refl _) wlen rfl (Nat.le_of_ble_eq_true rfl) (fun r_ h_ p17 => ?_)
          obtain ⟨u18, rfl, rfl, h19, h20, h21, fr22, fc23, fc24⟩ := p17
          refine J_iconst (v := 1) dX10_lays_66 (by decide) ?_
          exact J_zret hq dX10_lays_67 rfl rfl wlen (Nat.le_refl _) (Nat.le_refl _) ⟨true, u18, rfl, rfl, h19, h20, h21, (fun c k_ => (fr22 c (nin_sub (M := [(43, 48)]) k_ rfl))), (fun j k1_ k2_ k3_ => (fc23 j k1_ k2_ k3_)), (fun j k0_ k2_ => (fc24 j k0_ k2_))⟩
    · refine J_aload_n (i := 0) (j := 0) dX10_lays_16 rfl rfl ?_
      refine J_get (C := RX10) (T := TX10) (Z := 10) (ci := 10) (f := 0) dX10_lays_17 inG10 rfl (by decide) k423 wc_0 rfl ?_
      refine J_iload_n (i := 2) (j := 2) dX10_lays_20 rfl rfl ?_
      refine J_callV (As := [.int plan]) (rest := []) dX10_lays_21 (c_T_hasPlan (d := 0) (u := u) (g := g) (ex := ex) (number := plan)  (by decide) hp1) hq.n k727 k728 k729 wc_1 rfl rfl k88 k730 np_X7_hasPlan (Nat.le_trans (by decide) hd) (by decide) (Nat.le_refl _) (Nat.le_refl _) wlen rfl (Nat.le_of_ble_eq_true rfl) (fun r_ h_ p25 => ?_)
      obtain ⟨t26, rfl, rfl, h27⟩ := p25
      refine J_ifB_ne (tgt := 29) dX10_lays_24 (by decide) (fun c28 => ?_) (fun c28 => ?_)
      · refine J_aload_n (i := 0) (j := 0) dX10_lays_29 rfl rfl ?_
        refine J_get (C := RX10) (T := TX10) (Z := 10) (ci := 10) (f := 4) dX10_lays_30 inG10 rfl (by decide) k427 wc_0 rfl ?_
        refine J_aload_n (i := 0) (j := 0) dX10_lays_33 rfl rfl ?_
        refine J_get (C := RX10) (T := TX10) (Z := 10) (ci := 10) (f := 0) dX10_lays_34 inG10 rfl (by decide) k423 wc_0 rfl ?_
        refine J_getN (C := RX7) (T := TX7) (Z := 8) (ci := 7) (f := 4) dX10_lays_37 inG7 rfl (by decide) k195 wc_1 rfl ?_
        refine J_iload_n (i := 1) (j := 1) dX10_lays_40 rfl rfl ?_
        have h29 := bd_cases2 (h3 c4)
        rcases h29 with h29_0 | h29_1
        · refine J_aald (q := 5) dX10_lays_41 wc_3 (fun _ => rfl) (vin (h3 c4) (by decide)) (by rw [h29_0]; rfl) ?_
          refine J_iload_n (i := 2) (j := 2) dX10_lays_42 rfl rfl ?_
          refine J_iconst (v := (-1)) dX10_lays_43 (by decide) ?_
          refine J_icmp_ne (tgt := 54) dX10_lays_44 (by decide) (fun c30 => ?_) (fun c30 => ?_)
          · refine J_aload_n (i := 0) (j := 0) dX10_lays_54 rfl rfl ?_
            refine J_get (C := RX10) (T := TX10) (Z := 10) (ci := 10) (f := 0) dX10_lays_55 inG10 rfl (by decide) k423 wc_0 rfl ?_
            refine J_getN (C := RX7) (T := TX7) (Z := 8) (ci := 7) (f := 6) dX10_lays_58 inG7 rfl (by decide) k199 wc_1 rfl ?_
            refine J_iload_n (i := 2) (j := 2) dX10_lays_61 rfl rfl ?_
            have h32 := bd_cases3 (h27 c28)
            rcases h32 with h32_0 | h32_1 | h32_2
            · refine J_aald (q := 15) dX10_lays_62 wc_4 (fun _ => rfl) (vin (h27 c28) (by decide)) (by rw [h32_0]; rfl) ?_
              refine J_callV (As := [.ref 5, .ref 15]) (rest := []) dX10_lays_63 (c_Si_lay_5_15 (d := 3) (u := u) (g := g) (ex := ex)   (by decide) hp4 hp5 hp8 hp13 hp12 hp15) hq.n k731 k732 k733 wc_43 rfl rfl k93 k734 np_X4_lay (Nat.le_trans (by decide) hd) (by decide) (Nat.le_refl _) (Nat.le_refl _) wlen rfl (Nat.le_of_ble_eq_true rfl) (fun r_ h_ p33 => ?_)
              obtain ⟨u34, rfl, rfl, h35, h36, h37, fr38, fc39, fc40⟩ := p33
              refine J_iconst (v := 1) dX10_lays_66 (by decide) ?_
              exact J_zret hq dX10_lays_67 rfl rfl wlen (Nat.le_refl _) (Nat.le_refl _) ⟨true, u34, rfl, rfl, h35, h36, h37, (fun c k_ => (fr38 c (nin_sub (M := [(43, 48)]) k_ rfl))), (fun j k1_ k2_ k3_ => (fc39 j k1_ k2_ k3_)), (fun j k0_ k2_ => (fc40 j k0_ k2_))⟩
            · refine J_aald (q := 19) dX10_lays_62 wc_4 (fun _ => rfl) (vin (h27 c28) (by decide)) (by rw [h32_1]; rfl) ?_
              refine J_callV (As := [.ref 5, .ref 19]) (rest := []) dX10_lays_63 (c_Si_lay_5_19 (d := 3) (u := u) (g := g) (ex := ex)   (by decide) hp4 hp5 hp9 hp13 hp12 hp16) hq.n k731 k732 k733 wc_43 rfl rfl k93 k734 np_X4_lay (Nat.le_trans (by decide) hd) (by decide) (Nat.le_refl _) (Nat.le_refl _) wlen rfl (Nat.le_of_ble_eq_true rfl) (fun r_ h_ p41 => ?_)
              obtain ⟨u42, rfl, rfl, h43, h44, h45, fr46, fc47, fc48⟩ := p41
              refine J_iconst (v := 1) dX10_lays_66 (by decide) ?_
              exact J_zret hq dX10_lays_67 rfl rfl wlen (Nat.le_refl _) (Nat.le_refl _) ⟨true, u42, rfl, rfl, h43, h44, h45, (fun c k_ => (fr46 c (nin_sub (M := [(43, 48)]) k_ rfl))), (fun j k1_ k2_ k3_ => (fc47 j k1_ k2_ k3_)), (fun j k0_ k2_ => (fc48 j k0_ k2_))⟩
            · refine J_aald (q := 23) dX10_lays_62 wc_4 (fun _ => rfl) (vin (h27 c28) (by decide)) (by rw [h32_2]; rfl) ?_
              refine J_callV (As := [.ref 5, .ref 23]) (rest := []) dX10_lays_63 (c_Si_lay_5_23 (d := 3) (u := u) (g := g) (ex := ex)   (by decide) hp4 hp5 hp10 hp13 hp12 hp17) hq.n k731 k732 k733 wc_43 rfl rfl k93 k734 np_X4_lay (Nat.le_trans (by decide) hd) (by decide) (Nat.le_refl _) (Nat.le_refl _) wlen rfl (Nat.le_of_ble_eq_true rfl) (fun r_ h_ p49 => ?_)
              obtain ⟨u50, rfl, rfl, h51, h52, h53, fr54, fc55, fc56⟩ := p49
              refine J_iconst (v := 1) dX10_lays_66 (by decide) ?_
              exact J_zret hq dX10_lays_67 rfl rfl wlen (Nat.le_refl _) (Nat.le_refl _) ⟨true, u50, rfl, rfl, h51, h52, h53, (fun c k_ => (fr54 c (nin_sub (M := [(43, 48)]) k_ rfl))), (fun j k1_ k2_ k3_ => (fc55 j k1_ k2_ k3_)), (fun j k0_ k2_ => (fc56 j k0_ k2_))⟩
          · exact (bd_neq c30 (h27 c28) (bd_c (v := (-1)) (lo := (-1)) (hi := (-1)) (by decide)) (by decide)).elim
        · refine J_aald (q := 10) dX10_lays_41 wc_3 (fun _ => rfl) (vin (h3 c4) (by decide)) (by rw [h29_1]; rfl) ?_
          refine J_iload_n (i := 2) (j := 2) dX10_lays_42 rfl rfl ?_
          refine J_iconst (v := (-1)) dX10_lays_43 (by decide) ?_
          refine J_icmp_ne (tgt := 54) dX10_lays_44 (by decide) (fun c57 => ?_) (fun c57 => ?_)
          · refine J_aload_n (i := 0) (j := 0) dX10_lays_54 rfl rfl ?_
            refine J_get (C := RX10) (T := TX10) (Z := 10) (ci := 10) (f := 0) dX10_lays_55 inG10 rfl (by decide) k423 wc_0 rfl ?_
            refine J_getN (C := RX7) (T := TX7) (Z := 8) (ci := 7) (f := 6) dX10_lays_58 inG7 rfl (by decide) k199 wc_1 rfl ?_
            refine J_iload_n (i := 2) (j := 2) dX10_lays_61 rfl rfl ?_
            have h59 := bd_cases3 (h27 c28)
            rcases h59 with h59_0 | h59_1 | h59_2
            · refine J_aald (q := 15) dX10_lays_62 wc_4 (fun _ => rfl) (vin (h27 c28) (by decide)) (by rw [h59_0]; rfl) ?_
              refine J_callV (As := [.ref 10, .ref 15]) (rest := []) dX10_lays_63 (c_Si_lay_10_15 (d := 3) (u := u) (g := g) (ex := ex)   (by decide) hp6 hp7 hp8 hp14 hp12 hp15) hq.n k731 k732 k733 wc_43 rfl rfl k93 k734 np_X4_lay (Nat.le_trans (by decide) hd) (by decide) (Nat.le_refl _) (Nat.le_refl _) wlen rfl (Nat.le_of_ble_eq_true rfl) (fun r_ h_ p60 => ?_)
              obtain ⟨u61, rfl, rfl, h62, h63, h64, fr65, fc66, fc67⟩ := p60
              refine J_iconst (v := 1) dX10_lays_66 (by decide) ?_
              exact J_zret hq dX10_lays_67 rfl rfl wlen (Nat.le_refl _) (Nat.le_refl _) ⟨true, u61, rfl, rfl, h62, h63, h64, (fun c k_ => (fr65 c (nin_sub (M := [(43, 48)]) k_ rfl))), (fun j k1_ k2_ k3_ => (fc66 j k1_ k2_ k3_)), (fun j k0_ k2_ => (fc67 j k0_ k2_))⟩
            · refine J_aald (q := 19) dX10_lays_62 wc_4 (fun _ => rfl) (vin (h27 c28) (by decide)) (by rw [h59_1]; rfl) ?_
              refine J_callV (As := [.ref 10, .ref 19]) (rest := []) dX10_lays_63 (c_Si_lay_10_19 (d := 3) (u := u) (g := g) (ex := ex)   (by decide) hp6 hp7 hp9 hp14 hp12 hp16) hq.n k731 k732 k733 wc_43 rfl rfl k93 k734 np_X4_lay (Nat.le_trans (by decide) hd) (by decide) (Nat.le_refl _) (Nat.le_refl _) wlen rfl (Nat.le_of_ble_eq_true rfl) (fun r_ h_ p68 => ?_)
              obtain ⟨u69, rfl, rfl, h70, h71, h72, fr73, fc74, fc75⟩ := p68
              refine J_iconst (v := 1) dX10_lays_66 (by decide) ?_
              exact J_zret hq dX10_lays_67 rfl rfl wlen (Nat.le_refl _) (Nat.le_refl _) ⟨true, u69, rfl, rfl, h70, h71, h72, (fun c k_ => (fr73 c (nin_sub (M := [(43, 48)]) k_ rfl))), (fun j k1_ k2_ k3_ => (fc74 j k1_ k2_ k3_)), (fun j k0_ k2_ => (fc75 j k0_ k2_))⟩
            · refine J_aald (q := 23) dX10_lays_62 wc_4 (fun _ => rfl) (vin (h27 c28) (by decide)) (by rw [h59_2]; rfl) ?_
              refine J_callV (As := [.ref 10, .ref 23]) (rest := []) dX10_lays_63 (c_Si_lay_10_23 (d := 3) (u := u) (g := g) (ex := ex)   (by decide) hp6 hp7 hp10 hp14 hp12 hp17) hq.n k731 k732 k733 wc_43 rfl rfl k93 k734 np_X4_lay (Nat.le_trans (by decide) hd) (by decide) (Nat.le_refl _) (Nat.le_refl _) wlen rfl (Nat.le_of_ble_eq_true rfl) (fun r_ h_ p76 => ?_)
              obtain ⟨u77, rfl, rfl, h78, h79, h80, fr81, fc82, fc83⟩ := p76
              refine J_iconst (v := 1) dX10_lays_66 (by decide) ?_
              exact J_zret hq dX10_lays_67 rfl rfl wlen (Nat.le_refl _) (Nat.le_refl _) ⟨true, u77, rfl, rfl, h78, h79, h80, (fun c k_ => (fr81 c (nin_sub (M := [(43, 48)]) k_ rfl))), (fun j k1_ k2_ k3_ => (fc82 j k1_ k2_ k3_)), (fun j k0_ k2_ => (fc83 j k0_ k2_))⟩
          · exact (bd_neq c57 (h27 c28) (bd_c (v := (-1)) (lo := (-1)) (hi := (-1)) (by decide)) (by decide)).elim
      · refine J_iconst (v := 0) dX10_lays_27 (by decide) ?_
        exact J_zret hq dX10_lays_28 rfl rfl wlen (Nat.le_refl _) (Nat.le_refl _) ⟨false, u, rfl, rfl, hp2, hp3, hp12, (fun c k_ => rfl), (fun j k1_ k2_ k3_ => rfl), (fun j k0_ k2_ => rfl)⟩
set_option maxHeartbeats 4000000 in
set_option maxRecDepth 100000 in
theorem c_O_isStorm {d : Nat} {u : Nat → Nat → Int32} {g : Nat → Nat → Int64} {ex : List MC} {rain : Int32} {banks : Int32} (hd : 0 ≤ d)  : CT con0 d 0 0 yX2_isStorm cX2_isStorm 2 (some .boolean) [.int rain, .int banks] (Wd u g ex) (fun r h2 => ∃ (z : Bool), r = some (.int (bI z)) ∧ h2 = Wd u g ex ∧ (z = true → Bd 0 3 rain) ∧ (z = true → Bd 0 511 banks)) := by
  refine CT_of (by decide) (Nat.le_of_ble_eq_true rfl) (fun x hq => ?_)
  show J x yX2_isStorm cX2_isStorm 2 (some .boolean) d 0 0 (Wd u g ex).length 0 [(0, .int rain), (1, .int banks)] [] (Wd u g ex) 0 0
  refine J_iload_n (i := 0) (j := 0) dX2_isStorm_0 rfl rfl ?_
  refine J_if_lt (tgt := 24) dX2_isStorm_1 (by decide) (fun c1 => ?_) (fun c1 => ?_)
  · refine J_iconst (v := 0) dX2_isStorm_24 (by decide) ?_
    exact J_zret hq dX2_isStorm_25 rfl rfl wlen (Nat.le_refl _) (Nat.le_refl _) ⟨false, rfl, rfl, (fun q => absurd q (by decide)), (fun q => absurd q (by decide))⟩
  · refine J_iload_n (i := 0) (j := 0) dX2_isStorm_4 rfl rfl ?_
    refine J_iconst (v := 4) dX2_isStorm_5 (by decide) ?_
    refine J_icmp_ge (tgt := 24) dX2_isStorm_6 (by decide) (fun c2 => ?_) (fun c2 => ?_)
    · refine J_iconst (v := 0) dX2_isStorm_24 (by decide) ?_
      exact J_zret hq dX2_isStorm_25 rfl rfl wlen (Nat.le_refl _) (Nat.le_refl _) ⟨false, rfl, rfl, (fun q => absurd q (by decide)), (fun q => absurd q (by decide))⟩
    · refine J_iload_n (i := 1) (j := 1) dX2_isStorm_9 rfl rfl ?_
      refine J_if_lt (tgt := 24) dX2_isStorm_10 (by decide) (fun c3 => ?_) (fun c3 => ?_)
      · refine J_iconst (v := 0) dX2_isStorm_24 (by decide) ?_
        exact J_zret hq dX2_isStorm_25 rfl rfl wlen (Nat.le_refl _) (Nat.le_refl _) ⟨false, rfl, rfl, (fun q => absurd q (by decide)), (fun q => absurd q (by decide))⟩
      · refine J_iload_n (i := 1) (j := 1) dX2_isStorm_13 rfl rfl ?_
        refine J_sipush (v := 512) dX2_isStorm_14 (by decide) ?_
        refine J_icmp_ge (tgt := 24) dX2_isStorm_17 (by decide) (fun c4 => ?_) (fun c4 => ?_)
        · refine J_iconst (v := 0) dX2_isStorm_24 (by decide) ?_
          exact J_zret hq dX2_isStorm_25 rfl rfl wlen (Nat.le_refl _) (Nat.le_refl _) ⟨false, rfl, rfl, (fun q => absurd q (by decide)), (fun q => absurd q (by decide))⟩
        · refine J_iconst (v := 1) dX2_isStorm_20 (by decide) ?_
          refine J_goto (tgt := 25) dX2_isStorm_21 (by decide) ?_
          exact J_zret hq dX2_isStorm_25 rfl rfl wlen (Nat.le_refl _) (Nat.le_refl _) ⟨true, rfl, rfl, (fun qb => (bd_lt_hi (bd_le_lo (bd_any rain) (i_nlt c1) (bd_c (v := 0) (lo := 0) (hi := 0) (by decide))) (i_nle c2) (bd_c (v := 4) (lo := 4) (hi := 4) (by decide)))), (fun qb => (bd_lt_hi (bd_le_lo (bd_any banks) (i_nlt c3) (bd_c (v := 0) (lo := 0) (hi := 0) (by decide))) (i_nle c4) (bd_c (v := 512) (lo := 512) (hi := 512) (by decide))))⟩
set_option maxHeartbeats 4000000 in
set_option maxRecDepth 100000 in
theorem c_O_weigh {d : Nat} {u : Nat → Nat → Int32} {g : Nat → Nat → Int64} {ex : List MC} {mended : Int32} {weaker : Int32} (hd : 1 ≤ d) (hp0 : Bd 0 9 (u 61 0)) (hp1 : Bd 0 4 (u 61 2)) : CT con0 d 0 0 yX2_weigh cX2_weigh 7 none [.ref 57, .int mended, .int weaker] (Wd u g ex) (fun r h2 => ∃ (g2 : Nat → Nat → Int64), r = none ∧ h2 = Wd u g2 ex) := by
  refine CT_of (by decide) (Nat.le_of_ble_eq_true rfl) (fun x hq => ?_)
  show J x yX2_weigh cX2_weigh 7 none d 0 0 (Wd u g ex).length 0 [(0, .ref 57), (1, .int mended), (2, .int weaker)] [] (Wd u g ex) 0 0
  refine J_aload_n (i := 0) (j := 0) dX2_weigh_0 rfl rfl ?_
  refine J_get (C := RX2) (T := TX2) (Z := 6) (ci := 2) (f := 4) dX2_weigh_1 inG2 rfl (by decide) k367 wc_57 rfl ?_
  refine J_iconst (v := 0) dX2_weigh_4 (by decide) ?_
  refine J_lconst (v := 1) dX2_weigh_5 (by decide) ?_
  obtain ⟨g1, e2⟩ : ∃ z, z = ml g 68 0 1 := ⟨_, rfl⟩
  refine J_last dX2_weigh_6 wc_68 (vin (bd_c (v := 0) (lo := 0) (hi := 0) (by decide)) (by decide)) (wsl e2 wk_68 rfl) ?_
  refine J_iconst (v := 0) dX2_weigh_7 (by decide) ?_
  refine J_istore_n (i := 3) (lw := [(3, .int 0), (0, .ref 57), (1, .int mended), (2, .int weaker)]) dX2_weigh_8 rfl (by decide) rfl ?_
  have lp456 : ∀ (n457 : Nat) (w258 : Int32) (g259 : Nat → Nat → Int64), Bd 0 9 w258 → (9 - w258.toInt).toNat < n457 → J x yX2_weigh cX2_weigh 7 none d 0 0 (Wd u g ex).length 9 [(0, .ref 57), (1, .int mended), (2, .int weaker), (3, .int w258)] [] (Wd u g259 ex) 0 0 := by
    intro n457
    induction n457 with
    | zero => intro w258 g259 bw258 hm459; exact absurd hm459 (Nat.not_lt_zero _)
    | succ n457 ih458 =>
      intro w258 g259 bw258 hm459
      refine J_iload_n (i := 3) (j := 3) dX2_weigh_9 rfl rfl ?_
      refine J_aload_n (i := 0) (j := 0) dX2_weigh_10 rfl rfl ?_
      refine J_get (C := RX2) (T := TX2) (Z := 6) (ci := 2) (f := 1) dX2_weigh_11 inG2 rfl (by decide) k363 wc_57 rfl ?_
      refine J_getN (C := RX1) (T := TX1) (Z := 6) (ci := 1) (f := 0) dX2_weigh_14 inG1 rfl (by decide) k132 wc_61 rfl ?_
      refine J_icmp_ge (tgt := 120) dX2_weigh_17 (by decide) (fun c460 => ?_) (fun c460 => ?_)
      · exact J_vret hq dX2_weigh_120 rfl wlen (Nat.le_refl _) (Nat.le_refl _) ⟨g259, rfl, rfl⟩
      · refine J_iload_n (i := 3) (j := 3) dX2_weigh_20 rfl rfl ?_
        refine J_bipush (v := 9) dX2_weigh_21 (by decide) ?_
        refine J_icmp_ge (tgt := 120) dX2_weigh_23 (by decide) (fun c461 => ?_) (fun c461 => ?_)
        · exact (bd_no (bd_le_lo (bd_lt_hi bw258 (i_nle c460) hp0) c461 (bd_c (v := 9) (lo := 9) (hi := 9) (by decide))) (by decide)).elim
        · refine J_iload_n (i := 1) (j := 1) dX2_weigh_26 rfl rfl ?_
          refine J_iload_n (i := 3) (j := 3) dX2_weigh_27 rfl rfl ?_
          refine J_callSN (As := [.int mended, .int w258]) (rest := []) dX2_weigh_28 (c_isIn (d := 0) (u := u) (g := g259) (ex := ex) (set := mended) (pond := w258)  (by decide) ) hq.n k874 k816 k87 k817 np_X10_isIn (Nat.le_trans (by decide) hd) (by decide) (Nat.le_refl _) (Nat.le_refl _) wlen rfl (Nat.le_of_ble_eq_true rfl) (fun r_ h_ p462 => ?_)
          obtain ⟨t463, rfl, rfl⟩ := p462
          have jn467 : ∀ (w466 : Int32), J x yX2_weigh cX2_weigh 7 none d 0 0 (Wd u g ex).length 53 [(0, .ref 57), (1, .int mended), (2, .int weaker), (3, .int w258)] [.int w466] (Wd u g259 ex) 0 0 := by
            intro w466
            refine J_istore (i := 4) (lw := [(4, .int w466), (0, .ref 57), (1, .int mended), (2, .int weaker), (3, .int w258)]) dX2_weigh_53 (by decide) rfl ?_
            refine J_iload_n (i := 3) (j := 4) dX2_weigh_55 rfl rfl ?_
            refine J_callSN (As := [.int w258]) (rest := []) dX2_weigh_56 (c_bit9 (d := 0) (u := u) (g := g259) (ex := ex) (pond := w258)  (by decide) (bd_w (l := (-1)) (h := 8) (bd_lt_hi bw258 (i_nle c460) hp0) (by decide))) hq.n k876 k819 k87 k820 np_X10_bit (Nat.le_trans (by decide) hd) (by decide) (Nat.le_refl _) (Nat.le_refl _) wlen rfl (Nat.le_of_ble_eq_true rfl) (fun r_ h_ p468 => ?_)
            obtain ⟨v469, rfl, rfl, h470⟩ := p468
            refine J_istore (i := 5) (lw := [(5, .int v469), (4, .int w466), (0, .ref 57), (1, .int mended), (2, .int weaker), (3, .int w258)]) dX2_weigh_59 (by decide) rfl ?_
            refine J_iconst (v := 0) dX2_weigh_61 (by decide) ?_
            refine J_istore (i := 6) (lw := [(6, .int 0), (5, .int v469), (4, .int w466), (0, .ref 57), (1, .int mended), (2, .int weaker), (3, .int w258)]) dX2_weigh_62 (by decide) rfl ?_
            have lp630 : ∀ (n631 : Nat) (w607 : Int32) (g608 : Nat → Nat → Int64), Bd 0 256 w607 → (256 - w607.toInt).toNat < n631 → J x yX2_weigh cX2_weigh 7 none d 0 0 (Wd u g ex).length 64 [(0, .ref 57), (1, .int mended), (2, .int weaker), (3, .int w258), (4, .int w466), (5, .int v469), (6, .int w607)] [] (Wd u g608 ex) 0 0 := by
              intro n631
              induction n631 with
              | zero => intro w607 g608 bw607 hm633; exact absurd hm633 (Nat.not_lt_zero _)
              | succ n631 ih632 =>
                intro w607 g608 bw607 hm633
                refine J_iload (i := 6) (j := 6) dX2_weigh_64 rfl ?_
                refine J_iload (i := 5) (j := 5) dX2_weigh_66 rfl ?_
                refine J_icmp_ge (tgt := 114) dX2_weigh_68 (by decide) (fun c634 => ?_) (fun c634 => ?_)
                · refine J_iinc (i := 3) (j := 3) (v := (w258 + 1)) (lw := [(3, .int (w258 + 1)), (0, .ref 57), (1, .int mended), (2, .int weaker), (4, .int w466), (5, .int v469), (6, .int w607)]) dX2_weigh_114 rfl rfl (by decide) rfl ?_
                  refine J_goto (tgt := 9) dX2_weigh_117 (by decide) ?_
                  refine J_lv [1, 2, 3, 0] rfl ?_
                  exact ih458 (w258 + 1) g608 (bd_w (l := 0) (h := 9) (bd_add (l := 1) (h := 9) (bd_lt_hi bw258 (i_nle c460) hp0) (bd_c (v := 1) (lo := 1) (hi := 1) (by decide)) (by decide)) (by decide)) (mu_up 1 bw258 rfl (by decide) (bd_w (l := 1) (h := 9) (bd_add (l := 1) (h := 9) (bd_lt_hi bw258 (i_nle c460) hp0) (bd_c (v := 1) (lo := 1) (hi := 1) (by decide)) (by decide)) (by decide)) hm459)
                · refine J_aload_n (i := 0) (j := 0) dX2_weigh_71 rfl rfl ?_
                  refine J_get (C := RX2) (T := TX2) (Z := 6) (ci := 2) (f := 4) dX2_weigh_72 inG2 rfl (by decide) k367 wc_57 rfl ?_
                  refine J_iload (i := 6) (j := 6) dX2_weigh_75 rfl ?_
                  refine J_iload (i := 5) (j := 5) dX2_weigh_77 rfl ?_
                  refine J_ior dX2_weigh_79 ?_
                  refine J_aload_n (i := 0) (j := 0) dX2_weigh_80 rfl rfl ?_
                  refine J_get (C := RX2) (T := TX2) (Z := 6) (ci := 2) (f := 4) dX2_weigh_81 inG2 rfl (by decide) k367 wc_57 rfl ?_
                  refine J_iload (i := 6) (j := 6) dX2_weigh_84 rfl ?_
                  refine J_lald dX2_weigh_86 wc_68 (vin (bd_lt_hi bw607 (i_nle c634) h470) (by decide)) ?_
                  refine J_topl (fun l645 _ => ?_)
                  refine J_iload (i := 4) (j := 4) dX2_weigh_87 rfl ?_
                  refine J_i2l dX2_weigh_89 rfl ?_
                  refine J_topl (fun l646 _ => ?_)
                  refine J_lmul dX2_weigh_90 ?_
                  refine J_topl (fun l647 _ => ?_)
                  obtain ⟨g648, e649⟩ : ∃ z, z = ml g608 68 ((w607 ||| v469).toNatClampNeg) l647 := ⟨_, rfl⟩
                  refine J_last dX2_weigh_91 wc_68 (vin (bd_or (k := 9) (h := 511) (bd_lt_hi bw607 (i_nle c634) h470) (bd_lt_lo h470 (i_nle c634) bw607) (by decide)) (by decide)) (wsl e649 wk_68 rfl) ?_
                  refine J_aload_n (i := 0) (j := 0) dX2_weigh_92 rfl rfl ?_
                  refine J_get (C := RX2) (T := TX2) (Z := 6) (ci := 2) (f := 4) dX2_weigh_93 inG2 rfl (by decide) k367 wc_57 rfl ?_
                  refine J_iload (i := 6) (j := 6) dX2_weigh_96 rfl ?_
                  refine J_dup2_11 dX2_weigh_98 rfl rfl ?_
                  refine J_lald dX2_weigh_99 wc_68 (vin (bd_lt_hi bw607 (i_nle c634) h470) (by decide)) ?_
                  refine J_topl (fun l650 _ => ?_)
                  refine J_bipush (v := 10) dX2_weigh_100 (by decide) ?_
                  refine J_iload (i := 4) (j := 4) dX2_weigh_102 rfl ?_
                  refine J_isub dX2_weigh_104 ?_
                  refine J_i2l dX2_weigh_105 rfl ?_
                  refine J_topl (fun l651 _ => ?_)
                  refine J_lmul dX2_weigh_106 ?_
                  refine J_topl (fun l652 _ => ?_)
                  obtain ⟨g653, e654⟩ : ∃ z, z = ml g648 68 w607.toNatClampNeg l652 := ⟨_, rfl⟩
                  refine J_last dX2_weigh_107 wc_68 (vin (bd_lt_hi bw607 (i_nle c634) h470) (by decide)) (wsl e654 wk_68 rfl) ?_
                  refine J_iinc (i := 6) (j := 6) (v := (w607 + 1)) (lw := [(6, .int (w607 + 1)), (0, .ref 57), (1, .int mended), (2, .int weaker), (3, .int w258), (4, .int w466), (5, .int v469)]) dX2_weigh_108 rfl rfl (by decide) rfl ?_
                  refine J_goto (tgt := 64) dX2_weigh_111 (by decide) ?_
                  refine J_lv [1, 2, 3, 4, 5, 6, 0] rfl ?_
                  exact ih632 (w607 + 1) g653 (bd_w (l := 0) (h := 256) (bd_add (l := 1) (h := 256) (bd_lt_hi bw607 (i_nle c634) h470) (bd_c (v := 1) (lo := 1) (hi := 1) (by decide)) (by decide)) (by decide)) (mu_up 1 bw607 rfl (by decide) (bd_w (l := 1) (h := 256) (bd_add (l := 1) (h := 256) (bd_lt_hi bw607 (i_nle c634) h470) (bd_c (v := 1) (lo := 1) (hi := 1) (by decide)) (by decide)) (by decide)) hm633)
            refine J_lv [3, 4, 5, 6, 2, 1, 0] rfl ?_
            exact lp630 _ (0 : Int32) g259 (bd_w (l := 0) (h := 256) (bd_c (v := 0) (lo := 0) (hi := 0) (by decide)) (by decide)) (Nat.lt_succ_self _)
          refine J_ifB_eq (tgt := 38) dX2_weigh_31 (by decide) (fun c464 => ?_) (fun c464 => ?_)
          · refine J_aload_n (i := 0) (j := 0) dX2_weigh_38 rfl rfl ?_
            refine J_get (C := RX2) (T := TX2) (Z := 6) (ci := 2) (f := 1) dX2_weigh_39 inG2 rfl (by decide) k363 wc_57 rfl ?_
            refine J_iload_n (i := 3) (j := 3) dX2_weigh_42 rfl rfl ?_
            refine J_iconst (v := 4) dX2_weigh_43 (by decide) ?_
            refine J_callV (As := [.int w258, .int 4]) (rest := []) dX2_weigh_44 (c_H_of (d := 0) (u := u) (g := g259) (ex := ex) (pond := w258) (column := 4) (t := 61) (by decide) (by decide)) hq.n k875 k749 k750 wc_61 rfl rfl k89 k751 np_X1_of (Nat.le_trans (by decide) hd) (by decide) (Nat.le_refl _) (Nat.le_refl _) wlen rfl (Nat.le_of_ble_eq_true rfl) (fun r_ h_ p655 => ?_)
            obtain ⟨rfl, rfl⟩ := p655
            refine J_iload_n (i := 2) (j := 2) dX2_weigh_47 rfl rfl ?_
            refine J_iload_n (i := 3) (j := 3) dX2_weigh_48 rfl rfl ?_
            refine J_ishr dX2_weigh_49 ?_
            refine J_iconst (v := 1) dX2_weigh_50 (by decide) ?_
            refine J_iand dX2_weigh_51 ?_
            refine J_iadd dX2_weigh_52 ?_
            refine J_lv [0, 1, 2, 3] rfl ?_
            exact jn467 ((hof u 61 w258 (4 : Int32)) + ((weaker >>> (w258 &&& 31)) &&& 1)) 
          · refine J_iconst (v := 0) dX2_weigh_34 (by decide) ?_
            refine J_goto (tgt := 53) dX2_weigh_35 (by decide) ?_
            refine J_lv [0, 1, 2, 3] rfl ?_
            exact jn467 (0 : Int32) 
  refine J_lv [1, 2, 3, 0] rfl ?_
  exact lp456 _ (0 : Int32) g1 (bd_w (l := 0) (h := 9) (bd_c (v := 0) (lo := 0) (hi := 0) (by decide)) (by decide)) (Nat.lt_succ_self _)
set_option maxHeartbeats 4000000 in
set_option maxRecDepth 100000 in
theorem c_O_look_44 {d : Nat} {u : Nat → Nat → Int32} {g : Nat → Nat → Int64} {ex : List MC} {keeper : Int32} {mayGo : Int32} (hd : 3 ≤ d) (hp0 : Bd 0 9 (u 44 0)) (hp1 : Bd 0 4 (u 44 2)) (hp2 : AB u 66 0 511) : CT con0 d 0 0 yX2_look cX2_look 6 none [.ref 57, .ref 44, .int keeper, .int mayGo] (Wd u g ex) (fun r h2 => ∃ (u2 : Nat → Nat → Int32) (g2 : Nat → Nat → Int64), r = none ∧ h2 = Wd u2 g2 ex ∧ Bd 0 9 (u2 61 0) ∧ Bd 0 4 (u2 61 2) ∧ AB u2 66 0 511 ∧ (∀ c, nin c [(58, 67)] = true → u2 c = u c) ∧ (∀ j, j ≠ 0 → j ≠ 1 → j ≠ 2 → j ≠ 3 → j ≠ 4 → u2 58 j = u 58 j) ∧ (∀ j, j ≠ 0 → j ≠ 2 → u2 61 j = u 61 j)) := by
  refine CT_of (by decide) (Nat.le_of_ble_eq_true rfl) (fun x hq => ?_)
  show J x yX2_look cX2_look 6 none d 0 0 (Wd u g ex).length 0 [(0, .ref 57), (1, .ref 44), (2, .int keeper), (3, .int mayGo)] [] (Wd u g ex) 0 0
  refine J_aload_n (i := 0) (j := 0) dX2_look_0 rfl rfl ?_
  refine J_get (C := RX2) (T := TX2) (Z := 6) (ci := 2) (f := 1) dX2_look_1 inG2 rfl (by decide) k363 wc_57 rfl ?_
  refine J_aload_n (i := 1) (j := 1) dX2_look_4 rfl rfl ?_
  refine J_callV (As := [.ref 44]) (rest := []) dX2_look_5 (c_H_copy (d := 1) (u := u) (g := g) (ex := ex)  (t := 61) (f := 44) (by decide) (by decide) (by decide) (Nat.ne_of_beq_eq_false rfl) hp0 hp1) hq.n k865 k681 k682 wc_61 rfl rfl k89 k683 np_X1_copy (Nat.le_trans (by decide) hd) (by decide) (Nat.le_refl _) (Nat.le_refl _) wlen rfl (Nat.le_of_ble_eq_true rfl) (fun r_ h_ p1 => ?_)
  obtain ⟨u2, rfl, rfl, h3, h4, fr5, fc6⟩ := p1
  refine J_iconst (v := 0) dX2_look_8 (by decide) ?_
  refine J_istore (i := 4) (lw := [(4, .int 0), (0, .ref 57), (1, .ref 44), (2, .int keeper), (3, .int mayGo)]) dX2_look_9 (by decide) rfl ?_
  have lp56509 : ∀ (n56510 : Nat) (w47094 : Int32) (u47095 : Nat → Nat → Int32), Bd 0 512 w47094 → (∀ c, c ≠ 67 → u47095 c = u2 c) → (512 - w47094.toInt).toNat < n56510 → J x yX2_look cX2_look 6 none d 0 0 (Wd u g ex).length 11 [(0, .ref 57), (2, .int keeper), (3, .int mayGo), (4, .int w47094)] [] (Wd u47095 g ex) 0 0 := by
    intro n56510
    induction n56510 with
    | zero => intro w47094 u47095 bw47094 fr47096 hm56512; exact absurd hm56512 (Nat.not_lt_zero _)
    | succ n56510 ih56511 =>
      intro w47094 u47095 bw47094 fr47096 hm56512
      refine J_iload (i := 4) (j := 3) dX2_look_11 rfl ?_
      refine J_aload_n (i := 0) (j := 0) dX2_look_13 rfl rfl ?_
      refine J_get (C := RX2) (T := TX2) (Z := 6) (ci := 2) (f := 1) dX2_look_14 inG2 rfl (by decide) k363 wc_57 rfl ?_
      refine J_callV (As := []) (rest := [.int w47094]) dX2_look_17 (c_H_all (d := 0) (u := u47095) (g := g) (ex := ex)  (t := 61) (by decide) (by decide) (bd_r (congrFun (fr47096 61 (Nat.ne_of_beq_eq_false rfl)) 0) h3) (bd_r (congrFun (fr47096 61 (Nat.ne_of_beq_eq_false rfl)) 2) h4)) hq.n k866 k801 k802 wc_61 rfl rfl k89 k803 np_X1_all (Nat.le_trans (by decide) hd) (by decide) (Nat.le_refl _) (Nat.le_refl _) wlen rfl (Nat.le_of_ble_eq_true rfl) (fun r_ h_ p56513 => ?_)
      obtain ⟨v56514, rfl, rfl, h56515⟩ := p56513
      refine J_icmp_gt (tgt := 53) dX2_look_20 (by decide) (fun c56516 => ?_) (fun c56516 => ?_)
      · refine J_iconst (v := 0) dX2_look_53 (by decide) ?_
        refine J_istore (i := 4) (lw := [(4, .int 0), (0, .ref 57), (2, .int keeper), (3, .int mayGo)]) dX2_look_54 (by decide) rfl ?_
        have lp63903 : ∀ (n63904 : Nat) (w61889 : Int32) (u61890 : Nat → Nat → Int32), Bd 0 4 w61889 → (∀ c, nin c [(58, 60), (66, 66)] = true → u61890 c = u47095 c) → (∀ j, j ≠ 0 → j ≠ 1 → j ≠ 2 → j ≠ 3 → j ≠ 4 → u61890 58 j = u47095 58 j) → AB u61890 66 0 511 → (4 - w61889.toInt).toNat < n63904 → J x yX2_look cX2_look 6 none d 0 0 (Wd u g ex).length 56 [(0, .ref 57), (2, .int keeper), (3, .int mayGo), (4, .int w61889)] [] (Wd u61890 g ex) 0 0 := by
          intro n63904
          induction n63904 with
          | zero => intro w61889 u61890 bw61889 fr61891 fc61892 ab61893 hm63906; exact absurd hm63906 (Nat.not_lt_zero _)
          | succ n63904 ih63905 =>
            intro w61889 u61890 bw61889 fr61891 fc61892 ab61893 hm63906
            refine J_iload (i := 4) (j := 3) dX2_look_56 rfl ?_
            refine J_aload_n (i := 0) (j := 0) dX2_look_58 rfl rfl ?_
            refine J_get (C := RX2) (T := TX2) (Z := 6) (ci := 2) (f := 1) dX2_look_59 inG2 rfl (by decide) k363 wc_57 rfl ?_
            refine J_getN (C := RX1) (T := TX1) (Z := 6) (ci := 1) (f := 2) dX2_look_62 inG1 rfl (by decide) k139 wc_61 rfl ?_
            refine J_ci (v := u2 61 2) ((congrFun (fr61891 61 rfl) 2).trans (congrFun (fr47096 61 (Nat.ne_of_beq_eq_false rfl)) 2)) ?_
            refine J_icmp_ge (tgt := 162) dX2_look_65 (by decide) (fun c63907 => ?_) (fun c63907 => ?_)
            · refine J_aload_n (i := 0) (j := 0) dX2_look_162 rfl rfl ?_
              refine J_iconst (v := 0) dX2_look_163 (by decide) ?_
              refine J_iconst (v := 0) dX2_look_164 (by decide) ?_
              refine J_callV (As := [.int 0, .int 0]) (rest := []) dX2_look_165 (c_O_weigh (d := 1) (u := u61890) (g := g) (ex := ex) (mended := 0) (weaker := 0)  (by decide) (bd_r ((congrFun (fr61891 61 rfl) 0).trans (congrFun (fr47096 61 (Nat.ne_of_beq_eq_false rfl)) 0)) h3) (bd_r ((congrFun (fr61891 61 rfl) 2).trans (congrFun (fr47096 61 (Nat.ne_of_beq_eq_false rfl)) 2)) h4)) hq.n k870 k871 k872 wc_57 rfl rfl k96 k873 np_X2_weigh (Nat.le_trans (by decide) hd) (by decide) (Nat.le_refl _) (Nat.le_refl _) wlen rfl (Nat.le_of_ble_eq_true rfl) (fun r_ h_ p64577 => ?_)
              obtain ⟨g64578, rfl, rfl⟩ := p64577
              exact J_vret hq dX2_look_168 rfl wlen (Nat.le_refl _) (Nat.le_refl _) ⟨u61890, g64578, rfl, rfl, (bd_r ((congrFun (fr61891 61 rfl) 0).trans (congrFun (fr47096 61 (Nat.ne_of_beq_eq_false rfl)) 0)) h3), (bd_r ((congrFun (fr61891 61 rfl) 2).trans (congrFun (fr47096 61 (Nat.ne_of_beq_eq_false rfl)) 2)) h4), ab61893, (fun c k_ => ((fr61891 c (nin_sub (M := [(58, 60), (66, 66)]) k_ rfl)).trans ((fr47096 c (nin_ne (a := 67) k_ rfl)).trans (fr5 c (nin_ne (a := 61) k_ rfl) (nin_ne (a := 62) k_ rfl) (nin_ne (a := 63) k_ rfl) (nin_ne (a := 64) k_ rfl) (nin_ne (a := 65) k_ rfl))))), (fun j k0_ k1_ k2_ k3_ k4_ => ((fc61892 j k0_ k1_ k2_ k3_ k4_).trans ((congrFun (fr47096 58 (Nat.ne_of_beq_eq_false rfl)) j).trans (congrFun (fr5 58 (Nat.ne_of_beq_eq_false rfl) (Nat.ne_of_beq_eq_false rfl) (Nat.ne_of_beq_eq_false rfl) (Nat.ne_of_beq_eq_false rfl) (Nat.ne_of_beq_eq_false rfl)) j)))), (fun j k0_ k2_ => ((congrFun (fr61891 61 rfl) j).trans ((congrFun (fr47096 61 (Nat.ne_of_beq_eq_false rfl)) j).trans (fc6 j k0_ k2_))))⟩
            · refine J_iload (i := 4) (j := 3) dX2_look_68 rfl ?_
              refine J_iconst (v := 4) dX2_look_70 (by decide) ?_
              refine J_icmp_ge (tgt := 162) dX2_look_71 (by decide) (fun c64579 => ?_) (fun c64579 => ?_)
              · exact (bd_no (bd_le_lo (bd_lt_hi bw61889 (i_nle c63907) h4) c64579 (bd_c (v := 4) (lo := 4) (hi := 4) (by decide))) (by decide)).elim
              · refine J_iconst (v := 0) dX2_look_74 (by decide) ?_
                refine J_istore (i := 5) (lw := [(5, .int 0), (0, .ref 57), (2, .int keeper), (3, .int mayGo), (4, .int w61889)]) dX2_look_75 (by decide) rfl ?_
                have lp65828 : ∀ (n65829 : Nat) (w65739 : Int32) (u65740 : Nat → Nat → Int32), Bd 0 512 w65739 → (∀ c, nin c [(58, 60), (66, 66)] = true → u65740 c = u61890 c) → (∀ j, j ≠ 0 → j ≠ 1 → j ≠ 2 → j ≠ 3 → j ≠ 4 → u65740 58 j = u61890 58 j) → AB u65740 66 0 511 → (512 - w65739.toInt).toNat < n65829 → J x yX2_look cX2_look 6 none d 0 0 (Wd u g ex).length 77 [(0, .ref 57), (2, .int keeper), (3, .int mayGo), (4, .int w61889), (5, .int w65739)] [] (Wd u65740 g ex) 0 0 := by
                  intro n65829
                  induction n65829 with
                  | zero => intro w65739 u65740 bw65739 fr65741 fc65742 ab65743 hm65831; exact absurd hm65831 (Nat.not_lt_zero _)
                  | succ n65829 ih65830 =>
                    intro w65739 u65740 bw65739 fr65741 fc65742 ab65743 hm65831
                    refine J_iload (i := 5) (j := 4) dX2_look_77 rfl ?_
                    refine J_aload_n (i := 0) (j := 0) dX2_look_79 rfl rfl ?_
                    refine J_get (C := RX2) (T := TX2) (Z := 6) (ci := 2) (f := 1) dX2_look_80 inG2 rfl (by decide) k363 wc_57 rfl ?_
                    refine J_callV (As := []) (rest := [.int w65739]) dX2_look_83 (c_H_all (d := 0) (u := u65740) (g := g) (ex := ex)  (t := 61) (by decide) (by decide) (bd_r ((congrFun (fr65741 61 rfl) 0).trans ((congrFun (fr61891 61 rfl) 0).trans (congrFun (fr47096 61 (Nat.ne_of_beq_eq_false rfl)) 0))) h3) (bd_r ((congrFun (fr65741 61 rfl) 2).trans ((congrFun (fr61891 61 rfl) 2).trans (congrFun (fr47096 61 (Nat.ne_of_beq_eq_false rfl)) 2))) (bd_w (l := 0) (h := 4) (bd_lt_lo h4 (i_nle c63907) (bd_lt_hi bw61889 (i_nle c64579) (bd_c (v := 4) (lo := 4) (hi := 4) (by decide)))) (by decide)))) hq.n k866 k801 k802 wc_61 rfl rfl k89 k803 np_X1_all (Nat.le_trans (by decide) hd) (by decide) (Nat.le_refl _) (Nat.le_refl _) wlen rfl (Nat.le_of_ble_eq_true rfl) (fun r_ h_ p65832 => ?_)
                    obtain ⟨v65833, rfl, rfl, h65834⟩ := p65832
                    refine J_icmp_gt (tgt := 156) dX2_look_86 (by decide) (fun c65835 => ?_) (fun c65835 => ?_)
                    · refine J_iinc (i := 4) (j := 3) (v := (w61889 + 1)) (lw := [(4, .int (w61889 + 1)), (0, .ref 57), (2, .int keeper), (3, .int mayGo), (5, .int w65739)]) dX2_look_156 rfl rfl (by decide) rfl ?_
                      refine J_goto (tgt := 56) dX2_look_159 (by decide) ?_
                      refine J_lv [1, 2, 3, 0] rfl ?_
                      exact ih63905 (w61889 + 1) u65740 (bd_w (l := 0) (h := 4) (bd_add (l := 1) (h := 4) (bd_lt_hi bw61889 (i_nle c63907) h4) (bd_c (v := 1) (lo := 1) (hi := 1) (by decide)) (by decide)) (by decide)) (fun c k_ => ((fr65741 c (nin_sub (M := [(58, 60), (66, 66)]) k_ rfl)).trans (fr61891 c (nin_sub (M := [(58, 60), (66, 66)]) k_ rfl)))) (fun j k0_ k1_ k2_ k3_ k4_ => ((fc65742 j k0_ k1_ k2_ k3_ k4_).trans (fc61892 j k0_ k1_ k2_ k3_ k4_))) ab65743 (mu_up 1 bw61889 rfl (by decide) (bd_w (l := 1) (h := 4) (bd_add (l := 1) (h := 4) (bd_lt_hi bw61889 (i_nle c63907) h4) (bd_c (v := 1) (lo := 1) (hi := 1) (by decide)) (by decide)) (by decide)) hm63906)
                    · refine J_iload (i := 5) (j := 4) dX2_look_89 rfl ?_
                      refine J_sipush (v := 512) dX2_look_91 (by decide) ?_
                      refine J_icmp_ge (tgt := 156) dX2_look_94 (by decide) (fun c65863 => ?_) (fun c65863 => ?_)
                      · exact (bd_no (bd_le_lo (bd_le_hi bw65739 (i_nlt c65835) h65834) c65863 (bd_c (v := 512) (lo := 512) (hi := 512) (by decide))) (by decide)).elim
                      · refine J_iload (i := 5) (j := 4) dX2_look_97 rfl ?_
                        refine J_iload_n (i := 3) (j := 2) dX2_look_99 rfl rfl ?_
                        refine J_iconst (v := (-1)) dX2_look_100 (by decide) ?_
                        refine J_ixor dX2_look_101 ?_
                        refine J_iand dX2_look_102 ?_
                        have jn65905 : ∀ (u65901 : Nat → Nat → Int32), (∀ c, nin c [(58, 60), (66, 66)] = true → u65901 c = u65740 c) → (∀ j, j ≠ 0 → j ≠ 1 → j ≠ 2 → j ≠ 3 → j ≠ 4 → u65901 58 j = u65740 58 j) → AB u65901 66 0 511 → J x yX2_look cX2_look 6 none d 0 0 (Wd u g ex).length 150 [(0, .ref 57), (2, .int keeper), (3, .int mayGo), (4, .int w61889), (5, .int w65739)] [] (Wd u65901 g ex) 0 0 := by
                          intro u65901 fr65902 fc65903 ab65904
                          refine J_iinc (i := 5) (j := 4) (v := (w65739 + 1)) (lw := [(5, .int (w65739 + 1)), (0, .ref 57), (2, .int keeper), (3, .int mayGo), (4, .int w61889)]) dX2_look_150 rfl rfl (by decide) rfl ?_
                          refine J_goto (tgt := 77) dX2_look_153 (by decide) ?_
                          refine J_lv [1, 2, 3, 4, 0] rfl ?_
                          exact ih65830 (w65739 + 1) u65901 (bd_w (l := 0) (h := 512) (bd_add (l := 1) (h := 512) (bd_le_hi bw65739 (i_nlt c65835) h65834) (bd_c (v := 1) (lo := 1) (hi := 1) (by decide)) (by decide)) (by decide)) (fun c k_ => ((fr65902 c (nin_sub (M := [(58, 60), (66, 66)]) k_ rfl)).trans (fr65741 c (nin_sub (M := [(58, 60), (66, 66)]) k_ rfl)))) (fun j k0_ k1_ k2_ k3_ k4_ => ((fc65903 j k0_ k1_ k2_ k3_ k4_).trans (fc65742 j k0_ k1_ k2_ k3_ k4_))) ab65904 (mu_up 1 bw65739 rfl (by decide) (bd_w (l := 1) (h := 512) (bd_add (l := 1) (h := 512) (bd_le_hi bw65739 (i_nlt c65835) h65834) (bd_c (v := 1) (lo := 1) (hi := 1) (by decide)) (by decide)) (by decide)) hm65831)
                        refine J_if_ne (tgt := 150) dX2_look_103 (by decide) (fun c65890 => ?_) (fun c65890 => ?_)
                        · refine J_lv [0, 1, 2, 3, 4] rfl ?_
                          exact jn65905 u65740 (fun c k_ => rfl) (fun j k0_ k1_ k2_ k3_ k4_ => rfl) ab65743
                        · refine J_aload_n (i := 0) (j := 0) dX2_look_106 rfl rfl ?_
                          refine J_get (C := RX2) (T := TX2) (Z := 6) (ci := 2) (f := 0) dX2_look_107 inG2 rfl (by decide) k362 wc_57 rfl ?_
                          refine J_aload_n (i := 0) (j := 0) dX2_look_110 rfl rfl ?_
                          refine J_get (C := RX2) (T := TX2) (Z := 6) (ci := 2) (f := 1) dX2_look_111 inG2 rfl (by decide) k363 wc_57 rfl ?_
                          refine J_aload_n (i := 0) (j := 0) dX2_look_114 rfl rfl ?_
                          refine J_get (C := RX2) (T := TX2) (Z := 6) (ci := 2) (f := 1) dX2_look_115 inG2 rfl (by decide) k363 wc_57 rfl ?_
                          refine J_iload (i := 4) (j := 3) dX2_look_118 rfl ?_
                          refine J_callV (As := [.int w61889]) (rest := [.ref 61, .ref 58]) dX2_look_120 (c_H_stepsOf (d := 0) (u := u65740) (g := g) (ex := ex) (rain := w61889) (t := 61) (by decide) (by decide) (bd_r ((congrFun (fr65741 61 rfl) 0).trans ((congrFun (fr61891 61 rfl) 0).trans (congrFun (fr47096 61 (Nat.ne_of_beq_eq_false rfl)) 0))) h3) (bd_r ((congrFun (fr65741 61 rfl) 2).trans ((congrFun (fr61891 61 rfl) 2).trans (congrFun (fr47096 61 (Nat.ne_of_beq_eq_false rfl)) 2))) (bd_w (l := 0) (h := 4) (bd_lt_lo h4 (i_nle c63907) (bd_lt_hi bw61889 (i_nle c64579) (bd_c (v := 4) (lo := 4) (hi := 4) (by decide)))) (by decide)))) hq.n k868 k716 k717 wc_61 rfl rfl k89 k718 np_X1_stepsOf (Nat.le_trans (by decide) hd) (by decide) (Nat.le_refl _) (Nat.le_refl _) wlen rfl (Nat.le_of_ble_eq_true rfl) (fun r_ h_ p65906 => ?_)
                          obtain ⟨v65907, rfl, rfl⟩ := p65906
                          refine J_iload (i := 5) (j := 4) dX2_look_123 rfl ?_
                          refine J_iload_n (i := 2) (j := 1) dX2_look_125 rfl rfl ?_
                          refine J_callV (As := [.ref 61, .int v65907, .int w65739, .int keeper]) (rest := []) dX2_look_126 (c_S58_run (d := 2) (u := u65740) (g := g) (ex := ex) (steps := v65907) (banks := w65739) (keeper := keeper) (t := 61) (by decide) (by decide) (bd_r ((congrFun (fr65741 61 rfl) 0).trans ((congrFun (fr61891 61 rfl) 0).trans (congrFun (fr47096 61 (Nat.ne_of_beq_eq_false rfl)) 0))) h3) (bd_r ((congrFun (fr65741 61 rfl) 2).trans ((congrFun (fr61891 61 rfl) 2).trans (congrFun (fr47096 61 (Nat.ne_of_beq_eq_false rfl)) 2))) (bd_w (l := 0) (h := 4) (bd_lt_lo h4 (i_nle c63907) (bd_lt_hi bw61889 (i_nle c64579) (bd_c (v := 4) (lo := 4) (hi := 4) (by decide)))) (by decide)))) hq.n k869 k806 k807 wc_58 rfl rfl k94 k808 np_X5_run (Nat.le_trans (by decide) hd) (by decide) (Nat.le_refl _) (Nat.le_refl _) wlen rfl (Nat.le_of_ble_eq_true rfl) (fun r_ h_ p65908 => ?_)
                          obtain ⟨u65909, rfl, rfl, h65910, h65911, fr65912, fc65913⟩ := p65908
                          refine J_aload_n (i := 0) (j := 0) dX2_look_129 rfl rfl ?_
                          refine J_get (C := RX2) (T := TX2) (Z := 6) (ci := 2) (f := 2) dX2_look_130 inG2 rfl (by decide) k365 wc_57 rfl ?_
                          refine J_iload (i := 4) (j := 3) dX2_look_133 rfl ?_
                          refine J_sipush (v := 512) dX2_look_135 (by decide) ?_
                          refine J_imul dX2_look_138 ?_
                          refine J_iload (i := 5) (j := 4) dX2_look_139 rfl ?_
                          refine J_iadd dX2_look_141 ?_
                          refine J_aload_n (i := 0) (j := 0) dX2_look_142 rfl rfl ?_
                          refine J_get (C := RX2) (T := TX2) (Z := 6) (ci := 2) (f := 0) dX2_look_143 inG2 rfl (by decide) k362 wc_57 rfl ?_
                          refine J_getN (C := RX5) (T := TX5) (Z := 7) (ci := 5) (f := 1) dX2_look_146 inG5 rfl (by decide) k321 wc_58 rfl ?_
                          obtain ⟨u65914, e65915⟩ : ∃ z, z = ms u65909 66 (((w61889 * 512) + w65739).toNatClampNeg) (u65909 58 1) := ⟨_, rfl⟩
                          refine J_iast dX2_look_149 wc_66 (vin (bd_add (l := 0) (h := 2047) (bd_mul (l := 0) (h := 1536) (bd_lt_hi bw61889 (i_nle c63907) h4) (bd_c (v := 512) (lo := 512) (hi := 512) (by decide)) (by decide)) (bd_le_hi bw65739 (i_nlt c65835) h65834) (by decide)) (by decide)) (ws e65915 wk_66 rfl) ?_
                          refine J_lv [0, 1, 2, 3, 4] rfl ?_
                          exact jn65905 u65914 (fun c k_ => ((ms_c e65915 (nin_ne (a := 66) k_ rfl)).trans (fr65912 c (nin_sub (M := [(58, 60)]) k_ rfl)))) (fun j k0_ k1_ k2_ k3_ k4_ => ((congrFun (ms_c e65915 (Nat.ne_of_beq_eq_false rfl)) j).trans (fc65913 j k0_ k1_ k2_ k3_ k4_))) (ab_s e65915 (ab_c (fr65912 66 rfl) ab65743) h65911)
                refine J_lv [1, 2, 3, 4, 0] rfl ?_
                exact lp65828 _ (0 : Int32) u61890 (bd_w (l := 0) (h := 512) (bd_c (v := 0) (lo := 0) (hi := 0) (by decide)) (by decide)) (fun c k_ => rfl) (fun j k0_ k1_ k2_ k3_ k4_ => rfl) ab61893 (Nat.lt_succ_self _)
        refine J_lv [1, 2, 3, 0] rfl ?_
        exact lp63903 _ (0 : Int32) u47095 (bd_w (l := 0) (h := 4) (bd_c (v := 0) (lo := 0) (hi := 0) (by decide)) (by decide)) (fun c k_ => rfl) (fun j k0_ k1_ k2_ k3_ k4_ => rfl) (ab_c ((fr47096 66 (Nat.ne_of_beq_eq_false rfl)).trans (fr5 66 (Nat.ne_of_beq_eq_false rfl) (Nat.ne_of_beq_eq_false rfl) (Nat.ne_of_beq_eq_false rfl) (Nat.ne_of_beq_eq_false rfl) (Nat.ne_of_beq_eq_false rfl))) hp2) (Nat.lt_succ_self _)
      · refine J_iload (i := 4) (j := 3) dX2_look_23 rfl ?_
        refine J_sipush (v := 512) dX2_look_25 (by decide) ?_
        refine J_icmp_ge (tgt := 53) dX2_look_28 (by decide) (fun c65916 => ?_) (fun c65916 => ?_)
        · exact (bd_no (bd_le_lo (bd_le_hi bw47094 (i_nlt c56516) h56515) c65916 (bd_c (v := 512) (lo := 512) (hi := 512) (by decide))) (by decide)).elim
        · refine J_aload_n (i := 0) (j := 0) dX2_look_31 rfl rfl ?_
          refine J_get (C := RX2) (T := TX2) (Z := 6) (ci := 2) (f := 3) dX2_look_32 inG2 rfl (by decide) k366 wc_57 rfl ?_
          refine J_iload (i := 4) (j := 3) dX2_look_35 rfl ?_
          refine J_aload_n (i := 0) (j := 0) dX2_look_37 rfl rfl ?_
          refine J_get (C := RX2) (T := TX2) (Z := 6) (ci := 2) (f := 1) dX2_look_38 inG2 rfl (by decide) k363 wc_57 rfl ?_
          refine J_iload (i := 4) (j := 3) dX2_look_41 rfl ?_
          refine J_callV (As := [.int w47094]) (rest := [.int w47094, .ref 67]) dX2_look_43 (c_H_harmOf (d := 1) (u := u47095) (g := g) (ex := ex) (set := w47094) (t := 61) (by decide) (by decide) (bd_r (congrFun (fr47096 61 (Nat.ne_of_beq_eq_false rfl)) 0) h3) (bd_r (congrFun (fr47096 61 (Nat.ne_of_beq_eq_false rfl)) 2) h4)) hq.n k867 k836 k837 wc_61 rfl rfl k89 k838 np_X1_harmOf (Nat.le_trans (by decide) hd) (by decide) (Nat.le_refl _) (Nat.le_refl _) wlen rfl (Nat.le_of_ble_eq_true rfl) (fun r_ h_ p65921 => ?_)
          obtain ⟨v65922, rfl, rfl⟩ := p65921
          obtain ⟨u65923, e65924⟩ : ∃ z, z = ms u47095 67 w47094.toNatClampNeg v65922 := ⟨_, rfl⟩
          refine J_iast dX2_look_46 wc_67 (vin (bd_le_hi bw47094 (i_nlt c56516) h56515) (by decide)) (ws e65924 wk_67 rfl) ?_
          refine J_iinc (i := 4) (j := 3) (v := (w47094 + 1)) (lw := [(4, .int (w47094 + 1)), (0, .ref 57), (2, .int keeper), (3, .int mayGo)]) dX2_look_47 rfl rfl (by decide) rfl ?_
          refine J_goto (tgt := 11) dX2_look_50 (by decide) ?_
          refine J_lv [1, 2, 3, 0] rfl ?_
          exact ih56511 (w47094 + 1) u65923 (bd_w (l := 0) (h := 512) (bd_add (l := 1) (h := 512) (bd_le_hi bw47094 (i_nlt c56516) h56515) (bd_c (v := 1) (lo := 1) (hi := 1) (by decide)) (by decide)) (by decide)) (fun c k0_ => ((ms_c e65924 k0_).trans (fr47096 c k0_))) (mu_up 1 bw47094 rfl (by decide) (bd_w (l := 1) (h := 512) (bd_add (l := 1) (h := 512) (bd_le_hi bw47094 (i_nlt c56516) h56515) (bd_c (v := 1) (lo := 1) (hi := 1) (by decide)) (by decide)) (by decide)) hm56512)
  refine J_lv [1, 3, 4, 0] rfl ?_
  exact lp56509 _ (0 : Int32) u2 (bd_w (l := 0) (h := 512) (bd_c (v := 0) (lo := 0) (hi := 0) (by decide)) (by decide)) (fun c k0_ => rfl) (Nat.lt_succ_self _)
set_option maxHeartbeats 4000000 in
set_option maxRecDepth 100000 in
theorem c_O_look_70 {d : Nat} {u : Nat → Nat → Int32} {g : Nat → Nat → Int64} {ex : List MC} {keeper : Int32} {mayGo : Int32} (hd : 3 ≤ d) (hp0 : Bd 0 9 (u 70 0)) (hp1 : Bd 0 4 (u 70 2)) (hp2 : AB u 66 0 511) : CT con0 d 0 0 yX2_look cX2_look 6 none [.ref 57, .ref 70, .int keeper, .int mayGo] (Wd u g ex) (fun r h2 => ∃ (u2 : Nat → Nat → Int32) (g2 : Nat → Nat → Int64), r = none ∧ h2 = Wd u2 g2 ex ∧ Bd 0 9 (u2 61 0) ∧ Bd 0 4 (u2 61 2) ∧ AB u2 66 0 511 ∧ (∀ c, nin c [(58, 67)] = true → u2 c = u c) ∧ (∀ j, j ≠ 0 → j ≠ 1 → j ≠ 2 → j ≠ 3 → j ≠ 4 → u2 58 j = u 58 j) ∧ (∀ j, j ≠ 0 → j ≠ 2 → u2 61 j = u 61 j)) := by
  refine CT_of (by decide) (Nat.le_of_ble_eq_true rfl) (fun x hq => ?_)
  show J x yX2_look cX2_look 6 none d 0 0 (Wd u g ex).length 0 [(0, .ref 57), (1, .ref 70), (2, .int keeper), (3, .int mayGo)] [] (Wd u g ex) 0 0
  refine J_aload_n (i := 0) (j := 0) dX2_look_0 rfl rfl ?_
  refine J_get (C := RX2) (T := TX2) (Z := 6) (ci := 2) (f := 1) dX2_look_1 inG2 rfl (by decide) k363 wc_57 rfl ?_
  refine J_aload_n (i := 1) (j := 1) dX2_look_4 rfl rfl ?_
  refine J_callV (As := [.ref 70]) (rest := []) dX2_look_5 (c_H_copy (d := 1) (u := u) (g := g) (ex := ex)  (t := 61) (f := 70) (by decide) (by decide) (by decide) (Nat.ne_of_beq_eq_false rfl) hp0 hp1) hq.n k865 k681 k682 wc_61 rfl rfl k89 k683 np_X1_copy (Nat.le_trans (by decide) hd) (by decide) (Nat.le_refl _) (Nat.le_refl _) wlen rfl (Nat.le_of_ble_eq_true rfl) (fun r_ h_ p1 => ?_)
  obtain ⟨u2, rfl, rfl, h3, h4, fr5, fc6⟩ := p1
  refine J_iconst (v := 0) dX2_look_8 (by decide) ?_
  refine J_istore (i := 4) (lw := [(4, .int 0), (0, .ref 57), (1, .ref 70), (2, .int keeper), (3, .int mayGo)]) dX2_look_9 (by decide) rfl ?_
  have lp56509 : ∀ (n56510 : Nat) (w47094 : Int32) (u47095 : Nat → Nat → Int32), Bd 0 512 w47094 → (∀ c, c ≠ 67 → u47095 c = u2 c) → (512 - w47094.toInt).toNat < n56510 → J x yX2_look cX2_look 6 none d 0 0 (Wd u g ex).length 11 [(0, .ref 57), (2, .int keeper), (3, .int mayGo), (4, .int w47094)] [] (Wd u47095 g ex) 0 0 := by
    intro n56510
    induction n56510 with
    | zero => intro w47094 u47095 bw47094 fr47096 hm56512; exact absurd hm56512 (Nat.not_lt_zero _)
    | succ n56510 ih56511 =>
      intro w47094 u47095 bw47094 fr47096 hm56512
      refine J_iload (i := 4) (j := 3) dX2_look_11 rfl ?_
      refine J_aload_n (i := 0) (j := 0) dX2_look_13 rfl rfl ?_
      refine J_get (C := RX2) (T := TX2) (Z := 6) (ci := 2) (f := 1) dX2_look_14 inG2 rfl (by decide) k363 wc_57 rfl ?_
      refine J_callV (As := []) (rest := [.int w47094]) dX2_look_17 (c_H_all (d := 0) (u := u47095) (g := g) (ex := ex)  (t := 61) (by decide) (by decide) (bd_r (congrFun (fr47096 61 (Nat.ne_of_beq_eq_false rfl)) 0) h3) (bd_r (congrFun (fr47096 61 (Nat.ne_of_beq_eq_false rfl)) 2) h4)) hq.n k866 k801 k802 wc_61 rfl rfl k89 k803 np_X1_all (Nat.le_trans (by decide) hd) (by decide) (Nat.le_refl _) (Nat.le_refl _) wlen rfl (Nat.le_of_ble_eq_true rfl) (fun r_ h_ p56513 => ?_)
      obtain ⟨v56514, rfl, rfl, h56515⟩ := p56513
      refine J_icmp_gt (tgt := 53) dX2_look_20 (by decide) (fun c56516 => ?_) (fun c56516 => ?_)
      · refine J_iconst (v := 0) dX2_look_53 (by decide) ?_
        refine J_istore (i := 4) (lw := [(4, .int 0), (0, .ref 57), (2, .int keeper), (3, .int mayGo)]) dX2_look_54 (by decide) rfl ?_
        have lp63903 : ∀ (n63904 : Nat) (w61889 : Int32) (u61890 : Nat → Nat → Int32), Bd 0 4 w61889 → (∀ c, nin c [(58, 60), (66, 66)] = true → u61890 c = u47095 c) → (∀ j, j ≠ 0 → j ≠ 1 → j ≠ 2 → j ≠ 3 → j ≠ 4 → u61890 58 j = u47095 58 j) → AB u61890 66 0 511 → (4 - w61889.toInt).toNat < n63904 → J x yX2_look cX2_look 6 none d 0 0 (Wd u g ex).length 56 [(0, .ref 57), (2, .int keeper), (3, .int mayGo), (4, .int w61889)] [] (Wd u61890 g ex) 0 0 := by
          intro n63904
          induction n63904 with
          | zero => intro w61889 u61890 bw61889 fr61891 fc61892 ab61893 hm63906; exact absurd hm63906 (Nat.not_lt_zero _)
          | succ n63904 ih63905 =>
            intro w61889 u61890 bw61889 fr61891 fc61892 ab61893 hm63906
            refine J_iload (i := 4) (j := 3) dX2_look_56 rfl ?_
            refine J_aload_n (i := 0) (j := 0) dX2_look_58 rfl rfl ?_
            refine J_get (C := RX2) (T := TX2) (Z := 6) (ci := 2) (f := 1) dX2_look_59 inG2 rfl (by decide) k363 wc_57 rfl ?_
            refine J_getN (C := RX1) (T := TX1) (Z := 6) (ci := 1) (f := 2) dX2_look_62 inG1 rfl (by decide) k139 wc_61 rfl ?_
            refine J_ci (v := u2 61 2) ((congrFun (fr61891 61 rfl) 2).trans (congrFun (fr47096 61 (Nat.ne_of_beq_eq_false rfl)) 2)) ?_
            refine J_icmp_ge (tgt := 162) dX2_look_65 (by decide) (fun c63907 => ?_) (fun c63907 => ?_)
            · refine J_aload_n (i := 0) (j := 0) dX2_look_162 rfl rfl ?_
              refine J_iconst (v := 0) dX2_look_163 (by decide) ?_
              refine J_iconst (v := 0) dX2_look_164 (by decide) ?_
              refine J_callV (As := [.int 0, .int 0]) (rest := []) dX2_look_165 (c_O_weigh (d := 1) (u := u61890) (g := g) (ex := ex) (mended := 0) (weaker := 0)  (by decide) (bd_r ((congrFun (fr61891 61 rfl) 0).trans (congrFun (fr47096 61 (Nat.ne_of_beq_eq_false rfl)) 0)) h3) (bd_r ((congrFun (fr61891 61 rfl) 2).trans (congrFun (fr47096 61 (Nat.ne_of_beq_eq_false rfl)) 2)) h4)) hq.n k870 k871 k872 wc_57 rfl rfl k96 k873 np_X2_weigh (Nat.le_trans (by decide) hd) (by decide) (Nat.le_refl _) (Nat.le_refl _) wlen rfl (Nat.le_of_ble_eq_true rfl) (fun r_ h_ p64577 => ?_)
              obtain ⟨g64578, rfl, rfl⟩ := p64577
              exact J_vret hq dX2_look_168 rfl wlen (Nat.le_refl _) (Nat.le_refl _) ⟨u61890, g64578, rfl, rfl, (bd_r ((congrFun (fr61891 61 rfl) 0).trans (congrFun (fr47096 61 (Nat.ne_of_beq_eq_false rfl)) 0)) h3), (bd_r ((congrFun (fr61891 61 rfl) 2).trans (congrFun (fr47096 61 (Nat.ne_of_beq_eq_false rfl)) 2)) h4), ab61893, (fun c k_ => ((fr61891 c (nin_sub (M := [(58, 60), (66, 66)]) k_ rfl)).trans ((fr47096 c (nin_ne (a := 67) k_ rfl)).trans (fr5 c (nin_ne (a := 61) k_ rfl) (nin_ne (a := 62) k_ rfl) (nin_ne (a := 63) k_ rfl) (nin_ne (a := 64) k_ rfl) (nin_ne (a := 65) k_ rfl))))), (fun j k0_ k1_ k2_ k3_ k4_ => ((fc61892 j k0_ k1_ k2_ k3_ k4_).trans ((congrFun (fr47096 58 (Nat.ne_of_beq_eq_false rfl)) j).trans (congrFun (fr5 58 (Nat.ne_of_beq_eq_false rfl) (Nat.ne_of_beq_eq_false rfl) (Nat.ne_of_beq_eq_false rfl) (Nat.ne_of_beq_eq_false rfl) (Nat.ne_of_beq_eq_false rfl)) j)))), (fun j k0_ k2_ => ((congrFun (fr61891 61 rfl) j).trans ((congrFun (fr47096 61 (Nat.ne_of_beq_eq_false rfl)) j).trans (fc6 j k0_ k2_))))⟩
            · refine J_iload (i := 4) (j := 3) dX2_look_68 rfl ?_
              refine J_iconst (v := 4) dX2_look_70 (by decide) ?_
              refine J_icmp_ge (tgt := 162) dX2_look_71 (by decide) (fun c64579 => ?_) (fun c64579 => ?_)
              · exact (bd_no (bd_le_lo (bd_lt_hi bw61889 (i_nle c63907) h4) c64579 (bd_c (v := 4) (lo := 4) (hi := 4) (by decide))) (by decide)).elim
              · refine J_iconst (v := 0) dX2_look_74 (by decide) ?_
                refine J_istore (i := 5) (lw := [(5, .int 0), (0, .ref 57), (2, .int keeper), (3, .int mayGo), (4, .int w61889)]) dX2_look_75 (by decide) rfl ?_
                have lp65828 : ∀ (n65829 : Nat) (w65739 : Int32) (u65740 : Nat → Nat → Int32), Bd 0 512 w65739 → (∀ c, nin c [(58, 60), (66, 66)] = true → u65740 c = u61890 c) → (∀ j, j ≠ 0 → j ≠ 1 → j ≠ 2 → j ≠ 3 → j ≠ 4 → u65740 58 j = u61890 58 j) → AB u65740 66 0 511 → (512 - w65739.toInt).toNat < n65829 → J x yX2_look cX2_look 6 none d 0 0 (Wd u g ex).length 77 [(0, .ref 57), (2, .int keeper), (3, .int mayGo), (4, .int w61889), (5, .int w65739)] [] (Wd u65740 g ex) 0 0 := by
                  intro n65829
                  induction n65829 with
                  | zero => intro w65739 u65740 bw65739 fr65741 fc65742 ab65743 hm65831; exact absurd hm65831 (Nat.not_lt_zero _)
                  | succ n65829 ih65830 =>
                    intro w65739 u65740 bw65739 fr65741 fc65742 ab65743 hm65831
                    refine J_iload (i := 5) (j := 4) dX2_look_77 rfl ?_
                    refine J_aload_n (i := 0) (j := 0) dX2_look_79 rfl rfl ?_
                    refine J_get (C := RX2) (T := TX2) (Z := 6) (ci := 2) (f := 1) dX2_look_80 inG2 rfl (by decide) k363 wc_57 rfl ?_
                    refine J_callV (As := []) (rest := [.int w65739]) dX2_look_83 (c_H_all (d := 0) (u := u65740) (g := g) (ex := ex)  (t := 61) (by decide) (by decide) (bd_r ((congrFun (fr65741 61 rfl) 0).trans ((congrFun (fr61891 61 rfl) 0).trans (congrFun (fr47096 61 (Nat.ne_of_beq_eq_false rfl)) 0))) h3) (bd_r ((congrFun (fr65741 61 rfl) 2).trans ((congrFun (fr61891 61 rfl) 2).trans (congrFun (fr47096 61 (Nat.ne_of_beq_eq_false rfl)) 2))) (bd_w (l := 0) (h := 4) (bd_lt_lo h4 (i_nle c63907) (bd_lt_hi bw61889 (i_nle c64579) (bd_c (v := 4) (lo := 4) (hi := 4) (by decide)))) (by decide)))) hq.n k866 k801 k802 wc_61 rfl rfl k89 k803 np_X1_all (Nat.le_trans (by decide) hd) (by decide) (Nat.le_refl _) (Nat.le_refl _) wlen rfl (Nat.le_of_ble_eq_true rfl) (fun r_ h_ p65832 => ?_)
                    obtain ⟨v65833, rfl, rfl, h65834⟩ := p65832
                    refine J_icmp_gt (tgt := 156) dX2_look_86 (by decide) (fun c65835 => ?_) (fun c65835 => ?_)
                    · refine J_iinc (i := 4) (j := 3) (v := (w61889 + 1)) (lw := [(4, .int (w61889 + 1)), (0, .ref 57), (2, .int keeper), (3, .int mayGo), (5, .int w65739)]) dX2_look_156 rfl rfl (by decide) rfl ?_
                      refine J_goto (tgt := 56) dX2_look_159 (by decide) ?_
                      refine J_lv [1, 2, 3, 0] rfl ?_
                      exact ih63905 (w61889 + 1) u65740 (bd_w (l := 0) (h := 4) (bd_add (l := 1) (h := 4) (bd_lt_hi bw61889 (i_nle c63907) h4) (bd_c (v := 1) (lo := 1) (hi := 1) (by decide)) (by decide)) (by decide)) (fun c k_ => ((fr65741 c (nin_sub (M := [(58, 60), (66, 66)]) k_ rfl)).trans (fr61891 c (nin_sub (M := [(58, 60), (66, 66)]) k_ rfl)))) (fun j k0_ k1_ k2_ k3_ k4_ => ((fc65742 j k0_ k1_ k2_ k3_ k4_).trans (fc61892 j k0_ k1_ k2_ k3_ k4_))) ab65743 (mu_up 1 bw61889 rfl (by decide) (bd_w (l := 1) (h := 4) (bd_add (l := 1) (h := 4) (bd_lt_hi bw61889 (i_nle c63907) h4) (bd_c (v := 1) (lo := 1) (hi := 1) (by decide)) (by decide)) (by decide)) hm63906)
                    · refine J_iload (i := 5) (j := 4) dX2_look_89 rfl ?_
                      refine J_sipush (v := 512) dX2_look_91 (by decide) ?_
                      refine J_icmp_ge (tgt := 156) dX2_look_94 (by decide) (fun c65863 => ?_) (fun c65863 => ?_)
                      · exact (bd_no (bd_le_lo (bd_le_hi bw65739 (i_nlt c65835) h65834) c65863 (bd_c (v := 512) (lo := 512) (hi := 512) (by decide))) (by decide)).elim
                      · refine J_iload (i := 5) (j := 4) dX2_look_97 rfl ?_
                        refine J_iload_n (i := 3) (j := 2) dX2_look_99 rfl rfl ?_
                        refine J_iconst (v := (-1)) dX2_look_100 (by decide) ?_
                        refine J_ixor dX2_look_101 ?_
                        refine J_iand dX2_look_102 ?_
                        have jn65905 : ∀ (u65901 : Nat → Nat → Int32), (∀ c, nin c [(58, 60), (66, 66)] = true → u65901 c = u65740 c) → (∀ j, j ≠ 0 → j ≠ 1 → j ≠ 2 → j ≠ 3 → j ≠ 4 → u65901 58 j = u65740 58 j) → AB u65901 66 0 511 → J x yX2_look cX2_look 6 none d 0 0 (Wd u g ex).length 150 [(0, .ref 57), (2, .int keeper), (3, .int mayGo), (4, .int w61889), (5, .int w65739)] [] (Wd u65901 g ex) 0 0 := by
                          intro u65901 fr65902 fc65903 ab65904
                          refine J_iinc (i := 5) (j := 4) (v := (w65739 + 1)) (lw := [(5, .int (w65739 + 1)), (0, .ref 57), (2, .int keeper), (3, .int mayGo), (4, .int w61889)]) dX2_look_150 rfl rfl (by decide) rfl ?_
                          refine J_goto (tgt := 77) dX2_look_153 (by decide) ?_
                          refine J_lv [1, 2, 3, 4, 0] rfl ?_
                          exact ih65830 (w65739 + 1) u65901 (bd_w (l := 0) (h := 512) (bd_add (l := 1) (h := 512) (bd_le_hi bw65739 (i_nlt c65835) h65834) (bd_c (v := 1) (lo := 1) (hi := 1) (by decide)) (by decide)) (by decide)) (fun c k_ => ((fr65902 c (nin_sub (M := [(58, 60), (66, 66)]) k_ rfl)).trans (fr65741 c (nin_sub (M := [(58, 60), (66, 66)]) k_ rfl)))) (fun j k0_ k1_ k2_ k3_ k4_ => ((fc65903 j k0_ k1_ k2_ k3_ k4_).trans (fc65742 j k0_ k1_ k2_ k3_ k4_))) ab65904 (mu_up 1 bw65739 rfl (by decide) (bd_w (l := 1) (h := 512) (bd_add (l := 1) (h := 512) (bd_le_hi bw65739 (i_nlt c65835) h65834) (bd_c (v := 1) (lo := 1) (hi := 1) (by decide)) (by decide)) (by decide)) hm65831)
                        refine J_if_ne (tgt := 150) dX2_look_103 (by decide) (fun c65890 => ?_) (fun c65890 => ?_)
                        · refine J_lv [0, 1, 2, 3, 4] rfl ?_
                          exact jn65905 u65740 (fun c k_ => rfl) (fun j k0_ k1_ k2_ k3_ k4_ => rfl) ab65743
                        · refine J_aload_n (i := 0) (j := 0) dX2_look_106 rfl rfl ?_
                          refine J_get (C := RX2) (T := TX2) (Z := 6) (ci := 2) (f := 0) dX2_look_107 inG2 rfl (by decide) k362 wc_57 rfl ?_
                          refine J_aload_n (i := 0) (j := 0) dX2_look_110 rfl rfl ?_
                          refine J_get (C := RX2) (T := TX2) (Z := 6) (ci := 2) (f := 1) dX2_look_111 inG2 rfl (by decide) k363 wc_57 rfl ?_
                          refine J_aload_n (i := 0) (j := 0) dX2_look_114 rfl rfl ?_
                          refine J_get (C := RX2) (T := TX2) (Z := 6) (ci := 2) (f := 1) dX2_look_115 inG2 rfl (by decide) k363 wc_57 rfl ?_
                          refine J_iload (i := 4) (j := 3) dX2_look_118 rfl ?_
                          refine J_callV (As := [.int w61889]) (rest := [.ref 61, .ref 58]) dX2_look_120 (c_H_stepsOf (d := 0) (u := u65740) (g := g) (ex := ex) (rain := w61889) (t := 61) (by decide) (by decide) (bd_r ((congrFun (fr65741 61 rfl) 0).trans ((congrFun (fr61891 61 rfl) 0).trans (congrFun (fr47096 61 (Nat.ne_of_beq_eq_false rfl)) 0))) h3) (bd_r ((congrFun (fr65741 61 rfl) 2).trans ((congrFun (fr61891 61 rfl) 2).trans (congrFun (fr47096 61 (Nat.ne_of_beq_eq_false rfl)) 2))) (bd_w (l := 0) (h := 4) (bd_lt_lo h4 (i_nle c63907) (bd_lt_hi bw61889 (i_nle c64579) (bd_c (v := 4) (lo := 4) (hi := 4) (by decide)))) (by decide)))) hq.n k868 k716 k717 wc_61 rfl rfl k89 k718 np_X1_stepsOf (Nat.le_trans (by decide) hd) (by decide) (Nat.le_refl _) (Nat.le_refl _) wlen rfl (Nat.le_of_ble_eq_true rfl) (fun r_ h_ p65906 => ?_)
                          obtain ⟨v65907, rfl, rfl⟩ := p65906
                          refine J_iload (i := 5) (j := 4) dX2_look_123 rfl ?_
                          refine J_iload_n (i := 2) (j := 1) dX2_look_125 rfl rfl ?_
                          refine J_callV (As := [.ref 61, .int v65907, .int w65739, .int keeper]) (rest := []) dX2_look_126 (c_S58_run (d := 2) (u := u65740) (g := g) (ex := ex) (steps := v65907) (banks := w65739) (keeper := keeper) (t := 61) (by decide) (by decide) (bd_r ((congrFun (fr65741 61 rfl) 0).trans ((congrFun (fr61891 61 rfl) 0).trans (congrFun (fr47096 61 (Nat.ne_of_beq_eq_false rfl)) 0))) h3) (bd_r ((congrFun (fr65741 61 rfl) 2).trans ((congrFun (fr61891 61 rfl) 2).trans (congrFun (fr47096 61 (Nat.ne_of_beq_eq_false rfl)) 2))) (bd_w (l := 0) (h := 4) (bd_lt_lo h4 (i_nle c63907) (bd_lt_hi bw61889 (i_nle c64579) (bd_c (v := 4) (lo := 4) (hi := 4) (by decide)))) (by decide)))) hq.n k869 k806 k807 wc_58 rfl rfl k94 k808 np_X5_run (Nat.le_trans (by decide) hd) (by decide) (Nat.le_refl _) (Nat.le_refl _) wlen rfl (Nat.le_of_ble_eq_true rfl) (fun r_ h_ p65908 => ?_)
                          obtain ⟨u65909, rfl, rfl, h65910, h65911, fr65912, fc65913⟩ := p65908
                          refine J_aload_n (i := 0) (j := 0) dX2_look_129 rfl rfl ?_
                          refine J_get (C := RX2) (T := TX2) (Z := 6) (ci := 2) (f := 2) dX2_look_130 inG2 rfl (by decide) k365 wc_57 rfl ?_
                          refine J_iload (i := 4) (j := 3) dX2_look_133 rfl ?_
                          refine J_sipush (v := 512) dX2_look_135 (by decide) ?_
                          refine J_imul dX2_look_138 ?_
                          refine J_iload (i := 5) (j := 4) dX2_look_139 rfl ?_
                          refine J_iadd dX2_look_141 ?_
                          refine J_aload_n (i := 0) (j := 0) dX2_look_142 rfl rfl ?_
                          refine J_get (C := RX2) (T := TX2) (Z := 6) (ci := 2) (f := 0) dX2_look_143 inG2 rfl (by decide) k362 wc_57 rfl ?_
                          refine J_getN (C := RX5) (T := TX5) (Z := 7) (ci := 5) (f := 1) dX2_look_146 inG5 rfl (by decide) k321 wc_58 rfl ?_
                          obtain ⟨u65914, e65915⟩ : ∃ z, z = ms u65909 66 (((w61889 * 512) + w65739).toNatClampNeg) (u65909 58 1) := ⟨_, rfl⟩
                          refine J_iast dX2_look_149 wc_66 (vin (bd_add (l := 0) (h := 2047) (bd_mul (l := 0) (h := 1536) (bd_lt_hi bw61889 (i_nle c63907) h4) (bd_c (v := 512) (lo := 512) (hi := 512) (by decide)) (by decide)) (bd_le_hi bw65739 (i_nlt c65835) h65834) (by decide)) (by decide)) (ws e65915 wk_66 rfl) ?_
                          refine J_lv [0, 1, 2, 3, 4] rfl ?_
                          exact jn65905 u65914 (fun c k_ => ((ms_c e65915 (nin_ne (a := 66) k_ rfl)).trans (fr65912 c (nin_sub (M := [(58, 60)]) k_ rfl)))) (fun j k0_ k1_ k2_ k3_ k4_ => ((congrFun (ms_c e65915 (Nat.ne_of_beq_eq_false rfl)) j).trans (fc65913 j k0_ k1_ k2_ k3_ k4_))) (ab_s e65915 (ab_c (fr65912 66 rfl) ab65743) h65911)
                refine J_lv [1, 2, 3, 4, 0] rfl ?_
                exact lp65828 _ (0 : Int32) u61890 (bd_w (l := 0) (h := 512) (bd_c (v := 0) (lo := 0) (hi := 0) (by decide)) (by decide)) (fun c k_ => rfl) (fun j k0_ k1_ k2_ k3_ k4_ => rfl) ab61893 (Nat.lt_succ_self _)
        refine J_lv [1, 2, 3, 0] rfl ?_
        exact lp63903 _ (0 : Int32) u47095 (bd_w (l := 0) (h := 4) (bd_c (v := 0) (lo := 0) (hi := 0) (by decide)) (by decide)) (fun c k_ => rfl) (fun j k0_ k1_ k2_ k3_ k4_ => rfl) (ab_c ((fr47096 66 (Nat.ne_of_beq_eq_false rfl)).trans (fr5 66 (Nat.ne_of_beq_eq_false rfl) (Nat.ne_of_beq_eq_false rfl) (Nat.ne_of_beq_eq_false rfl) (Nat.ne_of_beq_eq_false rfl) (Nat.ne_of_beq_eq_false rfl))) hp2) (Nat.lt_succ_self _)
      · refine J_iload (i := 4) (j := 3) dX2_look_23 rfl ?_
        refine J_sipush (v := 512) dX2_look_25 (by decide) ?_
        refine J_icmp_ge (tgt := 53) dX2_look_28 (by decide) (fun c65916 => ?_) (fun c65916 => ?_)
        · exact (bd_no (bd_le_lo (bd_le_hi bw47094 (i_nlt c56516) h56515) c65916 (bd_c (v := 512) (lo := 512) (hi := 512) (by decide))) (by decide)).elim
        · refine J_aload_n (i := 0) (j := 0) dX2_look_31 rfl rfl ?_
          refine J_get (C := RX2) (T := TX2) (Z := 6) (ci := 2) (f := 3) dX2_look_32 inG2 rfl (by decide) k366 wc_57 rfl ?_
          refine J_iload (i := 4) (j := 3) dX2_look_35 rfl ?_
          refine J_aload_n (i := 0) (j := 0) dX2_look_37 rfl rfl ?_
          refine J_get (C := RX2) (T := TX2) (Z := 6) (ci := 2) (f := 1) dX2_look_38 inG2 rfl (by decide) k363 wc_57 rfl ?_
          refine J_iload (i := 4) (j := 3) dX2_look_41 rfl ?_
          refine J_callV (As := [.int w47094]) (rest := [.int w47094, .ref 67]) dX2_look_43 (c_H_harmOf (d := 1) (u := u47095) (g := g) (ex := ex) (set := w47094) (t := 61) (by decide) (by decide) (bd_r (congrFun (fr47096 61 (Nat.ne_of_beq_eq_false rfl)) 0) h3) (bd_r (congrFun (fr47096 61 (Nat.ne_of_beq_eq_false rfl)) 2) h4)) hq.n k867 k836 k837 wc_61 rfl rfl k89 k838 np_X1_harmOf (Nat.le_trans (by decide) hd) (by decide) (Nat.le_refl _) (Nat.le_refl _) wlen rfl (Nat.le_of_ble_eq_true rfl) (fun r_ h_ p65921 => ?_)
          obtain ⟨v65922, rfl, rfl⟩ := p65921
          obtain ⟨u65923, e65924⟩ : ∃ z, z = ms u47095 67 w47094.toNatClampNeg v65922 := ⟨_, rfl⟩
          refine J_iast dX2_look_46 wc_67 (vin (bd_le_hi bw47094 (i_nlt c56516) h56515) (by decide)) (ws e65924 wk_67 rfl) ?_
          refine J_iinc (i := 4) (j := 3) (v := (w47094 + 1)) (lw := [(4, .int (w47094 + 1)), (0, .ref 57), (2, .int keeper), (3, .int mayGo)]) dX2_look_47 rfl rfl (by decide) rfl ?_
          refine J_goto (tgt := 11) dX2_look_50 (by decide) ?_
          refine J_lv [1, 2, 3, 0] rfl ?_
          exact ih56511 (w47094 + 1) u65923 (bd_w (l := 0) (h := 512) (bd_add (l := 1) (h := 512) (bd_le_hi bw47094 (i_nlt c56516) h56515) (bd_c (v := 1) (lo := 1) (hi := 1) (by decide)) (by decide)) (by decide)) (fun c k0_ => ((ms_c e65924 k0_).trans (fr47096 c k0_))) (mu_up 1 bw47094 rfl (by decide) (bd_w (l := 1) (h := 512) (bd_add (l := 1) (h := 512) (bd_le_hi bw47094 (i_nlt c56516) h56515) (bd_c (v := 1) (lo := 1) (hi := 1) (by decide)) (by decide)) (by decide)) hm56512)
  refine J_lv [1, 3, 4, 0] rfl ?_
  exact lp56509 _ (0 : Int32) u2 (bd_w (l := 0) (h := 512) (bd_c (v := 0) (lo := 0) (hi := 0) (by decide)) (by decide)) (fun c k0_ => rfl) (Nat.lt_succ_self _)
set_option maxHeartbeats 4000000 in
set_option maxRecDepth 100000 in
theorem c_O_look_79 {d : Nat} {u : Nat → Nat → Int32} {g : Nat → Nat → Int64} {ex : List MC} {keeper : Int32} {mayGo : Int32} (hd : 3 ≤ d) (hp0 : Bd 0 9 (u 79 0)) (hp1 : Bd 0 4 (u 79 2)) (hp2 : AB u 66 0 511) : CT con0 d 0 0 yX2_look cX2_look 6 none [.ref 57, .ref 79, .int keeper, .int mayGo] (Wd u g ex) (fun r h2 => ∃ (u2 : Nat → Nat → Int32) (g2 : Nat → Nat → Int64), r = none ∧ h2 = Wd u2 g2 ex ∧ Bd 0 9 (u2 61 0) ∧ Bd 0 4 (u2 61 2) ∧ AB u2 66 0 511 ∧ (∀ c, nin c [(58, 67)] = true → u2 c = u c) ∧ (∀ j, j ≠ 0 → j ≠ 1 → j ≠ 2 → j ≠ 3 → j ≠ 4 → u2 58 j = u 58 j) ∧ (∀ j, j ≠ 0 → j ≠ 2 → u2 61 j = u 61 j)) := by
  refine CT_of (by decide) (Nat.le_of_ble_eq_true rfl) (fun x hq => ?_)
  show J x yX2_look cX2_look 6 none d 0 0 (Wd u g ex).length 0 [(0, .ref 57), (1, .ref 79), (2, .int keeper), (3, .int mayGo)] [] (Wd u g ex) 0 0
  refine J_aload_n (i := 0) (j := 0) dX2_look_0 rfl rfl ?_
  refine J_get (C := RX2) (T := TX2) (Z := 6) (ci := 2) (f := 1) dX2_look_1 inG2 rfl (by decide) k363 wc_57 rfl ?_
  refine J_aload_n (i := 1) (j := 1) dX2_look_4 rfl rfl ?_
  refine J_callV (As := [.ref 79]) (rest := []) dX2_look_5 (c_H_copy (d := 1) (u := u) (g := g) (ex := ex)  (t := 61) (f := 79) (by decide) (by decide) (by decide) (Nat.ne_of_beq_eq_false rfl) hp0 hp1) hq.n k865 k681 k682 wc_61 rfl rfl k89 k683 np_X1_copy (Nat.le_trans (by decide) hd) (by decide) (Nat.le_refl _) (Nat.le_refl _) wlen rfl (Nat.le_of_ble_eq_true rfl) (fun r_ h_ p1 => ?_)
  obtain ⟨u2, rfl, rfl, h3, h4, fr5, fc6⟩ := p1
  refine J_iconst (v := 0) dX2_look_8 (by decide) ?_
  refine J_istore (i := 4) (lw := [(4, .int 0), (0, .ref 57), (1, .ref 79), (2, .int keeper), (3, .int mayGo)]) dX2_look_9 (by decide) rfl ?_
  have lp56509 : ∀ (n56510 : Nat) (w47094 : Int32) (u47095 : Nat → Nat → Int32), Bd 0 512 w47094 → (∀ c, c ≠ 67 → u47095 c = u2 c) → (512 - w47094.toInt).toNat < n56510 → J x yX2_look cX2_look 6 none d 0 0 (Wd u g ex).length 11 [(0, .ref 57), (2, .int keeper), (3, .int mayGo), (4, .int w47094)] [] (Wd u47095 g ex) 0 0 := by
    intro n56510
    induction n56510 with
    | zero => intro w47094 u47095 bw47094 fr47096 hm56512; exact absurd hm56512 (Nat.not_lt_zero _)
    | succ n56510 ih56511 =>
      intro w47094 u47095 bw47094 fr47096 hm56512
      refine J_iload (i := 4) (j := 3) dX2_look_11 rfl ?_
      refine J_aload_n (i := 0) (j := 0) dX2_look_13 rfl rfl ?_
      refine J_get (C := RX2) (T := TX2) (Z := 6) (ci := 2) (f := 1) dX2_look_14 inG2 rfl (by decide) k363 wc_57 rfl ?_
      refine J_callV (As := []) (rest := [.int w47094]) dX2_look_17 (c_H_all (d := 0) (u := u47095) (g := g) (ex := ex)  (t := 61) (by decide) (by decide) (bd_r (congrFun (fr47096 61 (Nat.ne_of_beq_eq_false rfl)) 0) h3) (bd_r (congrFun (fr47096 61 (Nat.ne_of_beq_eq_false rfl)) 2) h4)) hq.n k866 k801 k802 wc_61 rfl rfl k89 k803 np_X1_all (Nat.le_trans (by decide) hd) (by decide) (Nat.le_refl _) (Nat.le_refl _) wlen rfl (Nat.le_of_ble_eq_true rfl) (fun r_ h_ p56513 => ?_)
      obtain ⟨v56514, rfl, rfl, h56515⟩ := p56513
      refine J_icmp_gt (tgt := 53) dX2_look_20 (by decide) (fun c56516 => ?_) (fun c56516 => ?_)
      · refine J_iconst (v := 0) dX2_look_53 (by decide) ?_
        refine J_istore (i := 4) (lw := [(4, .int 0), (0, .ref 57), (2, .int keeper), (3, .int mayGo)]) dX2_look_54 (by decide) rfl ?_
        have lp63903 : ∀ (n63904 : Nat) (w61889 : Int32) (u61890 : Nat → Nat → Int32), Bd 0 4 w61889 → (∀ c, nin c [(58, 60), (66, 66)] = true → u61890 c = u47095 c) → (∀ j, j ≠ 0 → j ≠ 1 → j ≠ 2 → j ≠ 3 → j ≠ 4 → u61890 58 j = u47095 58 j) → AB u61890 66 0 511 → (4 - w61889.toInt).toNat < n63904 → J x yX2_look cX2_look 6 none d 0 0 (Wd u g ex).length 56 [(0, .ref 57), (2, .int keeper), (3, .int mayGo), (4, .int w61889)] [] (Wd u61890 g ex) 0 0 := by
          intro n63904
          induction n63904 with
          | zero => intro w61889 u61890 bw61889 fr61891 fc61892 ab61893 hm63906; exact absurd hm63906 (Nat.not_lt_zero _)
          | succ n63904 ih63905 =>
            intro w61889 u61890 bw61889 fr61891 fc61892 ab61893 hm63906
            refine J_iload (i := 4) (j := 3) dX2_look_56 rfl ?_
            refine J_aload_n (i := 0) (j := 0) dX2_look_58 rfl rfl ?_
            refine J_get (C := RX2) (T := TX2) (Z := 6) (ci := 2) (f := 1) dX2_look_59 inG2 rfl (by decide) k363 wc_57 rfl ?_
            refine J_getN (C := RX1) (T := TX1) (Z := 6) (ci := 1) (f := 2) dX2_look_62 inG1 rfl (by decide) k139 wc_61 rfl ?_
            refine J_ci (v := u2 61 2) ((congrFun (fr61891 61 rfl) 2).trans (congrFun (fr47096 61 (Nat.ne_of_beq_eq_false rfl)) 2)) ?_
            refine J_icmp_ge (tgt := 162) dX2_look_65 (by decide) (fun c63907 => ?_) (fun c63907 => ?_)
            · refine J_aload_n (i := 0) (j := 0) dX2_look_162 rfl rfl ?_
              refine J_iconst (v := 0) dX2_look_163 (by decide) ?_
              refine J_iconst (v := 0) dX2_look_164 (by decide) ?_
              refine J_callV (As := [.int 0, .int 0]) (rest := []) dX2_look_165 (c_O_weigh (d := 1) (u := u61890) (g := g) (ex := ex) (mended := 0) (weaker := 0)  (by decide) (bd_r ((congrFun (fr61891 61 rfl) 0).trans (congrFun (fr47096 61 (Nat.ne_of_beq_eq_false rfl)) 0)) h3) (bd_r ((congrFun (fr61891 61 rfl) 2).trans (congrFun (fr47096 61 (Nat.ne_of_beq_eq_false rfl)) 2)) h4)) hq.n k870 k871 k872 wc_57 rfl rfl k96 k873 np_X2_weigh (Nat.le_trans (by decide) hd) (by decide) (Nat.le_refl _) (Nat.le_refl _) wlen rfl (Nat.le_of_ble_eq_true rfl) (fun r_ h_ p64577 => ?_)
              obtain ⟨g64578, rfl, rfl⟩ := p64577
              exact J_vret hq dX2_look_168 rfl wlen (Nat.le_refl _) (Nat.le_refl _) ⟨u61890, g64578, rfl, rfl, (bd_r ((congrFun (fr61891 61 rfl) 0).trans (congrFun (fr47096 61 (Nat.ne_of_beq_eq_false rfl)) 0)) h3), (bd_r ((congrFun (fr61891 61 rfl) 2).trans (congrFun (fr47096 61 (Nat.ne_of_beq_eq_false rfl)) 2)) h4), ab61893, (fun c k_ => ((fr61891 c (nin_sub (M := [(58, 60), (66, 66)]) k_ rfl)).trans ((fr47096 c (nin_ne (a := 67) k_ rfl)).trans (fr5 c (nin_ne (a := 61) k_ rfl) (nin_ne (a := 62) k_ rfl) (nin_ne (a := 63) k_ rfl) (nin_ne (a := 64) k_ rfl) (nin_ne (a := 65) k_ rfl))))), (fun j k0_ k1_ k2_ k3_ k4_ => ((fc61892 j k0_ k1_ k2_ k3_ k4_).trans ((congrFun (fr47096 58 (Nat.ne_of_beq_eq_false rfl)) j).trans (congrFun (fr5 58 (Nat.ne_of_beq_eq_false rfl) (Nat.ne_of_beq_eq_false rfl) (Nat.ne_of_beq_eq_false rfl) (Nat.ne_of_beq_eq_false rfl) (Nat.ne_of_beq_eq_false rfl)) j)))), (fun j k0_ k2_ => ((congrFun (fr61891 61 rfl) j).trans ((congrFun (fr47096 61 (Nat.ne_of_beq_eq_false rfl)) j).trans (fc6 j k0_ k2_))))⟩
            · refine J_iload (i := 4) (j := 3) dX2_look_68 rfl ?_
              refine J_iconst (v := 4) dX2_look_70 (by decide) ?_
              refine J_icmp_ge (tgt := 162) dX2_look_71 (by decide) (fun c64579 => ?_) (fun c64579 => ?_)
              · exact (bd_no (bd_le_lo (bd_lt_hi bw61889 (i_nle c63907) h4) c64579 (bd_c (v := 4) (lo := 4) (hi := 4) (by decide))) (by decide)).elim
              · refine J_iconst (v := 0) dX2_look_74 (by decide) ?_
                refine J_istore (i := 5) (lw := [(5, .int 0), (0, .ref 57), (2, .int keeper), (3, .int mayGo), (4, .int w61889)]) dX2_look_75 (by decide) rfl ?_
                have lp65828 : ∀ (n65829 : Nat) (w65739 : Int32) (u65740 : Nat → Nat → Int32), Bd 0 512 w65739 → (∀ c, nin c [(58, 60), (66, 66)] = true → u65740 c = u61890 c) → (∀ j, j ≠ 0 → j ≠ 1 → j ≠ 2 → j ≠ 3 → j ≠ 4 → u65740 58 j = u61890 58 j) → AB u65740 66 0 511 → (512 - w65739.toInt).toNat < n65829 → J x yX2_look cX2_look 6 none d 0 0 (Wd u g ex).length 77 [(0, .ref 57), (2, .int keeper), (3, .int mayGo), (4, .int w61889), (5, .int w65739)] [] (Wd u65740 g ex) 0 0 := by
                  intro n65829
                  induction n65829 with
                  | zero => intro w65739 u65740 bw65739 fr65741 fc65742 ab65743 hm65831; exact absurd hm65831 (Nat.not_lt_zero _)
                  | succ n65829 ih65830 =>
                    intro w65739 u65740 bw65739 fr65741 fc65742 ab65743 hm65831
                    refine J_iload (i := 5) (j := 4) dX2_look_77 rfl ?_
                    refine J_aload_n (i := 0) (j := 0) dX2_look_79 rfl rfl ?_
                    refine J_get (C := RX2) (T := TX2) (Z := 6) (ci := 2) (f := 1) dX2_look_80 inG2 rfl (by decide) k363 wc_57 rfl ?_
                    refine J_callV (As := []) (rest := [.int w65739]) dX2_look_83 (c_H_all (d := 0) (u := u65740) (g := g) (ex := ex)  (t := 61) (by decide) (by decide) (bd_r ((congrFun (fr65741 61 rfl) 0).trans ((congrFun (fr61891 61 rfl) 0).trans (congrFun (fr47096 61 (Nat.ne_of_beq_eq_false rfl)) 0))) h3) (bd_r ((congrFun (fr65741 61 rfl) 2).trans ((congrFun (fr61891 61 rfl) 2).trans (congrFun (fr47096 61 (Nat.ne_of_beq_eq_false rfl)) 2))) (bd_w (l := 0) (h := 4) (bd_lt_lo h4 (i_nle c63907) (bd_lt_hi bw61889 (i_nle c64579) (bd_c (v := 4) (lo := 4) (hi := 4) (by decide)))) (by decide)))) hq.n k866 k801 k802 wc_61 rfl rfl k89 k803 np_X1_all (Nat.le_trans (by decide) hd) (by decide) (Nat.le_refl _) (Nat.le_refl _) wlen rfl (Nat.le_of_ble_eq_true rfl) (fun r_ h_ p65832 => ?_)
                    obtain ⟨v65833, rfl, rfl, h65834⟩ := p65832
                    refine J_icmp_gt (tgt := 156) dX2_look_86 (by decide) (fun c65835 => ?_) (fun c65835 => ?_)
                    · refine J_iinc (i := 4) (j := 3) (v := (w61889 + 1)) (lw := [(4, .int (w61889 + 1)), (0, .ref 57), (2, .int keeper), (3, .int mayGo), (5, .int w65739)]) dX2_look_156 rfl rfl (by decide) rfl ?_
                      refine J_goto (tgt := 56) dX2_look_159 (by decide) ?_
                      refine J_lv [1, 2, 3, 0] rfl ?_
                      exact ih63905 (w61889 + 1) u65740 (bd_w (l := 0) (h := 4) (bd_add (l := 1) (h := 4) (bd_lt_hi bw61889 (i_nle c63907) h4) (bd_c (v := 1) (lo := 1) (hi := 1) (by decide)) (by decide)) (by decide)) (fun c k_ => ((fr65741 c (nin_sub (M := [(58, 60), (66, 66)]) k_ rfl)).trans (fr61891 c (nin_sub (M := [(58, 60), (66, 66)]) k_ rfl)))) (fun j k0_ k1_ k2_ k3_ k4_ => ((fc65742 j k0_ k1_ k2_ k3_ k4_).trans (fc61892 j k0_ k1_ k2_ k3_ k4_))) ab65743 (mu_up 1 bw61889 rfl (by decide) (bd_w (l := 1) (h := 4) (bd_add (l := 1) (h := 4) (bd_lt_hi bw61889 (i_nle c63907) h4) (bd_c (v := 1) (lo := 1) (hi := 1) (by decide)) (by decide)) (by decide)) hm63906)
                    · refine J_iload (i := 5) (j := 4) dX2_look_89 rfl ?_
                      refine J_sipush (v := 512) dX2_look_91 (by decide) ?_
                      refine J_icmp_ge (tgt := 156) dX2_look_94 (by decide) (fun c65863 => ?_) (fun c65863 => ?_)
                      · exact (bd_no (bd_le_lo (bd_le_hi bw65739 (i_nlt c65835) h65834) c65863 (bd_c (v := 512) (lo := 512) (hi := 512) (by decide))) (by decide)).elim
                      · refine J_iload (i := 5) (j := 4) dX2_look_97 rfl ?_
                        refine J_iload_n (i := 3) (j := 2) dX2_look_99 rfl rfl ?_
                        refine J_iconst (v := (-1)) dX2_look_100 (by decide) ?_
                        refine J_ixor dX2_look_101 ?_
                        refine J_iand dX2_look_102 ?_
                        have jn65905 : ∀ (u65901 : Nat → Nat → Int32), (∀ c, nin c [(58, 60), (66, 66)] = true → u65901 c = u65740 c) → (∀ j, j ≠ 0 → j ≠ 1 → j ≠ 2 → j ≠ 3 → j ≠ 4 → u65901 58 j = u65740 58 j) → AB u65901 66 0 511 → J x yX2_look cX2_look 6 none d 0 0 (Wd u g ex).length 150 [(0, .ref 57), (2, .int keeper), (3, .int mayGo), (4, .int w61889), (5, .int w65739)] [] (Wd u65901 g ex) 0 0 := by
                          intro u65901 fr65902 fc65903 ab65904
                          refine J_iinc (i := 5) (j := 4) (v := (w65739 + 1)) (lw := [(5, .int (w65739 + 1)), (0, .ref 57), (2, .int keeper), (3, .int mayGo), (4, .int w61889)]) dX2_look_150 rfl rfl (by decide) rfl ?_
                          refine J_goto (tgt := 77) dX2_look_153 (by decide) ?_
                          refine J_lv [1, 2, 3, 4, 0] rfl ?_
                          exact ih65830 (w65739 + 1) u65901 (bd_w (l := 0) (h := 512) (bd_add (l := 1) (h := 512) (bd_le_hi bw65739 (i_nlt c65835) h65834) (bd_c (v := 1) (lo := 1) (hi := 1) (by decide)) (by decide)) (by decide)) (fun c k_ => ((fr65902 c (nin_sub (M := [(58, 60), (66, 66)]) k_ rfl)).trans (fr65741 c (nin_sub (M := [(58, 60), (66, 66)]) k_ rfl)))) (fun j k0_ k1_ k2_ k3_ k4_ => ((fc65903 j k0_ k1_ k2_ k3_ k4_).trans (fc65742 j k0_ k1_ k2_ k3_ k4_))) ab65904 (mu_up 1 bw65739 rfl (by decide) (bd_w (l := 1) (h := 512) (bd_add (l := 1) (h := 512) (bd_le_hi bw65739 (i_nlt c65835) h65834) (bd_c (v := 1) (lo := 1) (hi := 1) (by decide)) (by decide)) (by decide)) hm65831)
                        refine J_if_ne (tgt := 150) dX2_look_103 (by decide) (fun c65890 => ?_) (fun c65890 => ?_)
                        · refine J_lv [0, 1, 2, 3, 4] rfl ?_
                          exact jn65905 u65740 (fun c k_ => rfl) (fun j k0_ k1_ k2_ k3_ k4_ => rfl) ab65743
                        · refine J_aload_n (i := 0) (j := 0) dX2_look_106 rfl rfl ?_
                          refine J_get (C := RX2) (T := TX2) (Z := 6) (ci := 2) (f := 0) dX2_look_107 inG2 rfl (by decide) k362 wc_57 rfl ?_
                          refine J_aload_n (i := 0) (j := 0) dX2_look_110 rfl rfl ?_
                          refine J_get (C := RX2) (T := TX2) (Z := 6) (ci := 2) (f := 1) dX2_look_111 inG2 rfl (by decide) k363 wc_57 rfl ?_
                          refine J_aload_n (i := 0) (j := 0) dX2_look_114 rfl rfl ?_
                          refine J_get (C := RX2) (T := TX2) (Z := 6) (ci := 2) (f := 1) dX2_look_115 inG2 rfl (by decide) k363 wc_57 rfl ?_
                          refine J_iload (i := 4) (j := 3) dX2_look_118 rfl ?_
                          refine J_callV (As := [.int w61889]) (rest := [.ref 61, .ref 58]) dX2_look_120 (c_H_stepsOf (d := 0) (u := u65740) (g := g) (ex := ex) (rain := w61889) (t := 61) (by decide) (by decide) (bd_r ((congrFun (fr65741 61 rfl) 0).trans ((congrFun (fr61891 61 rfl) 0).trans (congrFun (fr47096 61 (Nat.ne_of_beq_eq_false rfl)) 0))) h3) (bd_r ((congrFun (fr65741 61 rfl) 2).trans ((congrFun (fr61891 61 rfl) 2).trans (congrFun (fr47096 61 (Nat.ne_of_beq_eq_false rfl)) 2))) (bd_w (l := 0) (h := 4) (bd_lt_lo h4 (i_nle c63907) (bd_lt_hi bw61889 (i_nle c64579) (bd_c (v := 4) (lo := 4) (hi := 4) (by decide)))) (by decide)))) hq.n k868 k716 k717 wc_61 rfl rfl k89 k718 np_X1_stepsOf (Nat.le_trans (by decide) hd) (by decide) (Nat.le_refl _) (Nat.le_refl _) wlen rfl (Nat.le_of_ble_eq_true rfl) (fun r_ h_ p65906 => ?_)
                          obtain ⟨v65907, rfl, rfl⟩ := p65906
                          refine J_iload (i := 5) (j := 4) dX2_look_123 rfl ?_
                          refine J_iload_n (i := 2) (j := 1) dX2_look_125 rfl rfl ?_
                          refine J_callV (As := [.ref 61, .int v65907, .int w65739, .int keeper]) (rest := []) dX2_look_126 (c_S58_run (d := 2) (u := u65740) (g := g) (ex := ex) (steps := v65907) (banks := w65739) (keeper := keeper) (t := 61) (by decide) (by decide) (bd_r ((congrFun (fr65741 61 rfl) 0).trans ((congrFun (fr61891 61 rfl) 0).trans (congrFun (fr47096 61 (Nat.ne_of_beq_eq_false rfl)) 0))) h3) (bd_r ((congrFun (fr65741 61 rfl) 2).trans ((congrFun (fr61891 61 rfl) 2).trans (congrFun (fr47096 61 (Nat.ne_of_beq_eq_false rfl)) 2))) (bd_w (l := 0) (h := 4) (bd_lt_lo h4 (i_nle c63907) (bd_lt_hi bw61889 (i_nle c64579) (bd_c (v := 4) (lo := 4) (hi := 4) (by decide)))) (by decide)))) hq.n k869 k806 k807 wc_58 rfl rfl k94 k808 np_X5_run (Nat.le_trans (by decide) hd) (by decide) (Nat.le_refl _) (Nat.le_refl _) wlen rfl (Nat.le_of_ble_eq_true rfl) (fun r_ h_ p65908 => ?_)
                          obtain ⟨u65909, rfl, rfl, h65910, h65911, fr65912, fc65913⟩ := p65908
                          refine J_aload_n (i := 0) (j := 0) dX2_look_129 rfl rfl ?_
                          refine J_get (C := RX2) (T := TX2) (Z := 6) (ci := 2) (f := 2) dX2_look_130 inG2 rfl (by decide) k365 wc_57 rfl ?_
                          refine J_iload (i := 4) (j := 3) dX2_look_133 rfl ?_
                          refine J_sipush (v := 512) dX2_look_135 (by decide) ?_
                          refine J_imul dX2_look_138 ?_
                          refine J_iload (i := 5) (j := 4) dX2_look_139 rfl ?_
                          refine J_iadd dX2_look_141 ?_
                          refine J_aload_n (i := 0) (j := 0) dX2_look_142 rfl rfl ?_
                          refine J_get (C := RX2) (T := TX2) (Z := 6) (ci := 2) (f := 0) dX2_look_143 inG2 rfl (by decide) k362 wc_57 rfl ?_
                          refine J_getN (C := RX5) (T := TX5) (Z := 7) (ci := 5) (f := 1) dX2_look_146 inG5 rfl (by decide) k321 wc_58 rfl ?_
                          obtain ⟨u65914, e65915⟩ : ∃ z, z = ms u65909 66 (((w61889 * 512) + w65739).toNatClampNeg) (u65909 58 1) := ⟨_, rfl⟩
                          refine J_iast dX2_look_149 wc_66 (vin (bd_add (l := 0) (h := 2047) (bd_mul (l := 0) (h := 1536) (bd_lt_hi bw61889 (i_nle c63907) h4) (bd_c (v := 512) (lo := 512) (hi := 512) (by decide)) (by decide)) (bd_le_hi bw65739 (i_nlt c65835) h65834) (by decide)) (by decide)) (ws e65915 wk_66 rfl) ?_
                          refine J_lv [0, 1, 2, 3, 4] rfl ?_
                          exact jn65905 u65914 (fun c k_ => ((ms_c e65915 (nin_ne (a := 66) k_ rfl)).trans (fr65912 c (nin_sub (M := [(58, 60)]) k_ rfl)))) (fun j k0_ k1_ k2_ k3_ k4_ => ((congrFun (ms_c e65915 (Nat.ne_of_beq_eq_false rfl)) j).trans (fc65913 j k0_ k1_ k2_ k3_ k4_))) (ab_s e65915 (ab_c (fr65912 66 rfl) ab65743) h65911)
                refine J_lv [1, 2, 3, 4, 0] rfl ?_
                exact lp65828 _ (0 : Int32) u61890 (bd_w (l := 0) (h := 512) (bd_c (v := 0) (lo := 0) (hi := 0) (by decide)) (by decide)) (fun c k_ => rfl) (fun j k0_ k1_ k2_ k3_ k4_ => rfl) ab61893 (Nat.lt_succ_self _)
        refine J_lv [1, 2, 3, 0] rfl ?_
        exact lp63903 _ (0 : Int32) u47095 (bd_w (l := 0) (h := 4) (bd_c (v := 0) (lo := 0) (hi := 0) (by decide)) (by decide)) (fun c k_ => rfl) (fun j k0_ k1_ k2_ k3_ k4_ => rfl) (ab_c ((fr47096 66 (Nat.ne_of_beq_eq_false rfl)).trans (fr5 66 (Nat.ne_of_beq_eq_false rfl) (Nat.ne_of_beq_eq_false rfl) (Nat.ne_of_beq_eq_false rfl) (Nat.ne_of_beq_eq_false rfl) (Nat.ne_of_beq_eq_false rfl))) hp2) (Nat.lt_succ_self _)
      · refine J_iload (i := 4) (j := 3) dX2_look_23 rfl ?_
        refine J_sipush (v := 512) dX2_look_25 (by decide) ?_
        refine J_icmp_ge (tgt := 53) dX2_look_28 (by decide) (fun c65916 => ?_) (fun c65916 => ?_)
        · exact (bd_no (bd_le_lo (bd_le_hi bw47094 (i_nlt c56516) h56515) c65916 (bd_c (v := 512) (lo := 512) (hi := 512) (by decide))) (by decide)).elim
        · refine J_aload_n (i := 0) (j := 0) dX2_look_31 rfl rfl ?_
          refine J_get (C := RX2) (T := TX2) (Z := 6) (ci := 2) (f := 3) dX2_look_32 inG2 rfl (by decide) k366 wc_57 rfl ?_
          refine J_iload (i := 4) (j := 3) dX2_look_35 rfl ?_
          refine J_aload_n (i := 0) (j := 0) dX2_look_37 rfl rfl ?_
          refine J_get (C := RX2) (T := TX2) (Z := 6) (ci := 2) (f := 1) dX2_look_38 inG2 rfl (by decide) k363 wc_57 rfl ?_
          refine J_iload (i := 4) (j := 3) dX2_look_41 rfl ?_
          refine J_callV (As := [.int w47094]) (rest := [.int w47094, .ref 67]) dX2_look_43 (c_H_harmOf (d := 1) (u := u47095) (g := g) (ex := ex) (set := w47094) (t := 61) (by decide) (by decide) (bd_r (congrFun (fr47096 61 (Nat.ne_of_beq_eq_false rfl)) 0) h3) (bd_r (congrFun (fr47096 61 (Nat.ne_of_beq_eq_false rfl)) 2) h4)) hq.n k867 k836 k837 wc_61 rfl rfl k89 k838 np_X1_harmOf (Nat.le_trans (by decide) hd) (by decide) (Nat.le_refl _) (Nat.le_refl _) wlen rfl (Nat.le_of_ble_eq_true rfl) (fun r_ h_ p65921 => ?_)
          obtain ⟨v65922, rfl, rfl⟩ := p65921
          obtain ⟨u65923, e65924⟩ : ∃ z, z = ms u47095 67 w47094.toNatClampNeg v65922 := ⟨_, rfl⟩
          refine J_iast dX2_look_46 wc_67 (vin (bd_le_hi bw47094 (i_nlt c56516) h56515) (by decide)) (ws e65924 wk_67 rfl) ?_
          refine J_iinc (i := 4) (j := 3) (v := (w47094 + 1)) (lw := [(4, .int (w47094 + 1)), (0, .ref 57), (2, .int keeper), (3, .int mayGo)]) dX2_look_47 rfl rfl (by decide) rfl ?_
          refine J_goto (tgt := 11) dX2_look_50 (by decide) ?_
          refine J_lv [1, 2, 3, 0] rfl ?_
          exact ih56511 (w47094 + 1) u65923 (bd_w (l := 0) (h := 512) (bd_add (l := 1) (h := 512) (bd_le_hi bw47094 (i_nlt c56516) h56515) (bd_c (v := 1) (lo := 1) (hi := 1) (by decide)) (by decide)) (by decide)) (fun c k0_ => ((ms_c e65924 k0_).trans (fr47096 c k0_))) (mu_up 1 bw47094 rfl (by decide) (bd_w (l := 1) (h := 512) (bd_add (l := 1) (h := 512) (bd_le_hi bw47094 (i_nlt c56516) h56515) (bd_c (v := 1) (lo := 1) (hi := 1) (by decide)) (by decide)) (by decide)) hm56512)
  refine J_lv [1, 3, 4, 0] rfl ?_
  exact lp56509 _ (0 : Int32) u2 (bd_w (l := 0) (h := 512) (bd_c (v := 0) (lo := 0) (hi := 0) (by decide)) (by decide)) (fun c k0_ => rfl) (Nat.lt_succ_self _)
set_option maxHeartbeats 4000000 in
set_option maxRecDepth 100000 in
theorem c_O_parts {d : Nat} {u : Nat → Nat → Int32} {g : Nat → Nat → Int64} {ex : List MC} {rain : Int32} {banks : Int32} (hd : 1 ≤ d) (hp0 : Bd 0 9 (u 61 0)) (hp1 : Bd 0 4 (u 61 2)) : CT con0 d 0 0 yX2_parts cX2_parts 3 (some .long) [.ref 57, .int rain, .int banks] (Wd u g ex) (fun r h2 => ∃ (z : Int64), r = some (.long z) ∧ h2 = Wd u g ex) := by
  refine CT_of (by decide) (Nat.le_of_ble_eq_true rfl) (fun x hq => ?_)
  show J x yX2_parts cX2_parts 3 (some .long) d 0 0 (Wd u g ex).length 0 [(0, .ref 57), (1, .int rain), (2, .int banks)] [] (Wd u g ex) 0 0
  refine J_iload_n (i := 1) (j := 1) dX2_parts_0 rfl rfl ?_
  refine J_iload_n (i := 2) (j := 2) dX2_parts_1 rfl rfl ?_
  refine J_callS (As := [.int rain, .int banks]) (rest := []) dX2_parts_2 (c_O_isStorm (d := 0) (u := u) (g := g) (ex := ex) (rain := rain) (banks := banks)  (by decide) ) hq.n k887 k888 k96 k889 np_X2_isStorm (Nat.le_trans (by decide) hd) (by decide) (Nat.le_refl _) (Nat.le_refl _) wlen rfl (Nat.le_of_ble_eq_true rfl) (fun r_ h_ p1 => ?_)
  obtain ⟨t2, rfl, rfl, h3, h4⟩ := p1
  refine J_ifB_eq (tgt := 27) dX2_parts_5 (by decide) (fun c5 => ?_) (fun c5 => ?_)
  · refine J_lconst (v := 0) dX2_parts_27 (by decide) ?_
    exact J_lret hq dX2_parts_28 rfl wlen (Nat.le_refl _) (Nat.le_refl _) ⟨(0 : Int64), rfl, rfl⟩
  · refine J_aload_n (i := 0) (j := 0) dX2_parts_8 rfl rfl ?_
    refine J_get (C := RX2) (T := TX2) (Z := 6) (ci := 2) (f := 4) dX2_parts_9 inG2 rfl (by decide) k367 wc_57 rfl ?_
    refine J_iload_n (i := 2) (j := 2) dX2_parts_12 rfl rfl ?_
    refine J_lald dX2_parts_13 wc_68 (vin (h4 c5) (by decide)) ?_
    refine J_topl (fun l6 _ => ?_)
    refine J_aload_n (i := 0) (j := 0) dX2_parts_14 rfl rfl ?_
    refine J_get (C := RX2) (T := TX2) (Z := 6) (ci := 2) (f := 1) dX2_parts_15 inG2 rfl (by decide) k363 wc_57 rfl ?_
    refine J_iload_n (i := 1) (j := 1) dX2_parts_18 rfl rfl ?_
    refine J_callV (As := [.int rain]) (rest := [.long l6]) dX2_parts_19 (c_H_chanceOf (d := 0) (u := u) (g := g) (ex := ex) (rain := rain) (t := 61) (by decide) (by decide) hp0 hp1) hq.n k890 k673 k674 wc_61 rfl rfl k89 k675 np_X1_chanceOf (Nat.le_trans (by decide) hd) (by decide) (Nat.le_refl _) (Nat.le_refl _) wlen rfl (Nat.le_of_ble_eq_true rfl) (fun r_ h_ p7 => ?_)
    obtain ⟨v8, rfl, rfl⟩ := p7
    refine J_i2l dX2_parts_22 rfl ?_
    refine J_topl (fun l9 _ => ?_)
    refine J_lmul dX2_parts_23 ?_
    refine J_topl (fun l10 _ => ?_)
    refine J_goto (tgt := 28) dX2_parts_24 (by decide) ?_
    exact J_lret hq dX2_parts_28 rfl wlen (Nat.le_refl _) (Nat.le_refl _) ⟨l10, rfl, rfl⟩
set_option maxHeartbeats 4000000 in
set_option maxRecDepth 100000 in
theorem c_O_wentBy {d : Nat} {u : Nat → Nat → Int32} {g : Nat → Nat → Int64} {ex : List MC} {rain : Int32} {banks : Int32} (hd : 1 ≤ d) (hp0 : AB u 66 0 511) : CT con0 d 0 0 yX2_wentBy cX2_wentBy 3 (some .int) [.ref 57, .int rain, .int banks] (Wd u g ex) (fun r h2 => ∃ (z : Int32), r = some (.int z) ∧ h2 = Wd u g ex ∧ Bd 0 511 z) := by
  refine CT_of (by decide) (Nat.le_of_ble_eq_true rfl) (fun x hq => ?_)
  show J x yX2_wentBy cX2_wentBy 3 (some .int) d 0 0 (Wd u g ex).length 0 [(0, .ref 57), (1, .int rain), (2, .int banks)] [] (Wd u g ex) 0 0
  refine J_iload_n (i := 1) (j := 1) dX2_wentBy_0 rfl rfl ?_
  refine J_iload_n (i := 2) (j := 2) dX2_wentBy_1 rfl rfl ?_
  refine J_callS (As := [.int rain, .int banks]) (rest := []) dX2_wentBy_2 (c_O_isStorm (d := 0) (u := u) (g := g) (ex := ex) (rain := rain) (banks := banks)  (by decide) ) hq.n k887 k888 k96 k889 np_X2_isStorm (Nat.le_trans (by decide) hd) (by decide) (Nat.le_refl _) (Nat.le_refl _) wlen rfl (Nat.le_of_ble_eq_true rfl) (fun r_ h_ p1 => ?_)
  obtain ⟨t2, rfl, rfl, h3, h4⟩ := p1
  refine J_ifB_eq (tgt := 23) dX2_wentBy_5 (by decide) (fun c5 => ?_) (fun c5 => ?_)
  · refine J_iconst (v := 0) dX2_wentBy_23 (by decide) ?_
    exact J_iret hq dX2_wentBy_24 rfl wlen (Nat.le_refl _) (Nat.le_refl _) ⟨(0 : Int32), rfl, rfl, (bd_w (l := 0) (h := 511) (bd_c (v := 0) (lo := 0) (hi := 0) (by decide)) (by decide))⟩
  · refine J_aload_n (i := 0) (j := 0) dX2_wentBy_8 rfl rfl ?_
    refine J_get (C := RX2) (T := TX2) (Z := 6) (ci := 2) (f := 2) dX2_wentBy_9 inG2 rfl (by decide) k365 wc_57 rfl ?_
    refine J_iload_n (i := 1) (j := 1) dX2_wentBy_12 rfl rfl ?_
    refine J_sipush (v := 512) dX2_wentBy_13 (by decide) ?_
    refine J_imul dX2_wentBy_16 ?_
    refine J_iload_n (i := 2) (j := 2) dX2_wentBy_17 rfl rfl ?_
    refine J_iadd dX2_wentBy_18 ?_
    refine J_iald dX2_wentBy_19 wc_66 (vin (bd_add (l := 0) (h := 2047) (bd_mul (l := 0) (h := 1536) (h3 c5) (bd_c (v := 512) (lo := 512) (hi := 512) (by decide)) (by decide)) (h4 c5) (by decide)) (by decide)) ?_
    refine J_topi (fun v6 qv6 => ?_)
    refine J_goto (tgt := 24) dX2_wentBy_20 (by decide) ?_
    exact J_iret hq dX2_wentBy_24 rfl wlen (Nat.le_refl _) (Nat.le_refl _) ⟨v6, rfl, rfl, (bd_r qv6 (hp0 (((rain * 512) + banks).toNatClampNeg)))⟩
set_option maxHeartbeats 4000000 in
set_option maxRecDepth 100000 in
theorem c_O_meanOf {d : Nat} {u : Nat → Nat → Int32} {g : Nat → Nat → Int64} {ex : List MC} {counted : Int32} (hd : 2 ≤ d) (hp0 : Bd 0 9 (u 61 0)) (hp1 : Bd 0 4 (u 61 2)) (hp2 : AB u 66 0 511) : CT con0 d 0 0 yX2_meanOf cX2_meanOf 6 (some .long) [.ref 57, .int counted] (Wd u g ex) (fun r h2 => ∃ (z : Int64), r = some (.long z) ∧ h2 = Wd u g ex) := by
  refine CT_of (by decide) (Nat.le_of_ble_eq_true rfl) (fun x hq => ?_)
  show J x yX2_meanOf cX2_meanOf 6 (some .long) d 0 0 (Wd u g ex).length 0 [(0, .ref 57), (1, .int counted)] [] (Wd u g ex) 0 0
  refine J_lconst (v := 0) dX2_meanOf_0 (by decide) ?_
  refine J_lstore_n (i := 2) (lw := [(2, .long 0), (0, .ref 57), (1, .int counted)]) dX2_meanOf_1 rfl (by decide) rfl ?_
  refine J_iconst (v := 0) dX2_meanOf_2 (by decide) ?_
  refine J_istore (i := 4) (lw := [(4, .int 0), (2, .long 0), (0, .ref 57), (1, .int counted)]) dX2_meanOf_3 (by decide) rfl ?_
  have lp3339 : ∀ (n3340 : Nat) (w2504 : Int64) (w2505 : Int32), Bd 0 4 w2505 → (4 - w2505.toInt).toNat < n3340 → J x yX2_meanOf cX2_meanOf 6 (some .long) d 0 0 (Wd u g ex).length 5 [(0, .ref 57), (1, .int counted), (2, .long w2504), (4, .int w2505)] [] (Wd u g ex) 0 0 := by
    intro n3340
    induction n3340 with
    | zero => intro w2504 w2505 bw2505 hm3342; exact absurd hm3342 (Nat.not_lt_zero _)
    | succ n3340 ih3341 =>
      intro w2504 w2505 bw2505 hm3342
      refine J_iload (i := 4) (j := 3) dX2_meanOf_5 rfl ?_
      refine J_aload_n (i := 0) (j := 0) dX2_meanOf_7 rfl rfl ?_
      refine J_get (C := RX2) (T := TX2) (Z := 6) (ci := 2) (f := 1) dX2_meanOf_8 inG2 rfl (by decide) k363 wc_57 rfl ?_
      refine J_getN (C := RX1) (T := TX1) (Z := 6) (ci := 1) (f := 2) dX2_meanOf_11 inG1 rfl (by decide) k139 wc_61 rfl ?_
      refine J_icmp_ge (tgt := 85) dX2_meanOf_14 (by decide) (fun c3343 => ?_) (fun c3343 => ?_)
      · refine J_lload_n (i := 2) (j := 2) dX2_meanOf_85 rfl rfl ?_
        exact J_lret hq dX2_meanOf_86 rfl wlen (Nat.le_refl _) (Nat.le_refl _) ⟨w2504, rfl, rfl⟩
      · refine J_iconst (v := 0) dX2_meanOf_17 (by decide) ?_
        refine J_istore (i := 5) (lw := [(5, .int 0), (0, .ref 57), (1, .int counted), (2, .long w2504), (4, .int w2505)]) dX2_meanOf_18 (by decide) rfl ?_
        have lp4122 : ∀ (n4123 : Nat) (w4070 : Int64) (w4071 : Int32), Bd 0 512 w4071 → (512 - w4071.toInt).toNat < n4123 → J x yX2_meanOf cX2_meanOf 6 (some .long) d 0 0 (Wd u g ex).length 20 [(0, .ref 57), (1, .int counted), (2, .long w4070), (4, .int w2505), (5, .int w4071)] [] (Wd u g ex) 0 0 := by
          intro n4123
          induction n4123 with
          | zero => intro w4070 w4071 bw4071 hm4125; exact absurd hm4125 (Nat.not_lt_zero _)
          | succ n4123 ih4124 =>
            intro w4070 w4071 bw4071 hm4125
            refine J_iload (i := 5) (j := 4) dX2_meanOf_20 rfl ?_
            refine J_aload_n (i := 0) (j := 0) dX2_meanOf_22 rfl rfl ?_
            refine J_get (C := RX2) (T := TX2) (Z := 6) (ci := 2) (f := 1) dX2_meanOf_23 inG2 rfl (by decide) k363 wc_57 rfl ?_
            refine J_callV (As := []) (rest := [.int w4071]) dX2_meanOf_26 (c_H_all (d := 0) (u := u) (g := g) (ex := ex)  (t := 61) (by decide) (by decide) hp0 (bd_w (l := 0) (h := 4) (bd_lt_lo hp1 (i_nle c3343) bw2505) (by decide))) hq.n k866 k801 k802 wc_61 rfl rfl k89 k803 np_X1_all (Nat.le_trans (by decide) hd) (by decide) (Nat.le_refl _) (Nat.le_refl _) wlen rfl (Nat.le_of_ble_eq_true rfl) (fun r_ h_ p4126 => ?_)
            obtain ⟨v4127, rfl, rfl, h4128⟩ := p4126
            refine J_icmp_gt (tgt := 79) dX2_meanOf_29 (by decide) (fun c4129 => ?_) (fun c4129 => ?_)
            · refine J_iinc (i := 4) (j := 3) (v := (w2505 + 1)) (lw := [(4, .int (w2505 + 1)), (0, .ref 57), (1, .int counted), (2, .long w4070), (5, .int w4071)]) dX2_meanOf_79 rfl rfl (by decide) rfl ?_
              refine J_goto (tgt := 5) dX2_meanOf_82 (by decide) ?_
              refine J_lv [1, 2, 3, 0] rfl ?_
              exact ih3341 w4070 (w2505 + 1) (bd_w (l := 0) (h := 4) (bd_add (l := 1) (h := 4) (bd_lt_hi bw2505 (i_nle c3343) hp1) (bd_c (v := 1) (lo := 1) (hi := 1) (by decide)) (by decide)) (by decide)) (mu_up 1 bw2505 rfl (by decide) (bd_w (l := 1) (h := 4) (bd_add (l := 1) (h := 4) (bd_lt_hi bw2505 (i_nle c3343) hp1) (bd_c (v := 1) (lo := 1) (hi := 1) (by decide)) (by decide)) (by decide)) hm3342)
            · refine J_aload_n (i := 0) (j := 0) dX2_meanOf_32 rfl rfl ?_
              refine J_iload (i := 4) (j := 3) dX2_meanOf_33 rfl ?_
              refine J_iload (i := 5) (j := 4) dX2_meanOf_35 rfl ?_
              refine J_callV (As := [.int w2505, .int w4071]) (rest := []) dX2_meanOf_37 (c_O_parts (d := 1) (u := u) (g := g) (ex := ex) (rain := w2505) (banks := w4071)  (by decide) hp0 (bd_w (l := 0) (h := 4) (bd_lt_lo hp1 (i_nle c3343) bw2505) (by decide))) hq.n k883 k885 k24 wc_57 rfl rfl k96 k886 np_X2_parts (Nat.le_trans (by decide) hd) (by decide) (Nat.le_refl _) (Nat.le_refl _) wlen rfl (Nat.le_of_ble_eq_true rfl) (fun r_ h_ p4153 => ?_)
              obtain ⟨l4154, rfl, rfl⟩ := p4153
              refine J_lconst (v := 0) dX2_meanOf_40 (by decide) ?_
              refine J_lcmp dX2_meanOf_41 ?_
              have jn4166 : ∀ (w4165 : Int64), J x yX2_meanOf cX2_meanOf 6 (some .long) d 0 0 (Wd u g ex).length 73 [(0, .ref 57), (1, .int counted), (2, .long w4165), (4, .int w2505), (5, .int w4071)] [] (Wd u g ex) 0 0 := by
                intro w4165
                refine J_iinc (i := 5) (j := 4) (v := (w4071 + 1)) (lw := [(5, .int (w4071 + 1)), (0, .ref 57), (1, .int counted), (2, .long w4165), (4, .int w2505)]) dX2_meanOf_73 rfl rfl (by decide) rfl ?_
                refine J_goto (tgt := 20) dX2_meanOf_76 (by decide) ?_
                refine J_lv [1, 2, 3, 4, 0] rfl ?_
                exact ih4124 w4165 (w4071 + 1) (bd_w (l := 0) (h := 512) (bd_add (l := 1) (h := 512) (bd_le_hi bw4071 (i_nlt c4129) h4128) (bd_c (v := 1) (lo := 1) (hi := 1) (by decide)) (by decide)) (by decide)) (mu_up 1 bw4071 rfl (by decide) (bd_w (l := 1) (h := 512) (bd_add (l := 1) (h := 512) (bd_le_hi bw4071 (i_nlt c4129) h4128) (bd_c (v := 1) (lo := 1) (hi := 1) (by decide)) (by decide)) (by decide)) hm4125)
              refine J_if_le (tgt := 73) dX2_meanOf_42 (by decide) (fun c4155 => ?_) (fun c4155 => ?_)
              · refine J_lv [0, 1, 2, 3, 4] rfl ?_
                exact jn4166 w4070 
              · refine J_lload_n (i := 2) (j := 2) dX2_meanOf_45 rfl rfl ?_
                refine J_aload_n (i := 0) (j := 0) dX2_meanOf_46 rfl rfl ?_
                refine J_iload (i := 4) (j := 3) dX2_meanOf_47 rfl ?_
                refine J_iload (i := 5) (j := 4) dX2_meanOf_49 rfl ?_
                refine J_callV (As := [.int w2505, .int w4071]) (rest := [.long w4070]) dX2_meanOf_51 (c_O_parts (d := 1) (u := u) (g := g) (ex := ex) (rain := w2505) (banks := w4071)  (by decide) hp0 (bd_w (l := 0) (h := 4) (bd_lt_lo hp1 (i_nle c3343) bw2505) (by decide))) hq.n k883 k885 k24 wc_57 rfl rfl k96 k886 np_X2_parts (Nat.le_trans (by decide) hd) (by decide) (Nat.le_refl _) (Nat.le_refl _) wlen rfl (Nat.le_of_ble_eq_true rfl) (fun r_ h_ p4167 => ?_)
                obtain ⟨l4168, rfl, rfl⟩ := p4167
                refine J_aload_n (i := 0) (j := 0) dX2_meanOf_54 rfl rfl ?_
                refine J_get (C := RX2) (T := TX2) (Z := 6) (ci := 2) (f := 3) dX2_meanOf_55 inG2 rfl (by decide) k366 wc_57 rfl ?_
                refine J_aload_n (i := 0) (j := 0) dX2_meanOf_58 rfl rfl ?_
                refine J_iload (i := 4) (j := 3) dX2_meanOf_59 rfl ?_
                refine J_iload (i := 5) (j := 4) dX2_meanOf_61 rfl ?_
                refine J_callV (As := [.int w2505, .int w4071]) (rest := [.ref 67, .long l4168, .long w4070]) dX2_meanOf_63 (c_O_wentBy (d := 1) (u := u) (g := g) (ex := ex) (rain := w2505) (banks := w4071)  (by decide) hp2) hq.n k891 k893 k25 wc_57 rfl rfl k96 k894 np_X2_wentBy (Nat.le_trans (by decide) hd) (by decide) (Nat.le_refl _) (Nat.le_refl _) wlen rfl (Nat.le_of_ble_eq_true rfl) (fun r_ h_ p4169 => ?_)
                obtain ⟨v4170, rfl, rfl, h4171⟩ := p4169
                refine J_iload_n (i := 1) (j := 1) dX2_meanOf_66 rfl rfl ?_
                refine J_iand dX2_meanOf_67 ?_
                refine J_iald dX2_meanOf_68 wc_67 (vin (bd_andl h4171 (by decide)) (by decide)) ?_
                refine J_topi (fun v4172 qv4172 => ?_)
                refine J_i2l dX2_meanOf_69 rfl ?_
                refine J_topl (fun l4173 _ => ?_)
                refine J_lmul dX2_meanOf_70 ?_
                refine J_topl (fun l4174 _ => ?_)
                refine J_ladd dX2_meanOf_71 ?_
                refine J_topl (fun l4175 _ => ?_)
                refine J_lstore_n (i := 2) (lw := [(2, .long l4175), (0, .ref 57), (1, .int counted), (4, .int w2505), (5, .int w4071)]) dX2_meanOf_72 rfl (by decide) rfl ?_
                refine J_lv [1, 2, 0, 3, 4] rfl ?_
                exact jn4166 l4175 
        refine J_lv [1, 2, 3, 4, 0] rfl ?_
        exact lp4122 _ w2504 (0 : Int32) (bd_w (l := 0) (h := 512) (bd_c (v := 0) (lo := 0) (hi := 0) (by decide)) (by decide)) (Nat.lt_succ_self _)
  refine J_lv [2, 3, 1, 0] rfl ?_
  exact lp3339 _ (0 : Int64) (0 : Int32) (bd_w (l := 0) (h := 4) (bd_c (v := 0) (lo := 0) (hi := 0) (by decide)) (by decide)) (Nat.lt_succ_self _)
set_option maxHeartbeats 4000000 in
set_option maxRecDepth 100000 in
theorem c_O_wholeMean_44 {d : Nat} {u : Nat → Nat → Int32} {g : Nat → Nat → Int64} {ex : List MC} {keeper : Int32} (hd : 4 ≤ d) (hp0 : Bd 0 9 (u 44 0)) (hp1 : Bd 0 4 (u 44 2)) (hp2 : AB u 66 0 511) : CT con0 d 0 0 yX2_wholeMean cX2_wholeMean 3 (some .long) [.ref 57, .ref 44, .int keeper] (Wd u g ex) (fun r h2 => ∃ (z : Int64) (u2 : Nat → Nat → Int32) (g2 : Nat → Nat → Int64), r = some (.long z) ∧ h2 = Wd u2 g2 ex ∧ Bd 0 9 (u2 61 0) ∧ Bd 0 4 (u2 61 2) ∧ AB u2 66 0 511 ∧ (∀ c, nin c [(58, 67)] = true → u2 c = u c) ∧ (∀ j, j ≠ 0 → j ≠ 1 → j ≠ 2 → j ≠ 3 → j ≠ 4 → u2 58 j = u 58 j) ∧ (∀ j, j ≠ 0 → j ≠ 2 → u2 61 j = u 61 j)) := by
  refine CT_of (by decide) (Nat.le_of_ble_eq_true rfl) (fun x hq => ?_)
  show J x yX2_wholeMean cX2_wholeMean 3 (some .long) d 0 0 (Wd u g ex).length 0 [(0, .ref 57), (1, .ref 44), (2, .int keeper)] [] (Wd u g ex) 0 0
  refine J_aload_n (i := 0) (j := 0) dX2_wholeMean_0 rfl rfl ?_
  refine J_aload_n (i := 1) (j := 1) dX2_wholeMean_1 rfl rfl ?_
  refine J_iload_n (i := 2) (j := 2) dX2_wholeMean_2 rfl rfl ?_
  refine J_aload_n (i := 1) (j := 1) dX2_wholeMean_3 rfl rfl ?_
  refine J_callV (As := []) (rest := [.int keeper, .ref 44, .ref 57]) dX2_wholeMean_4 (c_H_weak (d := 1) (u := u) (g := g) (ex := ex)  (t := 44) (by decide) (by decide) hp0 hp1) hq.n k998 k857 k858 wc_44 rfl rfl k89 k859 np_X1_weak (Nat.le_trans (by decide) hd) (by decide) (Nat.le_refl _) (Nat.le_refl _) wlen rfl (Nat.le_of_ble_eq_true rfl) (fun r_ h_ p1 => ?_)
  obtain ⟨v2, rfl, rfl, h3⟩ := p1
  refine J_callV (As := [.ref 44, .int keeper, .int v2]) (rest := []) dX2_wholeMean_7 (c_O_look_44 (d := 3) (u := u) (g := g) (ex := ex) (keeper := keeper) (mayGo := v2)  (by decide) hp0 hp1 hp2) hq.n k999 k862 k863 wc_57 rfl rfl k96 k864 np_X2_look (Nat.le_trans (by decide) hd) (by decide) (Nat.le_refl _) (Nat.le_refl _) wlen rfl (Nat.le_of_ble_eq_true rfl) (fun r_ h_ p4 => ?_)
  obtain ⟨u5, g6, rfl, rfl, h7, h8, h9, fr10, fc11, fc12⟩ := p4
  refine J_aload_n (i := 0) (j := 0) dX2_wholeMean_10 rfl rfl ?_
  refine J_aload_n (i := 0) (j := 0) dX2_wholeMean_11 rfl rfl ?_
  refine J_get (C := RX2) (T := TX2) (Z := 6) (ci := 2) (f := 1) dX2_wholeMean_12 inG2 rfl (by decide) k363 wc_57 rfl ?_
  refine J_callV (As := []) (rest := [.ref 57]) dX2_wholeMean_15 (c_H_all (d := 0) (u := u5) (g := g6) (ex := ex)  (t := 61) (by decide) (by decide) h7 h8) hq.n k866 k801 k802 wc_61 rfl rfl k89 k803 np_X1_all (Nat.le_trans (by decide) hd) (by decide) (Nat.le_refl _) (Nat.le_refl _) wlen rfl (Nat.le_of_ble_eq_true rfl) (fun r_ h_ p13 => ?_)
  obtain ⟨v14, rfl, rfl, h15⟩ := p13
  refine J_callV (As := [.int v14]) (rest := []) dX2_wholeMean_18 (c_O_meanOf (d := 2) (u := u5) (g := g6) (ex := ex) (counted := v14)  (by decide) h7 h8 h9) hq.n k1000 k908 k909 wc_57 rfl rfl k96 k910 np_X2_meanOf (Nat.le_trans (by decide) hd) (by decide) (Nat.le_refl _) (Nat.le_refl _) wlen rfl (Nat.le_of_ble_eq_true rfl) (fun r_ h_ p16 => ?_)
  obtain ⟨l17, rfl, rfl⟩ := p16
  exact J_lret hq dX2_wholeMean_21 rfl wlen (Nat.le_refl _) (Nat.le_refl _) ⟨l17, u5, g6, rfl, rfl, h7, h8, h9, (fun c k_ => (fr10 c (nin_sub (M := [(58, 67)]) k_ rfl))), (fun j k0_ k1_ k2_ k3_ k4_ => (fc11 j k0_ k1_ k2_ k3_ k4_)), (fun j k0_ k2_ => (fc12 j k0_ k2_))⟩
set_option maxHeartbeats 4000000 in
set_option maxRecDepth 100000 in
theorem c_O_wholeMean_70 {d : Nat} {u : Nat → Nat → Int32} {g : Nat → Nat → Int64} {ex : List MC} {keeper : Int32} (hd : 4 ≤ d) (hp0 : Bd 0 9 (u 70 0)) (hp1 : Bd 0 4 (u 70 2)) (hp2 : AB u 66 0 511) : CT con0 d 0 0 yX2_wholeMean cX2_wholeMean 3 (some .long) [.ref 57, .ref 70, .int keeper] (Wd u g ex) (fun r h2 => ∃ (z : Int64) (u2 : Nat → Nat → Int32) (g2 : Nat → Nat → Int64), r = some (.long z) ∧ h2 = Wd u2 g2 ex ∧ Bd 0 9 (u2 61 0) ∧ Bd 0 4 (u2 61 2) ∧ AB u2 66 0 511 ∧ (∀ c, nin c [(58, 67)] = true → u2 c = u c) ∧ (∀ j, j ≠ 0 → j ≠ 1 → j ≠ 2 → j ≠ 3 → j ≠ 4 → u2 58 j = u 58 j) ∧ (∀ j, j ≠ 0 → j ≠ 2 → u2 61 j = u 61 j)) := by
  refine CT_of (by decide) (Nat.le_of_ble_eq_true rfl) (fun x hq => ?_)
  show J x yX2_wholeMean cX2_wholeMean 3 (some .long) d 0 0 (Wd u g ex).length 0 [(0, .ref 57), (1, .ref 70), (2, .int keeper)] [] (Wd u g ex) 0 0
  refine J_aload_n (i := 0) (j := 0) dX2_wholeMean_0 rfl rfl ?_
  refine J_aload_n (i := 1) (j := 1) dX2_wholeMean_1 rfl rfl ?_
  refine J_iload_n (i := 2) (j := 2) dX2_wholeMean_2 rfl rfl ?_
  refine J_aload_n (i := 1) (j := 1) dX2_wholeMean_3 rfl rfl ?_
  refine J_callV (As := []) (rest := [.int keeper, .ref 70, .ref 57]) dX2_wholeMean_4 (c_H_weak (d := 1) (u := u) (g := g) (ex := ex)  (t := 70) (by decide) (by decide) hp0 hp1) hq.n k998 k857 k858 wc_70 rfl rfl k89 k859 np_X1_weak (Nat.le_trans (by decide) hd) (by decide) (Nat.le_refl _) (Nat.le_refl _) wlen rfl (Nat.le_of_ble_eq_true rfl) (fun r_ h_ p1 => ?_)
  obtain ⟨v2, rfl, rfl, h3⟩ := p1
  refine J_callV (As := [.ref 70, .int keeper, .int v2]) (rest := []) dX2_wholeMean_7 (c_O_look_70 (d := 3) (u := u) (g := g) (ex := ex) (keeper := keeper) (mayGo := v2)  (by decide) hp0 hp1 hp2) hq.n k999 k862 k863 wc_57 rfl rfl k96 k864 np_X2_look (Nat.le_trans (by decide) hd) (by decide) (Nat.le_refl _) (Nat.le_refl _) wlen rfl (Nat.le_of_ble_eq_true rfl) (fun r_ h_ p4 => ?_)
  obtain ⟨u5, g6, rfl, rfl, h7, h8, h9, fr10, fc11, fc12⟩ := p4
  refine J_aload_n (i := 0) (j := 0) dX2_wholeMean_10 rfl rfl ?_
  refine J_aload_n (i := 0) (j := 0) dX2_wholeMean_11 rfl rfl ?_
  refine J_get (C := RX2) (T := TX2) (Z := 6) (ci := 2) (f := 1) dX2_wholeMean_12 inG2 rfl (by decide) k363 wc_57 rfl ?_
  refine J_callV (As := []) (rest := [.ref 57]) dX2_wholeMean_15 (c_H_all (d := 0) (u := u5) (g := g6) (ex := ex)  (t := 61) (by decide) (by decide) h7 h8) hq.n k866 k801 k802 wc_61 rfl rfl k89 k803 np_X1_all (Nat.le_trans (by decide) hd) (by decide) (Nat.le_refl _) (Nat.le_refl _) wlen rfl (Nat.le_of_ble_eq_true rfl) (fun r_ h_ p13 => ?_)
  obtain ⟨v14, rfl, rfl, h15⟩ := p13
  refine J_callV (As := [.int v14]) (rest := []) dX2_wholeMean_18 (c_O_meanOf (d := 2) (u := u5) (g := g6) (ex := ex) (counted := v14)  (by decide) h7 h8 h9) hq.n k1000 k908 k909 wc_57 rfl rfl k96 k910 np_X2_meanOf (Nat.le_trans (by decide) hd) (by decide) (Nat.le_refl _) (Nat.le_refl _) wlen rfl (Nat.le_of_ble_eq_true rfl) (fun r_ h_ p16 => ?_)
  obtain ⟨l17, rfl, rfl⟩ := p16
  exact J_lret hq dX2_wholeMean_21 rfl wlen (Nat.le_refl _) (Nat.le_refl _) ⟨l17, u5, g6, rfl, rfl, h7, h8, h9, (fun c k_ => (fr10 c (nin_sub (M := [(58, 67)]) k_ rfl))), (fun j k0_ k1_ k2_ k3_ k4_ => (fc11 j k0_ k1_ k2_ k3_ k4_)), (fun j k0_ k2_ => (fc12 j k0_ k2_))⟩
set_option maxHeartbeats 4000000 in
set_option maxRecDepth 100000 in
theorem c_O_wholeMean_79 {d : Nat} {u : Nat → Nat → Int32} {g : Nat → Nat → Int64} {ex : List MC} {keeper : Int32} (hd : 4 ≤ d) (hp0 : Bd 0 9 (u 79 0)) (hp1 : Bd 0 4 (u 79 2)) (hp2 : AB u 66 0 511) : CT con0 d 0 0 yX2_wholeMean cX2_wholeMean 3 (some .long) [.ref 57, .ref 79, .int keeper] (Wd u g ex) (fun r h2 => ∃ (z : Int64) (u2 : Nat → Nat → Int32) (g2 : Nat → Nat → Int64), r = some (.long z) ∧ h2 = Wd u2 g2 ex ∧ Bd 0 9 (u2 61 0) ∧ Bd 0 4 (u2 61 2) ∧ AB u2 66 0 511 ∧ (∀ c, nin c [(58, 67)] = true → u2 c = u c) ∧ (∀ j, j ≠ 0 → j ≠ 1 → j ≠ 2 → j ≠ 3 → j ≠ 4 → u2 58 j = u 58 j) ∧ (∀ j, j ≠ 0 → j ≠ 2 → u2 61 j = u 61 j)) := by
  refine CT_of (by decide) (Nat.le_of_ble_eq_true rfl) (fun x hq => ?_)
  show J x yX2_wholeMean cX2_wholeMean 3 (some .long) d 0 0 (Wd u g ex).length 0 [(0, .ref 57), (1, .ref 79), (2, .int keeper)] [] (Wd u g ex) 0 0
  refine J_aload_n (i := 0) (j := 0) dX2_wholeMean_0 rfl rfl ?_
  refine J_aload_n (i := 1) (j := 1) dX2_wholeMean_1 rfl rfl ?_
  refine J_iload_n (i := 2) (j := 2) dX2_wholeMean_2 rfl rfl ?_
  refine J_aload_n (i := 1) (j := 1) dX2_wholeMean_3 rfl rfl ?_
  refine J_callV (As := []) (rest := [.int keeper, .ref 79, .ref 57]) dX2_wholeMean_4 (c_H_weak (d := 1) (u := u) (g := g) (ex := ex)  (t := 79) (by decide) (by decide) hp0 hp1) hq.n k998 k857 k858 wc_79 rfl rfl k89 k859 np_X1_weak (Nat.le_trans (by decide) hd) (by decide) (Nat.le_refl _) (Nat.le_refl _) wlen rfl (Nat.le_of_ble_eq_true rfl) (fun r_ h_ p1 => ?_)
  obtain ⟨v2, rfl, rfl, h3⟩ := p1
  refine J_callV (As := [.ref 79, .int keeper, .int v2]) (rest := []) dX2_wholeMean_7 (c_O_look_79 (d := 3) (u := u) (g := g) (ex := ex) (keeper := keeper) (mayGo := v2)  (by decide) hp0 hp1 hp2) hq.n k999 k862 k863 wc_57 rfl rfl k96 k864 np_X2_look (Nat.le_trans (by decide) hd) (by decide) (Nat.le_refl _) (Nat.le_refl _) wlen rfl (Nat.le_of_ble_eq_true rfl) (fun r_ h_ p4 => ?_)
  obtain ⟨u5, g6, rfl, rfl, h7, h8, h9, fr10, fc11, fc12⟩ := p4
  refine J_aload_n (i := 0) (j := 0) dX2_wholeMean_10 rfl rfl ?_
  refine J_aload_n (i := 0) (j := 0) dX2_wholeMean_11 rfl rfl ?_
  refine J_get (C := RX2) (T := TX2) (Z := 6) (ci := 2) (f := 1) dX2_wholeMean_12 inG2 rfl (by decide) k363 wc_57 rfl ?_
  refine J_callV (As := []) (rest := [.ref 57]) dX2_wholeMean_15 (c_H_all (d := 0) (u := u5) (g := g6) (ex := ex)  (t := 61) (by decide) (by decide) h7 h8) hq.n k866 k801 k802 wc_61 rfl rfl k89 k803 np_X1_all (Nat.le_trans (by decide) hd) (by decide) (Nat.le_refl _) (Nat.le_refl _) wlen rfl (Nat.le_of_ble_eq_true rfl) (fun r_ h_ p13 => ?_)
  obtain ⟨v14, rfl, rfl, h15⟩ := p13
  refine J_callV (As := [.int v14]) (rest := []) dX2_wholeMean_18 (c_O_meanOf (d := 2) (u := u5) (g := g6) (ex := ex) (counted := v14)  (by decide) h7 h8 h9) hq.n k1000 k908 k909 wc_57 rfl rfl k96 k910 np_X2_meanOf (Nat.le_trans (by decide) hd) (by decide) (Nat.le_refl _) (Nat.le_refl _) wlen rfl (Nat.le_of_ble_eq_true rfl) (fun r_ h_ p16 => ?_)
  obtain ⟨l17, rfl, rfl⟩ := p16
  exact J_lret hq dX2_wholeMean_21 rfl wlen (Nat.le_refl _) (Nat.le_refl _) ⟨l17, u5, g6, rfl, rfl, h7, h8, h9, (fun c k_ => (fr10 c (nin_sub (M := [(58, 67)]) k_ rfl))), (fun j k0_ k1_ k2_ k3_ k4_ => (fc11 j k0_ k1_ k2_ k3_ k4_)), (fun j k0_ k2_ => (fc12 j k0_ k2_))⟩
set_option maxHeartbeats 4000000 in
set_option maxRecDepth 100000 in
theorem c_O_partsOf {d : Nat} {u : Nat → Nat → Int32} {g : Nat → Nat → Int64} {ex : List MC} {set : Int32} (hd : 2 ≤ d) (hp0 : Bd 0 9 (u 61 0)) (hp1 : Bd 0 4 (u 61 2)) (hp2 : AB u 66 0 511) : CT con0 d 0 0 yX2_partsOf cX2_partsOf 6 (some .long) [.ref 57, .int set] (Wd u g ex) (fun r h2 => ∃ (z : Int64), r = some (.long z) ∧ h2 = Wd u g ex) := by
  refine CT_of (by decide) (Nat.le_of_ble_eq_true rfl) (fun x hq => ?_)
  show J x yX2_partsOf cX2_partsOf 6 (some .long) d 0 0 (Wd u g ex).length 0 [(0, .ref 57), (1, .int set)] [] (Wd u g ex) 0 0
  refine J_lconst (v := 0) dX2_partsOf_0 (by decide) ?_
  refine J_lstore_n (i := 2) (lw := [(2, .long 0), (0, .ref 57), (1, .int set)]) dX2_partsOf_1 rfl (by decide) rfl ?_
  refine J_iconst (v := 0) dX2_partsOf_2 (by decide) ?_
  refine J_istore (i := 4) (lw := [(4, .int 0), (2, .long 0), (0, .ref 57), (1, .int set)]) dX2_partsOf_3 (by decide) rfl ?_
  have lp2827 : ∀ (n2828 : Nat) (w2120 : Int64) (w2121 : Int32), Bd 0 4 w2121 → (4 - w2121.toInt).toNat < n2828 → J x yX2_partsOf cX2_partsOf 6 (some .long) d 0 0 (Wd u g ex).length 5 [(0, .ref 57), (1, .int set), (2, .long w2120), (4, .int w2121)] [] (Wd u g ex) 0 0 := by
    intro n2828
    induction n2828 with
    | zero => intro w2120 w2121 bw2121 hm2830; exact absurd hm2830 (Nat.not_lt_zero _)
    | succ n2828 ih2829 =>
      intro w2120 w2121 bw2121 hm2830
      refine J_iload (i := 4) (j := 3) dX2_partsOf_5 rfl ?_
      refine J_aload_n (i := 0) (j := 0) dX2_partsOf_7 rfl rfl ?_
      refine J_get (C := RX2) (T := TX2) (Z := 6) (ci := 2) (f := 1) dX2_partsOf_8 inG2 rfl (by decide) k363 wc_57 rfl ?_
      refine J_getN (C := RX1) (T := TX1) (Z := 6) (ci := 1) (f := 2) dX2_partsOf_11 inG1 rfl (by decide) k139 wc_61 rfl ?_
      refine J_icmp_ge (tgt := 82) dX2_partsOf_14 (by decide) (fun c2831 => ?_) (fun c2831 => ?_)
      · refine J_lload_n (i := 2) (j := 2) dX2_partsOf_82 rfl rfl ?_
        exact J_lret hq dX2_partsOf_83 rfl wlen (Nat.le_refl _) (Nat.le_refl _) ⟨w2120, rfl, rfl⟩
      · refine J_iconst (v := 0) dX2_partsOf_17 (by decide) ?_
        refine J_istore (i := 5) (lw := [(5, .int 0), (0, .ref 57), (1, .int set), (2, .long w2120), (4, .int w2121)]) dX2_partsOf_18 (by decide) rfl ?_
        have lp3490 : ∀ (n3491 : Nat) (w3446 : Int64) (w3447 : Int32), Bd 0 512 w3447 → (512 - w3447.toInt).toNat < n3491 → J x yX2_partsOf cX2_partsOf 6 (some .long) d 0 0 (Wd u g ex).length 20 [(0, .ref 57), (1, .int set), (2, .long w3446), (4, .int w2121), (5, .int w3447)] [] (Wd u g ex) 0 0 := by
          intro n3491
          induction n3491 with
          | zero => intro w3446 w3447 bw3447 hm3493; exact absurd hm3493 (Nat.not_lt_zero _)
          | succ n3491 ih3492 =>
            intro w3446 w3447 bw3447 hm3493
            refine J_iload (i := 5) (j := 4) dX2_partsOf_20 rfl ?_
            refine J_aload_n (i := 0) (j := 0) dX2_partsOf_22 rfl rfl ?_
            refine J_get (C := RX2) (T := TX2) (Z := 6) (ci := 2) (f := 1) dX2_partsOf_23 inG2 rfl (by decide) k363 wc_57 rfl ?_
            refine J_callV (As := []) (rest := [.int w3447]) dX2_partsOf_26 (c_H_all (d := 0) (u := u) (g := g) (ex := ex)  (t := 61) (by decide) (by decide) hp0 (bd_w (l := 0) (h := 4) (bd_lt_lo hp1 (i_nle c2831) bw2121) (by decide))) hq.n k866 k801 k802 wc_61 rfl rfl k89 k803 np_X1_all (Nat.le_trans (by decide) hd) (by decide) (Nat.le_refl _) (Nat.le_refl _) wlen rfl (Nat.le_of_ble_eq_true rfl) (fun r_ h_ p3494 => ?_)
            obtain ⟨v3495, rfl, rfl, h3496⟩ := p3494
            refine J_icmp_gt (tgt := 76) dX2_partsOf_29 (by decide) (fun c3497 => ?_) (fun c3497 => ?_)
            · refine J_iinc (i := 4) (j := 3) (v := (w2121 + 1)) (lw := [(4, .int (w2121 + 1)), (0, .ref 57), (1, .int set), (2, .long w3446), (5, .int w3447)]) dX2_partsOf_76 rfl rfl (by decide) rfl ?_
              refine J_goto (tgt := 5) dX2_partsOf_79 (by decide) ?_
              refine J_lv [1, 2, 3, 0] rfl ?_
              exact ih2829 w3446 (w2121 + 1) (bd_w (l := 0) (h := 4) (bd_add (l := 1) (h := 4) (bd_lt_hi bw2121 (i_nle c2831) hp1) (bd_c (v := 1) (lo := 1) (hi := 1) (by decide)) (by decide)) (by decide)) (mu_up 1 bw2121 rfl (by decide) (bd_w (l := 1) (h := 4) (bd_add (l := 1) (h := 4) (bd_lt_hi bw2121 (i_nle c2831) hp1) (bd_c (v := 1) (lo := 1) (hi := 1) (by decide)) (by decide)) (by decide)) hm2830)
            · refine J_aload_n (i := 0) (j := 0) dX2_partsOf_32 rfl rfl ?_
              refine J_iload (i := 4) (j := 3) dX2_partsOf_33 rfl ?_
              refine J_iload (i := 5) (j := 4) dX2_partsOf_35 rfl ?_
              refine J_callV (As := [.int w2121, .int w3447]) (rest := []) dX2_partsOf_37 (c_O_parts (d := 1) (u := u) (g := g) (ex := ex) (rain := w2121) (banks := w3447)  (by decide) hp0 (bd_w (l := 0) (h := 4) (bd_lt_lo hp1 (i_nle c2831) bw2121) (by decide))) hq.n k883 k885 k24 wc_57 rfl rfl k96 k886 np_X2_parts (Nat.le_trans (by decide) hd) (by decide) (Nat.le_refl _) (Nat.le_refl _) wlen rfl (Nat.le_of_ble_eq_true rfl) (fun r_ h_ p3517 => ?_)
              obtain ⟨l3518, rfl, rfl⟩ := p3517
              refine J_lconst (v := 0) dX2_partsOf_40 (by decide) ?_
              refine J_lcmp dX2_partsOf_41 ?_
              have jn3528 : ∀ (w3527 : Int64), J x yX2_partsOf cX2_partsOf 6 (some .long) d 0 0 (Wd u g ex).length 70 [(0, .ref 57), (1, .int set), (2, .long w3527), (4, .int w2121), (5, .int w3447)] [] (Wd u g ex) 0 0 := by
                intro w3527
                refine J_iinc (i := 5) (j := 4) (v := (w3447 + 1)) (lw := [(5, .int (w3447 + 1)), (0, .ref 57), (1, .int set), (2, .long w3527), (4, .int w2121)]) dX2_partsOf_70 rfl rfl (by decide) rfl ?_
                refine J_goto (tgt := 20) dX2_partsOf_73 (by decide) ?_
                refine J_lv [1, 2, 3, 4, 0] rfl ?_
                exact ih3492 w3527 (w3447 + 1) (bd_w (l := 0) (h := 512) (bd_add (l := 1) (h := 512) (bd_le_hi bw3447 (i_nlt c3497) h3496) (bd_c (v := 1) (lo := 1) (hi := 1) (by decide)) (by decide)) (by decide)) (mu_up 1 bw3447 rfl (by decide) (bd_w (l := 1) (h := 512) (bd_add (l := 1) (h := 512) (bd_le_hi bw3447 (i_nlt c3497) h3496) (bd_c (v := 1) (lo := 1) (hi := 1) (by decide)) (by decide)) (by decide)) hm3493)
              refine J_if_le (tgt := 70) dX2_partsOf_42 (by decide) (fun c3519 => ?_) (fun c3519 => ?_)
              · refine J_lv [0, 1, 2, 3, 4] rfl ?_
                exact jn3528 w3446 
              · refine J_aload_n (i := 0) (j := 0) dX2_partsOf_45 rfl rfl ?_
                refine J_iload (i := 4) (j := 3) dX2_partsOf_46 rfl ?_
                refine J_iload (i := 5) (j := 4) dX2_partsOf_48 rfl ?_
                refine J_callV (As := [.int w2121, .int w3447]) (rest := []) dX2_partsOf_50 (c_O_wentBy (d := 1) (u := u) (g := g) (ex := ex) (rain := w2121) (banks := w3447)  (by decide) hp2) hq.n k891 k893 k25 wc_57 rfl rfl k96 k894 np_X2_wentBy (Nat.le_trans (by decide) hd) (by decide) (Nat.le_refl _) (Nat.le_refl _) wlen rfl (Nat.le_of_ble_eq_true rfl) (fun r_ h_ p3529 => ?_)
                obtain ⟨v3530, rfl, rfl, h3531⟩ := p3529
                refine J_iload_n (i := 1) (j := 1) dX2_partsOf_53 rfl rfl ?_
                refine J_iand dX2_partsOf_54 ?_
                refine J_iload_n (i := 1) (j := 1) dX2_partsOf_55 rfl rfl ?_
                refine J_icmp_ne (tgt := 70) dX2_partsOf_56 (by decide) (fun c3532 => ?_) (fun c3532 => ?_)
                · refine J_lv [0, 1, 2, 3, 4] rfl ?_
                  exact jn3528 w3446 
                · refine J_lload_n (i := 2) (j := 2) dX2_partsOf_59 rfl rfl ?_
                  refine J_aload_n (i := 0) (j := 0) dX2_partsOf_60 rfl rfl ?_
                  refine J_iload (i := 4) (j := 3) dX2_partsOf_61 rfl ?_
                  refine J_iload (i := 5) (j := 4) dX2_partsOf_63 rfl ?_
                  refine J_callV (As := [.int w2121, .int w3447]) (rest := [.long w3446]) dX2_partsOf_65 (c_O_parts (d := 1) (u := u) (g := g) (ex := ex) (rain := w2121) (banks := w3447)  (by decide) hp0 (bd_w (l := 0) (h := 4) (bd_lt_lo hp1 (i_nle c2831) bw2121) (by decide))) hq.n k883 k885 k24 wc_57 rfl rfl k96 k886 np_X2_parts (Nat.le_trans (by decide) hd) (by decide) (Nat.le_refl _) (Nat.le_refl _) wlen rfl (Nat.le_of_ble_eq_true rfl) (fun r_ h_ p3533 => ?_)
                  obtain ⟨l3534, rfl, rfl⟩ := p3533
                  refine J_ladd dX2_partsOf_68 ?_
                  refine J_topl (fun l3535 _ => ?_)
                  refine J_lstore_n (i := 2) (lw := [(2, .long l3535), (0, .ref 57), (1, .int set), (4, .int w2121), (5, .int w3447)]) dX2_partsOf_69 rfl (by decide) rfl ?_
                  refine J_lv [1, 2, 0, 3, 4] rfl ?_
                  exact jn3528 l3535 
        refine J_lv [1, 2, 3, 4, 0] rfl ?_
        exact lp3490 _ w2120 (0 : Int32) (bd_w (l := 0) (h := 512) (bd_c (v := 0) (lo := 0) (hi := 0) (by decide)) (by decide)) (Nat.lt_succ_self _)
  refine J_lv [2, 3, 1, 0] rfl ?_
  exact lp2827 _ (0 : Int64) (0 : Int32) (bd_w (l := 0) (h := 4) (bd_c (v := 0) (lo := 0) (hi := 0) (by decide)) (by decide)) (Nat.lt_succ_self _)
set_option maxHeartbeats 4000000 in
set_option maxRecDepth 100000 in
theorem c_O_likeliest {d : Nat} {u : Nat → Nat → Int32} {g : Nat → Nat → Int64} {ex : List MC}  (hd : 2 ≤ d) (hp0 : Bd 0 9 (u 61 0)) (hp1 : Bd 0 4 (u 61 2)) (hp2 : AB u 66 0 511) : CT con0 d 0 0 yX2_likeliest cX2_likeliest 3 (some .int) [.ref 57] (Wd u g ex) (fun r h2 => ∃ (z : Int32) (g2 : Nat → Nat → Int64), r = some (.int z) ∧ h2 = Wd u g2 ex ∧ Bd 0 511 z) := by
  refine CT_of (by decide) (Nat.le_of_ble_eq_true rfl) (fun x hq => ?_)
  show J x yX2_likeliest cX2_likeliest 3 (some .int) d 0 0 (Wd u g ex).length 0 [(0, .ref 57)] [] (Wd u g ex) 0 0
  refine J_aload_n (i := 0) (j := 0) dX2_likeliest_0 rfl rfl ?_
  refine J_get (C := RX2) (T := TX2) (Z := 6) (ci := 2) (f := 5) dX2_likeliest_1 inG2 rfl (by decide) k368 wc_57 rfl ?_
  refine J_lconst (v := 0) dX2_likeliest_4 (by decide) ?_
  refine J_callS (As := [.ref 69, .long 0]) (rest := []) dX2_likeliest_5 (c_fillJ_69 (d := 0) (u := u) (g := g) (ex := ex) (val := 0)  (by decide) ) hq.n k919 k920 k98 k921 np_J7_fill_d0a16 (Nat.le_trans (by decide) hd) (by decide) (Nat.le_refl _) (Nat.le_refl _) wlen rfl (Nat.le_of_ble_eq_true rfl) (fun r_ h_ p1 => ?_)
  obtain ⟨g2, rfl, rfl⟩ := p1
  refine J_iconst (v := 0) dX2_likeliest_8 (by decide) ?_
  refine J_istore_n (i := 1) (lw := [(1, .int 0), (0, .ref 57)]) dX2_likeliest_9 rfl (by decide) rfl ?_
  have lp3853 : ∀ (n3854 : Nat) (w2890 : Int32) (g2891 : Nat → Nat → Int64), Bd 0 4 w2890 → (4 - w2890.toInt).toNat < n3854 → J x yX2_likeliest cX2_likeliest 3 (some .int) d 0 0 (Wd u g ex).length 10 [(0, .ref 57), (1, .int w2890)] [] (Wd u g2891 ex) 0 0 := by
    intro n3854
    induction n3854 with
    | zero => intro w2890 g2891 bw2890 hm3856; exact absurd hm3856 (Nat.not_lt_zero _)
    | succ n3854 ih3855 =>
      intro w2890 g2891 bw2890 hm3856
      refine J_iload_n (i := 1) (j := 1) dX2_likeliest_10 rfl rfl ?_
      refine J_aload_n (i := 0) (j := 0) dX2_likeliest_11 rfl rfl ?_
      refine J_get (C := RX2) (T := TX2) (Z := 6) (ci := 2) (f := 1) dX2_likeliest_12 inG2 rfl (by decide) k363 wc_57 rfl ?_
      refine J_getN (C := RX1) (T := TX1) (Z := 6) (ci := 1) (f := 2) dX2_likeliest_15 inG1 rfl (by decide) k139 wc_61 rfl ?_
      refine J_icmp_ge (tgt := 77) dX2_likeliest_18 (by decide) (fun c3857 => ?_) (fun c3857 => ?_)
      · refine J_iconst (v := 0) dX2_likeliest_77 (by decide) ?_
        refine J_istore_n (i := 1) (lw := [(1, .int 0), (0, .ref 57)]) dX2_likeliest_78 rfl (by decide) rfl ?_
        refine J_iconst (v := 1) dX2_likeliest_79 (by decide) ?_
        refine J_istore_n (i := 2) (lw := [(2, .int 1), (1, .int 0), (0, .ref 57)]) dX2_likeliest_80 rfl (by decide) rfl ?_
        have lp4384 : ∀ (n4385 : Nat) (w4368 : Int32) (w4369 : Int32), Bd 0 511 w4368 → Bd 1 512 w4369 → (512 - w4369.toInt).toNat < n4385 → J x yX2_likeliest cX2_likeliest 3 (some .int) d 0 0 (Wd u g ex).length 81 [(0, .ref 57), (1, .int w4368), (2, .int w4369)] [] (Wd u g2891 ex) 0 0 := by
          intro n4385
          induction n4385 with
          | zero => intro w4368 w4369 bw4368 bw4369 hm4387; exact absurd hm4387 (Nat.not_lt_zero _)
          | succ n4385 ih4386 =>
            intro w4368 w4369 bw4368 bw4369 hm4387
            refine J_iload_n (i := 2) (j := 2) dX2_likeliest_81 rfl rfl ?_
            refine J_aload_n (i := 0) (j := 0) dX2_likeliest_82 rfl rfl ?_
            refine J_get (C := RX2) (T := TX2) (Z := 6) (ci := 2) (f := 1) dX2_likeliest_83 inG2 rfl (by decide) k363 wc_57 rfl ?_
            refine J_callV (As := []) (rest := [.int w4369]) dX2_likeliest_86 (c_H_all (d := 0) (u := u) (g := g2891) (ex := ex)  (t := 61) (by decide) (by decide) hp0 hp1) hq.n k866 k801 k802 wc_61 rfl rfl k89 k803 np_X1_all (Nat.le_trans (by decide) hd) (by decide) (Nat.le_refl _) (Nat.le_refl _) wlen rfl (Nat.le_of_ble_eq_true rfl) (fun r_ h_ p4388 => ?_)
            obtain ⟨v4389, rfl, rfl, h4390⟩ := p4388
            refine J_icmp_gt (tgt := 116) dX2_likeliest_89 (by decide) (fun c4391 => ?_) (fun c4391 => ?_)
            · refine J_iload_n (i := 1) (j := 1) dX2_likeliest_116 rfl rfl ?_
              exact J_iret hq dX2_likeliest_117 rfl wlen (Nat.le_refl _) (Nat.le_refl _) ⟨w4368, g2891, rfl, rfl, bw4368⟩
            · refine J_aload_n (i := 0) (j := 0) dX2_likeliest_92 rfl rfl ?_
              refine J_get (C := RX2) (T := TX2) (Z := 6) (ci := 2) (f := 5) dX2_likeliest_93 inG2 rfl (by decide) k368 wc_57 rfl ?_
              refine J_iload_n (i := 2) (j := 2) dX2_likeliest_96 rfl rfl ?_
              refine J_lald dX2_likeliest_97 wc_69 (vin (bd_le_hi bw4369 (i_nlt c4391) h4390) (by decide)) ?_
              refine J_topl (fun l4397 _ => ?_)
              refine J_aload_n (i := 0) (j := 0) dX2_likeliest_98 rfl rfl ?_
              refine J_get (C := RX2) (T := TX2) (Z := 6) (ci := 2) (f := 5) dX2_likeliest_99 inG2 rfl (by decide) k368 wc_57 rfl ?_
              refine J_iload_n (i := 1) (j := 1) dX2_likeliest_102 rfl rfl ?_
              refine J_lald dX2_likeliest_103 wc_69 (vin bw4368 (by decide)) ?_
              refine J_topl (fun l4398 _ => ?_)
              refine J_lcmp dX2_likeliest_104 ?_
              have jn4401 : ∀ (w4400 : Int32), Bd 0 511 w4400 → J x yX2_likeliest cX2_likeliest 3 (some .int) d 0 0 (Wd u g ex).length 110 [(0, .ref 57), (1, .int w4400), (2, .int w4369)] [] (Wd u g2891 ex) 0 0 := by
                intro w4400 bw4400
                refine J_iinc (i := 2) (j := 2) (v := (w4369 + 1)) (lw := [(2, .int (w4369 + 1)), (0, .ref 57), (1, .int w4400)]) dX2_likeliest_110 rfl rfl (by decide) rfl ?_
                refine J_goto (tgt := 81) dX2_likeliest_113 (by decide) ?_
                refine J_lv [1, 2, 0] rfl ?_
                exact ih4386 w4400 (w4369 + 1) bw4400 (bd_w (l := 1) (h := 512) (bd_add (l := 2) (h := 512) (bd_le_hi bw4369 (i_nlt c4391) h4390) (bd_c (v := 1) (lo := 1) (hi := 1) (by decide)) (by decide)) (by decide)) (mu_up 1 bw4369 rfl (by decide) (bd_w (l := 2) (h := 512) (bd_add (l := 2) (h := 512) (bd_le_hi bw4369 (i_nlt c4391) h4390) (bd_c (v := 1) (lo := 1) (hi := 1) (by decide)) (by decide)) (by decide)) hm4387)
              refine J_if_le (tgt := 110) dX2_likeliest_105 (by decide) (fun c4399 => ?_) (fun c4399 => ?_)
              · refine J_lv [0, 1, 2] rfl ?_
                exact jn4401 w4368 bw4368
              · refine J_iload_n (i := 2) (j := 2) dX2_likeliest_108 rfl rfl ?_
                refine J_istore_n (i := 1) (lw := [(1, .int w4369), (0, .ref 57), (2, .int w4369)]) dX2_likeliest_109 rfl (by decide) rfl ?_
                refine J_lv [1, 0, 2] rfl ?_
                exact jn4401 w4369 (bd_w (l := 0) (h := 511) (bd_le_hi bw4369 (i_nlt c4391) h4390) (by decide))
        refine J_lv [2, 1, 0] rfl ?_
        exact lp4384 _ (0 : Int32) (1 : Int32) (bd_w (l := 0) (h := 511) (bd_c (v := 0) (lo := 0) (hi := 0) (by decide)) (by decide)) (bd_w (l := 1) (h := 512) (bd_c (v := 1) (lo := 1) (hi := 1) (by decide)) (by decide)) (Nat.lt_succ_self _)
      · refine J_iconst (v := 0) dX2_likeliest_21 (by decide) ?_
        refine J_istore_n (i := 2) (lw := [(2, .int 0), (0, .ref 57), (1, .int w2890)]) dX2_likeliest_22 rfl (by decide) rfl ?_
        have lp4764 : ∀ (n4765 : Nat) (w4712 : Int32) (g4713 : Nat → Nat → Int64), Bd 0 512 w4712 → (512 - w4712.toInt).toNat < n4765 → J x yX2_likeliest cX2_likeliest 3 (some .int) d 0 0 (Wd u g ex).length 23 [(0, .ref 57), (1, .int w2890), (2, .int w4712)] [] (Wd u g4713 ex) 0 0 := by
          intro n4765
          induction n4765 with
          | zero => intro w4712 g4713 bw4712 hm4767; exact absurd hm4767 (Nat.not_lt_zero _)
          | succ n4765 ih4766 =>
            intro w4712 g4713 bw4712 hm4767
            refine J_iload_n (i := 2) (j := 2) dX2_likeliest_23 rfl rfl ?_
            refine J_aload_n (i := 0) (j := 0) dX2_likeliest_24 rfl rfl ?_
            refine J_get (C := RX2) (T := TX2) (Z := 6) (ci := 2) (f := 1) dX2_likeliest_25 inG2 rfl (by decide) k363 wc_57 rfl ?_
            refine J_callV (As := []) (rest := [.int w4712]) dX2_likeliest_28 (c_H_all (d := 0) (u := u) (g := g4713) (ex := ex)  (t := 61) (by decide) (by decide) hp0 (bd_w (l := 0) (h := 4) (bd_lt_lo hp1 (i_nle c3857) bw2890) (by decide))) hq.n k866 k801 k802 wc_61 rfl rfl k89 k803 np_X1_all (Nat.le_trans (by decide) hd) (by decide) (Nat.le_refl _) (Nat.le_refl _) wlen rfl (Nat.le_of_ble_eq_true rfl) (fun r_ h_ p4768 => ?_)
            obtain ⟨v4769, rfl, rfl, h4770⟩ := p4768
            refine J_icmp_gt (tgt := 71) dX2_likeliest_31 (by decide) (fun c4771 => ?_) (fun c4771 => ?_)
            · refine J_iinc (i := 1) (j := 1) (v := (w2890 + 1)) (lw := [(1, .int (w2890 + 1)), (0, .ref 57), (2, .int w4712)]) dX2_likeliest_71 rfl rfl (by decide) rfl ?_
              refine J_goto (tgt := 10) dX2_likeliest_74 (by decide) ?_
              refine J_lv [1, 0] rfl ?_
              exact ih3855 (w2890 + 1) g4713 (bd_w (l := 0) (h := 4) (bd_add (l := 1) (h := 4) (bd_lt_hi bw2890 (i_nle c3857) hp1) (bd_c (v := 1) (lo := 1) (hi := 1) (by decide)) (by decide)) (by decide)) (mu_up 1 bw2890 rfl (by decide) (bd_w (l := 1) (h := 4) (bd_add (l := 1) (h := 4) (bd_lt_hi bw2890 (i_nle c3857) hp1) (bd_c (v := 1) (lo := 1) (hi := 1) (by decide)) (by decide)) (by decide)) hm3856)
            · refine J_aload_n (i := 0) (j := 0) dX2_likeliest_34 rfl rfl ?_
              refine J_iload_n (i := 1) (j := 1) dX2_likeliest_35 rfl rfl ?_
              refine J_iload_n (i := 2) (j := 2) dX2_likeliest_36 rfl rfl ?_
              refine J_callV (As := [.int w2890, .int w4712]) (rest := []) dX2_likeliest_37 (c_O_parts (d := 1) (u := u) (g := g4713) (ex := ex) (rain := w2890) (banks := w4712)  (by decide) hp0 (bd_w (l := 0) (h := 4) (bd_lt_lo hp1 (i_nle c3857) bw2890) (by decide))) hq.n k883 k885 k24 wc_57 rfl rfl k96 k886 np_X2_parts (Nat.le_trans (by decide) hd) (by decide) (Nat.le_refl _) (Nat.le_refl _) wlen rfl (Nat.le_of_ble_eq_true rfl) (fun r_ h_ p4795 => ?_)
              obtain ⟨l4796, rfl, rfl⟩ := p4795
              refine J_lconst (v := 0) dX2_likeliest_40 (by decide) ?_
              refine J_lcmp dX2_likeliest_41 ?_
              have jn4808 : ∀ (g4807 : Nat → Nat → Int64), J x yX2_likeliest cX2_likeliest 3 (some .int) d 0 0 (Wd u g ex).length 65 [(0, .ref 57), (1, .int w2890), (2, .int w4712)] [] (Wd u g4807 ex) 0 0 := by
                intro g4807
                refine J_iinc (i := 2) (j := 2) (v := (w4712 + 1)) (lw := [(2, .int (w4712 + 1)), (0, .ref 57), (1, .int w2890)]) dX2_likeliest_65 rfl rfl (by decide) rfl ?_
                refine J_goto (tgt := 23) dX2_likeliest_68 (by decide) ?_
                refine J_lv [1, 2, 0] rfl ?_
                exact ih4766 (w4712 + 1) g4807 (bd_w (l := 0) (h := 512) (bd_add (l := 1) (h := 512) (bd_le_hi bw4712 (i_nlt c4771) h4770) (bd_c (v := 1) (lo := 1) (hi := 1) (by decide)) (by decide)) (by decide)) (mu_up 1 bw4712 rfl (by decide) (bd_w (l := 1) (h := 512) (bd_add (l := 1) (h := 512) (bd_le_hi bw4712 (i_nlt c4771) h4770) (bd_c (v := 1) (lo := 1) (hi := 1) (by decide)) (by decide)) (by decide)) hm4767)
              refine J_if_le (tgt := 65) dX2_likeliest_42 (by decide) (fun c4797 => ?_) (fun c4797 => ?_)
              · refine J_lv [0, 1, 2] rfl ?_
                exact jn4808 g4713 
              · refine J_aload_n (i := 0) (j := 0) dX2_likeliest_45 rfl rfl ?_
                refine J_get (C := RX2) (T := TX2) (Z := 6) (ci := 2) (f := 5) dX2_likeliest_46 inG2 rfl (by decide) k368 wc_57 rfl ?_
                refine J_aload_n (i := 0) (j := 0) dX2_likeliest_49 rfl rfl ?_
                refine J_iload_n (i := 1) (j := 1) dX2_likeliest_50 rfl rfl ?_
                refine J_iload_n (i := 2) (j := 2) dX2_likeliest_51 rfl rfl ?_
                refine J_callV (As := [.int w2890, .int w4712]) (rest := [.ref 69]) dX2_likeliest_52 (c_O_wentBy (d := 1) (u := u) (g := g4713) (ex := ex) (rain := w2890) (banks := w4712)  (by decide) hp2) hq.n k891 k893 k25 wc_57 rfl rfl k96 k894 np_X2_wentBy (Nat.le_trans (by decide) hd) (by decide) (Nat.le_refl _) (Nat.le_refl _) wlen rfl (Nat.le_of_ble_eq_true rfl) (fun r_ h_ p4809 => ?_)
                obtain ⟨v4810, rfl, rfl, h4811⟩ := p4809
                refine J_dup2_11 dX2_likeliest_55 rfl rfl ?_
                refine J_lald dX2_likeliest_56 wc_69 (vin h4811 (by decide)) ?_
                refine J_topl (fun l4812 _ => ?_)
                refine J_aload_n (i := 0) (j := 0) dX2_likeliest_57 rfl rfl ?_
                refine J_iload_n (i := 1) (j := 1) dX2_likeliest_58 rfl rfl ?_
                refine J_iload_n (i := 2) (j := 2) dX2_likeliest_59 rfl rfl ?_
                refine J_callV (As := [.int w2890, .int w4712]) (rest := [.long l4812, .int v4810, .ref 69]) dX2_likeliest_60 (c_O_parts (d := 1) (u := u) (g := g4713) (ex := ex) (rain := w2890) (banks := w4712)  (by decide) hp0 (bd_w (l := 0) (h := 4) (bd_lt_lo hp1 (i_nle c3857) bw2890) (by decide))) hq.n k883 k885 k24 wc_57 rfl rfl k96 k886 np_X2_parts (Nat.le_trans (by decide) hd) (by decide) (Nat.le_refl _) (Nat.le_refl _) wlen rfl (Nat.le_of_ble_eq_true rfl) (fun r_ h_ p4813 => ?_)
                obtain ⟨l4814, rfl, rfl⟩ := p4813
                refine J_ladd dX2_likeliest_63 ?_
                refine J_topl (fun l4815 _ => ?_)
                obtain ⟨g4816, e4817⟩ : ∃ z, z = ml g4713 69 v4810.toNatClampNeg l4815 := ⟨_, rfl⟩
                refine J_last dX2_likeliest_64 wc_69 (vin h4811 (by decide)) (wsl e4817 wk_69 rfl) ?_
                refine J_lv [0, 1, 2] rfl ?_
                exact jn4808 g4816 
        refine J_lv [1, 2, 0] rfl ?_
        exact lp4764 _ (0 : Int32) g2891 (bd_w (l := 0) (h := 512) (bd_c (v := 0) (lo := 0) (hi := 0) (by decide)) (by decide)) (Nat.lt_succ_self _)
  refine J_lv [1, 0] rfl ?_
  exact lp3853 _ (0 : Int32) g2 (bd_w (l := 0) (h := 4) (bd_c (v := 0) (lo := 0) (hi := 0) (by decide)) (by decide)) (Nat.lt_succ_self _)
set_option maxHeartbeats 4000000 in
set_option maxRecDepth 100000 in
theorem c_O_mostThatWent {d : Nat} {u : Nat → Nat → Int32} {g : Nat → Nat → Int64} {ex : List MC}  (hd : 2 ≤ d) (hp0 : Bd 0 9 (u 61 0)) (hp1 : Bd 0 4 (u 61 2)) (hp2 : AB u 66 0 511) : CT con0 d 0 0 yX2_mostThatWent cX2_mostThatWent 5 (some .int) [.ref 57] (Wd u g ex) (fun r h2 => ∃ (z : Int32), r = some (.int z) ∧ h2 = Wd u g ex) := by
  refine CT_of (by decide) (Nat.le_of_ble_eq_true rfl) (fun x hq => ?_)
  show J x yX2_mostThatWent cX2_mostThatWent 5 (some .int) d 0 0 (Wd u g ex).length 0 [(0, .ref 57)] [] (Wd u g ex) 0 0
  refine J_iconst (v := 0) dX2_mostThatWent_0 (by decide) ?_
  refine J_istore_n (i := 1) (lw := [(1, .int 0), (0, .ref 57)]) dX2_mostThatWent_1 rfl (by decide) rfl ?_
  refine J_aload_n (i := 0) (j := 1) dX2_mostThatWent_2 rfl rfl ?_
  refine J_get (C := RX2) (T := TX2) (Z := 6) (ci := 2) (f := 1) dX2_mostThatWent_3 inG2 rfl (by decide) k363 wc_57 rfl ?_
  refine J_callV (As := []) (rest := []) dX2_mostThatWent_6 (c_H_weak (d := 1) (u := u) (g := g) (ex := ex)  (t := 61) (by decide) (by decide) hp0 hp1) hq.n k998 k857 k858 wc_61 rfl rfl k89 k859 np_X1_weak (Nat.le_trans (by decide) hd) (by decide) (Nat.le_refl _) (Nat.le_refl _) wlen rfl (Nat.le_of_ble_eq_true rfl) (fun r_ h_ p1 => ?_)
  obtain ⟨v2, rfl, rfl, h3⟩ := p1
  refine J_istore_n (i := 2) (lw := [(2, .int v2), (1, .int 0), (0, .ref 57)]) dX2_mostThatWent_9 rfl (by decide) rfl ?_
  refine J_iconst (v := 0) dX2_mostThatWent_10 (by decide) ?_
  refine J_istore_n (i := 3) (lw := [(3, .int 0), (2, .int v2), (1, .int 0), (0, .ref 57)]) dX2_mostThatWent_11 rfl (by decide) rfl ?_
  have lp2542 : ∀ (n2543 : Nat) (w1907 : Int32) (w1908 : Int32), Bd 0 63 w1907 → Bd 0 4 w1908 → (4 - w1908.toInt).toNat < n2543 → J x yX2_mostThatWent cX2_mostThatWent 5 (some .int) d 0 0 (Wd u g ex).length 12 [(0, .ref 57), (1, .int w1907), (2, .int v2), (3, .int w1908)] [] (Wd u g ex) 0 0 := by
    intro n2543
    induction n2543 with
    | zero => intro w1907 w1908 bw1907 bw1908 hm2545; exact absurd hm2545 (Nat.not_lt_zero _)
    | succ n2543 ih2544 =>
      intro w1907 w1908 bw1907 bw1908 hm2545
      refine J_iload_n (i := 3) (j := 3) dX2_mostThatWent_12 rfl rfl ?_
      refine J_aload_n (i := 0) (j := 0) dX2_mostThatWent_13 rfl rfl ?_
      refine J_get (C := RX2) (T := TX2) (Z := 6) (ci := 2) (f := 1) dX2_mostThatWent_14 inG2 rfl (by decide) k363 wc_57 rfl ?_
      refine J_getN (C := RX1) (T := TX1) (Z := 6) (ci := 1) (f := 2) dX2_mostThatWent_17 inG1 rfl (by decide) k139 wc_61 rfl ?_
      refine J_icmp_ge (tgt := 74) dX2_mostThatWent_20 (by decide) (fun c2546 => ?_) (fun c2546 => ?_)
      · refine J_iload_n (i := 1) (j := 1) dX2_mostThatWent_74 rfl rfl ?_
        exact J_iret hq dX2_mostThatWent_75 rfl wlen (Nat.le_refl _) (Nat.le_refl _) ⟨w1907, rfl, rfl⟩
      · refine J_iconst (v := 0) dX2_mostThatWent_23 (by decide) ?_
        refine J_istore (i := 4) (lw := [(4, .int 0), (0, .ref 57), (1, .int w1907), (2, .int v2), (3, .int w1908)]) dX2_mostThatWent_24 (by decide) rfl ?_
        have lp3137 : ∀ (n3138 : Nat) (w3097 : Int32) (w3098 : Int32), Bd 0 63 w3097 → Bd 0 512 w3098 → (512 - w3098.toInt).toNat < n3138 → J x yX2_mostThatWent cX2_mostThatWent 5 (some .int) d 0 0 (Wd u g ex).length 26 [(0, .ref 57), (1, .int w3097), (2, .int v2), (3, .int w1908), (4, .int w3098)] [] (Wd u g ex) 0 0 := by
          intro n3138
          induction n3138 with
          | zero => intro w3097 w3098 bw3097 bw3098 hm3140; exact absurd hm3140 (Nat.not_lt_zero _)
          | succ n3138 ih3139 =>
            intro w3097 w3098 bw3097 bw3098 hm3140
            refine J_iload (i := 4) (j := 4) dX2_mostThatWent_26 rfl ?_
            refine J_aload_n (i := 0) (j := 0) dX2_mostThatWent_28 rfl rfl ?_
            refine J_get (C := RX2) (T := TX2) (Z := 6) (ci := 2) (f := 1) dX2_mostThatWent_29 inG2 rfl (by decide) k363 wc_57 rfl ?_
            refine J_callV (As := []) (rest := [.int w3098]) dX2_mostThatWent_32 (c_H_all (d := 0) (u := u) (g := g) (ex := ex)  (t := 61) (by decide) (by decide) hp0 (bd_w (l := 0) (h := 4) (bd_lt_lo hp1 (i_nle c2546) bw1908) (by decide))) hq.n k866 k801 k802 wc_61 rfl rfl k89 k803 np_X1_all (Nat.le_trans (by decide) hd) (by decide) (Nat.le_refl _) (Nat.le_refl _) wlen rfl (Nat.le_of_ble_eq_true rfl) (fun r_ h_ p3141 => ?_)
            obtain ⟨v3142, rfl, rfl, h3143⟩ := p3141
            refine J_icmp_gt (tgt := 68) dX2_mostThatWent_35 (by decide) (fun c3144 => ?_) (fun c3144 => ?_)
            · refine J_iinc (i := 3) (j := 3) (v := (w1908 + 1)) (lw := [(3, .int (w1908 + 1)), (0, .ref 57), (1, .int w3097), (2, .int v2), (4, .int w3098)]) dX2_mostThatWent_68 rfl rfl (by decide) rfl ?_
              refine J_goto (tgt := 12) dX2_mostThatWent_71 (by decide) ?_
              refine J_lv [1, 2, 3, 0] rfl ?_
              exact ih2544 w3097 (w1908 + 1) bw3097 (bd_w (l := 0) (h := 4) (bd_add (l := 1) (h := 4) (bd_lt_hi bw1908 (i_nle c2546) hp1) (bd_c (v := 1) (lo := 1) (hi := 1) (by decide)) (by decide)) (by decide)) (mu_up 1 bw1908 rfl (by decide) (bd_w (l := 1) (h := 4) (bd_add (l := 1) (h := 4) (bd_lt_hi bw1908 (i_nle c2546) hp1) (bd_c (v := 1) (lo := 1) (hi := 1) (by decide)) (by decide)) (by decide)) hm2545)
            · refine J_iload (i := 4) (j := 4) dX2_mostThatWent_38 rfl ?_
              refine J_iload_n (i := 2) (j := 2) dX2_mostThatWent_40 rfl rfl ?_
              refine J_iconst (v := (-1)) dX2_mostThatWent_41 (by decide) ?_
              refine J_ixor dX2_mostThatWent_42 ?_
              refine J_iand dX2_mostThatWent_43 ?_
              have jn3171 : ∀ (w3170 : Int32), Bd 0 63 w3170 → J x yX2_mostThatWent cX2_mostThatWent 5 (some .int) d 0 0 (Wd u g ex).length 62 [(0, .ref 57), (1, .int w3170), (2, .int v2), (3, .int w1908), (4, .int w3098)] [] (Wd u g ex) 0 0 := by
                intro w3170 bw3170
                refine J_iinc (i := 4) (j := 4) (v := (w3098 + 1)) (lw := [(4, .int (w3098 + 1)), (0, .ref 57), (1, .int w3170), (2, .int v2), (3, .int w1908)]) dX2_mostThatWent_62 rfl rfl (by decide) rfl ?_
                refine J_goto (tgt := 26) dX2_mostThatWent_65 (by decide) ?_
                refine J_lv [1, 2, 3, 4, 0] rfl ?_
                exact ih3139 w3170 (w3098 + 1) bw3170 (bd_w (l := 0) (h := 512) (bd_add (l := 1) (h := 512) (bd_le_hi bw3098 (i_nlt c3144) h3143) (bd_c (v := 1) (lo := 1) (hi := 1) (by decide)) (by decide)) (by decide)) (mu_up 1 bw3098 rfl (by decide) (bd_w (l := 1) (h := 512) (bd_add (l := 1) (h := 512) (bd_le_hi bw3098 (i_nlt c3144) h3143) (bd_c (v := 1) (lo := 1) (hi := 1) (by decide)) (by decide)) (by decide)) hm3140)
              refine J_if_ne (tgt := 62) dX2_mostThatWent_44 (by decide) (fun c3162 => ?_) (fun c3162 => ?_)
              · refine J_lv [0, 1, 2, 3, 4] rfl ?_
                exact jn3171 w3097 bw3097
              · refine J_iload_n (i := 1) (j := 1) dX2_mostThatWent_47 rfl rfl ?_
                refine J_aload_n (i := 0) (j := 0) dX2_mostThatWent_48 rfl rfl ?_
                refine J_iload_n (i := 3) (j := 3) dX2_mostThatWent_49 rfl rfl ?_
                refine J_iload (i := 4) (j := 4) dX2_mostThatWent_50 rfl ?_
                refine J_callV (As := [.int w1908, .int w3098]) (rest := [.int w3097]) dX2_mostThatWent_52 (c_O_wentBy (d := 1) (u := u) (g := g) (ex := ex) (rain := w1908) (banks := w3098)  (by decide) hp2) hq.n k891 k893 k25 wc_57 rfl rfl k96 k894 np_X2_wentBy (Nat.le_trans (by decide) hd) (by decide) (Nat.le_refl _) (Nat.le_refl _) wlen rfl (Nat.le_of_ble_eq_true rfl) (fun r_ h_ p3172 => ?_)
                obtain ⟨v3173, rfl, rfl, h3174⟩ := p3172
                refine J_callS (As := [.int v3173]) (rest := [.int w3097]) dX2_mostThatWent_55 (c_bitCount (d := 0) (u := u) (g := g) (ex := ex) (i := v3173)  (by decide) ) hq.n k1148 k929 k105 k930 np_J6_bitCount_0f7a4 (Nat.le_trans (by decide) hd) (by decide) (Nat.le_refl _) (Nat.le_refl _) wlen rfl (Nat.le_of_ble_eq_true rfl) (fun r_ h_ p3175 => ?_)
                obtain ⟨v3176, rfl, rfl, h3177⟩ := p3175
                refine J_mmax dX2_mostThatWent_58 k1149 k688 k99 k689 (Nat.le_trans (by decide) hd) (Nat.le_of_ble_eq_true rfl) (Nat.zero_le _) (Nat.zero_le _) ?_
                refine J_topi (fun v3178 qv3178 => ?_)
                refine J_istore_n (i := 1) (lw := [(1, .int v3178), (0, .ref 57), (2, .int v2), (3, .int w1908), (4, .int w3098)]) dX2_mostThatWent_61 rfl (by decide) rfl ?_
                refine J_lv [1, 0, 2, 3, 4] rfl ?_
                exact jn3171 v3178 (bd_r qv3178 (bd_max (l := 0) (h := 63) bw3097 h3177 (by decide)))
        refine J_lv [1, 2, 3, 4, 0] rfl ?_
        exact lp3137 _ w1907 (0 : Int32) bw1907 (bd_w (l := 0) (h := 512) (bd_c (v := 0) (lo := 0) (hi := 0) (by decide)) (by decide)) (Nat.lt_succ_self _)
  refine J_lv [3, 2, 1, 0] rfl ?_
  exact lp2542 _ (0 : Int32) (0 : Int32) (bd_w (l := 0) (h := 63) (bd_c (v := 0) (lo := 0) (hi := 0) (by decide)) (by decide)) (bd_w (l := 0) (h := 4) (bd_c (v := 0) (lo := 0) (hi := 0) (by decide)) (by decide)) (Nat.lt_succ_self _)
set_option maxHeartbeats 4000000 in
set_option maxRecDepth 100000 in
theorem c_O_worstTold {d : Nat} {u : Nat → Nat → Int32} {g : Nat → Nat → Int64} {ex : List MC} {what : Int32} (hd : 2 ≤ d) (hp0 : Bd 0 9 (u 61 0)) (hp1 : Bd 0 4 (u 61 2)) (hp2 : AB u 66 0 511) : CT con0 d 0 0 yX2_worstTold cX2_worstTold 7 (some .long) [.ref 57, .int what] (Wd u g ex) (fun r h2 => ∃ (z : Int64), r = some (.long z) ∧ h2 = Wd u g ex) := by
  refine CT_of (by decide) (Nat.le_of_ble_eq_true rfl) (fun x hq => ?_)
  show J x yX2_worstTold cX2_worstTold 7 (some .long) d 0 0 (Wd u g ex).length 0 [(0, .ref 57), (1, .int what)] [] (Wd u g ex) 0 0
  refine J_iconst (v := (-1)) dX2_worstTold_0 (by decide) ?_
  refine J_istore_n (i := 2) (lw := [(2, .int (-1)), (0, .ref 57), (1, .int what)]) dX2_worstTold_1 rfl (by decide) rfl ?_
  refine J_iconst (v := 0) dX2_worstTold_2 (by decide) ?_
  refine J_istore_n (i := 3) (lw := [(3, .int 0), (2, .int (-1)), (0, .ref 57), (1, .int what)]) dX2_worstTold_3 rfl (by decide) rfl ?_
  refine J_iconst (v := (-1)) dX2_worstTold_4 (by decide) ?_
  refine J_istore (i := 4) (lw := [(4, .int (-1)), (3, .int 0), (2, .int (-1)), (0, .ref 57), (1, .int what)]) dX2_worstTold_5 (by decide) rfl ?_
  refine J_iconst (v := 0) dX2_worstTold_7 (by decide) ?_
  refine J_istore (i := 5) (lw := [(5, .int 0), (4, .int (-1)), (3, .int 0), (2, .int (-1)), (0, .ref 57), (1, .int what)]) dX2_worstTold_8 (by decide) rfl ?_
  have lp3725 : ∀ (n3726 : Nat) (w2790 : Int32) (w2791 : Int32) (w2792 : Int32) (w2793 : Int32), Bd (-1) 9 w2790 → Bd 0 511 w2791 → Bd 0 4 w2793 → (4 - w2793.toInt).toNat < n3726 → J x yX2_worstTold cX2_worstTold 7 (some .long) d 0 0 (Wd u g ex).length 10 [(0, .ref 57), (1, .int what), (2, .int w2790), (3, .int w2791), (4, .int w2792), (5, .int w2793)] [] (Wd u g ex) 0 0 := by
    intro n3726
    induction n3726 with
    | zero => intro w2790 w2791 w2792 w2793 bw2790 bw2791 bw2793 hm3728; exact absurd hm3728 (Nat.not_lt_zero _)
    | succ n3726 ih3727 =>
      intro w2790 w2791 w2792 w2793 bw2790 bw2791 bw2793 hm3728
      refine J_iload (i := 5) (j := 5) dX2_worstTold_10 rfl ?_
      refine J_aload_n (i := 0) (j := 0) dX2_worstTold_12 rfl rfl ?_
      refine J_get (C := RX2) (T := TX2) (Z := 6) (ci := 2) (f := 1) dX2_worstTold_13 inG2 rfl (by decide) k363 wc_57 rfl ?_
      refine J_getN (C := RX1) (T := TX1) (Z := 6) (ci := 1) (f := 2) dX2_worstTold_16 inG1 rfl (by decide) k139 wc_61 rfl ?_
      refine J_icmp_ge (tgt := 101) dX2_worstTold_19 (by decide) (fun c3729 => ?_) (fun c3729 => ?_)
      · refine J_iload_n (i := 1) (j := 1) dX2_worstTold_101 rfl rfl ?_
        by_cases c4190 : what = 0
        · refine J_ci (v := 0) c4190 ?_
          refine J_tableIn (tgt := 132) (off := 30) dX2_worstTold_102 (by decide) (by decide) (by decide) (by decide) ?_
          refine J_iload_n (i := 2) (j := 2) dX2_worstTold_132 rfl rfl ?_
          refine J_i2l dX2_worstTold_133 rfl ?_
          refine J_topl (fun l4191 _ => ?_)
          exact J_lret hq dX2_worstTold_134 rfl wlen (Nat.le_refl _) (Nat.le_refl _) ⟨l4191, rfl, rfl⟩
        by_cases c4192 : what = 1
        · refine J_ci (v := 1) c4192 ?_
          refine J_tableIn (tgt := 135) (off := 33) dX2_worstTold_102 (by decide) (by decide) (by decide) (by decide) ?_
          refine J_iload_n (i := 3) (j := 3) dX2_worstTold_135 rfl rfl ?_
          refine J_i2l dX2_worstTold_136 rfl ?_
          refine J_topl (fun l4193 _ => ?_)
          exact J_lret hq dX2_worstTold_137 rfl wlen (Nat.le_refl _) (Nat.le_refl _) ⟨l4193, rfl, rfl⟩
        by_cases c4194 : what = 2
        · refine J_ci (v := 2) c4194 ?_
          refine J_tableIn (tgt := 138) (off := 36) dX2_worstTold_102 (by decide) (by decide) (by decide) (by decide) ?_
          refine J_iload (i := 4) (j := 4) dX2_worstTold_138 rfl ?_
          refine J_i2l dX2_worstTold_140 rfl ?_
          refine J_topl (fun l4195 _ => ?_)
          exact J_lret hq dX2_worstTold_141 rfl wlen (Nat.le_refl _) (Nat.le_refl _) ⟨l4195, rfl, rfl⟩
        by_cases c4196 : what = 3
        · refine J_ci (v := 3) c4196 ?_
          refine J_tableIn (tgt := 142) (off := 40) dX2_worstTold_102 (by decide) (by decide) (by decide) (by decide) ?_
          refine J_iload_n (i := 2) (j := 2) dX2_worstTold_142 rfl rfl ?_
          refine J_iconst (v := (-1)) dX2_worstTold_143 (by decide) ?_
          refine J_icmp_ne (tgt := 153) dX2_worstTold_144 (by decide) (fun c4197 => ?_) (fun c4197 => ?_)
          · refine J_aload_n (i := 0) (j := 0) dX2_worstTold_153 rfl rfl ?_
            refine J_iload_n (i := 2) (j := 2) dX2_worstTold_154 rfl rfl ?_
            refine J_iload_n (i := 3) (j := 3) dX2_worstTold_155 rfl rfl ?_
            refine J_callV (As := [.int w2790, .int w2791]) (rest := []) dX2_worstTold_156 (c_O_parts (d := 1) (u := u) (g := g) (ex := ex) (rain := w2790) (banks := w2791)  (by decide) hp0 hp1) hq.n k883 k885 k24 wc_57 rfl rfl k96 k886 np_X2_parts (Nat.le_trans (by decide) hd) (by decide) (Nat.le_refl _) (Nat.le_refl _) wlen rfl (Nat.le_of_ble_eq_true rfl) (fun r_ h_ p4198 => ?_)
            obtain ⟨l4199, rfl, rfl⟩ := p4198
            exact J_lret hq dX2_worstTold_159 rfl wlen (Nat.le_refl _) (Nat.le_refl _) ⟨l4199, rfl, rfl⟩
          · refine J_ldc2 (v := (-1)) dX2_worstTold_147 k1198 ?_
            refine J_goto (tgt := 159) dX2_worstTold_150 (by decide) ?_
            exact J_lret hq dX2_worstTold_159 rfl wlen (Nat.le_refl _) (Nat.le_refl _) ⟨((-1) : Int64), rfl, rfl⟩
        · refine J_tableOut (tgt := 160) dX2_worstTold_102 (by have e0 := int_ne (k := 0) c4190 (by decide); have e1 := int_ne (k := 1) c4192 (by decide); have e2 := int_ne (k := 2) c4194 (by decide); have e3 := int_ne (k := 3) c4196 (by decide); omega) (by decide) ?_
          refine J_ldc2 (v := (-1)) dX2_worstTold_160 k1198 ?_
          exact J_lret hq dX2_worstTold_163 rfl wlen (Nat.le_refl _) (Nat.le_refl _) ⟨((-1) : Int64), rfl, rfl⟩
      · refine J_iconst (v := 0) dX2_worstTold_22 (by decide) ?_
        refine J_istore (i := 6) (lw := [(6, .int 0), (0, .ref 57), (1, .int what), (2, .int w2790), (3, .int w2791), (4, .int w2792), (5, .int w2793)]) dX2_worstTold_23 (by decide) rfl ?_
        have lp4602 : ∀ (n4603 : Nat) (w4544 : Int32) (w4545 : Int32) (w4546 : Int32) (w4547 : Int32), Bd (-1) 9 w4544 → Bd 0 511 w4545 → Bd 0 512 w4547 → (512 - w4547.toInt).toNat < n4603 → J x yX2_worstTold cX2_worstTold 7 (some .long) d 0 0 (Wd u g ex).length 25 [(0, .ref 57), (1, .int what), (2, .int w4544), (3, .int w4545), (4, .int w4546), (5, .int w2793), (6, .int w4547)] [] (Wd u g ex) 0 0 := by
          intro n4603
          induction n4603 with
          | zero => intro w4544 w4545 w4546 w4547 bw4544 bw4545 bw4547 hm4605; exact absurd hm4605 (Nat.not_lt_zero _)
          | succ n4603 ih4604 =>
            intro w4544 w4545 w4546 w4547 bw4544 bw4545 bw4547 hm4605
            refine J_iload (i := 6) (j := 6) dX2_worstTold_25 rfl ?_
            refine J_aload_n (i := 0) (j := 0) dX2_worstTold_27 rfl rfl ?_
            refine J_get (C := RX2) (T := TX2) (Z := 6) (ci := 2) (f := 1) dX2_worstTold_28 inG2 rfl (by decide) k363 wc_57 rfl ?_
            refine J_callV (As := []) (rest := [.int w4547]) dX2_worstTold_31 (c_H_all (d := 0) (u := u) (g := g) (ex := ex)  (t := 61) (by decide) (by decide) hp0 (bd_w (l := 0) (h := 4) (bd_lt_lo hp1 (i_nle c3729) bw2793) (by decide))) hq.n k866 k801 k802 wc_61 rfl rfl k89 k803 np_X1_all (Nat.le_trans (by decide) hd) (by decide) (Nat.le_refl _) (Nat.le_refl _) wlen rfl (Nat.le_of_ble_eq_true rfl) (fun r_ h_ p4606 => ?_)
            obtain ⟨v4607, rfl, rfl, h4608⟩ := p4606
            refine J_icmp_gt (tgt := 95) dX2_worstTold_34 (by decide) (fun c4609 => ?_) (fun c4609 => ?_)
            · refine J_iinc (i := 5) (j := 5) (v := (w2793 + 1)) (lw := [(5, .int (w2793 + 1)), (0, .ref 57), (1, .int what), (2, .int w4544), (3, .int w4545), (4, .int w4546), (6, .int w4547)]) dX2_worstTold_95 rfl rfl (by decide) rfl ?_
              refine J_goto (tgt := 10) dX2_worstTold_98 (by decide) ?_
              refine J_lv [1, 2, 3, 4, 5, 0] rfl ?_
              exact ih3727 w4544 w4545 w4546 (w2793 + 1) bw4544 bw4545 (bd_w (l := 0) (h := 4) (bd_add (l := 1) (h := 4) (bd_lt_hi bw2793 (i_nle c3729) hp1) (bd_c (v := 1) (lo := 1) (hi := 1) (by decide)) (by decide)) (by decide)) (mu_up 1 bw2793 rfl (by decide) (bd_w (l := 1) (h := 4) (bd_add (l := 1) (h := 4) (bd_lt_hi bw2793 (i_nle c3729) hp1) (bd_c (v := 1) (lo := 1) (hi := 1) (by decide)) (by decide)) (by decide)) hm3728)
            · refine J_aload_n (i := 0) (j := 0) dX2_worstTold_37 rfl rfl ?_
              refine J_iload (i := 5) (j := 5) dX2_worstTold_38 rfl ?_
              refine J_iload (i := 6) (j := 6) dX2_worstTold_40 rfl ?_
              refine J_callV (As := [.int w2793, .int w4547]) (rest := []) dX2_worstTold_42 (c_O_parts (d := 1) (u := u) (g := g) (ex := ex) (rain := w2793) (banks := w4547)  (by decide) hp0 (bd_w (l := 0) (h := 4) (bd_lt_lo hp1 (i_nle c3729) bw2793) (by decide))) hq.n k883 k885 k24 wc_57 rfl rfl k96 k886 np_X2_parts (Nat.le_trans (by decide) hd) (by decide) (Nat.le_refl _) (Nat.le_refl _) wlen rfl (Nat.le_of_ble_eq_true rfl) (fun r_ h_ p4635 => ?_)
              obtain ⟨l4636, rfl, rfl⟩ := p4635
              refine J_lconst (v := 0) dX2_worstTold_45 (by decide) ?_
              refine J_lcmp dX2_worstTold_46 ?_
              have jn4650 : ∀ (w4647 : Int32) (w4648 : Int32) (w4649 : Int32), Bd (-1) 9 w4647 → Bd 0 511 w4648 → J x yX2_worstTold cX2_worstTold 7 (some .long) d 0 0 (Wd u g ex).length 89 [(0, .ref 57), (1, .int what), (2, .int w4647), (3, .int w4648), (4, .int w4649), (5, .int w2793), (6, .int w4547)] [] (Wd u g ex) 0 0 := by
                intro w4647 w4648 w4649 bw4647 bw4648
                refine J_iinc (i := 6) (j := 6) (v := (w4547 + 1)) (lw := [(6, .int (w4547 + 1)), (0, .ref 57), (1, .int what), (2, .int w4647), (3, .int w4648), (4, .int w4649), (5, .int w2793)]) dX2_worstTold_89 rfl rfl (by decide) rfl ?_
                refine J_goto (tgt := 25) dX2_worstTold_92 (by decide) ?_
                refine J_lv [1, 2, 3, 4, 5, 6, 0] rfl ?_
                exact ih4604 w4647 w4648 w4649 (w4547 + 1) bw4647 bw4648 (bd_w (l := 0) (h := 512) (bd_add (l := 1) (h := 512) (bd_le_hi bw4547 (i_nlt c4609) h4608) (bd_c (v := 1) (lo := 1) (hi := 1) (by decide)) (by decide)) (by decide)) (mu_up 1 bw4547 rfl (by decide) (bd_w (l := 1) (h := 512) (bd_add (l := 1) (h := 512) (bd_le_hi bw4547 (i_nlt c4609) h4608) (bd_c (v := 1) (lo := 1) (hi := 1) (by decide)) (by decide)) (by decide)) hm4605)
              refine J_if_le (tgt := 89) dX2_worstTold_47 (by decide) (fun c4637 => ?_) (fun c4637 => ?_)
              · refine J_lv [0, 1, 2, 3, 4, 5, 6] rfl ?_
                exact jn4650 w4544 w4545 w4546 bw4544 bw4545
              · refine J_aload_n (i := 0) (j := 0) dX2_worstTold_50 rfl rfl ?_
                refine J_get (C := RX2) (T := TX2) (Z := 6) (ci := 2) (f := 3) dX2_worstTold_51 inG2 rfl (by decide) k366 wc_57 rfl ?_
                refine J_aload_n (i := 0) (j := 0) dX2_worstTold_54 rfl rfl ?_
                refine J_iload (i := 5) (j := 5) dX2_worstTold_55 rfl ?_
                refine J_iload (i := 6) (j := 6) dX2_worstTold_57 rfl ?_
                refine J_callV (As := [.int w2793, .int w4547]) (rest := [.ref 67]) dX2_worstTold_59 (c_O_wentBy (d := 1) (u := u) (g := g) (ex := ex) (rain := w2793) (banks := w4547)  (by decide) hp2) hq.n k891 k893 k25 wc_57 rfl rfl k96 k894 np_X2_wentBy (Nat.le_trans (by decide) hd) (by decide) (Nat.le_refl _) (Nat.le_refl _) wlen rfl (Nat.le_of_ble_eq_true rfl) (fun r_ h_ p4651 => ?_)
                obtain ⟨v4652, rfl, rfl, h4653⟩ := p4651
                refine J_iald dX2_worstTold_62 wc_67 (vin h4653 (by decide)) ?_
                refine J_topi (fun v4654 qv4654 => ?_)
                refine J_iload (i := 4) (j := 4) dX2_worstTold_63 rfl ?_
                refine J_icmp_le (tgt := 89) dX2_worstTold_65 (by decide) (fun c4655 => ?_) (fun c4655 => ?_)
                · refine J_lv [0, 1, 2, 3, 4, 5, 6] rfl ?_
                  exact jn4650 w4544 w4545 w4546 bw4544 bw4545
                · refine J_aload_n (i := 0) (j := 0) dX2_worstTold_68 rfl rfl ?_
                  refine J_get (C := RX2) (T := TX2) (Z := 6) (ci := 2) (f := 3) dX2_worstTold_69 inG2 rfl (by decide) k366 wc_57 rfl ?_
                  refine J_aload_n (i := 0) (j := 0) dX2_worstTold_72 rfl rfl ?_
                  refine J_iload (i := 5) (j := 5) dX2_worstTold_73 rfl ?_
                  refine J_iload (i := 6) (j := 6) dX2_worstTold_75 rfl ?_
                  refine J_callV (As := [.int w2793, .int w4547]) (rest := [.ref 67]) dX2_worstTold_77 (c_O_wentBy (d := 1) (u := u) (g := g) (ex := ex) (rain := w2793) (banks := w4547)  (by decide) hp2) hq.n k891 k893 k25 wc_57 rfl rfl k96 k894 np_X2_wentBy (Nat.le_trans (by decide) hd) (by decide) (Nat.le_refl _) (Nat.le_refl _) wlen rfl (Nat.le_of_ble_eq_true rfl) (fun r_ h_ p4656 => ?_)
                  obtain ⟨v4657, rfl, rfl, h4658⟩ := p4656
                  refine J_iald dX2_worstTold_80 wc_67 (vin h4658 (by decide)) ?_
                  refine J_topi (fun v4659 qv4659 => ?_)
                  refine J_istore (i := 4) (lw := [(4, .int v4659), (0, .ref 57), (1, .int what), (2, .int w4544), (3, .int w4545), (5, .int w2793), (6, .int w4547)]) dX2_worstTold_81 (by decide) rfl ?_
                  refine J_iload (i := 5) (j := 5) dX2_worstTold_83 rfl ?_
                  refine J_istore_n (i := 2) (lw := [(2, .int w2793), (4, .int v4659), (0, .ref 57), (1, .int what), (3, .int w4545), (5, .int w2793), (6, .int w4547)]) dX2_worstTold_85 rfl (by decide) rfl ?_
                  refine J_iload (i := 6) (j := 6) dX2_worstTold_86 rfl ?_
                  refine J_istore_n (i := 3) (lw := [(3, .int w4547), (2, .int w2793), (4, .int v4659), (0, .ref 57), (1, .int what), (5, .int w2793), (6, .int w4547)]) dX2_worstTold_88 rfl (by decide) rfl ?_
                  refine J_lv [3, 4, 1, 0, 2, 5, 6] rfl ?_
                  exact jn4650 w2793 w4547 v4659 (bd_w (l := (-1)) (h := 9) (bd_lt_hi bw2793 (i_nle c3729) hp1) (by decide)) (bd_le_hi bw4547 (i_nlt c4609) h4608)
        refine J_lv [1, 2, 3, 4, 5, 6, 0] rfl ?_
        exact lp4602 _ w2790 w2791 w2792 (0 : Int32) bw2790 bw2791 (bd_w (l := 0) (h := 512) (bd_c (v := 0) (lo := 0) (hi := 0) (by decide)) (by decide)) (Nat.lt_succ_self _)
  refine J_lv [4, 5, 3, 2, 1, 0] rfl ?_
  exact lp3725 _ ((-1) : Int32) (0 : Int32) ((-1) : Int32) (0 : Int32) (bd_w (l := (-1)) (h := 9) (bd_c (v := (-1)) (lo := (-1)) (hi := (-1)) (by decide)) (by decide)) (bd_w (l := 0) (h := 511) (bd_c (v := 0) (lo := 0) (hi := 0) (by decide)) (by decide)) (bd_w (l := 0) (h := 4) (bd_c (v := 0) (lo := 0) (hi := 0) (by decide)) (by decide)) (Nat.lt_succ_self _)
set_option maxHeartbeats 4000000 in
set_option maxRecDepth 100000 in
theorem c_O_mostInBrook {d : Nat} {u : Nat → Nat → Int32} {g : Nat → Nat → Int64} {ex : List MC}  (hd : 3 ≤ d) (hp0 : Bd 0 9 (u 61 0)) (hp1 : Bd 0 4 (u 61 2)) (hp2 : AB u 66 0 511) : CT con0 d 0 0 yX2_mostInBrook cX2_mostInBrook 4 (some .int) [.ref 57] (Wd u g ex) (fun r h2 => ∃ (z : Int32) (u2 : Nat → Nat → Int32), r = some (.int z) ∧ h2 = Wd u2 g ex ∧ (∀ c, nin c [(58, 60)] = true → u2 c = u c) ∧ (∀ j, j ≠ 0 → j ≠ 1 → j ≠ 2 → j ≠ 3 → j ≠ 4 → u2 58 j = u 58 j)) := by
  refine CT_of (by decide) (Nat.le_of_ble_eq_true rfl) (fun x hq => ?_)
  show J x yX2_mostInBrook cX2_mostInBrook 4 (some .int) d 0 0 (Wd u g ex).length 0 [(0, .ref 57)] [] (Wd u g ex) 0 0
  refine J_iconst (v := 0) dX2_mostInBrook_0 (by decide) ?_
  refine J_istore_n (i := 1) (lw := [(1, .int 0), (0, .ref 57)]) dX2_mostInBrook_1 rfl (by decide) rfl ?_
  refine J_iconst (v := 0) dX2_mostInBrook_2 (by decide) ?_
  refine J_istore_n (i := 2) (lw := [(2, .int 0), (1, .int 0), (0, .ref 57)]) dX2_mostInBrook_3 rfl (by decide) rfl ?_
  have lp3876 : ∀ (n3877 : Nat) (w2906 : Int32) (w2907 : Int32) (u2908 : Nat → Nat → Int32), Bd 0 2147483647 w2906 → Bd 0 4 w2907 → (∀ c, nin c [(58, 60)] = true → u2908 c = u c) → (∀ j, j ≠ 0 → j ≠ 1 → j ≠ 2 → j ≠ 3 → j ≠ 4 → u2908 58 j = u 58 j) → (4 - w2907.toInt).toNat < n3877 → J x yX2_mostInBrook cX2_mostInBrook 4 (some .int) d 0 0 (Wd u g ex).length 4 [(0, .ref 57), (1, .int w2906), (2, .int w2907)] [] (Wd u2908 g ex) 0 0 := by
    intro n3877
    induction n3877 with
    | zero => intro w2906 w2907 u2908 bw2906 bw2907 fr2909 fc2910 hm3879; exact absurd hm3879 (Nat.not_lt_zero _)
    | succ n3877 ih3878 =>
      intro w2906 w2907 u2908 bw2906 bw2907 fr2909 fc2910 hm3879
      refine J_iload_n (i := 2) (j := 2) dX2_mostInBrook_4 rfl rfl ?_
      refine J_aload_n (i := 0) (j := 0) dX2_mostInBrook_5 rfl rfl ?_
      refine J_get (C := RX2) (T := TX2) (Z := 6) (ci := 2) (f := 1) dX2_mostInBrook_6 inG2 rfl (by decide) k363 wc_57 rfl ?_
      refine J_getN (C := RX1) (T := TX1) (Z := 6) (ci := 1) (f := 2) dX2_mostInBrook_9 inG1 rfl (by decide) k139 wc_61 rfl ?_
      refine J_ci (v := u 61 2) (congrFun (fr2909 61 rfl) 2) ?_
      refine J_icmp_ge (tgt := 84) dX2_mostInBrook_12 (by decide) (fun c3880 => ?_) (fun c3880 => ?_)
      · refine J_iload_n (i := 1) (j := 1) dX2_mostInBrook_84 rfl rfl ?_
        exact J_iret hq dX2_mostInBrook_85 rfl wlen (Nat.le_refl _) (Nat.le_refl _) ⟨w2906, u2908, rfl, rfl, (fun c k_ => (fr2909 c (nin_sub (M := [(58, 60)]) k_ rfl))), (fun j k0_ k1_ k2_ k3_ k4_ => (fc2910 j k0_ k1_ k2_ k3_ k4_))⟩
      · refine J_iconst (v := 0) dX2_mostInBrook_15 (by decide) ?_
        refine J_istore_n (i := 3) (lw := [(3, .int 0), (0, .ref 57), (1, .int w2906), (2, .int w2907)]) dX2_mostInBrook_16 rfl (by decide) rfl ?_
        have lp4785 : ∀ (n4786 : Nat) (w4724 : Int32) (w4725 : Int32) (u4726 : Nat → Nat → Int32), Bd 0 2147483647 w4724 → Bd 0 512 w4725 → (∀ c, nin c [(58, 60)] = true → u4726 c = u2908 c) → (∀ j, j ≠ 0 → j ≠ 1 → j ≠ 2 → j ≠ 3 → j ≠ 4 → u4726 58 j = u2908 58 j) → (512 - w4725.toInt).toNat < n4786 → J x yX2_mostInBrook cX2_mostInBrook 4 (some .int) d 0 0 (Wd u g ex).length 17 [(0, .ref 57), (1, .int w4724), (2, .int w2907), (3, .int w4725)] [] (Wd u4726 g ex) 0 0 := by
          intro n4786
          induction n4786 with
          | zero => intro w4724 w4725 u4726 bw4724 bw4725 fr4727 fc4728 hm4788; exact absurd hm4788 (Nat.not_lt_zero _)
          | succ n4786 ih4787 =>
            intro w4724 w4725 u4726 bw4724 bw4725 fr4727 fc4728 hm4788
            refine J_iload_n (i := 3) (j := 3) dX2_mostInBrook_17 rfl rfl ?_
            refine J_aload_n (i := 0) (j := 0) dX2_mostInBrook_18 rfl rfl ?_
            refine J_get (C := RX2) (T := TX2) (Z := 6) (ci := 2) (f := 1) dX2_mostInBrook_19 inG2 rfl (by decide) k363 wc_57 rfl ?_
            refine J_callV (As := []) (rest := [.int w4725]) dX2_mostInBrook_22 (c_H_all (d := 0) (u := u4726) (g := g) (ex := ex)  (t := 61) (by decide) (by decide) (bd_r ((congrFun (fr4727 61 rfl) 0).trans (congrFun (fr2909 61 rfl) 0)) hp0) (bd_r ((congrFun (fr4727 61 rfl) 2).trans (congrFun (fr2909 61 rfl) 2)) (bd_w (l := 0) (h := 4) (bd_lt_lo hp1 (i_nle c3880) bw2907) (by decide)))) hq.n k866 k801 k802 wc_61 rfl rfl k89 k803 np_X1_all (Nat.le_trans (by decide) hd) (by decide) (Nat.le_refl _) (Nat.le_refl _) wlen rfl (Nat.le_of_ble_eq_true rfl) (fun r_ h_ p4789 => ?_)
            obtain ⟨v4790, rfl, rfl, h4791⟩ := p4789
            refine J_icmp_gt (tgt := 78) dX2_mostInBrook_25 (by decide) (fun c4792 => ?_) (fun c4792 => ?_)
            · refine J_iinc (i := 2) (j := 2) (v := (w2907 + 1)) (lw := [(2, .int (w2907 + 1)), (0, .ref 57), (1, .int w4724), (3, .int w4725)]) dX2_mostInBrook_78 rfl rfl (by decide) rfl ?_
              refine J_goto (tgt := 4) dX2_mostInBrook_81 (by decide) ?_
              refine J_lv [1, 2, 0] rfl ?_
              exact ih3878 w4724 (w2907 + 1) u4726 bw4724 (bd_w (l := 0) (h := 4) (bd_add (l := 1) (h := 4) (bd_lt_hi bw2907 (i_nle c3880) hp1) (bd_c (v := 1) (lo := 1) (hi := 1) (by decide)) (by decide)) (by decide)) (fun c k_ => ((fr4727 c (nin_sub (M := [(58, 60)]) k_ rfl)).trans (fr2909 c (nin_sub (M := [(58, 60)]) k_ rfl)))) (fun j k0_ k1_ k2_ k3_ k4_ => ((fc4728 j k0_ k1_ k2_ k3_ k4_).trans (fc2910 j k0_ k1_ k2_ k3_ k4_))) (mu_up 1 bw2907 rfl (by decide) (bd_w (l := 1) (h := 4) (bd_add (l := 1) (h := 4) (bd_lt_hi bw2907 (i_nle c3880) hp1) (bd_c (v := 1) (lo := 1) (hi := 1) (by decide)) (by decide)) (by decide)) hm3879)
            · refine J_aload_n (i := 0) (j := 0) dX2_mostInBrook_28 rfl rfl ?_
              refine J_iload_n (i := 2) (j := 2) dX2_mostInBrook_29 rfl rfl ?_
              refine J_iload_n (i := 3) (j := 3) dX2_mostInBrook_30 rfl rfl ?_
              refine J_callV (As := [.int w2907, .int w4725]) (rest := []) dX2_mostInBrook_31 (c_O_parts (d := 1) (u := u4726) (g := g) (ex := ex) (rain := w2907) (banks := w4725)  (by decide) (bd_r ((congrFun (fr4727 61 rfl) 0).trans (congrFun (fr2909 61 rfl) 0)) hp0) (bd_r ((congrFun (fr4727 61 rfl) 2).trans (congrFun (fr2909 61 rfl) 2)) (bd_w (l := 0) (h := 4) (bd_lt_lo hp1 (i_nle c3880) bw2907) (by decide)))) hq.n k883 k885 k24 wc_57 rfl rfl k96 k886 np_X2_parts (Nat.le_trans (by decide) hd) (by decide) (Nat.le_refl _) (Nat.le_refl _) wlen rfl (Nat.le_of_ble_eq_true rfl) (fun r_ h_ p4819 => ?_)
              obtain ⟨l4820, rfl, rfl⟩ := p4819
              refine J_lconst (v := 0) dX2_mostInBrook_34 (by decide) ?_
              refine J_lcmp dX2_mostInBrook_35 ?_
              have jn4835 : ∀ (w4831 : Int32) (u4832 : Nat → Nat → Int32), Bd 0 2147483647 w4831 → (∀ c, nin c [(58, 60)] = true → u4832 c = u4726 c) → (∀ j, j ≠ 0 → j ≠ 1 → j ≠ 2 → j ≠ 3 → j ≠ 4 → u4832 58 j = u4726 58 j) → J x yX2_mostInBrook cX2_mostInBrook 4 (some .int) d 0 0 (Wd u g ex).length 72 [(0, .ref 57), (1, .int w4831), (2, .int w2907), (3, .int w4725)] [] (Wd u4832 g ex) 0 0 := by
                intro w4831 u4832 bw4831 fr4833 fc4834
                refine J_iinc (i := 3) (j := 3) (v := (w4725 + 1)) (lw := [(3, .int (w4725 + 1)), (0, .ref 57), (1, .int w4831), (2, .int w2907)]) dX2_mostInBrook_72 rfl rfl (by decide) rfl ?_
                refine J_goto (tgt := 17) dX2_mostInBrook_75 (by decide) ?_
                refine J_lv [1, 2, 3, 0] rfl ?_
                exact ih4787 w4831 (w4725 + 1) u4832 bw4831 (bd_w (l := 0) (h := 512) (bd_add (l := 1) (h := 512) (bd_le_hi bw4725 (i_nlt c4792) h4791) (bd_c (v := 1) (lo := 1) (hi := 1) (by decide)) (by decide)) (by decide)) (fun c k_ => ((fr4833 c (nin_sub (M := [(58, 60)]) k_ rfl)).trans (fr4727 c (nin_sub (M := [(58, 60)]) k_ rfl)))) (fun j k0_ k1_ k2_ k3_ k4_ => ((fc4834 j k0_ k1_ k2_ k3_ k4_).trans (fc4728 j k0_ k1_ k2_ k3_ k4_))) (mu_up 1 bw4725 rfl (by decide) (bd_w (l := 1) (h := 512) (bd_add (l := 1) (h := 512) (bd_le_hi bw4725 (i_nlt c4792) h4791) (bd_c (v := 1) (lo := 1) (hi := 1) (by decide)) (by decide)) (by decide)) hm4788)
              refine J_if_le (tgt := 72) dX2_mostInBrook_36 (by decide) (fun c4821 => ?_) (fun c4821 => ?_)
              · refine J_lv [0, 1, 2, 3] rfl ?_
                exact jn4835 w4724 u4726 bw4724 (fun c k_ => rfl) (fun j k0_ k1_ k2_ k3_ k4_ => rfl)
              · refine J_aload_n (i := 0) (j := 0) dX2_mostInBrook_39 rfl rfl ?_
                refine J_get (C := RX2) (T := TX2) (Z := 6) (ci := 2) (f := 0) dX2_mostInBrook_40 inG2 rfl (by decide) k362 wc_57 rfl ?_
                refine J_aload_n (i := 0) (j := 0) dX2_mostInBrook_43 rfl rfl ?_
                refine J_get (C := RX2) (T := TX2) (Z := 6) (ci := 2) (f := 1) dX2_mostInBrook_44 inG2 rfl (by decide) k363 wc_57 rfl ?_
                refine J_aload_n (i := 0) (j := 0) dX2_mostInBrook_47 rfl rfl ?_
                refine J_get (C := RX2) (T := TX2) (Z := 6) (ci := 2) (f := 1) dX2_mostInBrook_48 inG2 rfl (by decide) k363 wc_57 rfl ?_
                refine J_iload_n (i := 2) (j := 2) dX2_mostInBrook_51 rfl rfl ?_
                refine J_callV (As := [.int w2907]) (rest := [.ref 61, .ref 58]) dX2_mostInBrook_52 (c_H_stepsOf (d := 0) (u := u4726) (g := g) (ex := ex) (rain := w2907) (t := 61) (by decide) (by decide) (bd_r ((congrFun (fr4727 61 rfl) 0).trans (congrFun (fr2909 61 rfl) 0)) hp0) (bd_r ((congrFun (fr4727 61 rfl) 2).trans (congrFun (fr2909 61 rfl) 2)) (bd_w (l := 0) (h := 4) (bd_lt_lo hp1 (i_nle c3880) bw2907) (by decide)))) hq.n k868 k716 k717 wc_61 rfl rfl k89 k718 np_X1_stepsOf (Nat.le_trans (by decide) hd) (by decide) (Nat.le_refl _) (Nat.le_refl _) wlen rfl (Nat.le_of_ble_eq_true rfl) (fun r_ h_ p4836 => ?_)
                obtain ⟨v4837, rfl, rfl⟩ := p4836
                refine J_iload_n (i := 3) (j := 3) dX2_mostInBrook_55 rfl rfl ?_
                refine J_iconst (v := (-1)) dX2_mostInBrook_56 (by decide) ?_
                refine J_callV (As := [.ref 61, .int v4837, .int w4725, .int (-1)]) (rest := []) dX2_mostInBrook_57 (c_S58_run (d := 2) (u := u4726) (g := g) (ex := ex) (steps := v4837) (banks := w4725) (keeper := (-1)) (t := 61) (by decide) (by decide) (bd_r ((congrFun (fr4727 61 rfl) 0).trans (congrFun (fr2909 61 rfl) 0)) hp0) (bd_r ((congrFun (fr4727 61 rfl) 2).trans (congrFun (fr2909 61 rfl) 2)) (bd_w (l := 0) (h := 4) (bd_lt_lo hp1 (i_nle c3880) bw2907) (by decide)))) hq.n k869 k806 k807 wc_58 rfl rfl k94 k808 np_X5_run (Nat.le_trans (by decide) hd) (by decide) (Nat.le_refl _) (Nat.le_refl _) wlen rfl (Nat.le_of_ble_eq_true rfl) (fun r_ h_ p4838 => ?_)
                obtain ⟨u4839, rfl, rfl, h4840, h4841, fr4842, fc4843⟩ := p4838
                refine J_iload_n (i := 1) (j := 1) dX2_mostInBrook_60 rfl rfl ?_
                refine J_aload_n (i := 0) (j := 0) dX2_mostInBrook_61 rfl rfl ?_
                refine J_get (C := RX2) (T := TX2) (Z := 6) (ci := 2) (f := 0) dX2_mostInBrook_62 inG2 rfl (by decide) k362 wc_57 rfl ?_
                refine J_getN (C := RX5) (T := TX5) (Z := 7) (ci := 5) (f := 4) dX2_mostInBrook_65 inG5 rfl (by decide) k328 wc_58 rfl ?_
                refine J_mmax dX2_mostInBrook_68 k1149 k688 k99 k689 (Nat.le_trans (by decide) hd) (Nat.le_of_ble_eq_true rfl) (Nat.zero_le _) (Nat.zero_le _) ?_
                refine J_topi (fun v4844 qv4844 => ?_)
                refine J_istore_n (i := 1) (lw := [(1, .int v4844), (0, .ref 57), (2, .int w2907), (3, .int w4725)]) dX2_mostInBrook_71 rfl (by decide) rfl ?_
                refine J_lv [1, 0, 2, 3] rfl ?_
                exact jn4835 v4844 u4839 (bd_r qv4844 (bd_max (l := 0) (h := 2147483647) bw4724 (bd_any (u4839 58 4)) (by decide))) (fun c k_ => (fr4842 c (nin_sub (M := [(58, 60)]) k_ rfl))) (fun j k0_ k1_ k2_ k3_ k4_ => (fc4843 j k0_ k1_ k2_ k3_ k4_))
        refine J_lv [1, 2, 3, 0] rfl ?_
        exact lp4785 _ w2906 (0 : Int32) u2908 bw2906 (bd_w (l := 0) (h := 512) (bd_c (v := 0) (lo := 0) (hi := 0) (by decide)) (by decide)) (fun c k_ => rfl) (fun j k0_ k1_ k2_ k3_ k4_ => rfl) (Nat.lt_succ_self _)
  refine J_lv [2, 1, 0] rfl ?_
  exact lp3876 _ (0 : Int32) (0 : Int32) u (bd_w (l := 0) (h := 2147483647) (bd_c (v := 0) (lo := 0) (hi := 0) (by decide)) (by decide)) (bd_w (l := 0) (h := 4) (bd_c (v := 0) (lo := 0) (hi := 0) (by decide)) (by decide)) (fun c k_ => rfl) (fun j k0_ k1_ k2_ k3_ k4_ => rfl) (Nat.lt_succ_self _)
set_option maxHeartbeats 4000000 in
set_option maxRecDepth 100000 in
theorem c_P_looks {d : Nat} {u : Nat → Nat → Int32} {g : Nat → Nat → Int64} {ex : List MC} {hill : Int32} {plan : Int32} (hd : 5 ≤ d) (hp0 : Bd 0 2 (u 1 5)) (hp1 : Bd 0 3 (u 1 7)) (hp2 : Bd 0 9 (u 44 0)) (hp3 : Bd 0 4 (u 44 2)) (hp4 : Bd 0 9 (u 5 0)) (hp5 : Bd 0 4 (u 5 2)) (hp6 : Bd 0 9 (u 10 0)) (hp7 : Bd 0 4 (u 10 2)) (hp8 : Bd 0 12 (u 15 0)) (hp9 : Bd 0 12 (u 19 0)) (hp10 : Bd 0 12 (u 23 0)) (hp11 : Bd 0 12 (u 49 0)) (hp12 : AB u 45 (-1) 999) (hp13 : AB u 6 (-1) 999) (hp14 : AB u 11 (-1) 999) (hp15 : (KM u 15)) (hp16 : (KM u 19)) (hp17 : (KM u 23)) (hp18 : (KM u 49)) (hp19 : AB u 66 0 511) (hp20 : Bd 0 9 (u 61 0)) (hp21 : Bd 0 4 (u 61 2)) : CT con0 d 0 0 yX10_looks cX10_looks 3 (some .boolean) [.ref 0, .int hill, .int plan] (Wd u g ex) (fun r h2 => ∃ (z : Bool) (u2 : Nat → Nat → Int32) (g2 : Nat → Nat → Int64), r = some (.int (bI z)) ∧ h2 = Wd u2 g2 ex ∧ Bd 0 9 (u2 44 0) ∧ Bd 0 4 (u2 44 2) ∧ AB u2 45 (-1) 999 ∧ Bd 0 9 (u2 61 0) ∧ Bd 0 4 (u2 61 2) ∧ AB u2 66 0 511 ∧ (∀ c, nin c [(43, 48), (58, 67)] = true → u2 c = u c) ∧ (∀ j, j ≠ 1 → j ≠ 2 → j ≠ 3 → u2 43 j = u 43 j) ∧ (∀ j, j ≠ 0 → j ≠ 2 → u2 44 j = u 44 j) ∧ (∀ j, j ≠ 0 → j ≠ 1 → j ≠ 2 → j ≠ 3 → j ≠ 4 → u2 58 j = u 58 j) ∧ (∀ j, j ≠ 0 → j ≠ 2 → u2 61 j = u 61 j)) := by
  refine CT_of (by decide) (Nat.le_of_ble_eq_true rfl) (fun x hq => ?_)
  show J x yX10_looks cX10_looks 3 (some .boolean) d 0 0 (Wd u g ex).length 0 [(0, .ref 0), (1, .int hill), (2, .int plan)] [] (Wd u g ex) 0 0
  refine J_aload_n (i := 0) (j := 0) dX10_looks_0 rfl rfl ?_
  refine J_iload_n (i := 1) (j := 1) dX10_looks_1 rfl rfl ?_
  refine J_iload_n (i := 2) (j := 2) dX10_looks_2 rfl rfl ?_
  refine J_callV (As := [.int hill, .int plan]) (rest := []) dX10_looks_3 (c_P_lays (d := 4) (u := u) (g := g) (ex := ex) (hill := hill) (plan := plan)  (by decide) hp0 hp1 hp2 hp3 hp4 hp5 hp6 hp7 hp8 hp9 hp10 hp11 hp12 hp13 hp14 hp15 hp16 hp17 hp18) hq.n k723 k725 k12 wc_0 rfl rfl k87 k726 np_X10_lays (Nat.le_trans (by decide) hd) (by decide) (Nat.le_refl _) (Nat.le_refl _) wlen rfl (Nat.le_of_ble_eq_true rfl) (fun r_ h_ p1 => ?_)
  obtain ⟨t2, u3, rfl, rfl, h4, h5, h6, fr7, fc8, fc9⟩ := p1
  refine J_ifB_ne (tgt := 11) dX10_looks_6 (by decide) (fun c10 => ?_) (fun c10 => ?_)
  · refine J_aload_n (i := 0) (j := 0) dX10_looks_11 rfl rfl ?_
    refine J_get (C := RX10) (T := TX10) (Z := 10) (ci := 10) (f := 8) dX10_looks_12 inG10 rfl (by decide) k431 wc_0 rfl ?_
    refine J_aload_n (i := 0) (j := 0) dX10_looks_15 rfl rfl ?_
    refine J_get (C := RX10) (T := TX10) (Z := 10) (ci := 10) (f := 4) dX10_looks_16 inG10 rfl (by decide) k427 wc_0 rfl ?_
    refine J_getN (C := RX4) (T := TX4) (Z := 4) (ci := 4) (f := 0) dX10_looks_19 inG4 rfl (by decide) k295 wc_43 rfl ?_
    refine J_iconst (v := (-1)) dX10_looks_22 (by decide) ?_
    refine J_aload_n (i := 0) (j := 0) dX10_looks_23 rfl rfl ?_
    refine J_get (C := RX10) (T := TX10) (Z := 10) (ci := 10) (f := 4) dX10_looks_24 inG10 rfl (by decide) k427 wc_0 rfl ?_
    refine J_getN (C := RX4) (T := TX4) (Z := 4) (ci := 4) (f := 0) dX10_looks_27 inG4 rfl (by decide) k295 wc_43 rfl ?_
    refine J_callV (As := []) (rest := [.int (-1), .ref 44, .ref 57]) dX10_looks_30 (c_H_weak (d := 1) (u := u3) (g := g) (ex := ex)  (t := 44) (by decide) (by decide) h4 h5) hq.n k856 k857 k858 wc_44 rfl rfl k89 k859 np_X1_weak (Nat.le_trans (by decide) hd) (by decide) (Nat.le_refl _) (Nat.le_refl _) wlen rfl (Nat.le_of_ble_eq_true rfl) (fun r_ h_ p11 => ?_)
    obtain ⟨v12, rfl, rfl, h13⟩ := p11
    refine J_callV (As := [.ref 44, .int (-1), .int v12]) (rest := []) dX10_looks_33 (c_O_look_44 (d := 3) (u := u3) (g := g) (ex := ex) (keeper := (-1)) (mayGo := v12)  (by decide) h4 h5 (ab_c (fr7 66 rfl) hp19)) hq.n k861 k862 k863 wc_57 rfl rfl k96 k864 np_X2_look (Nat.le_trans (by decide) hd) (by decide) (Nat.le_refl _) (Nat.le_refl _) wlen rfl (Nat.le_of_ble_eq_true rfl) (fun r_ h_ p14 => ?_)
    obtain ⟨u15, g16, rfl, rfl, h17, h18, h19, fr20, fc21, fc22⟩ := p14
    refine J_iconst (v := 1) dX10_looks_36 (by decide) ?_
    exact J_zret hq dX10_looks_37 rfl rfl wlen (Nat.le_refl _) (Nat.le_refl _) ⟨true, u15, g16, rfl, rfl, (bd_r (congrFun (fr20 44 rfl) 0) h4), (bd_r (congrFun (fr20 44 rfl) 2) h5), (ab_c (fr20 45 rfl) h6), h17, h18, h19, (fun c k_ => ((fr20 c (nin_sub (M := [(58, 67)]) k_ rfl)).trans (fr7 c (nin_sub (M := [(43, 48)]) k_ rfl)))), (fun j k1_ k2_ k3_ => ((congrFun (fr20 43 rfl) j).trans (fc8 j k1_ k2_ k3_))), (fun j k0_ k2_ => ((congrFun (fr20 44 rfl) j).trans (fc9 j k0_ k2_))), (fun j k0_ k1_ k2_ k3_ k4_ => ((fc21 j k0_ k1_ k2_ k3_ k4_).trans (congrFun (fr7 58 rfl) j))), (fun j k0_ k2_ => ((fc22 j k0_ k2_).trans (congrFun (fr7 61 rfl) j)))⟩
  · refine J_iconst (v := 0) dX10_looks_9 (by decide) ?_
    exact J_zret hq dX10_looks_10 rfl rfl wlen (Nat.le_refl _) (Nat.le_refl _) ⟨false, u3, g, rfl, rfl, h4, h5, h6, (bd_r (congrFun (fr7 61 rfl) 0) hp20), (bd_r (congrFun (fr7 61 rfl) 2) hp21), (ab_c (fr7 66 rfl) hp19), (fun c k_ => (fr7 c (nin_sub (M := [(43, 48)]) k_ rfl))), (fun j k1_ k2_ k3_ => (fc8 j k1_ k2_ k3_)), (fun j k0_ k2_ => (fc9 j k0_ k2_)), (fun j k0_ k1_ k2_ k3_ k4_ => (congrFun (fr7 58 rfl) j)), (fun j k0_ k2_ => (congrFun (fr7 61 rfl) j))⟩
