theorem k1279 : Cond.fieldLink RX11 112 "PondStairModel" "laterFault" "I" ∈ gt := gt_5_9 (i := 17) rfl rfl
theorem k1280 : Cond.fieldLink RX11 115 "PondStairModel" "laterPlace" "I" ∈ gt := gt_5_9 (i := 18) rfl rfl
theorem k1278 : Cond.fieldLink RX11 109 "PondStairModel" "wrongAt" "I" ∈ gt := gt_5_9 (i := 16) rfl rfl
theorem k1281 : Cond.fieldLink RX11 122 "PondStairModel" "read" "I" ∈ gt := gt_5_9 (i := 19) rfl rfl
theorem k1417 : Cond.methodLink RX11 133 yX11_token ∈ gt := gt_6_5 (i := 11) rfl rfl
theorem k1419 : Cond.instanceMethod yX11_token ∈ gt := gt_6_5 (i := 13) rfl rfl
theorem k38 : Cond.selects RX11 yX11_token yX11_token ∈ gt := gs_3 (i := 6) rfl rfl
theorem k1420 : Cond.code yX11_token cX11_token 3 none ∈ gt := gt_6_5 (i := 14) rfl rfl
theorem np_X11_token : yX11_token.cls ≠ "java/lang/invoke/MethodHandle" ∧ yX11_token.cls ≠ "java/lang/invoke/VarHandle" ∧ (parseMethodDescriptor yX11_token.desc).map (fun d => d.parameters.length) = some 0 := ⟨cq_RX11.1, cq_RX11.2, pd_3⟩
theorem k1452 : Cond.methodLink RX11 125 yX11_later ∈ gt := gt_6_6 (i := 22) rfl rfl
theorem k1454 : Cond.instanceMethod yX11_later ∈ gt := gt_6_7 (i := 0) rfl rfl
theorem k43 : Cond.selects RX11 yX11_later yX11_later ∈ gt := gs_3 (i := 11) rfl rfl
theorem k1455 : Cond.code yX11_later cX11_later 3 none ∈ gt := gt_6_7 (i := 1) rfl rfl
theorem np_X11_later : yX11_later.cls ≠ "java/lang/invoke/MethodHandle" ∧ yX11_later.cls ≠ "java/lang/invoke/VarHandle" ∧ (parseMethodDescriptor yX11_later.desc).map (fun d => d.parameters.length) = some 2 := ⟨cq_RX11.1, cq_RX11.2, pd_13⟩
theorem k1282 : Cond.fieldLink RX11 129 "PondStairModel" "good" "Z" ∈ gt := gt_5_9 (i := 20) rfl rfl
theorem k1444 : Cond.methodLink RX11 118 yX11_stops ∈ gt := gt_6_6 (i := 14) rfl rfl
theorem k1446 : Cond.instanceMethod yX11_stops ∈ gt := gt_6_6 (i := 16) rfl rfl
theorem k41 : Cond.selects RX11 yX11_stops yX11_stops ∈ gt := gs_3 (i := 9) rfl rfl
theorem k1447 : Cond.code yX11_stops cX11_stops 1 (some .boolean) ∈ gt := gt_6_6 (i := 17) rfl rfl
theorem np_X11_stops : yX11_stops.cls ≠ "java/lang/invoke/MethodHandle" ∧ yX11_stops.cls ≠ "java/lang/invoke/VarHandle" ∧ (parseMethodDescriptor yX11_stops.desc).map (fun d => d.parameters.length) = some 0 := ⟨cq_RX11.1, cq_RX11.2, pd_4⟩
theorem k1460 : Cond.methodLink RX11 136 yX11_number ∈ gt := gt_6_7 (i := 6) rfl rfl
theorem k1462 : Cond.instanceMethod yX11_number ∈ gt := gt_6_7 (i := 8) rfl rfl
theorem k45 : Cond.selects RX11 yX11_number yX11_number ∈ gt := gs_3 (i := 13) rfl rfl
theorem k1463 : Cond.code yX11_number cX11_number 3 (some .boolean) ∈ gt := gt_6_7 (i := 9) rfl rfl
theorem np_X11_number : yX11_number.cls ≠ "java/lang/invoke/MethodHandle" ∧ yX11_number.cls ≠ "java/lang/invoke/VarHandle" ∧ (parseMethodDescriptor yX11_number.desc).map (fun d => d.parameters.length) = some 2 := ⟨cq_RX11.1, cq_RX11.2, pd_14⟩
theorem k1456 : Cond.methodLink RX11 140 yX11_take ∈ gt := gt_6_7 (i := 2) rfl rfl
theorem k1458 : Cond.instanceMethod yX11_take ∈ gt := gt_6_7 (i := 4) rfl rfl
theorem k44 : Cond.selects RX11 yX11_take yX11_take ∈ gt := gs_3 (i := 12) rfl rfl
theorem k1459 : Cond.code yX11_take cX11_take 5 (some .boolean) ∈ gt := gt_6_7 (i := 5) rfl rfl
theorem np_X11_take : yX11_take.cls ≠ "java/lang/invoke/MethodHandle" ∧ yX11_take.cls ≠ "java/lang/invoke/VarHandle" ∧ (parseMethodDescriptor yX11_take.desc).map (fun d => d.parameters.length) = some 3 := ⟨cq_RX11.1, cq_RX11.2, pd_18⟩
theorem k1429 : Cond.constantLong RX11 143 1835363940 ∈ gt := gt_6_5 (i := 23) rfl rfl
theorem k1430 : Cond.constantLong RX11 145 2003395685 ∈ gt := gt_6_6 (i := 0) rfl rfl
theorem k1431 : Cond.constantLong RX11 147 491496238692 ∈ gt := gt_6_6 (i := 1) rfl rfl
theorem k1432 : Cond.constantLong RX11 149 1685026670 ∈ gt := gt_6_6 (i := 2) rfl rfl
theorem k1433 : Cond.constantLong RX11 151 418548114533 ∈ gt := gt_6_6 (i := 3) rfl rfl
theorem k1434 : Cond.constantLong RX11 153 422607680115 ∈ gt := gt_6_6 (i := 4) rfl rfl
theorem k1435 : Cond.constantLong RX11 155 1735353715 ∈ gt := gt_6_6 (i := 5) rfl rfl
theorem k1436 : Cond.constantLong RX11 157 1751216749 ∈ gt := gt_6_6 (i := 6) rfl rfl
theorem k1437 : Cond.constantLong RX11 159 478745093490 ∈ gt := gt_6_6 (i := 7) rfl rfl
theorem k1438 : Cond.constantLong RX11 161 1919509349 ∈ gt := gt_6_6 (i := 8) rfl rfl
theorem k1439 : Cond.constantLong RX11 163 7823737 ∈ gt := gt_6_6 (i := 9) rfl rfl
theorem k1440 : Cond.constantLong RX11 165 1734440037 ∈ gt := gt_6_6 (i := 10) rfl rfl
theorem k1441 : Cond.constantLong RX11 167 1936287598 ∈ gt := gt_6_6 (i := 11) rfl rfl
theorem k1442 : Cond.constantLong RX11 169 1886350948 ∈ gt := gt_6_6 (i := 12) rfl rfl
theorem k1448 : Cond.methodLink RX11 173 yX11_pondLine ∈ gt := gt_6_6 (i := 18) rfl rfl
theorem k1450 : Cond.instanceMethod yX11_pondLine ∈ gt := gt_6_6 (i := 20) rfl rfl
theorem k42 : Cond.selects RX11 yX11_pondLine yX11_pondLine ∈ gt := gs_3 (i := 10) rfl rfl
theorem k1451 : Cond.code yX11_pondLine cX11_pondLine 5 (some .boolean) ∈ gt := gt_6_6 (i := 21) rfl rfl
theorem np_X11_pondLine : yX11_pondLine.cls ≠ "java/lang/invoke/MethodHandle" ∧ yX11_pondLine.cls ≠ "java/lang/invoke/VarHandle" ∧ (parseMethodDescriptor yX11_pondLine.desc).map (fun d => d.parameters.length) = some 1 := ⟨cq_RX11.1, cq_RX11.2, pd_10⟩
theorem k1443 : Cond.constantLong RX11 171 1918986606 ∈ gt := gt_6_6 (i := 13) rfl rfl
theorem k1472 : Cond.methodLink RX11 183 yX11_ofPond ∈ gt := gt_6_7 (i := 18) rfl rfl
theorem k1474 : Cond.instanceMethod yX11_ofPond ∈ gt := gt_6_7 (i := 20) rfl rfl
theorem k48 : Cond.selects RX11 yX11_ofPond yX11_ofPond ∈ gt := gs_4 (i := 0) rfl rfl
theorem k1475 : Cond.code yX11_ofPond cX11_ofPond 7 (some .boolean) ∈ gt := gt_6_7 (i := 21) rfl rfl
theorem np_X11_ofPond : yX11_ofPond.cls ≠ "java/lang/invoke/MethodHandle" ∧ yX11_ofPond.cls ≠ "java/lang/invoke/VarHandle" ∧ (parseMethodDescriptor yX11_ofPond.desc).map (fun d => d.parameters.length) = some 5 := ⟨cq_RX11.1, cq_RX11.2, pd_25⟩
theorem k1464 : Cond.methodLink RX11 177 yX11_rainLine ∈ gt := gt_6_7 (i := 10) rfl rfl
theorem k1466 : Cond.instanceMethod yX11_rainLine ∈ gt := gt_6_7 (i := 12) rfl rfl
theorem k46 : Cond.selects RX11 yX11_rainLine yX11_rainLine ∈ gt := gs_3 (i := 14) rfl rfl
theorem k1467 : Cond.code yX11_rainLine cX11_rainLine 3 (some .boolean) ∈ gt := gt_6_7 (i := 13) rfl rfl
theorem np_X11_rainLine : yX11_rainLine.cls ≠ "java/lang/invoke/MethodHandle" ∧ yX11_rainLine.cls ≠ "java/lang/invoke/VarHandle" ∧ (parseMethodDescriptor yX11_rainLine.desc).map (fun d => d.parameters.length) = some 1 := ⟨cq_RX11.1, cq_RX11.2, pd_10⟩
theorem k1468 : Cond.methodLink RX11 180 yX11_daysLine ∈ gt := gt_6_7 (i := 14) rfl rfl
theorem k1470 : Cond.instanceMethod yX11_daysLine ∈ gt := gt_6_7 (i := 16) rfl rfl
theorem k47 : Cond.selects RX11 yX11_daysLine yX11_daysLine ∈ gt := gs_3 (i := 15) rfl rfl
theorem k1471 : Cond.code yX11_daysLine cX11_daysLine 3 (some .boolean) ∈ gt := gt_6_7 (i := 17) rfl rfl
theorem np_X11_daysLine : yX11_daysLine.cls ≠ "java/lang/invoke/MethodHandle" ∧ yX11_daysLine.cls ≠ "java/lang/invoke/VarHandle" ∧ (parseMethodDescriptor yX11_daysLine.desc).map (fun d => d.parameters.length) = some 1 := ⟨cq_RX11.1, cq_RX11.2, pd_10⟩
theorem k1480 : Cond.constantLong RX11 187 7106423 ∈ gt := gt_6_8 (i := 2) rfl rfl
theorem k1481 : Cond.constantLong RX11 189 512869295470 ∈ gt := gt_6_8 (i := 3) rfl rfl
theorem k1482 : Cond.constantLong RX11 191 7304564 ∈ gt := gt_6_8 (i := 4) rfl rfl
theorem dX11_later_0 : decode cX11_later 0 = .ok (.aload_n 0, 1) := dqn_42 (k := 41) qh_cX11_later rfl rfl
theorem dX11_later_1 : decode cX11_later 1 = .ok (.getfield 112, 3) := dqn_180 (k := 38) qh_cX11_later rfl rfl rfl
theorem dX11_later_4 : decode cX11_later 4 = .ok (.ifCond .eq 27, 3) := dqn_153 (k := 35) (u := 27) qh_cX11_later rfl rfl rfl (sg_p rfl rfl)
theorem dX11_later_7 : decode cX11_later 7 = .ok (.iload_n 2, 1) := dqn_28 (k := 34) qh_cX11_later rfl rfl
theorem dX11_later_8 : decode cX11_later 8 = .ok (.aload_n 0, 1) := dqn_42 (k := 33) qh_cX11_later rfl rfl
theorem dX11_later_9 : decode cX11_later 9 = .ok (.getfield 115, 3) := dqn_180 (k := 30) qh_cX11_later rfl rfl rfl
theorem dX11_later_12 : decode cX11_later 12 = .ok (.if_icmp .lt 19, 3) := dqn_161 (k := 27) (u := 19) qh_cX11_later rfl rfl rfl (sg_p rfl rfl)
theorem dX11_later_15 : decode cX11_later 15 = .ok (.iload_n 2, 1) := dqn_28 (k := 26) qh_cX11_later rfl rfl
theorem dX11_later_16 : decode cX11_later 16 = .ok (.aload_n 0, 1) := dqn_42 (k := 25) qh_cX11_later rfl rfl
theorem dX11_later_17 : decode cX11_later 17 = .ok (.getfield 115, 3) := dqn_180 (k := 22) qh_cX11_later rfl rfl rfl
theorem dX11_later_20 : decode cX11_later 20 = .ok (.if_icmp .ne 21, 3) := dqn_160 (k := 19) (u := 21) qh_cX11_later rfl rfl rfl (sg_p rfl rfl)
theorem dX11_later_23 : decode cX11_later 23 = .ok (.iload_n 1, 1) := dqn_27 (k := 18) qh_cX11_later rfl rfl
theorem dX11_later_24 : decode cX11_later 24 = .ok (.aload_n 0, 1) := dqn_42 (k := 17) qh_cX11_later rfl rfl
theorem dX11_later_25 : decode cX11_later 25 = .ok (.getfield 112, 3) := dqn_180 (k := 14) qh_cX11_later rfl rfl rfl
theorem dX11_later_28 : decode cX11_later 28 = .ok (.if_icmp .ge 13, 3) := dqn_162 (k := 11) (u := 13) qh_cX11_later rfl rfl rfl (sg_p rfl rfl)
theorem dX11_later_31 : decode cX11_later 31 = .ok (.aload_n 0, 1) := dqn_42 (k := 10) qh_cX11_later rfl rfl
theorem dX11_later_32 : decode cX11_later 32 = .ok (.iload_n 1, 1) := dqn_27 (k := 9) qh_cX11_later rfl rfl
theorem dX11_later_33 : decode cX11_later 33 = .ok (.putfield 112, 3) := dqn_181 (k := 6) qh_cX11_later rfl rfl rfl
theorem dX11_later_36 : decode cX11_later 36 = .ok (.aload_n 0, 1) := dqn_42 (k := 5) qh_cX11_later rfl rfl
theorem dX11_later_37 : decode cX11_later 37 = .ok (.iload_n 2, 1) := dqn_28 (k := 4) qh_cX11_later rfl rfl
theorem dX11_later_38 : decode cX11_later 38 = .ok (.putfield 115, 3) := dqn_181 (k := 1) qh_cX11_later rfl rfl rfl
theorem dX11_later_41 : decode cX11_later 41 = .ok (.return_, 1) := dqn_177 (k := 0) qh_cX11_later rfl rfl
theorem dX11_stops_0 : decode cX11_stops 0 = .ok (.aload_n 0, 1) := dqn_42 (k := 9) qh_cX11_stops rfl rfl
theorem dX11_stops_1 : decode cX11_stops 1 = .ok (.aload_n 0, 1) := dqn_42 (k := 8) qh_cX11_stops rfl rfl
theorem dX11_stops_2 : decode cX11_stops 2 = .ok (.getfield 96, 3) := dqn_180 (k := 5) qh_cX11_stops rfl rfl rfl
theorem dX11_stops_5 : decode cX11_stops 5 = .ok (.putfield 109, 3) := dqn_181 (k := 2) qh_cX11_stops rfl rfl rfl
theorem dX11_stops_8 : decode cX11_stops 8 = .ok (.iconst 0, 1) := dqn_3 (k := 1) qh_cX11_stops rfl rfl
theorem dX11_stops_9 : decode cX11_stops 9 = .ok (.ireturn, 1) := dqn_172 (k := 0) qh_cX11_stops rfl rfl
theorem dX11_number_0 : decode cX11_number 0 = .ok (.aload_n 0, 1) := dqn_42 (k := 52) qh_cX11_number rfl rfl
theorem dX11_number_1 : decode cX11_number 1 = .ok (.getfield 103, 3) := dqn_180 (k := 49) qh_cX11_number rfl rfl rfl
theorem dX11_number_4 : decode cX11_number 4 = .ok (.iconst 3, 1) := dqn_6 (k := 48) qh_cX11_number rfl rfl
theorem dX11_number_5 : decode cX11_number 5 = .ok (.if_icmp .eq 8, 3) := dqn_159 (k := 45) (u := 8) qh_cX11_number rfl rfl rfl (sg_p rfl rfl)
theorem dX11_number_8 : decode cX11_number 8 = .ok (.aload_n 0, 1) := dqn_42 (k := 44) qh_cX11_number rfl rfl
theorem dX11_number_9 : decode cX11_number 9 = .ok (.invokevirtual 118, 3) := dqn_182 (k := 41) qh_cX11_number rfl rfl rfl
theorem dX11_number_12 : decode cX11_number 12 = .ok (.ireturn, 1) := dqn_172 (k := 40) qh_cX11_number rfl rfl
theorem dX11_number_13 : decode cX11_number 13 = .ok (.aload_n 0, 1) := dqn_42 (k := 39) qh_cX11_number rfl rfl
theorem dX11_number_14 : decode cX11_number 14 = .ok (.aload_n 0, 1) := dqn_42 (k := 38) qh_cX11_number rfl rfl
theorem dX11_number_15 : decode cX11_number 15 = .ok (.getfield 106, 3) := dqn_180 (k := 35) qh_cX11_number rfl rfl rfl
theorem dX11_number_18 : decode cX11_number 18 = .ok (.putfield 122, 3) := dqn_181 (k := 32) qh_cX11_number rfl rfl rfl
theorem dX11_number_21 : decode cX11_number 21 = .ok (.aload_n 0, 1) := dqn_42 (k := 31) qh_cX11_number rfl rfl
theorem dX11_number_22 : decode cX11_number 22 = .ok (.getfield 106, 3) := dqn_180 (k := 28) qh_cX11_number rfl rfl rfl
theorem dX11_number_25 : decode cX11_number 25 = .ok (.iload_n 1, 1) := dqn_27 (k := 27) qh_cX11_number rfl rfl
theorem dX11_number_26 : decode cX11_number 26 = .ok (.iload_n 2, 1) := dqn_28 (k := 26) qh_cX11_number rfl rfl
theorem dX11_number_27 : decode cX11_number 27 = .ok (.invokestatic 78, 3) := dqn_184 (k := 23) qh_cX11_number rfl rfl rfl
theorem dX11_number_30 : decode cX11_number 30 = .ok (.ifCond .ne 17, 3) := dqn_154 (k := 20) (u := 17) qh_cX11_number rfl rfl rfl (sg_p rfl rfl)
theorem dX11_number_33 : decode cX11_number 33 = .ok (.aload_n 0, 1) := dqn_42 (k := 19) qh_cX11_number rfl rfl
theorem dX11_number_34 : decode cX11_number 34 = .ok (.iconst 2, 1) := dqn_5 (k := 18) qh_cX11_number rfl rfl
theorem dX11_number_35 : decode cX11_number 35 = .ok (.aload_n 0, 1) := dqn_42 (k := 17) qh_cX11_number rfl rfl
theorem dX11_number_36 : decode cX11_number 36 = .ok (.getfield 96, 3) := dqn_180 (k := 14) qh_cX11_number rfl rfl rfl
theorem dX11_number_39 : decode cX11_number 39 = .ok (.invokevirtual 125, 3) := dqn_182 (k := 11) qh_cX11_number rfl rfl rfl
theorem dX11_number_42 : decode cX11_number 42 = .ok (.aload_n 0, 1) := dqn_42 (k := 10) qh_cX11_number rfl rfl
theorem dX11_number_43 : decode cX11_number 43 = .ok (.iconst 0, 1) := dqn_3 (k := 9) qh_cX11_number rfl rfl
theorem dX11_number_44 : decode cX11_number 44 = .ok (.putfield 129, 3) := dqn_181 (k := 6) qh_cX11_number rfl rfl rfl
theorem dX11_number_47 : decode cX11_number 47 = .ok (.aload_n 0, 1) := dqn_42 (k := 5) qh_cX11_number rfl rfl
theorem dX11_number_48 : decode cX11_number 48 = .ok (.invokevirtual 133, 3) := dqn_182 (k := 2) qh_cX11_number rfl rfl rfl
theorem dX11_number_51 : decode cX11_number 51 = .ok (.iconst 1, 1) := dqn_4 (k := 1) qh_cX11_number rfl rfl
theorem dX11_number_52 : decode cX11_number 52 = .ok (.ireturn, 1) := dqn_172 (k := 0) qh_cX11_number rfl rfl
theorem dX11_take_0 : decode cX11_take 0 = .ok (.aload_n 0, 1) := dqn_42 (k := 20) qh_cX11_take rfl rfl
theorem dX11_take_1 : decode cX11_take 1 = .ok (.iload_n 2, 1) := dqn_28 (k := 19) qh_cX11_take rfl rfl
theorem dX11_take_2 : decode cX11_take 2 = .ok (.iload_n 3, 1) := dqn_29 (k := 18) qh_cX11_take rfl rfl
theorem dX11_take_3 : decode cX11_take 3 = .ok (.invokevirtual 136, 3) := dqn_182 (k := 15) qh_cX11_take rfl rfl rfl
theorem dX11_take_6 : decode cX11_take 6 = .ok (.istore 4, 2) := dqn_54 (k := 13) qh_cX11_take rfl rfl rfl
theorem dX11_take_8 : decode cX11_take 8 = .ok (.aload_n 0, 1) := dqn_42 (k := 12) qh_cX11_take rfl rfl
theorem dX11_take_9 : decode cX11_take 9 = .ok (.getfield 35, 3) := dqn_180 (k := 9) qh_cX11_take rfl rfl rfl
theorem dX11_take_12 : decode cX11_take 12 = .ok (.iload_n 1, 1) := dqn_27 (k := 8) qh_cX11_take rfl rfl
theorem dX11_take_13 : decode cX11_take 13 = .ok (.aload_n 0, 1) := dqn_42 (k := 7) qh_cX11_take rfl rfl
theorem dX11_take_14 : decode cX11_take 14 = .ok (.getfield 122, 3) := dqn_180 (k := 4) qh_cX11_take rfl rfl rfl
theorem dX11_take_17 : decode cX11_take 17 = .ok (.iastore, 1) := dqn_79 (k := 3) qh_cX11_take rfl rfl
theorem dX11_take_18 : decode cX11_take 18 = .ok (.iload 4, 2) := dqn_21 (k := 1) qh_cX11_take rfl rfl rfl
theorem dX11_take_20 : decode cX11_take 20 = .ok (.ireturn, 1) := dqn_172 (k := 0) qh_cX11_take rfl rfl
theorem dX11_pondLine_0 : decode cX11_pondLine 0 = .ok (.aload_n 0, 1) := dqn_42 (k := 166) qh_cX11_pondLine rfl rfl
theorem dX11_pondLine_1 : decode cX11_pondLine 1 = .ok (.getfield 32, 3) := dqn_180 (k := 163) qh_cX11_pondLine rfl rfl rfl
theorem dX11_pondLine_4 : decode cX11_pondLine 4 = .ok (.iconst 0, 1) := dqn_3 (k := 162) qh_cX11_pondLine rfl rfl
theorem dX11_pondLine_5 : decode cX11_pondLine 5 = .ok (.iaload, 1) := dqn_46 (k := 161) qh_cX11_pondLine rfl rfl
theorem dX11_pondLine_6 : decode cX11_pondLine 6 = .ok (.istore_n 2, 1) := dqn_61 (k := 160) qh_cX11_pondLine rfl rfl
theorem dX11_pondLine_7 : decode cX11_pondLine 7 = .ok (.iload_n 2, 1) := dqn_28 (k := 159) qh_cX11_pondLine rfl rfl
theorem dX11_pondLine_8 : decode cX11_pondLine 8 = .ok (.bipush 9, 2) := dqn_16 (k := 157) (u := 9) qh_cX11_pondLine rfl rfl rfl (by decide)
theorem dX11_pondLine_10 : decode cX11_pondLine 10 = .ok (.if_icmp .ne 9, 3) := dqn_160 (k := 154) (u := 9) qh_cX11_pondLine rfl rfl rfl (sg_p rfl rfl)
theorem dX11_pondLine_13 : decode cX11_pondLine 13 = .ok (.aload_n 0, 1) := dqn_42 (k := 153) qh_cX11_pondLine rfl rfl
theorem dX11_pondLine_14 : decode cX11_pondLine 14 = .ok (.iconst 3, 1) := dqn_6 (k := 152) qh_cX11_pondLine rfl rfl
theorem dX11_pondLine_15 : decode cX11_pondLine 15 = .ok (.iload_n 1, 1) := dqn_27 (k := 151) qh_cX11_pondLine rfl rfl
theorem dX11_pondLine_16 : decode cX11_pondLine 16 = .ok (.invokevirtual 125, 3) := dqn_182 (k := 148) qh_cX11_pondLine rfl rfl rfl
theorem dX11_pondLine_19 : decode cX11_pondLine 19 = .ok (.aload_n 0, 1) := dqn_42 (k := 147) qh_cX11_pondLine rfl rfl
theorem dX11_pondLine_20 : decode cX11_pondLine 20 = .ok (.iconst 0, 1) := dqn_3 (k := 146) qh_cX11_pondLine rfl rfl
theorem dX11_pondLine_21 : decode cX11_pondLine 21 = .ok (.iconst 0, 1) := dqn_3 (k := 145) qh_cX11_pondLine rfl rfl
theorem dX11_pondLine_22 : decode cX11_pondLine 22 = .ok (.bipush 24, 2) := dqn_16 (k := 143) (u := 24) qh_cX11_pondLine rfl rfl rfl (by decide)
theorem dX11_pondLine_24 : decode cX11_pondLine 24 = .ok (.invokevirtual 140, 3) := dqn_182 (k := 140) qh_cX11_pondLine rfl rfl rfl
theorem dX11_pondLine_27 : decode cX11_pondLine 27 = .ok (.ifCond .eq 45, 3) := dqn_153 (k := 137) (u := 45) qh_cX11_pondLine rfl rfl rfl (sg_p rfl rfl)
theorem dX11_pondLine_30 : decode cX11_pondLine 30 = .ok (.aload_n 0, 1) := dqn_42 (k := 136) qh_cX11_pondLine rfl rfl
theorem dX11_pondLine_31 : decode cX11_pondLine 31 = .ok (.iconst 1, 1) := dqn_4 (k := 135) qh_cX11_pondLine rfl rfl
theorem dX11_pondLine_32 : decode cX11_pondLine 32 = .ok (.iconst 0, 1) := dqn_3 (k := 134) qh_cX11_pondLine rfl rfl
theorem dX11_pondLine_33 : decode cX11_pondLine 33 = .ok (.aload_n 0, 1) := dqn_42 (k := 133) qh_cX11_pondLine rfl rfl
theorem dX11_pondLine_34 : decode cX11_pondLine 34 = .ok (.getfield 35, 3) := dqn_180 (k := 130) qh_cX11_pondLine rfl rfl rfl
theorem dX11_pondLine_37 : decode cX11_pondLine 37 = .ok (.iconst 0, 1) := dqn_3 (k := 129) qh_cX11_pondLine rfl rfl
theorem dX11_pondLine_38 : decode cX11_pondLine 38 = .ok (.iaload, 1) := dqn_46 (k := 128) qh_cX11_pondLine rfl rfl
theorem dX11_pondLine_39 : decode cX11_pondLine 39 = .ok (.bipush 24, 2) := dqn_16 (k := 126) (u := 24) qh_cX11_pondLine rfl rfl rfl (by decide)
theorem dX11_pondLine_41 : decode cX11_pondLine 41 = .ok (.if_icmp .ge 12, 3) := dqn_162 (k := 123) (u := 12) qh_cX11_pondLine rfl rfl rfl (sg_p rfl rfl)
theorem dX11_pondLine_44 : decode cX11_pondLine 44 = .ok (.aload_n 0, 1) := dqn_42 (k := 122) qh_cX11_pondLine rfl rfl
theorem dX11_pondLine_45 : decode cX11_pondLine 45 = .ok (.getfield 35, 3) := dqn_180 (k := 119) qh_cX11_pondLine rfl rfl rfl
theorem dX11_pondLine_48 : decode cX11_pondLine 48 = .ok (.iconst 0, 1) := dqn_3 (k := 118) qh_cX11_pondLine rfl rfl
theorem dX11_pondLine_49 : decode cX11_pondLine 49 = .ok (.iaload, 1) := dqn_46 (k := 117) qh_cX11_pondLine rfl rfl
theorem dX11_pondLine_50 : decode cX11_pondLine 50 = .ok (.goto 5, 3) := dqn_167 (k := 114) (u := 5) qh_cX11_pondLine rfl rfl rfl (sg_p rfl rfl)
theorem dX11_pondLine_53 : decode cX11_pondLine 53 = .ok (.bipush 24, 2) := dqn_16 (k := 112) (u := 24) qh_cX11_pondLine rfl rfl rfl (by decide)
theorem dX11_pondLine_55 : decode cX11_pondLine 55 = .ok (.invokevirtual 140, 3) := dqn_182 (k := 109) qh_cX11_pondLine rfl rfl rfl
theorem dX11_pondLine_58 : decode cX11_pondLine 58 = .ok (.ifCond .eq 14, 3) := dqn_153 (k := 106) (u := 14) qh_cX11_pondLine rfl rfl rfl (sg_p rfl rfl)
theorem dX11_pondLine_61 : decode cX11_pondLine 61 = .ok (.aload_n 0, 1) := dqn_42 (k := 105) qh_cX11_pondLine rfl rfl
theorem dX11_pondLine_62 : decode cX11_pondLine 62 = .ok (.iconst 2, 1) := dqn_5 (k := 104) qh_cX11_pondLine rfl rfl
theorem dX11_pondLine_63 : decode cX11_pondLine 63 = .ok (.iconst 0, 1) := dqn_3 (k := 103) qh_cX11_pondLine rfl rfl
theorem dX11_pondLine_64 : decode cX11_pondLine 64 = .ok (.bipush 9, 2) := dqn_16 (k := 101) (u := 9) qh_cX11_pondLine rfl rfl rfl (by decide)
theorem dX11_pondLine_66 : decode cX11_pondLine 66 = .ok (.invokevirtual 140, 3) := dqn_182 (k := 98) qh_cX11_pondLine rfl rfl rfl
theorem dX11_pondLine_69 : decode cX11_pondLine 69 = .ok (.ifCond .ne 5, 3) := dqn_154 (k := 95) (u := 5) qh_cX11_pondLine rfl rfl rfl (sg_p rfl rfl)
theorem dX11_pondLine_72 : decode cX11_pondLine 72 = .ok (.iconst 0, 1) := dqn_3 (k := 94) qh_cX11_pondLine rfl rfl
theorem dX11_pondLine_73 : decode cX11_pondLine 73 = .ok (.ireturn, 1) := dqn_172 (k := 93) qh_cX11_pondLine rfl rfl
theorem dX11_pondLine_74 : decode cX11_pondLine 74 = .ok (.iload_n 2, 1) := dqn_28 (k := 92) qh_cX11_pondLine rfl rfl
theorem dX11_pondLine_75 : decode cX11_pondLine 75 = .ok (.bipush 9, 2) := dqn_16 (k := 90) (u := 9) qh_cX11_pondLine rfl rfl rfl (by decide)
theorem dX11_pondLine_77 : decode cX11_pondLine 77 = .ok (.if_icmp .ge 88, 3) := dqn_162 (k := 87) (u := 88) qh_cX11_pondLine rfl rfl rfl (sg_p rfl rfl)
theorem dX11_pondLine_80 : decode cX11_pondLine 80 = .ok (.bipush 13, 2) := dqn_16 (k := 85) (u := 13) qh_cX11_pondLine rfl rfl rfl (by decide)
theorem dX11_pondLine_82 : decode cX11_pondLine 82 = .ok (.bipush 16, 2) := dqn_16 (k := 83) (u := 16) qh_cX11_pondLine rfl rfl rfl (by decide)
theorem dX11_pondLine_84 : decode cX11_pondLine 84 = .ok (.iload_n 2, 1) := dqn_28 (k := 82) qh_cX11_pondLine rfl rfl
theorem dX11_pondLine_85 : decode cX11_pondLine 85 = .ok (.imul, 1) := dqn_104 (k := 81) qh_cX11_pondLine rfl rfl
theorem dX11_pondLine_86 : decode cX11_pondLine 86 = .ok (.iadd, 1) := dqn_96 (k := 80) qh_cX11_pondLine rfl rfl
theorem dX11_pondLine_87 : decode cX11_pondLine 87 = .ok (.istore_n 3, 1) := dqn_62 (k := 79) qh_cX11_pondLine rfl rfl
theorem dX11_pondLine_88 : decode cX11_pondLine 88 = .ok (.iconst 0, 1) := dqn_3 (k := 78) qh_cX11_pondLine rfl rfl
theorem dX11_pondLine_89 : decode cX11_pondLine 89 = .ok (.istore 4, 2) := dqn_54 (k := 76) qh_cX11_pondLine rfl rfl rfl
theorem dX11_pondLine_91 : decode cX11_pondLine 91 = .ok (.iload 4, 2) := dqn_21 (k := 74) qh_cX11_pondLine rfl rfl rfl
theorem dX11_pondLine_93 : decode cX11_pondLine 93 = .ok (.bipush 16, 2) := dqn_16 (k := 72) (u := 16) qh_cX11_pondLine rfl rfl rfl (by decide)
theorem dX11_pondLine_95 : decode cX11_pondLine 95 = .ok (.if_icmp .ge 60, 3) := dqn_162 (k := 69) (u := 60) qh_cX11_pondLine rfl rfl rfl (sg_p rfl rfl)
theorem dX11_pondLine_98 : decode cX11_pondLine 98 = .ok (.aload_n 0, 1) := dqn_42 (k := 68) qh_cX11_pondLine rfl rfl
theorem dX11_pondLine_99 : decode cX11_pondLine 99 = .ok (.getfield 32, 3) := dqn_180 (k := 65) qh_cX11_pondLine rfl rfl rfl
theorem dX11_pondLine_102 : decode cX11_pondLine 102 = .ok (.iload_n 3, 1) := dqn_29 (k := 64) qh_cX11_pondLine rfl rfl
theorem dX11_pondLine_103 : decode cX11_pondLine 103 = .ok (.iload 4, 2) := dqn_21 (k := 62) qh_cX11_pondLine rfl rfl rfl
theorem dX11_pondLine_105 : decode cX11_pondLine 105 = .ok (.iadd, 1) := dqn_96 (k := 61) qh_cX11_pondLine rfl rfl
theorem dX11_pondLine_106 : decode cX11_pondLine 106 = .ok (.iload 4, 2) := dqn_21 (k := 59) qh_cX11_pondLine rfl rfl rfl
theorem dX11_pondLine_108 : decode cX11_pondLine 108 = .ok (.iconst 3, 1) := dqn_6 (k := 58) qh_cX11_pondLine rfl rfl
theorem dX11_pondLine_109 : decode cX11_pondLine 109 = .ok (.if_icmp .ge 13, 3) := dqn_162 (k := 55) (u := 13) qh_cX11_pondLine rfl rfl rfl (sg_p rfl rfl)
theorem dX11_pondLine_112 : decode cX11_pondLine 112 = .ok (.aload_n 0, 1) := dqn_42 (k := 54) qh_cX11_pondLine rfl rfl
theorem dX11_pondLine_113 : decode cX11_pondLine 113 = .ok (.getfield 35, 3) := dqn_180 (k := 51) qh_cX11_pondLine rfl rfl rfl
theorem dX11_pondLine_116 : decode cX11_pondLine 116 = .ok (.iload 4, 2) := dqn_21 (k := 49) qh_cX11_pondLine rfl rfl rfl
theorem dX11_pondLine_118 : decode cX11_pondLine 118 = .ok (.iaload, 1) := dqn_46 (k := 48) qh_cX11_pondLine rfl rfl
theorem dX11_pondLine_119 : decode cX11_pondLine 119 = .ok (.goto 29, 3) := dqn_167 (k := 45) (u := 29) qh_cX11_pondLine rfl rfl rfl (sg_p rfl rfl)
theorem dX11_pondLine_122 : decode cX11_pondLine 122 = .ok (.iload 4, 2) := dqn_21 (k := 43) qh_cX11_pondLine rfl rfl rfl
theorem dX11_pondLine_124 : decode cX11_pondLine 124 = .ok (.bipush 8, 2) := dqn_16 (k := 41) (u := 8) qh_cX11_pondLine rfl rfl rfl (by decide)
theorem dX11_pondLine_126 : decode cX11_pondLine 126 = .ok (.if_icmp .eq 17, 3) := dqn_159 (k := 38) (u := 17) qh_cX11_pondLine rfl rfl rfl (sg_p rfl rfl)
theorem dX11_pondLine_129 : decode cX11_pondLine 129 = .ok (.iload 4, 2) := dqn_21 (k := 36) qh_cX11_pondLine rfl rfl rfl
theorem dX11_pondLine_131 : decode cX11_pondLine 131 = .ok (.bipush 9, 2) := dqn_16 (k := 34) (u := 9) qh_cX11_pondLine rfl rfl rfl (by decide)
theorem dX11_pondLine_133 : decode cX11_pondLine 133 = .ok (.if_icmp .eq 10, 3) := dqn_159 (k := 31) (u := 10) qh_cX11_pondLine rfl rfl rfl (sg_p rfl rfl)
theorem dX11_pondLine_136 : decode cX11_pondLine 136 = .ok (.iload 4, 2) := dqn_21 (k := 29) qh_cX11_pondLine rfl rfl rfl
theorem dX11_pondLine_138 : decode cX11_pondLine 138 = .ok (.bipush 12, 2) := dqn_16 (k := 27) (u := 12) qh_cX11_pondLine rfl rfl rfl (by decide)
theorem dX11_pondLine_140 : decode cX11_pondLine 140 = .ok (.if_icmp .ne 7, 3) := dqn_160 (k := 24) (u := 7) qh_cX11_pondLine rfl rfl rfl (sg_p rfl rfl)
theorem dX11_pondLine_143 : decode cX11_pondLine 143 = .ok (.iconst (-1), 1) := dqn_2 (k := 23) qh_cX11_pondLine rfl rfl
theorem dX11_pondLine_144 : decode cX11_pondLine 144 = .ok (.goto 4, 3) := dqn_167 (k := 20) (u := 4) qh_cX11_pondLine rfl rfl rfl (sg_p rfl rfl)
theorem dX11_pondLine_147 : decode cX11_pondLine 147 = .ok (.iconst 0, 1) := dqn_3 (k := 19) qh_cX11_pondLine rfl rfl
theorem dX11_pondLine_148 : decode cX11_pondLine 148 = .ok (.iastore, 1) := dqn_79 (k := 18) qh_cX11_pondLine rfl rfl
theorem dX11_pondLine_149 : decode cX11_pondLine 149 = .ok (.iinc 4 1, 3) := dqn_132 (k := 15) (u := 1) qh_cX11_pondLine rfl rfl rfl rfl (by decide)
theorem dX11_pondLine_152 : decode cX11_pondLine 152 = .ok (.goto (-61), 3) := dqn_167 (k := 12) (u := 65475) qh_cX11_pondLine rfl rfl rfl (sg_n (k := 61) rfl rfl rfl)
theorem dX11_pondLine_155 : decode cX11_pondLine 155 = .ok (.aload_n 0, 1) := dqn_42 (k := 11) qh_cX11_pondLine rfl rfl
theorem dX11_pondLine_156 : decode cX11_pondLine 156 = .ok (.getfield 32, 3) := dqn_180 (k := 8) qh_cX11_pondLine rfl rfl rfl
theorem dX11_pondLine_159 : decode cX11_pondLine 159 = .ok (.iconst 0, 1) := dqn_3 (k := 7) qh_cX11_pondLine rfl rfl
theorem dX11_pondLine_160 : decode cX11_pondLine 160 = .ok (.dup2, 1) := dqn_92 (k := 6) qh_cX11_pondLine rfl rfl
theorem dX11_pondLine_161 : decode cX11_pondLine 161 = .ok (.iaload, 1) := dqn_46 (k := 5) qh_cX11_pondLine rfl rfl
theorem dX11_pondLine_162 : decode cX11_pondLine 162 = .ok (.iconst 1, 1) := dqn_4 (k := 4) qh_cX11_pondLine rfl rfl
theorem dX11_pondLine_163 : decode cX11_pondLine 163 = .ok (.iadd, 1) := dqn_96 (k := 3) qh_cX11_pondLine rfl rfl
theorem dX11_pondLine_164 : decode cX11_pondLine 164 = .ok (.iastore, 1) := dqn_79 (k := 2) qh_cX11_pondLine rfl rfl
theorem dX11_pondLine_165 : decode cX11_pondLine 165 = .ok (.iconst 1, 1) := dqn_4 (k := 1) qh_cX11_pondLine rfl rfl
theorem dX11_pondLine_166 : decode cX11_pondLine 166 = .ok (.ireturn, 1) := dqn_172 (k := 0) qh_cX11_pondLine rfl rfl
theorem dX11_rainLine_0 : decode cX11_rainLine 0 = .ok (.aload_n 0, 1) := dqn_42 (k := 92) qh_cX11_rainLine rfl rfl
theorem dX11_rainLine_1 : decode cX11_rainLine 1 = .ok (.getfield 32, 3) := dqn_180 (k := 89) qh_cX11_rainLine rfl rfl rfl
theorem dX11_rainLine_4 : decode cX11_rainLine 4 = .ok (.iconst 1, 1) := dqn_4 (k := 88) qh_cX11_rainLine rfl rfl
theorem dX11_rainLine_5 : decode cX11_rainLine 5 = .ok (.iaload, 1) := dqn_46 (k := 87) qh_cX11_rainLine rfl rfl
theorem dX11_rainLine_6 : decode cX11_rainLine 6 = .ok (.istore_n 2, 1) := dqn_61 (k := 86) qh_cX11_rainLine rfl rfl
theorem dX11_rainLine_7 : decode cX11_rainLine 7 = .ok (.iload_n 2, 1) := dqn_28 (k := 85) qh_cX11_rainLine rfl rfl
theorem dX11_rainLine_8 : decode cX11_rainLine 8 = .ok (.iconst 4, 1) := dqn_7 (k := 84) qh_cX11_rainLine rfl rfl
theorem dX11_rainLine_9 : decode cX11_rainLine 9 = .ok (.if_icmp .ne 9, 3) := dqn_160 (k := 81) (u := 9) qh_cX11_rainLine rfl rfl rfl (sg_p rfl rfl)
theorem dX11_rainLine_12 : decode cX11_rainLine 12 = .ok (.aload_n 0, 1) := dqn_42 (k := 80) qh_cX11_rainLine rfl rfl
theorem dX11_rainLine_13 : decode cX11_rainLine 13 = .ok (.iconst 3, 1) := dqn_6 (k := 79) qh_cX11_rainLine rfl rfl
theorem dX11_rainLine_14 : decode cX11_rainLine 14 = .ok (.iload_n 1, 1) := dqn_27 (k := 78) qh_cX11_rainLine rfl rfl
theorem dX11_rainLine_15 : decode cX11_rainLine 15 = .ok (.invokevirtual 125, 3) := dqn_182 (k := 75) qh_cX11_rainLine rfl rfl rfl
theorem dX11_rainLine_18 : decode cX11_rainLine 18 = .ok (.aload_n 0, 1) := dqn_42 (k := 74) qh_cX11_rainLine rfl rfl
theorem dX11_rainLine_19 : decode cX11_rainLine 19 = .ok (.iconst 0, 1) := dqn_3 (k := 73) qh_cX11_rainLine rfl rfl
theorem dX11_rainLine_20 : decode cX11_rainLine 20 = .ok (.iconst 0, 1) := dqn_3 (k := 72) qh_cX11_rainLine rfl rfl
theorem dX11_rainLine_21 : decode cX11_rainLine 21 = .ok (.bipush 9, 2) := dqn_16 (k := 70) (u := 9) qh_cX11_rainLine rfl rfl rfl (by decide)
theorem dX11_rainLine_23 : decode cX11_rainLine 23 = .ok (.invokevirtual 140, 3) := dqn_182 (k := 67) qh_cX11_rainLine rfl rfl rfl
theorem dX11_rainLine_26 : decode cX11_rainLine 26 = .ok (.ifCond .eq 14, 3) := dqn_153 (k := 64) (u := 14) qh_cX11_rainLine rfl rfl rfl (sg_p rfl rfl)
theorem dX11_rainLine_29 : decode cX11_rainLine 29 = .ok (.aload_n 0, 1) := dqn_42 (k := 63) qh_cX11_rainLine rfl rfl
theorem dX11_rainLine_30 : decode cX11_rainLine 30 = .ok (.iconst 1, 1) := dqn_4 (k := 62) qh_cX11_rainLine rfl rfl
theorem dX11_rainLine_31 : decode cX11_rainLine 31 = .ok (.iconst 0, 1) := dqn_3 (k := 61) qh_cX11_rainLine rfl rfl
theorem dX11_rainLine_32 : decode cX11_rainLine 32 = .ok (.bipush 100, 2) := dqn_16 (k := 59) (u := 100) qh_cX11_rainLine rfl rfl rfl (by decide)
theorem dX11_rainLine_34 : decode cX11_rainLine 34 = .ok (.invokevirtual 140, 3) := dqn_182 (k := 56) qh_cX11_rainLine rfl rfl rfl
theorem dX11_rainLine_37 : decode cX11_rainLine 37 = .ok (.ifCond .ne 5, 3) := dqn_154 (k := 53) (u := 5) qh_cX11_rainLine rfl rfl rfl (sg_p rfl rfl)
theorem dX11_rainLine_40 : decode cX11_rainLine 40 = .ok (.iconst 0, 1) := dqn_3 (k := 52) qh_cX11_rainLine rfl rfl
theorem dX11_rainLine_41 : decode cX11_rainLine 41 = .ok (.ireturn, 1) := dqn_172 (k := 51) qh_cX11_rainLine rfl rfl
theorem dX11_rainLine_42 : decode cX11_rainLine 42 = .ok (.iload_n 2, 1) := dqn_28 (k := 50) qh_cX11_rainLine rfl rfl
theorem dX11_rainLine_43 : decode cX11_rainLine 43 = .ok (.iconst 4, 1) := dqn_7 (k := 49) qh_cX11_rainLine rfl rfl
theorem dX11_rainLine_44 : decode cX11_rainLine 44 = .ok (.if_icmp .ge 47, 3) := dqn_162 (k := 46) (u := 47) qh_cX11_rainLine rfl rfl rfl (sg_p rfl rfl)
theorem dX11_rainLine_47 : decode cX11_rainLine 47 = .ok (.aload_n 0, 1) := dqn_42 (k := 45) qh_cX11_rainLine rfl rfl
theorem dX11_rainLine_48 : decode cX11_rainLine 48 = .ok (.getfield 32, 3) := dqn_180 (k := 42) qh_cX11_rainLine rfl rfl rfl
theorem dX11_rainLine_51 : decode cX11_rainLine 51 = .ok (.iconst 5, 1) := dqn_8 (k := 41) qh_cX11_rainLine rfl rfl
theorem dX11_rainLine_52 : decode cX11_rainLine 52 = .ok (.iconst 2, 1) := dqn_5 (k := 40) qh_cX11_rainLine rfl rfl
theorem dX11_rainLine_53 : decode cX11_rainLine 53 = .ok (.iload_n 2, 1) := dqn_28 (k := 39) qh_cX11_rainLine rfl rfl
theorem dX11_rainLine_54 : decode cX11_rainLine 54 = .ok (.imul, 1) := dqn_104 (k := 38) qh_cX11_rainLine rfl rfl
theorem dX11_rainLine_55 : decode cX11_rainLine 55 = .ok (.iadd, 1) := dqn_96 (k := 37) qh_cX11_rainLine rfl rfl
theorem dX11_rainLine_56 : decode cX11_rainLine 56 = .ok (.aload_n 0, 1) := dqn_42 (k := 36) qh_cX11_rainLine rfl rfl
theorem dX11_rainLine_57 : decode cX11_rainLine 57 = .ok (.getfield 35, 3) := dqn_180 (k := 33) qh_cX11_rainLine rfl rfl rfl
theorem dX11_rainLine_60 : decode cX11_rainLine 60 = .ok (.iconst 0, 1) := dqn_3 (k := 32) qh_cX11_rainLine rfl rfl
theorem dX11_rainLine_61 : decode cX11_rainLine 61 = .ok (.iaload, 1) := dqn_46 (k := 31) qh_cX11_rainLine rfl rfl
theorem dX11_rainLine_62 : decode cX11_rainLine 62 = .ok (.iastore, 1) := dqn_79 (k := 30) qh_cX11_rainLine rfl rfl
theorem dX11_rainLine_63 : decode cX11_rainLine 63 = .ok (.aload_n 0, 1) := dqn_42 (k := 29) qh_cX11_rainLine rfl rfl
theorem dX11_rainLine_64 : decode cX11_rainLine 64 = .ok (.getfield 32, 3) := dqn_180 (k := 26) qh_cX11_rainLine rfl rfl rfl
theorem dX11_rainLine_67 : decode cX11_rainLine 67 = .ok (.iconst 5, 1) := dqn_8 (k := 25) qh_cX11_rainLine rfl rfl
theorem dX11_rainLine_68 : decode cX11_rainLine 68 = .ok (.iconst 2, 1) := dqn_5 (k := 24) qh_cX11_rainLine rfl rfl
theorem dX11_rainLine_69 : decode cX11_rainLine 69 = .ok (.iload_n 2, 1) := dqn_28 (k := 23) qh_cX11_rainLine rfl rfl
theorem dX11_rainLine_70 : decode cX11_rainLine 70 = .ok (.imul, 1) := dqn_104 (k := 22) qh_cX11_rainLine rfl rfl
theorem dX11_rainLine_71 : decode cX11_rainLine 71 = .ok (.iadd, 1) := dqn_96 (k := 21) qh_cX11_rainLine rfl rfl
theorem dX11_rainLine_72 : decode cX11_rainLine 72 = .ok (.iconst 1, 1) := dqn_4 (k := 20) qh_cX11_rainLine rfl rfl
theorem dX11_rainLine_73 : decode cX11_rainLine 73 = .ok (.iadd, 1) := dqn_96 (k := 19) qh_cX11_rainLine rfl rfl
theorem dX11_rainLine_74 : decode cX11_rainLine 74 = .ok (.aload_n 0, 1) := dqn_42 (k := 18) qh_cX11_rainLine rfl rfl
theorem dX11_rainLine_75 : decode cX11_rainLine 75 = .ok (.getfield 35, 3) := dqn_180 (k := 15) qh_cX11_rainLine rfl rfl rfl
theorem dX11_rainLine_78 : decode cX11_rainLine 78 = .ok (.iconst 1, 1) := dqn_4 (k := 14) qh_cX11_rainLine rfl rfl
theorem dX11_rainLine_79 : decode cX11_rainLine 79 = .ok (.iaload, 1) := dqn_46 (k := 13) qh_cX11_rainLine rfl rfl
theorem dX11_rainLine_80 : decode cX11_rainLine 80 = .ok (.iastore, 1) := dqn_79 (k := 12) qh_cX11_rainLine rfl rfl
theorem dX11_rainLine_81 : decode cX11_rainLine 81 = .ok (.aload_n 0, 1) := dqn_42 (k := 11) qh_cX11_rainLine rfl rfl
theorem dX11_rainLine_82 : decode cX11_rainLine 82 = .ok (.getfield 32, 3) := dqn_180 (k := 8) qh_cX11_rainLine rfl rfl rfl
theorem dX11_rainLine_85 : decode cX11_rainLine 85 = .ok (.iconst 1, 1) := dqn_4 (k := 7) qh_cX11_rainLine rfl rfl
theorem dX11_rainLine_86 : decode cX11_rainLine 86 = .ok (.dup2, 1) := dqn_92 (k := 6) qh_cX11_rainLine rfl rfl
theorem dX11_rainLine_87 : decode cX11_rainLine 87 = .ok (.iaload, 1) := dqn_46 (k := 5) qh_cX11_rainLine rfl rfl
theorem dX11_rainLine_88 : decode cX11_rainLine 88 = .ok (.iconst 1, 1) := dqn_4 (k := 4) qh_cX11_rainLine rfl rfl
theorem dX11_rainLine_89 : decode cX11_rainLine 89 = .ok (.iadd, 1) := dqn_96 (k := 3) qh_cX11_rainLine rfl rfl
theorem dX11_rainLine_90 : decode cX11_rainLine 90 = .ok (.iastore, 1) := dqn_79 (k := 2) qh_cX11_rainLine rfl rfl
theorem dX11_rainLine_91 : decode cX11_rainLine 91 = .ok (.iconst 1, 1) := dqn_4 (k := 1) qh_cX11_rainLine rfl rfl
theorem dX11_rainLine_92 : decode cX11_rainLine 92 = .ok (.ireturn, 1) := dqn_172 (k := 0) qh_cX11_rainLine rfl rfl
theorem dX11_ofPond_0 : decode cX11_ofPond 0 = .ok (.aload_n 0, 1) := dqn_42 (k := 164) qh_cX11_ofPond rfl rfl
theorem dX11_ofPond_1 : decode cX11_ofPond 1 = .ok (.iconst 0, 1) := dqn_3 (k := 163) qh_cX11_ofPond rfl rfl
theorem dX11_ofPond_2 : decode cX11_ofPond 2 = .ok (.iconst 0, 1) := dqn_3 (k := 162) qh_cX11_ofPond rfl rfl
theorem dX11_ofPond_3 : decode cX11_ofPond 3 = .ok (.aload_n 0, 1) := dqn_42 (k := 161) qh_cX11_ofPond rfl rfl
theorem dX11_ofPond_4 : decode cX11_ofPond 4 = .ok (.getfield 32, 3) := dqn_180 (k := 158) qh_cX11_ofPond rfl rfl rfl
theorem dX11_ofPond_7 : decode cX11_ofPond 7 = .ok (.iconst 0, 1) := dqn_3 (k := 157) qh_cX11_ofPond rfl rfl
theorem dX11_ofPond_8 : decode cX11_ofPond 8 = .ok (.iaload, 1) := dqn_46 (k := 156) qh_cX11_ofPond rfl rfl
theorem dX11_ofPond_9 : decode cX11_ofPond 9 = .ok (.iconst 1, 1) := dqn_4 (k := 155) qh_cX11_ofPond rfl rfl
theorem dX11_ofPond_10 : decode cX11_ofPond 10 = .ok (.isub, 1) := dqn_100 (k := 154) qh_cX11_ofPond rfl rfl
theorem dX11_ofPond_11 : decode cX11_ofPond 11 = .ok (.invokevirtual 140, 3) := dqn_182 (k := 151) qh_cX11_ofPond rfl rfl rfl
theorem dX11_ofPond_14 : decode cX11_ofPond 14 = .ok (.ifCond .ne 5, 3) := dqn_154 (k := 148) (u := 5) qh_cX11_ofPond rfl rfl rfl (sg_p rfl rfl)
theorem dX11_ofPond_17 : decode cX11_ofPond 17 = .ok (.iconst 0, 1) := dqn_3 (k := 147) qh_cX11_ofPond rfl rfl
theorem dX11_ofPond_18 : decode cX11_ofPond 18 = .ok (.ireturn, 1) := dqn_172 (k := 146) qh_cX11_ofPond rfl rfl
theorem dX11_ofPond_19 : decode cX11_ofPond 19 = .ok (.iload_n 1, 1) := dqn_27 (k := 145) qh_cX11_ofPond rfl rfl
theorem dX11_ofPond_20 : decode cX11_ofPond 20 = .ok (.bipush 8, 2) := dqn_16 (k := 143) (u := 8) qh_cX11_ofPond rfl rfl rfl (by decide)
theorem dX11_ofPond_22 : decode cX11_ofPond 22 = .ok (.if_icmp .eq 9, 3) := dqn_159 (k := 140) (u := 9) qh_cX11_ofPond rfl rfl rfl (sg_p rfl rfl)
theorem dX11_ofPond_25 : decode cX11_ofPond 25 = .ok (.iload_n 1, 1) := dqn_27 (k := 139) qh_cX11_ofPond rfl rfl
theorem dX11_ofPond_26 : decode cX11_ofPond 26 = .ok (.bipush 9, 2) := dqn_16 (k := 137) (u := 9) qh_cX11_ofPond rfl rfl rfl (by decide)
theorem dX11_ofPond_28 : decode cX11_ofPond 28 = .ok (.if_icmp .ne 7, 3) := dqn_160 (k := 134) (u := 7) qh_cX11_ofPond rfl rfl rfl (sg_p rfl rfl)
theorem dX11_ofPond_31 : decode cX11_ofPond 31 = .ok (.iconst 1, 1) := dqn_4 (k := 133) qh_cX11_ofPond rfl rfl
theorem dX11_ofPond_32 : decode cX11_ofPond 32 = .ok (.goto 4, 3) := dqn_167 (k := 130) (u := 4) qh_cX11_ofPond rfl rfl rfl (sg_p rfl rfl)
theorem dX11_ofPond_35 : decode cX11_ofPond 35 = .ok (.iconst 0, 1) := dqn_3 (k := 129) qh_cX11_ofPond rfl rfl
theorem dX11_ofPond_36 : decode cX11_ofPond 36 = .ok (.istore 6, 2) := dqn_54 (k := 127) qh_cX11_ofPond rfl rfl rfl
theorem dX11_ofPond_38 : decode cX11_ofPond 38 = .ok (.aload_n 0, 1) := dqn_42 (k := 126) qh_cX11_ofPond rfl rfl
theorem dX11_ofPond_39 : decode cX11_ofPond 39 = .ok (.iconst 1, 1) := dqn_4 (k := 125) qh_cX11_ofPond rfl rfl
theorem dX11_ofPond_40 : decode cX11_ofPond 40 = .ok (.iload 6, 2) := dqn_21 (k := 123) qh_cX11_ofPond rfl rfl rfl
theorem dX11_ofPond_42 : decode cX11_ofPond 42 = .ok (.ifCond .eq 14, 3) := dqn_153 (k := 120) (u := 14) qh_cX11_ofPond rfl rfl rfl (sg_p rfl rfl)
theorem dX11_ofPond_45 : decode cX11_ofPond 45 = .ok (.aload_n 0, 1) := dqn_42 (k := 119) qh_cX11_ofPond rfl rfl
theorem dX11_ofPond_46 : decode cX11_ofPond 46 = .ok (.getfield 35, 3) := dqn_180 (k := 116) qh_cX11_ofPond rfl rfl rfl
theorem dX11_ofPond_49 : decode cX11_ofPond 49 = .ok (.iconst 0, 1) := dqn_3 (k := 115) qh_cX11_ofPond rfl rfl
theorem dX11_ofPond_50 : decode cX11_ofPond 50 = .ok (.iaload, 1) := dqn_46 (k := 114) qh_cX11_ofPond rfl rfl
theorem dX11_ofPond_51 : decode cX11_ofPond 51 = .ok (.iconst 1, 1) := dqn_4 (k := 113) qh_cX11_ofPond rfl rfl
theorem dX11_ofPond_52 : decode cX11_ofPond 52 = .ok (.iadd, 1) := dqn_96 (k := 112) qh_cX11_ofPond rfl rfl
theorem dX11_ofPond_53 : decode cX11_ofPond 53 = .ok (.goto 4, 3) := dqn_167 (k := 109) (u := 4) qh_cX11_ofPond rfl rfl rfl (sg_p rfl rfl)
theorem dX11_ofPond_56 : decode cX11_ofPond 56 = .ok (.iload_n 3, 1) := dqn_29 (k := 108) qh_cX11_ofPond rfl rfl
theorem dX11_ofPond_57 : decode cX11_ofPond 57 = .ok (.iload 6, 2) := dqn_21 (k := 106) qh_cX11_ofPond rfl rfl rfl
theorem dX11_ofPond_59 : decode cX11_ofPond 59 = .ok (.ifCond .eq 14, 3) := dqn_153 (k := 103) (u := 14) qh_cX11_ofPond rfl rfl rfl (sg_p rfl rfl)
theorem dX11_ofPond_62 : decode cX11_ofPond 62 = .ok (.aload_n 0, 1) := dqn_42 (k := 102) qh_cX11_ofPond rfl rfl
theorem dX11_ofPond_63 : decode cX11_ofPond 63 = .ok (.getfield 32, 3) := dqn_180 (k := 99) qh_cX11_ofPond rfl rfl rfl
theorem dX11_ofPond_66 : decode cX11_ofPond 66 = .ok (.iconst 0, 1) := dqn_3 (k := 98) qh_cX11_ofPond rfl rfl
theorem dX11_ofPond_67 : decode cX11_ofPond 67 = .ok (.iaload, 1) := dqn_46 (k := 97) qh_cX11_ofPond rfl rfl
theorem dX11_ofPond_68 : decode cX11_ofPond 68 = .ok (.iconst 1, 1) := dqn_4 (k := 96) qh_cX11_ofPond rfl rfl
theorem dX11_ofPond_69 : decode cX11_ofPond 69 = .ok (.isub, 1) := dqn_100 (k := 95) qh_cX11_ofPond rfl rfl
theorem dX11_ofPond_70 : decode cX11_ofPond 70 = .ok (.goto 5, 3) := dqn_167 (k := 92) (u := 5) qh_cX11_ofPond rfl rfl rfl (sg_p rfl rfl)
theorem dX11_ofPond_73 : decode cX11_ofPond 73 = .ok (.iload 4, 2) := dqn_21 (k := 90) qh_cX11_ofPond rfl rfl rfl
theorem dX11_ofPond_75 : decode cX11_ofPond 75 = .ok (.invokevirtual 140, 3) := dqn_182 (k := 87) qh_cX11_ofPond rfl rfl rfl
theorem dX11_ofPond_78 : decode cX11_ofPond 78 = .ok (.ifCond .eq 19, 3) := dqn_153 (k := 84) (u := 19) qh_cX11_ofPond rfl rfl rfl (sg_p rfl rfl)
theorem dX11_ofPond_81 : decode cX11_ofPond 81 = .ok (.iload_n 2, 1) := dqn_28 (k := 83) qh_cX11_ofPond rfl rfl
theorem dX11_ofPond_82 : decode cX11_ofPond 82 = .ok (.iconst 2, 1) := dqn_5 (k := 82) qh_cX11_ofPond rfl rfl
theorem dX11_ofPond_83 : decode cX11_ofPond 83 = .ok (.if_icmp .ne 16, 3) := dqn_160 (k := 79) (u := 16) qh_cX11_ofPond rfl rfl rfl (sg_p rfl rfl)
theorem dX11_ofPond_86 : decode cX11_ofPond 86 = .ok (.aload_n 0, 1) := dqn_42 (k := 78) qh_cX11_ofPond rfl rfl
theorem dX11_ofPond_87 : decode cX11_ofPond 87 = .ok (.iconst 2, 1) := dqn_5 (k := 77) qh_cX11_ofPond rfl rfl
theorem dX11_ofPond_88 : decode cX11_ofPond 88 = .ok (.iconst 0, 1) := dqn_3 (k := 76) qh_cX11_ofPond rfl rfl
theorem dX11_ofPond_89 : decode cX11_ofPond 89 = .ok (.iload 5, 2) := dqn_21 (k := 74) qh_cX11_ofPond rfl rfl rfl
theorem dX11_ofPond_91 : decode cX11_ofPond 91 = .ok (.invokevirtual 140, 3) := dqn_182 (k := 71) qh_cX11_ofPond rfl rfl rfl
theorem dX11_ofPond_94 : decode cX11_ofPond 94 = .ok (.ifCond .ne 5, 3) := dqn_154 (k := 68) (u := 5) qh_cX11_ofPond rfl rfl rfl (sg_p rfl rfl)
theorem dX11_ofPond_97 : decode cX11_ofPond 97 = .ok (.iconst 0, 1) := dqn_3 (k := 67) qh_cX11_ofPond rfl rfl
theorem dX11_ofPond_98 : decode cX11_ofPond 98 = .ok (.ireturn, 1) := dqn_172 (k := 66) qh_cX11_ofPond rfl rfl
theorem dX11_ofPond_99 : decode cX11_ofPond 99 = .ok (.aload_n 0, 1) := dqn_42 (k := 65) qh_cX11_ofPond rfl rfl
theorem dX11_ofPond_100 : decode cX11_ofPond 100 = .ok (.getfield 129, 3) := dqn_180 (k := 62) qh_cX11_ofPond rfl rfl rfl
theorem dX11_ofPond_103 : decode cX11_ofPond 103 = .ok (.ifCond .eq 60, 3) := dqn_153 (k := 59) (u := 60) qh_cX11_ofPond rfl rfl rfl (sg_p rfl rfl)
theorem dX11_ofPond_106 : decode cX11_ofPond 106 = .ok (.aload_n 0, 1) := dqn_42 (k := 58) qh_cX11_ofPond rfl rfl
theorem dX11_ofPond_107 : decode cX11_ofPond 107 = .ok (.getfield 32, 3) := dqn_180 (k := 55) qh_cX11_ofPond rfl rfl rfl
theorem dX11_ofPond_110 : decode cX11_ofPond 110 = .ok (.bipush 13, 2) := dqn_16 (k := 53) (u := 13) qh_cX11_ofPond rfl rfl rfl (by decide)
theorem dX11_ofPond_112 : decode cX11_ofPond 112 = .ok (.bipush 16, 2) := dqn_16 (k := 51) (u := 16) qh_cX11_ofPond rfl rfl rfl (by decide)
theorem dX11_ofPond_114 : decode cX11_ofPond 114 = .ok (.aload_n 0, 1) := dqn_42 (k := 50) qh_cX11_ofPond rfl rfl
theorem dX11_ofPond_115 : decode cX11_ofPond 115 = .ok (.getfield 35, 3) := dqn_180 (k := 47) qh_cX11_ofPond rfl rfl rfl
theorem dX11_ofPond_118 : decode cX11_ofPond 118 = .ok (.iconst 0, 1) := dqn_3 (k := 46) qh_cX11_ofPond rfl rfl
theorem dX11_ofPond_119 : decode cX11_ofPond 119 = .ok (.iaload, 1) := dqn_46 (k := 45) qh_cX11_ofPond rfl rfl
theorem dX11_ofPond_120 : decode cX11_ofPond 120 = .ok (.imul, 1) := dqn_104 (k := 44) qh_cX11_ofPond rfl rfl
theorem dX11_ofPond_121 : decode cX11_ofPond 121 = .ok (.iadd, 1) := dqn_96 (k := 43) qh_cX11_ofPond rfl rfl
theorem dX11_ofPond_122 : decode cX11_ofPond 122 = .ok (.iload_n 1, 1) := dqn_27 (k := 42) qh_cX11_ofPond rfl rfl
theorem dX11_ofPond_123 : decode cX11_ofPond 123 = .ok (.iadd, 1) := dqn_96 (k := 41) qh_cX11_ofPond rfl rfl
theorem dX11_ofPond_124 : decode cX11_ofPond 124 = .ok (.aload_n 0, 1) := dqn_42 (k := 40) qh_cX11_ofPond rfl rfl
theorem dX11_ofPond_125 : decode cX11_ofPond 125 = .ok (.getfield 35, 3) := dqn_180 (k := 37) qh_cX11_ofPond rfl rfl rfl
theorem dX11_ofPond_128 : decode cX11_ofPond 128 = .ok (.iconst 1, 1) := dqn_4 (k := 36) qh_cX11_ofPond rfl rfl
theorem dX11_ofPond_129 : decode cX11_ofPond 129 = .ok (.iaload, 1) := dqn_46 (k := 35) qh_cX11_ofPond rfl rfl
theorem dX11_ofPond_130 : decode cX11_ofPond 130 = .ok (.iastore, 1) := dqn_79 (k := 34) qh_cX11_ofPond rfl rfl
theorem dX11_ofPond_131 : decode cX11_ofPond 131 = .ok (.iload_n 2, 1) := dqn_28 (k := 33) qh_cX11_ofPond rfl rfl
theorem dX11_ofPond_132 : decode cX11_ofPond 132 = .ok (.iconst 2, 1) := dqn_5 (k := 32) qh_cX11_ofPond rfl rfl
theorem dX11_ofPond_133 : decode cX11_ofPond 133 = .ok (.if_icmp .ne 30, 3) := dqn_160 (k := 29) (u := 30) qh_cX11_ofPond rfl rfl rfl (sg_p rfl rfl)
theorem dX11_ofPond_136 : decode cX11_ofPond 136 = .ok (.aload_n 0, 1) := dqn_42 (k := 28) qh_cX11_ofPond rfl rfl
theorem dX11_ofPond_137 : decode cX11_ofPond 137 = .ok (.getfield 32, 3) := dqn_180 (k := 25) qh_cX11_ofPond rfl rfl rfl
theorem dX11_ofPond_140 : decode cX11_ofPond 140 = .ok (.bipush 13, 2) := dqn_16 (k := 23) (u := 13) qh_cX11_ofPond rfl rfl rfl (by decide)
theorem dX11_ofPond_142 : decode cX11_ofPond 142 = .ok (.bipush 16, 2) := dqn_16 (k := 21) (u := 16) qh_cX11_ofPond rfl rfl rfl (by decide)
theorem dX11_ofPond_144 : decode cX11_ofPond 144 = .ok (.aload_n 0, 1) := dqn_42 (k := 20) qh_cX11_ofPond rfl rfl
theorem dX11_ofPond_145 : decode cX11_ofPond 145 = .ok (.getfield 35, 3) := dqn_180 (k := 17) qh_cX11_ofPond rfl rfl rfl
theorem dX11_ofPond_148 : decode cX11_ofPond 148 = .ok (.iconst 0, 1) := dqn_3 (k := 16) qh_cX11_ofPond rfl rfl
theorem dX11_ofPond_149 : decode cX11_ofPond 149 = .ok (.iaload, 1) := dqn_46 (k := 15) qh_cX11_ofPond rfl rfl
theorem dX11_ofPond_150 : decode cX11_ofPond 150 = .ok (.imul, 1) := dqn_104 (k := 14) qh_cX11_ofPond rfl rfl
theorem dX11_ofPond_151 : decode cX11_ofPond 151 = .ok (.iadd, 1) := dqn_96 (k := 13) qh_cX11_ofPond rfl rfl
theorem dX11_ofPond_152 : decode cX11_ofPond 152 = .ok (.iload_n 1, 1) := dqn_27 (k := 12) qh_cX11_ofPond rfl rfl
theorem dX11_ofPond_153 : decode cX11_ofPond 153 = .ok (.iadd, 1) := dqn_96 (k := 11) qh_cX11_ofPond rfl rfl
theorem dX11_ofPond_154 : decode cX11_ofPond 154 = .ok (.iconst 1, 1) := dqn_4 (k := 10) qh_cX11_ofPond rfl rfl
theorem dX11_ofPond_155 : decode cX11_ofPond 155 = .ok (.iadd, 1) := dqn_96 (k := 9) qh_cX11_ofPond rfl rfl
theorem dX11_ofPond_156 : decode cX11_ofPond 156 = .ok (.aload_n 0, 1) := dqn_42 (k := 8) qh_cX11_ofPond rfl rfl
theorem dX11_ofPond_157 : decode cX11_ofPond 157 = .ok (.getfield 35, 3) := dqn_180 (k := 5) qh_cX11_ofPond rfl rfl rfl
theorem dX11_ofPond_160 : decode cX11_ofPond 160 = .ok (.iconst 2, 1) := dqn_5 (k := 4) qh_cX11_ofPond rfl rfl
theorem dX11_ofPond_161 : decode cX11_ofPond 161 = .ok (.iaload, 1) := dqn_46 (k := 3) qh_cX11_ofPond rfl rfl
theorem dX11_ofPond_162 : decode cX11_ofPond 162 = .ok (.iastore, 1) := dqn_79 (k := 2) qh_cX11_ofPond rfl rfl
theorem dX11_ofPond_163 : decode cX11_ofPond 163 = .ok (.iconst 1, 1) := dqn_4 (k := 1) qh_cX11_ofPond rfl rfl
theorem dX11_ofPond_164 : decode cX11_ofPond 164 = .ok (.ireturn, 1) := dqn_172 (k := 0) qh_cX11_ofPond rfl rfl
theorem dX11_daysLine_0 : decode cX11_daysLine 0 = .ok (.aload_n 0, 1) := dqn_42 (k := 32) qh_cX11_daysLine rfl rfl
theorem dX11_daysLine_1 : decode cX11_daysLine 1 = .ok (.iconst 0, 1) := dqn_3 (k := 31) qh_cX11_daysLine rfl rfl
theorem dX11_daysLine_2 : decode cX11_daysLine 2 = .ok (.bipush 99, 2) := dqn_16 (k := 29) (u := 99) qh_cX11_daysLine rfl rfl rfl (by decide)
theorem dX11_daysLine_4 : decode cX11_daysLine 4 = .ok (.invokevirtual 136, 3) := dqn_182 (k := 26) qh_cX11_daysLine rfl rfl rfl
theorem dX11_daysLine_7 : decode cX11_daysLine 7 = .ok (.istore_n 2, 1) := dqn_61 (k := 25) qh_cX11_daysLine rfl rfl
theorem dX11_daysLine_8 : decode cX11_daysLine 8 = .ok (.aload_n 0, 1) := dqn_42 (k := 24) qh_cX11_daysLine rfl rfl
theorem dX11_daysLine_9 : decode cX11_daysLine 9 = .ok (.getfield 32, 3) := dqn_180 (k := 21) qh_cX11_daysLine rfl rfl rfl
theorem dX11_daysLine_12 : decode cX11_daysLine 12 = .ok (.iload_n 1, 1) := dqn_27 (k := 20) qh_cX11_daysLine rfl rfl
theorem dX11_daysLine_13 : decode cX11_daysLine 13 = .ok (.iload_n 2, 1) := dqn_28 (k := 19) qh_cX11_daysLine rfl rfl
theorem dX11_daysLine_14 : decode cX11_daysLine 14 = .ok (.ifCond .eq 10, 3) := dqn_153 (k := 16) (u := 10) qh_cX11_daysLine rfl rfl rfl (sg_p rfl rfl)
theorem dX11_daysLine_17 : decode cX11_daysLine 17 = .ok (.aload_n 0, 1) := dqn_42 (k := 15) qh_cX11_daysLine rfl rfl
theorem dX11_daysLine_18 : decode cX11_daysLine 18 = .ok (.getfield 122, 3) := dqn_180 (k := 12) qh_cX11_daysLine rfl rfl rfl
theorem dX11_daysLine_21 : decode cX11_daysLine 21 = .ok (.goto 9, 3) := dqn_167 (k := 9) (u := 9) qh_cX11_daysLine rfl rfl rfl (sg_p rfl rfl)
theorem dX11_daysLine_24 : decode cX11_daysLine 24 = .ok (.aload_n 0, 1) := dqn_42 (k := 8) qh_cX11_daysLine rfl rfl
theorem dX11_daysLine_25 : decode cX11_daysLine 25 = .ok (.getfield 32, 3) := dqn_180 (k := 5) qh_cX11_daysLine rfl rfl rfl
theorem dX11_daysLine_28 : decode cX11_daysLine 28 = .ok (.iload_n 1, 1) := dqn_27 (k := 4) qh_cX11_daysLine rfl rfl
theorem dX11_daysLine_29 : decode cX11_daysLine 29 = .ok (.iaload, 1) := dqn_46 (k := 3) qh_cX11_daysLine rfl rfl
theorem dX11_daysLine_30 : decode cX11_daysLine 30 = .ok (.iastore, 1) := dqn_79 (k := 2) qh_cX11_daysLine rfl rfl
theorem dX11_daysLine_31 : decode cX11_daysLine 31 = .ok (.iload_n 2, 1) := dqn_28 (k := 1) qh_cX11_daysLine rfl rfl
theorem dX11_daysLine_32 : decode cX11_daysLine 32 = .ok (.ireturn, 1) := dqn_172 (k := 0) qh_cX11_daysLine rfl rfl
theorem dX11_hillLine_0 : decode cX11_hillLine 0 = .ok (.aload_n 0, 1) := dqn_42 (k := 360) qh_cX11_hillLine rfl rfl
theorem dX11_hillLine_1 : decode cX11_hillLine 1 = .ok (.getfield 103, 3) := dqn_180 (k := 357) qh_cX11_hillLine rfl rfl rfl
theorem dX11_hillLine_4 : decode cX11_hillLine 4 = .ok (.iconst 2, 1) := dqn_5 (k := 356) qh_cX11_hillLine rfl rfl
theorem dX11_hillLine_5 : decode cX11_hillLine 5 = .ok (.if_icmp .ne 10, 3) := dqn_160 (k := 353) (u := 10) qh_cX11_hillLine rfl rfl rfl (sg_p rfl rfl)
theorem dX11_hillLine_8 : decode cX11_hillLine 8 = .ok (.aload_n 0, 1) := dqn_42 (k := 352) qh_cX11_hillLine rfl rfl
theorem dX11_hillLine_9 : decode cX11_hillLine 9 = .ok (.getfield 99, 3) := dqn_180 (k := 349) qh_cX11_hillLine rfl rfl rfl
theorem dX11_hillLine_12 : decode cX11_hillLine 12 = .ok (.goto 4, 3) := dqn_167 (k := 346) (u := 4) qh_cX11_hillLine rfl rfl rfl (sg_p rfl rfl)
theorem dX11_hillLine_15 : decode cX11_hillLine 15 = .ok (.lconst 0, 1) := dqn_9 (k := 345) qh_cX11_hillLine rfl rfl
theorem dX11_hillLine_16 : decode cX11_hillLine 16 = .ok (.lstore_n 2, 1) := dqn_65 (k := 344) qh_cX11_hillLine rfl rfl
theorem dX11_hillLine_17 : decode cX11_hillLine 17 = .ok (.lload_n 2, 1) := dqn_32 (k := 343) qh_cX11_hillLine rfl rfl
theorem dX11_hillLine_18 : decode cX11_hillLine 18 = .ok (.ldc2_w 143, 3) := dqn_20 (k := 340) qh_cX11_hillLine rfl rfl rfl
theorem dX11_hillLine_21 : decode cX11_hillLine 21 = .ok (.lcmp, 1) := dqn_148 (k := 339) qh_cX11_hillLine rfl rfl
theorem dX11_hillLine_22 : decode cX11_hillLine 22 = .ok (.ifCond .ne 7, 3) := dqn_154 (k := 336) (u := 7) qh_cX11_hillLine rfl rfl rfl (sg_p rfl rfl)
theorem dX11_hillLine_25 : decode cX11_hillLine 25 = .ok (.iconst 2, 1) := dqn_5 (k := 335) qh_cX11_hillLine rfl rfl
theorem dX11_hillLine_26 : decode cX11_hillLine 26 = .ok (.goto 28, 3) := dqn_167 (k := 332) (u := 28) qh_cX11_hillLine rfl rfl rfl (sg_p rfl rfl)
theorem dX11_hillLine_29 : decode cX11_hillLine 29 = .ok (.lload_n 2, 1) := dqn_32 (k := 331) qh_cX11_hillLine rfl rfl
theorem dX11_hillLine_30 : decode cX11_hillLine 30 = .ok (.ldc2_w 145, 3) := dqn_20 (k := 328) qh_cX11_hillLine rfl rfl rfl
theorem dX11_hillLine_33 : decode cX11_hillLine 33 = .ok (.lcmp, 1) := dqn_148 (k := 327) qh_cX11_hillLine rfl rfl
theorem dX11_hillLine_34 : decode cX11_hillLine 34 = .ok (.ifCond .ne 7, 3) := dqn_154 (k := 324) (u := 7) qh_cX11_hillLine rfl rfl rfl (sg_p rfl rfl)
theorem dX11_hillLine_37 : decode cX11_hillLine 37 = .ok (.iconst 3, 1) := dqn_6 (k := 323) qh_cX11_hillLine rfl rfl
theorem dX11_hillLine_38 : decode cX11_hillLine 38 = .ok (.goto 16, 3) := dqn_167 (k := 320) (u := 16) qh_cX11_hillLine rfl rfl rfl (sg_p rfl rfl)
theorem dX11_hillLine_41 : decode cX11_hillLine 41 = .ok (.lload_n 2, 1) := dqn_32 (k := 319) qh_cX11_hillLine rfl rfl
theorem dX11_hillLine_42 : decode cX11_hillLine 42 = .ok (.ldc2_w 147, 3) := dqn_20 (k := 316) qh_cX11_hillLine rfl rfl rfl
theorem dX11_hillLine_45 : decode cX11_hillLine 45 = .ok (.lcmp, 1) := dqn_148 (k := 315) qh_cX11_hillLine rfl rfl
theorem dX11_hillLine_46 : decode cX11_hillLine 46 = .ok (.ifCond .ne 7, 3) := dqn_154 (k := 312) (u := 7) qh_cX11_hillLine rfl rfl rfl (sg_p rfl rfl)
theorem dX11_hillLine_49 : decode cX11_hillLine 49 = .ok (.iconst 4, 1) := dqn_7 (k := 311) qh_cX11_hillLine rfl rfl
theorem dX11_hillLine_50 : decode cX11_hillLine 50 = .ok (.goto 4, 3) := dqn_167 (k := 308) (u := 4) qh_cX11_hillLine rfl rfl rfl (sg_p rfl rfl)
theorem dX11_hillLine_53 : decode cX11_hillLine 53 = .ok (.iconst (-1), 1) := dqn_2 (k := 307) qh_cX11_hillLine rfl rfl
theorem dX11_hillLine_54 : decode cX11_hillLine 54 = .ok (.istore 4, 2) := dqn_54 (k := 305) qh_cX11_hillLine rfl rfl rfl
theorem dX11_hillLine_56 : decode cX11_hillLine 56 = .ok (.lload_n 2, 1) := dqn_32 (k := 304) qh_cX11_hillLine rfl rfl
theorem dX11_hillLine_57 : decode cX11_hillLine 57 = .ok (.ldc2_w 149, 3) := dqn_20 (k := 301) qh_cX11_hillLine rfl rfl rfl
theorem dX11_hillLine_60 : decode cX11_hillLine 60 = .ok (.lcmp, 1) := dqn_148 (k := 300) qh_cX11_hillLine rfl rfl
theorem dX11_hillLine_61 : decode cX11_hillLine 61 = .ok (.ifCond .ne 8, 3) := dqn_154 (k := 297) (u := 8) qh_cX11_hillLine rfl rfl rfl (sg_p rfl rfl)
theorem dX11_hillLine_64 : decode cX11_hillLine 64 = .ok (.bipush 8, 2) := dqn_16 (k := 295) (u := 8) qh_cX11_hillLine rfl rfl rfl (by decide)
theorem dX11_hillLine_66 : decode cX11_hillLine 66 = .ok (.goto 118, 3) := dqn_167 (k := 292) (u := 118) qh_cX11_hillLine rfl rfl rfl (sg_p rfl rfl)
theorem dX11_hillLine_69 : decode cX11_hillLine 69 = .ok (.lload_n 2, 1) := dqn_32 (k := 291) qh_cX11_hillLine rfl rfl
theorem dX11_hillLine_70 : decode cX11_hillLine 70 = .ok (.ldc2_w 151, 3) := dqn_20 (k := 288) qh_cX11_hillLine rfl rfl rfl
theorem dX11_hillLine_73 : decode cX11_hillLine 73 = .ok (.lcmp, 1) := dqn_148 (k := 287) qh_cX11_hillLine rfl rfl
theorem dX11_hillLine_74 : decode cX11_hillLine 74 = .ok (.ifCond .ne 8, 3) := dqn_154 (k := 284) (u := 8) qh_cX11_hillLine rfl rfl rfl (sg_p rfl rfl)
theorem dX11_hillLine_77 : decode cX11_hillLine 77 = .ok (.bipush 9, 2) := dqn_16 (k := 282) (u := 9) qh_cX11_hillLine rfl rfl rfl (by decide)
theorem dX11_hillLine_79 : decode cX11_hillLine 79 = .ok (.goto 105, 3) := dqn_167 (k := 279) (u := 105) qh_cX11_hillLine rfl rfl rfl (sg_p rfl rfl)
theorem dX11_hillLine_82 : decode cX11_hillLine 82 = .ok (.lload_n 2, 1) := dqn_32 (k := 278) qh_cX11_hillLine rfl rfl
theorem dX11_hillLine_83 : decode cX11_hillLine 83 = .ok (.ldc2_w 153, 3) := dqn_20 (k := 275) qh_cX11_hillLine rfl rfl rfl
theorem dX11_hillLine_86 : decode cX11_hillLine 86 = .ok (.lcmp, 1) := dqn_148 (k := 274) qh_cX11_hillLine rfl rfl
theorem dX11_hillLine_87 : decode cX11_hillLine 87 = .ok (.ifCond .ne 7, 3) := dqn_154 (k := 271) (u := 7) qh_cX11_hillLine rfl rfl rfl (sg_p rfl rfl)
theorem dX11_hillLine_90 : decode cX11_hillLine 90 = .ok (.iconst 3, 1) := dqn_6 (k := 270) qh_cX11_hillLine rfl rfl
theorem dX11_hillLine_91 : decode cX11_hillLine 91 = .ok (.goto 93, 3) := dqn_167 (k := 267) (u := 93) qh_cX11_hillLine rfl rfl rfl (sg_p rfl rfl)
theorem dX11_hillLine_94 : decode cX11_hillLine 94 = .ok (.lload_n 2, 1) := dqn_32 (k := 266) qh_cX11_hillLine rfl rfl
theorem dX11_hillLine_95 : decode cX11_hillLine 95 = .ok (.ldc2_w 155, 3) := dqn_20 (k := 263) qh_cX11_hillLine rfl rfl rfl
theorem dX11_hillLine_98 : decode cX11_hillLine 98 = .ok (.lcmp, 1) := dqn_148 (k := 262) qh_cX11_hillLine rfl rfl
theorem dX11_hillLine_99 : decode cX11_hillLine 99 = .ok (.ifCond .ne 7, 3) := dqn_154 (k := 259) (u := 7) qh_cX11_hillLine rfl rfl rfl (sg_p rfl rfl)
theorem dX11_hillLine_102 : decode cX11_hillLine 102 = .ok (.iconst 4, 1) := dqn_7 (k := 258) qh_cX11_hillLine rfl rfl
theorem dX11_hillLine_103 : decode cX11_hillLine 103 = .ok (.goto 81, 3) := dqn_167 (k := 255) (u := 81) qh_cX11_hillLine rfl rfl rfl (sg_p rfl rfl)
theorem dX11_hillLine_106 : decode cX11_hillLine 106 = .ok (.lload_n 2, 1) := dqn_32 (k := 254) qh_cX11_hillLine rfl rfl
theorem dX11_hillLine_107 : decode cX11_hillLine 107 = .ok (.ldc2_w 157, 3) := dqn_20 (k := 251) qh_cX11_hillLine rfl rfl rfl
theorem dX11_hillLine_110 : decode cX11_hillLine 110 = .ok (.lcmp, 1) := dqn_148 (k := 250) qh_cX11_hillLine rfl rfl
theorem dX11_hillLine_111 : decode cX11_hillLine 111 = .ok (.ifCond .ne 7, 3) := dqn_154 (k := 247) (u := 7) qh_cX11_hillLine rfl rfl rfl (sg_p rfl rfl)
theorem dX11_hillLine_114 : decode cX11_hillLine 114 = .ok (.iconst 5, 1) := dqn_8 (k := 246) qh_cX11_hillLine rfl rfl
theorem dX11_hillLine_115 : decode cX11_hillLine 115 = .ok (.goto 69, 3) := dqn_167 (k := 243) (u := 69) qh_cX11_hillLine rfl rfl rfl (sg_p rfl rfl)
theorem dX11_hillLine_118 : decode cX11_hillLine 118 = .ok (.lload_n 2, 1) := dqn_32 (k := 242) qh_cX11_hillLine rfl rfl
theorem dX11_hillLine_119 : decode cX11_hillLine 119 = .ok (.ldc2_w 159, 3) := dqn_20 (k := 239) qh_cX11_hillLine rfl rfl rfl
theorem dX11_hillLine_122 : decode cX11_hillLine 122 = .ok (.lcmp, 1) := dqn_148 (k := 238) qh_cX11_hillLine rfl rfl
theorem dX11_hillLine_123 : decode cX11_hillLine 123 = .ok (.ifCond .ne 8, 3) := dqn_154 (k := 235) (u := 8) qh_cX11_hillLine rfl rfl rfl (sg_p rfl rfl)
theorem dX11_hillLine_126 : decode cX11_hillLine 126 = .ok (.bipush 6, 2) := dqn_16 (k := 233) (u := 6) qh_cX11_hillLine rfl rfl rfl (by decide)
theorem dX11_hillLine_128 : decode cX11_hillLine 128 = .ok (.goto 56, 3) := dqn_167 (k := 230) (u := 56) qh_cX11_hillLine rfl rfl rfl (sg_p rfl rfl)
theorem dX11_hillLine_131 : decode cX11_hillLine 131 = .ok (.lload_n 2, 1) := dqn_32 (k := 229) qh_cX11_hillLine rfl rfl
theorem dX11_hillLine_132 : decode cX11_hillLine 132 = .ok (.ldc2_w 161, 3) := dqn_20 (k := 226) qh_cX11_hillLine rfl rfl rfl
theorem dX11_hillLine_135 : decode cX11_hillLine 135 = .ok (.lcmp, 1) := dqn_148 (k := 225) qh_cX11_hillLine rfl rfl
theorem dX11_hillLine_136 : decode cX11_hillLine 136 = .ok (.ifCond .ne 8, 3) := dqn_154 (k := 222) (u := 8) qh_cX11_hillLine rfl rfl rfl (sg_p rfl rfl)
theorem dX11_hillLine_139 : decode cX11_hillLine 139 = .ok (.bipush 7, 2) := dqn_16 (k := 220) (u := 7) qh_cX11_hillLine rfl rfl rfl (by decide)
theorem dX11_hillLine_141 : decode cX11_hillLine 141 = .ok (.goto 43, 3) := dqn_167 (k := 217) (u := 43) qh_cX11_hillLine rfl rfl rfl (sg_p rfl rfl)
theorem dX11_hillLine_144 : decode cX11_hillLine 144 = .ok (.lload_n 2, 1) := dqn_32 (k := 216) qh_cX11_hillLine rfl rfl
theorem dX11_hillLine_145 : decode cX11_hillLine 145 = .ok (.ldc2_w 163, 3) := dqn_20 (k := 213) qh_cX11_hillLine rfl rfl rfl
theorem dX11_hillLine_148 : decode cX11_hillLine 148 = .ok (.lcmp, 1) := dqn_148 (k := 212) qh_cX11_hillLine rfl rfl
theorem dX11_hillLine_149 : decode cX11_hillLine 149 = .ok (.ifCond .ne 8, 3) := dqn_154 (k := 209) (u := 8) qh_cX11_hillLine rfl rfl rfl (sg_p rfl rfl)
theorem dX11_hillLine_152 : decode cX11_hillLine 152 = .ok (.bipush 11, 2) := dqn_16 (k := 207) (u := 11) qh_cX11_hillLine rfl rfl rfl (by decide)
theorem dX11_hillLine_154 : decode cX11_hillLine 154 = .ok (.goto 30, 3) := dqn_167 (k := 204) (u := 30) qh_cX11_hillLine rfl rfl rfl (sg_p rfl rfl)
theorem dX11_hillLine_157 : decode cX11_hillLine 157 = .ok (.lload_n 2, 1) := dqn_32 (k := 203) qh_cX11_hillLine rfl rfl
theorem dX11_hillLine_158 : decode cX11_hillLine 158 = .ok (.ldc2_w 165, 3) := dqn_20 (k := 200) qh_cX11_hillLine rfl rfl rfl
theorem dX11_hillLine_161 : decode cX11_hillLine 161 = .ok (.lcmp, 1) := dqn_148 (k := 199) qh_cX11_hillLine rfl rfl
theorem dX11_hillLine_162 : decode cX11_hillLine 162 = .ok (.ifCond .ne 8, 3) := dqn_154 (k := 196) (u := 8) qh_cX11_hillLine rfl rfl rfl (sg_p rfl rfl)
theorem dX11_hillLine_165 : decode cX11_hillLine 165 = .ok (.bipush 12, 2) := dqn_16 (k := 194) (u := 12) qh_cX11_hillLine rfl rfl rfl (by decide)
theorem dX11_hillLine_167 : decode cX11_hillLine 167 = .ok (.goto 17, 3) := dqn_167 (k := 191) (u := 17) qh_cX11_hillLine rfl rfl rfl (sg_p rfl rfl)
theorem dX11_hillLine_170 : decode cX11_hillLine 170 = .ok (.lload_n 2, 1) := dqn_32 (k := 190) qh_cX11_hillLine rfl rfl
theorem dX11_hillLine_171 : decode cX11_hillLine 171 = .ok (.ldc2_w 167, 3) := dqn_20 (k := 187) qh_cX11_hillLine rfl rfl rfl
theorem dX11_hillLine_174 : decode cX11_hillLine 174 = .ok (.lcmp, 1) := dqn_148 (k := 186) qh_cX11_hillLine rfl rfl
theorem dX11_hillLine_175 : decode cX11_hillLine 175 = .ok (.ifCond .ne 8, 3) := dqn_154 (k := 183) (u := 8) qh_cX11_hillLine rfl rfl rfl (sg_p rfl rfl)
theorem dX11_hillLine_178 : decode cX11_hillLine 178 = .ok (.bipush 13, 2) := dqn_16 (k := 181) (u := 13) qh_cX11_hillLine rfl rfl rfl (by decide)
theorem dX11_hillLine_180 : decode cX11_hillLine 180 = .ok (.goto 4, 3) := dqn_167 (k := 178) (u := 4) qh_cX11_hillLine rfl rfl rfl (sg_p rfl rfl)
theorem dX11_hillLine_183 : decode cX11_hillLine 183 = .ok (.iconst (-1), 1) := dqn_2 (k := 177) qh_cX11_hillLine rfl rfl
theorem dX11_hillLine_184 : decode cX11_hillLine 184 = .ok (.istore 5, 2) := dqn_54 (k := 175) qh_cX11_hillLine rfl rfl rfl
theorem dX11_hillLine_186 : decode cX11_hillLine 186 = .ok (.iload 4, 2) := dqn_21 (k := 173) qh_cX11_hillLine rfl rfl rfl
theorem dX11_hillLine_188 : decode cX11_hillLine 188 = .ok (.iconst (-1), 1) := dqn_2 (k := 172) qh_cX11_hillLine rfl rfl
theorem dX11_hillLine_189 : decode cX11_hillLine 189 = .ok (.if_icmp .ne 30, 3) := dqn_160 (k := 169) (u := 30) qh_cX11_hillLine rfl rfl rfl (sg_p rfl rfl)
theorem dX11_hillLine_192 : decode cX11_hillLine 192 = .ok (.iload 5, 2) := dqn_21 (k := 167) qh_cX11_hillLine rfl rfl rfl
theorem dX11_hillLine_194 : decode cX11_hillLine 194 = .ok (.iconst (-1), 1) := dqn_2 (k := 166) qh_cX11_hillLine rfl rfl
theorem dX11_hillLine_195 : decode cX11_hillLine 195 = .ok (.if_icmp .ne 24, 3) := dqn_160 (k := 163) (u := 24) qh_cX11_hillLine rfl rfl rfl (sg_p rfl rfl)
theorem dX11_hillLine_198 : decode cX11_hillLine 198 = .ok (.lload_n 2, 1) := dqn_32 (k := 162) qh_cX11_hillLine rfl rfl
theorem dX11_hillLine_199 : decode cX11_hillLine 199 = .ok (.ldc2_w 169, 3) := dqn_20 (k := 159) qh_cX11_hillLine rfl rfl rfl
theorem dX11_hillLine_202 : decode cX11_hillLine 202 = .ok (.lcmp, 1) := dqn_148 (k := 158) qh_cX11_hillLine rfl rfl
theorem dX11_hillLine_203 : decode cX11_hillLine 203 = .ok (.ifCond .eq 16, 3) := dqn_153 (k := 155) (u := 16) qh_cX11_hillLine rfl rfl rfl (sg_p rfl rfl)
theorem dX11_hillLine_206 : decode cX11_hillLine 206 = .ok (.lload_n 2, 1) := dqn_32 (k := 154) qh_cX11_hillLine rfl rfl
theorem dX11_hillLine_207 : decode cX11_hillLine 207 = .ok (.ldc2_w 171, 3) := dqn_20 (k := 151) qh_cX11_hillLine rfl rfl rfl
theorem dX11_hillLine_210 : decode cX11_hillLine 210 = .ok (.lcmp, 1) := dqn_148 (k := 150) qh_cX11_hillLine rfl rfl
theorem dX11_hillLine_211 : decode cX11_hillLine 211 = .ok (.ifCond .eq 8, 3) := dqn_153 (k := 147) (u := 8) qh_cX11_hillLine rfl rfl rfl (sg_p rfl rfl)
theorem dX11_hillLine_214 : decode cX11_hillLine 214 = .ok (.aload_n 0, 1) := dqn_42 (k := 146) qh_cX11_hillLine rfl rfl
theorem dX11_hillLine_215 : decode cX11_hillLine 215 = .ok (.invokevirtual 118, 3) := dqn_182 (k := 143) qh_cX11_hillLine rfl rfl rfl
theorem dX11_hillLine_218 : decode cX11_hillLine 218 = .ok (.ireturn, 1) := dqn_172 (k := 142) qh_cX11_hillLine rfl rfl
theorem dX11_hillLine_219 : decode cX11_hillLine 219 = .ok (.aload_n 0, 1) := dqn_42 (k := 141) qh_cX11_hillLine rfl rfl
theorem dX11_hillLine_220 : decode cX11_hillLine 220 = .ok (.invokevirtual 133, 3) := dqn_182 (k := 138) qh_cX11_hillLine rfl rfl rfl
theorem dX11_hillLine_223 : decode cX11_hillLine 223 = .ok (.lload_n 2, 1) := dqn_32 (k := 137) qh_cX11_hillLine rfl rfl
theorem dX11_hillLine_224 : decode cX11_hillLine 224 = .ok (.ldc2_w 169, 3) := dqn_20 (k := 134) qh_cX11_hillLine rfl rfl rfl
theorem dX11_hillLine_227 : decode cX11_hillLine 227 = .ok (.lcmp, 1) := dqn_148 (k := 133) qh_cX11_hillLine rfl rfl
theorem dX11_hillLine_228 : decode cX11_hillLine 228 = .ok (.ifCond .eq 11, 3) := dqn_153 (k := 130) (u := 11) qh_cX11_hillLine rfl rfl rfl (sg_p rfl rfl)
theorem dX11_hillLine_231 : decode cX11_hillLine 231 = .ok (.lload_n 2, 1) := dqn_32 (k := 129) qh_cX11_hillLine rfl rfl
theorem dX11_hillLine_232 : decode cX11_hillLine 232 = .ok (.ldc2_w 171, 3) := dqn_20 (k := 126) qh_cX11_hillLine rfl rfl rfl
theorem dX11_hillLine_235 : decode cX11_hillLine 235 = .ok (.lcmp, 1) := dqn_148 (k := 125) qh_cX11_hillLine rfl rfl
theorem dX11_hillLine_236 : decode cX11_hillLine 236 = .ok (.ifCond .ne 25, 3) := dqn_154 (k := 122) (u := 25) qh_cX11_hillLine rfl rfl rfl (sg_p rfl rfl)
theorem dX11_hillLine_239 : decode cX11_hillLine 239 = .ok (.lload_n 2, 1) := dqn_32 (k := 121) qh_cX11_hillLine rfl rfl
theorem dX11_hillLine_240 : decode cX11_hillLine 240 = .ok (.ldc2_w 169, 3) := dqn_20 (k := 118) qh_cX11_hillLine rfl rfl rfl
theorem dX11_hillLine_243 : decode cX11_hillLine 243 = .ok (.lcmp, 1) := dqn_148 (k := 117) qh_cX11_hillLine rfl rfl
theorem dX11_hillLine_244 : decode cX11_hillLine 244 = .ok (.ifCond .ne 11, 3) := dqn_154 (k := 114) (u := 11) qh_cX11_hillLine rfl rfl rfl (sg_p rfl rfl)
theorem dX11_hillLine_247 : decode cX11_hillLine 247 = .ok (.aload_n 0, 1) := dqn_42 (k := 113) qh_cX11_hillLine rfl rfl
theorem dX11_hillLine_248 : decode cX11_hillLine 248 = .ok (.iload_n 1, 1) := dqn_27 (k := 112) qh_cX11_hillLine rfl rfl
theorem dX11_hillLine_249 : decode cX11_hillLine 249 = .ok (.invokevirtual 173, 3) := dqn_182 (k := 109) qh_cX11_hillLine rfl rfl rfl
theorem dX11_hillLine_252 : decode cX11_hillLine 252 = .ok (.goto 8, 3) := dqn_167 (k := 106) (u := 8) qh_cX11_hillLine rfl rfl rfl (sg_p rfl rfl)
theorem dX11_hillLine_255 : decode cX11_hillLine 255 = .ok (.aload_n 0, 1) := dqn_42 (k := 105) qh_cX11_hillLine rfl rfl
theorem dX11_hillLine_256 : decode cX11_hillLine 256 = .ok (.iload_n 1, 1) := dqn_27 (k := 104) qh_cX11_hillLine rfl rfl
theorem dX11_hillLine_257 : decode cX11_hillLine 257 = .ok (.invokevirtual 177, 3) := dqn_182 (k := 101) qh_cX11_hillLine rfl rfl rfl
theorem dX11_hillLine_260 : decode cX11_hillLine 260 = .ok (.ireturn, 1) := dqn_172 (k := 100) qh_cX11_hillLine rfl rfl
theorem dX11_hillLine_261 : decode cX11_hillLine 261 = .ok (.iload 4, 2) := dqn_21 (k := 98) qh_cX11_hillLine rfl rfl rfl
theorem dX11_hillLine_263 : decode cX11_hillLine 263 = .ok (.iconst (-1), 1) := dqn_2 (k := 97) qh_cX11_hillLine rfl rfl
theorem dX11_hillLine_264 : decode cX11_hillLine 264 = .ok (.if_icmp .eq 10, 3) := dqn_159 (k := 94) (u := 10) qh_cX11_hillLine rfl rfl rfl (sg_p rfl rfl)
theorem dX11_hillLine_267 : decode cX11_hillLine 267 = .ok (.aload_n 0, 1) := dqn_42 (k := 93) qh_cX11_hillLine rfl rfl
theorem dX11_hillLine_268 : decode cX11_hillLine 268 = .ok (.iload 4, 2) := dqn_21 (k := 91) qh_cX11_hillLine rfl rfl rfl
theorem dX11_hillLine_270 : decode cX11_hillLine 270 = .ok (.invokevirtual 180, 3) := dqn_182 (k := 88) qh_cX11_hillLine rfl rfl rfl
theorem dX11_hillLine_273 : decode cX11_hillLine 273 = .ok (.ireturn, 1) := dqn_172 (k := 87) qh_cX11_hillLine rfl rfl
theorem dX11_hillLine_274 : decode cX11_hillLine 274 = .ok (.iload 5, 2) := dqn_21 (k := 85) qh_cX11_hillLine rfl rfl rfl
theorem dX11_hillLine_276 : decode cX11_hillLine 276 = .ok (.iconst 3, 1) := dqn_6 (k := 84) qh_cX11_hillLine rfl rfl
theorem dX11_hillLine_277 : decode cX11_hillLine 277 = .ok (.if_icmp .ne 8, 3) := dqn_160 (k := 81) (u := 8) qh_cX11_hillLine rfl rfl rfl (sg_p rfl rfl)
theorem dX11_hillLine_280 : decode cX11_hillLine 280 = .ok (.bipush 24, 2) := dqn_16 (k := 79) (u := 24) qh_cX11_hillLine rfl rfl rfl (by decide)
theorem dX11_hillLine_282 : decode cX11_hillLine 282 = .ok (.goto 46, 3) := dqn_167 (k := 76) (u := 46) qh_cX11_hillLine rfl rfl rfl (sg_p rfl rfl)
theorem dX11_hillLine_285 : decode cX11_hillLine 285 = .ok (.iload 5, 2) := dqn_21 (k := 74) qh_cX11_hillLine rfl rfl rfl
theorem dX11_hillLine_287 : decode cX11_hillLine 287 = .ok (.iconst 4, 1) := dqn_7 (k := 73) qh_cX11_hillLine rfl rfl
theorem dX11_hillLine_288 : decode cX11_hillLine 288 = .ok (.if_icmp .eq 10, 3) := dqn_159 (k := 70) (u := 10) qh_cX11_hillLine rfl rfl rfl (sg_p rfl rfl)
theorem dX11_hillLine_291 : decode cX11_hillLine 291 = .ok (.iload 5, 2) := dqn_21 (k := 68) qh_cX11_hillLine rfl rfl rfl
theorem dX11_hillLine_293 : decode cX11_hillLine 293 = .ok (.bipush 13, 2) := dqn_16 (k := 66) (u := 13) qh_cX11_hillLine rfl rfl rfl (by decide)
theorem dX11_hillLine_295 : decode cX11_hillLine 295 = .ok (.if_icmp .ne 8, 3) := dqn_160 (k := 63) (u := 8) qh_cX11_hillLine rfl rfl rfl (sg_p rfl rfl)
theorem dX11_hillLine_298 : decode cX11_hillLine 298 = .ok (.bipush 10, 2) := dqn_16 (k := 61) (u := 10) qh_cX11_hillLine rfl rfl rfl (by decide)
theorem dX11_hillLine_300 : decode cX11_hillLine 300 = .ok (.goto 28, 3) := dqn_167 (k := 58) (u := 28) qh_cX11_hillLine rfl rfl rfl (sg_p rfl rfl)
theorem dX11_hillLine_303 : decode cX11_hillLine 303 = .ok (.iload 5, 2) := dqn_21 (k := 56) qh_cX11_hillLine rfl rfl rfl
theorem dX11_hillLine_305 : decode cX11_hillLine 305 = .ok (.iconst 5, 1) := dqn_8 (k := 55) qh_cX11_hillLine rfl rfl
theorem dX11_hillLine_306 : decode cX11_hillLine 306 = .ok (.if_icmp .ne 9, 3) := dqn_160 (k := 52) (u := 9) qh_cX11_hillLine rfl rfl rfl (sg_p rfl rfl)
theorem dX11_hillLine_309 : decode cX11_hillLine 309 = .ok (.sipush 999, 3) := dqn_17 (k := 49) (u := 999) qh_cX11_hillLine rfl rfl rfl (sg_p rfl rfl)
theorem dX11_hillLine_312 : decode cX11_hillLine 312 = .ok (.goto 16, 3) := dqn_167 (k := 46) (u := 16) qh_cX11_hillLine rfl rfl rfl (sg_p rfl rfl)
theorem dX11_hillLine_315 : decode cX11_hillLine 315 = .ok (.iload 5, 2) := dqn_21 (k := 44) qh_cX11_hillLine rfl rfl rfl
theorem dX11_hillLine_317 : decode cX11_hillLine 317 = .ok (.bipush 6, 2) := dqn_16 (k := 42) (u := 6) qh_cX11_hillLine rfl rfl rfl (by decide)
theorem dX11_hillLine_319 : decode cX11_hillLine 319 = .ok (.if_icmp .ne 7, 3) := dqn_160 (k := 39) (u := 7) qh_cX11_hillLine rfl rfl rfl (sg_p rfl rfl)
theorem dX11_hillLine_322 : decode cX11_hillLine 322 = .ok (.iconst 3, 1) := dqn_6 (k := 38) qh_cX11_hillLine rfl rfl
theorem dX11_hillLine_323 : decode cX11_hillLine 323 = .ok (.goto 5, 3) := dqn_167 (k := 35) (u := 5) qh_cX11_hillLine rfl rfl rfl (sg_p rfl rfl)
theorem dX11_hillLine_326 : decode cX11_hillLine 326 = .ok (.bipush 99, 2) := dqn_16 (k := 33) (u := 99) qh_cX11_hillLine rfl rfl rfl (by decide)
theorem dX11_hillLine_328 : decode cX11_hillLine 328 = .ok (.istore 6, 2) := dqn_54 (k := 31) qh_cX11_hillLine rfl rfl rfl
theorem dX11_hillLine_330 : decode cX11_hillLine 330 = .ok (.aload_n 0, 1) := dqn_42 (k := 30) qh_cX11_hillLine rfl rfl
theorem dX11_hillLine_331 : decode cX11_hillLine 331 = .ok (.iload 5, 2) := dqn_21 (k := 28) qh_cX11_hillLine rfl rfl rfl
theorem dX11_hillLine_333 : decode cX11_hillLine 333 = .ok (.iload 5, 2) := dqn_21 (k := 26) qh_cX11_hillLine rfl rfl rfl
theorem dX11_hillLine_335 : decode cX11_hillLine 335 = .ok (.bipush 9, 2) := dqn_16 (k := 24) (u := 9) qh_cX11_hillLine rfl rfl rfl (by decide)
theorem dX11_hillLine_337 : decode cX11_hillLine 337 = .ok (.if_icmp .eq 10, 3) := dqn_159 (k := 21) (u := 10) qh_cX11_hillLine rfl rfl rfl (sg_p rfl rfl)
theorem dX11_hillLine_340 : decode cX11_hillLine 340 = .ok (.iload 5, 2) := dqn_21 (k := 19) qh_cX11_hillLine rfl rfl rfl
theorem dX11_hillLine_342 : decode cX11_hillLine 342 = .ok (.bipush 13, 2) := dqn_16 (k := 17) (u := 13) qh_cX11_hillLine rfl rfl rfl (by decide)
theorem dX11_hillLine_344 : decode cX11_hillLine 344 = .ok (.if_icmp .ne 7, 3) := dqn_160 (k := 14) (u := 7) qh_cX11_hillLine rfl rfl rfl (sg_p rfl rfl)
theorem dX11_hillLine_347 : decode cX11_hillLine 347 = .ok (.iconst 2, 1) := dqn_5 (k := 13) qh_cX11_hillLine rfl rfl
theorem dX11_hillLine_348 : decode cX11_hillLine 348 = .ok (.goto 4, 3) := dqn_167 (k := 10) (u := 4) qh_cX11_hillLine rfl rfl rfl (sg_p rfl rfl)
theorem dX11_hillLine_351 : decode cX11_hillLine 351 = .ok (.iconst 1, 1) := dqn_4 (k := 9) qh_cX11_hillLine rfl rfl
theorem dX11_hillLine_352 : decode cX11_hillLine 352 = .ok (.iconst 0, 1) := dqn_3 (k := 8) qh_cX11_hillLine rfl rfl
theorem dX11_hillLine_353 : decode cX11_hillLine 353 = .ok (.iload 6, 2) := dqn_21 (k := 6) qh_cX11_hillLine rfl rfl rfl
theorem dX11_hillLine_355 : decode cX11_hillLine 355 = .ok (.bipush 10, 2) := dqn_16 (k := 4) (u := 10) qh_cX11_hillLine rfl rfl rfl (by decide)
theorem dX11_hillLine_357 : decode cX11_hillLine 357 = .ok (.invokevirtual 183, 3) := dqn_182 (k := 1) qh_cX11_hillLine rfl rfl rfl
theorem dX11_hillLine_360 : decode cX11_hillLine 360 = .ok (.ireturn, 1) := dqn_172 (k := 0) qh_cX11_hillLine rfl rfl
theorem dX11_workLine_0 : decode cX11_workLine 0 = .ok (.aload_n 0, 1) := dqn_42 (k := 249) qh_cX11_workLine rfl rfl
theorem dX11_workLine_1 : decode cX11_workLine 1 = .ok (.getfield 103, 3) := dqn_180 (k := 246) qh_cX11_workLine rfl rfl rfl
theorem dX11_workLine_4 : decode cX11_workLine 4 = .ok (.iconst 2, 1) := dqn_5 (k := 245) qh_cX11_workLine rfl rfl
theorem dX11_workLine_5 : decode cX11_workLine 5 = .ok (.if_icmp .ne 10, 3) := dqn_160 (k := 242) (u := 10) qh_cX11_workLine rfl rfl rfl (sg_p rfl rfl)
theorem dX11_workLine_8 : decode cX11_workLine 8 = .ok (.aload_n 0, 1) := dqn_42 (k := 241) qh_cX11_workLine rfl rfl
theorem dX11_workLine_9 : decode cX11_workLine 9 = .ok (.getfield 99, 3) := dqn_180 (k := 238) qh_cX11_workLine rfl rfl rfl
theorem dX11_workLine_12 : decode cX11_workLine 12 = .ok (.goto 4, 3) := dqn_167 (k := 235) (u := 4) qh_cX11_workLine rfl rfl rfl (sg_p rfl rfl)
theorem dX11_workLine_15 : decode cX11_workLine 15 = .ok (.lconst 0, 1) := dqn_9 (k := 234) qh_cX11_workLine rfl rfl
theorem dX11_workLine_16 : decode cX11_workLine 16 = .ok (.lstore_n 2, 1) := dqn_65 (k := 233) qh_cX11_workLine rfl rfl
theorem dX11_workLine_17 : decode cX11_workLine 17 = .ok (.lload_n 2, 1) := dqn_32 (k := 232) qh_cX11_workLine rfl rfl
theorem dX11_workLine_18 : decode cX11_workLine 18 = .ok (.ldc2_w 143, 3) := dqn_20 (k := 229) qh_cX11_workLine rfl rfl rfl
theorem dX11_workLine_21 : decode cX11_workLine 21 = .ok (.lcmp, 1) := dqn_148 (k := 228) qh_cX11_workLine rfl rfl
theorem dX11_workLine_22 : decode cX11_workLine 22 = .ok (.ifCond .ne 7, 3) := dqn_154 (k := 225) (u := 7) qh_cX11_workLine rfl rfl rfl (sg_p rfl rfl)
theorem dX11_workLine_25 : decode cX11_workLine 25 = .ok (.iconst 0, 1) := dqn_3 (k := 224) qh_cX11_workLine rfl rfl
theorem dX11_workLine_26 : decode cX11_workLine 26 = .ok (.goto 52, 3) := dqn_167 (k := 221) (u := 52) qh_cX11_workLine rfl rfl rfl (sg_p rfl rfl)
theorem dX11_workLine_29 : decode cX11_workLine 29 = .ok (.lload_n 2, 1) := dqn_32 (k := 220) qh_cX11_workLine rfl rfl
theorem dX11_workLine_30 : decode cX11_workLine 30 = .ok (.ldc2_w 187, 3) := dqn_20 (k := 217) qh_cX11_workLine rfl rfl rfl
theorem dX11_workLine_33 : decode cX11_workLine 33 = .ok (.lcmp, 1) := dqn_148 (k := 216) qh_cX11_workLine rfl rfl
theorem dX11_workLine_34 : decode cX11_workLine 34 = .ok (.ifCond .ne 7, 3) := dqn_154 (k := 213) (u := 7) qh_cX11_workLine rfl rfl rfl (sg_p rfl rfl)
theorem dX11_workLine_37 : decode cX11_workLine 37 = .ok (.iconst 1, 1) := dqn_4 (k := 212) qh_cX11_workLine rfl rfl
theorem dX11_workLine_38 : decode cX11_workLine 38 = .ok (.goto 40, 3) := dqn_167 (k := 209) (u := 40) qh_cX11_workLine rfl rfl rfl (sg_p rfl rfl)
theorem dX11_workLine_41 : decode cX11_workLine 41 = .ok (.lload_n 2, 1) := dqn_32 (k := 208) qh_cX11_workLine rfl rfl
theorem dX11_workLine_42 : decode cX11_workLine 42 = .ok (.ldc2_w 189, 3) := dqn_20 (k := 205) qh_cX11_workLine rfl rfl rfl
theorem dX11_workLine_45 : decode cX11_workLine 45 = .ok (.lcmp, 1) := dqn_148 (k := 204) qh_cX11_workLine rfl rfl
theorem dX11_workLine_46 : decode cX11_workLine 46 = .ok (.ifCond .ne 7, 3) := dqn_154 (k := 201) (u := 7) qh_cX11_workLine rfl rfl rfl (sg_p rfl rfl)
theorem dX11_workLine_49 : decode cX11_workLine 49 = .ok (.iconst 2, 1) := dqn_5 (k := 200) qh_cX11_workLine rfl rfl
theorem dX11_workLine_50 : decode cX11_workLine 50 = .ok (.goto 28, 3) := dqn_167 (k := 197) (u := 28) qh_cX11_workLine rfl rfl rfl (sg_p rfl rfl)
theorem dX11_workLine_53 : decode cX11_workLine 53 = .ok (.lload_n 2, 1) := dqn_32 (k := 196) qh_cX11_workLine rfl rfl
theorem dX11_workLine_54 : decode cX11_workLine 54 = .ok (.ldc2_w 147, 3) := dqn_20 (k := 193) qh_cX11_workLine rfl rfl rfl
theorem dX11_workLine_57 : decode cX11_workLine 57 = .ok (.lcmp, 1) := dqn_148 (k := 192) qh_cX11_workLine rfl rfl
theorem dX11_workLine_58 : decode cX11_workLine 58 = .ok (.ifCond .ne 7, 3) := dqn_154 (k := 189) (u := 7) qh_cX11_workLine rfl rfl rfl (sg_p rfl rfl)
theorem dX11_workLine_61 : decode cX11_workLine 61 = .ok (.iconst 3, 1) := dqn_6 (k := 188) qh_cX11_workLine rfl rfl
theorem dX11_workLine_62 : decode cX11_workLine 62 = .ok (.goto 16, 3) := dqn_167 (k := 185) (u := 16) qh_cX11_workLine rfl rfl rfl (sg_p rfl rfl)
theorem dX11_workLine_65 : decode cX11_workLine 65 = .ok (.lload_n 2, 1) := dqn_32 (k := 184) qh_cX11_workLine rfl rfl
theorem dX11_workLine_66 : decode cX11_workLine 66 = .ok (.ldc2_w 191, 3) := dqn_20 (k := 181) qh_cX11_workLine rfl rfl rfl
theorem dX11_workLine_69 : decode cX11_workLine 69 = .ok (.lcmp, 1) := dqn_148 (k := 180) qh_cX11_workLine rfl rfl
theorem dX11_workLine_70 : decode cX11_workLine 70 = .ok (.ifCond .ne 7, 3) := dqn_154 (k := 177) (u := 7) qh_cX11_workLine rfl rfl rfl (sg_p rfl rfl)
theorem dX11_workLine_73 : decode cX11_workLine 73 = .ok (.iconst 4, 1) := dqn_7 (k := 176) qh_cX11_workLine rfl rfl
theorem dX11_workLine_74 : decode cX11_workLine 74 = .ok (.goto 4, 3) := dqn_167 (k := 173) (u := 4) qh_cX11_workLine rfl rfl rfl (sg_p rfl rfl)
theorem dX11_workLine_77 : decode cX11_workLine 77 = .ok (.iconst (-1), 1) := dqn_2 (k := 172) qh_cX11_workLine rfl rfl
theorem dX11_workLine_78 : decode cX11_workLine 78 = .ok (.istore 4, 2) := dqn_54 (k := 170) qh_cX11_workLine rfl rfl rfl
theorem dX11_workLine_80 : decode cX11_workLine 80 = .ok (.iload 4, 2) := dqn_21 (k := 168) qh_cX11_workLine rfl rfl rfl
theorem dX11_workLine_82 : decode cX11_workLine 82 = .ok (.iconst (-1), 1) := dqn_2 (k := 167) qh_cX11_workLine rfl rfl
theorem dX11_workLine_83 : decode cX11_workLine 83 = .ok (.if_icmp .ne 8, 3) := dqn_160 (k := 164) (u := 8) qh_cX11_workLine rfl rfl rfl (sg_p rfl rfl)
theorem dX11_workLine_86 : decode cX11_workLine 86 = .ok (.aload_n 0, 1) := dqn_42 (k := 163) qh_cX11_workLine rfl rfl
theorem dX11_workLine_87 : decode cX11_workLine 87 = .ok (.invokevirtual 118, 3) := dqn_182 (k := 160) qh_cX11_workLine rfl rfl rfl
theorem dX11_workLine_90 : decode cX11_workLine 90 = .ok (.ireturn, 1) := dqn_172 (k := 159) qh_cX11_workLine rfl rfl
theorem dX11_workLine_91 : decode cX11_workLine 91 = .ok (.aload_n 0, 1) := dqn_42 (k := 158) qh_cX11_workLine rfl rfl
theorem dX11_workLine_92 : decode cX11_workLine 92 = .ok (.getfield 32, 3) := dqn_180 (k := 155) qh_cX11_workLine rfl rfl rfl
theorem dX11_workLine_95 : decode cX11_workLine 95 = .ok (.iconst 0, 1) := dqn_3 (k := 154) qh_cX11_workLine rfl rfl
theorem dX11_workLine_96 : decode cX11_workLine 96 = .ok (.iaload, 1) := dqn_46 (k := 153) qh_cX11_workLine rfl rfl
theorem dX11_workLine_97 : decode cX11_workLine 97 = .ok (.istore 5, 2) := dqn_54 (k := 151) qh_cX11_workLine rfl rfl rfl
theorem dX11_workLine_99 : decode cX11_workLine 99 = .ok (.iload 5, 2) := dqn_21 (k := 149) qh_cX11_workLine rfl rfl rfl
theorem dX11_workLine_101 : decode cX11_workLine 101 = .ok (.bipush 12, 2) := dqn_16 (k := 147) (u := 12) qh_cX11_workLine rfl rfl rfl (by decide)
theorem dX11_workLine_103 : decode cX11_workLine 103 = .ok (.if_icmp .ne 9, 3) := dqn_160 (k := 144) (u := 9) qh_cX11_workLine rfl rfl rfl (sg_p rfl rfl)
theorem dX11_workLine_106 : decode cX11_workLine 106 = .ok (.aload_n 0, 1) := dqn_42 (k := 143) qh_cX11_workLine rfl rfl
theorem dX11_workLine_107 : decode cX11_workLine 107 = .ok (.iconst 3, 1) := dqn_6 (k := 142) qh_cX11_workLine rfl rfl
theorem dX11_workLine_108 : decode cX11_workLine 108 = .ok (.iload_n 1, 1) := dqn_27 (k := 141) qh_cX11_workLine rfl rfl
theorem dX11_workLine_109 : decode cX11_workLine 109 = .ok (.invokevirtual 125, 3) := dqn_182 (k := 138) qh_cX11_workLine rfl rfl rfl
theorem dX11_workLine_112 : decode cX11_workLine 112 = .ok (.aload_n 0, 1) := dqn_42 (k := 137) qh_cX11_workLine rfl rfl
theorem dX11_workLine_113 : decode cX11_workLine 113 = .ok (.invokevirtual 133, 3) := dqn_182 (k := 134) qh_cX11_workLine rfl rfl rfl
theorem dX11_workLine_116 : decode cX11_workLine 116 = .ok (.aload_n 0, 1) := dqn_42 (k := 133) qh_cX11_workLine rfl rfl
theorem dX11_workLine_117 : decode cX11_workLine 117 = .ok (.getfield 35, 3) := dqn_180 (k := 130) qh_cX11_workLine rfl rfl rfl
theorem dX11_workLine_120 : decode cX11_workLine 120 = .ok (.iconst 1, 1) := dqn_4 (k := 129) qh_cX11_workLine rfl rfl
theorem dX11_workLine_121 : decode cX11_workLine 121 = .ok (.iconst (-1), 1) := dqn_2 (k := 128) qh_cX11_workLine rfl rfl
theorem dX11_workLine_122 : decode cX11_workLine 122 = .ok (.iastore, 1) := dqn_79 (k := 127) qh_cX11_workLine rfl rfl
theorem dX11_workLine_123 : decode cX11_workLine 123 = .ok (.aload_n 0, 1) := dqn_42 (k := 126) qh_cX11_workLine rfl rfl
theorem dX11_workLine_124 : decode cX11_workLine 124 = .ok (.iconst 0, 1) := dqn_3 (k := 125) qh_cX11_workLine rfl rfl
theorem dX11_workLine_125 : decode cX11_workLine 125 = .ok (.iconst 0, 1) := dqn_3 (k := 124) qh_cX11_workLine rfl rfl
theorem dX11_workLine_126 : decode cX11_workLine 126 = .ok (.bipush 8, 2) := dqn_16 (k := 122) (u := 8) qh_cX11_workLine rfl rfl rfl (by decide)
theorem dX11_workLine_128 : decode cX11_workLine 128 = .ok (.invokevirtual 140, 3) := dqn_182 (k := 119) qh_cX11_workLine rfl rfl rfl
theorem dX11_workLine_131 : decode cX11_workLine 131 = .ok (.ifCond .eq 51, 3) := dqn_153 (k := 116) (u := 51) qh_cX11_workLine rfl rfl rfl (sg_p rfl rfl)
theorem dX11_workLine_134 : decode cX11_workLine 134 = .ok (.iload 4, 2) := dqn_21 (k := 114) qh_cX11_workLine rfl rfl rfl
theorem dX11_workLine_136 : decode cX11_workLine 136 = .ok (.iconst 4, 1) := dqn_7 (k := 113) qh_cX11_workLine rfl rfl
theorem dX11_workLine_137 : decode cX11_workLine 137 = .ok (.if_icmp .eq 47, 3) := dqn_159 (k := 110) (u := 47) qh_cX11_workLine rfl rfl rfl (sg_p rfl rfl)
theorem dX11_workLine_140 : decode cX11_workLine 140 = .ok (.aload_n 0, 1) := dqn_42 (k := 109) qh_cX11_workLine rfl rfl
theorem dX11_workLine_141 : decode cX11_workLine 141 = .ok (.iconst 1, 1) := dqn_4 (k := 108) qh_cX11_workLine rfl rfl
theorem dX11_workLine_142 : decode cX11_workLine 142 = .ok (.iload 4, 2) := dqn_21 (k := 106) qh_cX11_workLine rfl rfl rfl
theorem dX11_workLine_144 : decode cX11_workLine 144 = .ok (.iconst 3, 1) := dqn_6 (k := 105) qh_cX11_workLine rfl rfl
theorem dX11_workLine_145 : decode cX11_workLine 145 = .ok (.if_icmp .ne 7, 3) := dqn_160 (k := 102) (u := 7) qh_cX11_workLine rfl rfl rfl (sg_p rfl rfl)
theorem dX11_workLine_148 : decode cX11_workLine 148 = .ok (.iconst 0, 1) := dqn_3 (k := 101) qh_cX11_workLine rfl rfl
theorem dX11_workLine_149 : decode cX11_workLine 149 = .ok (.goto 4, 3) := dqn_167 (k := 98) (u := 4) qh_cX11_workLine rfl rfl rfl (sg_p rfl rfl)
theorem dX11_workLine_152 : decode cX11_workLine 152 = .ok (.iconst 1, 1) := dqn_4 (k := 97) qh_cX11_workLine rfl rfl
theorem dX11_workLine_153 : decode cX11_workLine 153 = .ok (.iload 4, 2) := dqn_21 (k := 95) qh_cX11_workLine rfl rfl rfl
theorem dX11_workLine_155 : decode cX11_workLine 155 = .ok (.ifCond .ne 8, 3) := dqn_154 (k := 92) (u := 8) qh_cX11_workLine rfl rfl rfl (sg_p rfl rfl)
theorem dX11_workLine_158 : decode cX11_workLine 158 = .ok (.bipush 10, 2) := dqn_16 (k := 90) (u := 10) qh_cX11_workLine rfl rfl rfl (by decide)
theorem dX11_workLine_160 : decode cX11_workLine 160 = .ok (.goto 16, 3) := dqn_167 (k := 87) (u := 16) qh_cX11_workLine rfl rfl rfl (sg_p rfl rfl)
theorem dX11_workLine_163 : decode cX11_workLine 163 = .ok (.iload 4, 2) := dqn_21 (k := 85) qh_cX11_workLine rfl rfl rfl
theorem dX11_workLine_165 : decode cX11_workLine 165 = .ok (.iconst 3, 1) := dqn_6 (k := 84) qh_cX11_workLine rfl rfl
theorem dX11_workLine_166 : decode cX11_workLine 166 = .ok (.if_icmp .ne 8, 3) := dqn_160 (k := 81) (u := 8) qh_cX11_workLine rfl rfl rfl (sg_p rfl rfl)
theorem dX11_workLine_169 : decode cX11_workLine 169 = .ok (.bipush 8, 2) := dqn_16 (k := 79) (u := 8) qh_cX11_workLine rfl rfl rfl (by decide)
theorem dX11_workLine_171 : decode cX11_workLine 171 = .ok (.goto 5, 3) := dqn_167 (k := 76) (u := 5) qh_cX11_workLine rfl rfl rfl (sg_p rfl rfl)
theorem dX11_workLine_174 : decode cX11_workLine 174 = .ok (.bipush 24, 2) := dqn_16 (k := 74) (u := 24) qh_cX11_workLine rfl rfl rfl (by decide)
theorem dX11_workLine_176 : decode cX11_workLine 176 = .ok (.invokevirtual 140, 3) := dqn_182 (k := 71) qh_cX11_workLine rfl rfl rfl
theorem dX11_workLine_179 : decode cX11_workLine 179 = .ok (.ifCond .ne 5, 3) := dqn_154 (k := 68) (u := 5) qh_cX11_workLine rfl rfl rfl (sg_p rfl rfl)
theorem dX11_workLine_182 : decode cX11_workLine 182 = .ok (.iconst 0, 1) := dqn_3 (k := 67) qh_cX11_workLine rfl rfl
theorem dX11_workLine_183 : decode cX11_workLine 183 = .ok (.ireturn, 1) := dqn_172 (k := 66) qh_cX11_workLine rfl rfl
theorem dX11_workLine_184 : decode cX11_workLine 184 = .ok (.iload 5, 2) := dqn_21 (k := 64) qh_cX11_workLine rfl rfl rfl
theorem dX11_workLine_186 : decode cX11_workLine 186 = .ok (.bipush 12, 2) := dqn_16 (k := 62) (u := 12) qh_cX11_workLine rfl rfl rfl (by decide)
theorem dX11_workLine_188 : decode cX11_workLine 188 = .ok (.if_icmp .ge 60, 3) := dqn_162 (k := 59) (u := 60) qh_cX11_workLine rfl rfl rfl (sg_p rfl rfl)
theorem dX11_workLine_191 : decode cX11_workLine 191 = .ok (.aload_n 0, 1) := dqn_42 (k := 58) qh_cX11_workLine rfl rfl
theorem dX11_workLine_192 : decode cX11_workLine 192 = .ok (.getfield 32, 3) := dqn_180 (k := 55) qh_cX11_workLine rfl rfl rfl
theorem dX11_workLine_195 : decode cX11_workLine 195 = .ok (.iconst 1, 1) := dqn_4 (k := 54) qh_cX11_workLine rfl rfl
theorem dX11_workLine_196 : decode cX11_workLine 196 = .ok (.iconst 3, 1) := dqn_6 (k := 53) qh_cX11_workLine rfl rfl
theorem dX11_workLine_197 : decode cX11_workLine 197 = .ok (.iload 5, 2) := dqn_21 (k := 51) qh_cX11_workLine rfl rfl rfl
theorem dX11_workLine_199 : decode cX11_workLine 199 = .ok (.imul, 1) := dqn_104 (k := 50) qh_cX11_workLine rfl rfl
theorem dX11_workLine_200 : decode cX11_workLine 200 = .ok (.iadd, 1) := dqn_96 (k := 49) qh_cX11_workLine rfl rfl
theorem dX11_workLine_201 : decode cX11_workLine 201 = .ok (.iload 4, 2) := dqn_21 (k := 47) qh_cX11_workLine rfl rfl rfl
theorem dX11_workLine_203 : decode cX11_workLine 203 = .ok (.iastore, 1) := dqn_79 (k := 46) qh_cX11_workLine rfl rfl
theorem dX11_workLine_204 : decode cX11_workLine 204 = .ok (.aload_n 0, 1) := dqn_42 (k := 45) qh_cX11_workLine rfl rfl
theorem dX11_workLine_205 : decode cX11_workLine 205 = .ok (.getfield 32, 3) := dqn_180 (k := 42) qh_cX11_workLine rfl rfl rfl
theorem dX11_workLine_208 : decode cX11_workLine 208 = .ok (.iconst 2, 1) := dqn_5 (k := 41) qh_cX11_workLine rfl rfl
theorem dX11_workLine_209 : decode cX11_workLine 209 = .ok (.iconst 3, 1) := dqn_6 (k := 40) qh_cX11_workLine rfl rfl
theorem dX11_workLine_210 : decode cX11_workLine 210 = .ok (.iload 5, 2) := dqn_21 (k := 38) qh_cX11_workLine rfl rfl rfl
theorem dX11_workLine_212 : decode cX11_workLine 212 = .ok (.imul, 1) := dqn_104 (k := 37) qh_cX11_workLine rfl rfl
theorem dX11_workLine_213 : decode cX11_workLine 213 = .ok (.iadd, 1) := dqn_96 (k := 36) qh_cX11_workLine rfl rfl
theorem dX11_workLine_214 : decode cX11_workLine 214 = .ok (.aload_n 0, 1) := dqn_42 (k := 35) qh_cX11_workLine rfl rfl
theorem dX11_workLine_215 : decode cX11_workLine 215 = .ok (.getfield 35, 3) := dqn_180 (k := 32) qh_cX11_workLine rfl rfl rfl
theorem dX11_workLine_218 : decode cX11_workLine 218 = .ok (.iconst 0, 1) := dqn_3 (k := 31) qh_cX11_workLine rfl rfl
theorem dX11_workLine_219 : decode cX11_workLine 219 = .ok (.iaload, 1) := dqn_46 (k := 30) qh_cX11_workLine rfl rfl
theorem dX11_workLine_220 : decode cX11_workLine 220 = .ok (.iastore, 1) := dqn_79 (k := 29) qh_cX11_workLine rfl rfl
theorem dX11_workLine_221 : decode cX11_workLine 221 = .ok (.aload_n 0, 1) := dqn_42 (k := 28) qh_cX11_workLine rfl rfl
theorem dX11_workLine_222 : decode cX11_workLine 222 = .ok (.getfield 32, 3) := dqn_180 (k := 25) qh_cX11_workLine rfl rfl rfl
theorem dX11_workLine_225 : decode cX11_workLine 225 = .ok (.iconst 3, 1) := dqn_6 (k := 24) qh_cX11_workLine rfl rfl
theorem dX11_workLine_226 : decode cX11_workLine 226 = .ok (.iconst 3, 1) := dqn_6 (k := 23) qh_cX11_workLine rfl rfl
theorem dX11_workLine_227 : decode cX11_workLine 227 = .ok (.iload 5, 2) := dqn_21 (k := 21) qh_cX11_workLine rfl rfl rfl
theorem dX11_workLine_229 : decode cX11_workLine 229 = .ok (.imul, 1) := dqn_104 (k := 20) qh_cX11_workLine rfl rfl
theorem dX11_workLine_230 : decode cX11_workLine 230 = .ok (.iadd, 1) := dqn_96 (k := 19) qh_cX11_workLine rfl rfl
theorem dX11_workLine_231 : decode cX11_workLine 231 = .ok (.aload_n 0, 1) := dqn_42 (k := 18) qh_cX11_workLine rfl rfl
theorem dX11_workLine_232 : decode cX11_workLine 232 = .ok (.getfield 35, 3) := dqn_180 (k := 15) qh_cX11_workLine rfl rfl rfl
theorem dX11_workLine_235 : decode cX11_workLine 235 = .ok (.iconst 1, 1) := dqn_4 (k := 14) qh_cX11_workLine rfl rfl
theorem dX11_workLine_236 : decode cX11_workLine 236 = .ok (.iaload, 1) := dqn_46 (k := 13) qh_cX11_workLine rfl rfl
theorem dX11_workLine_237 : decode cX11_workLine 237 = .ok (.iastore, 1) := dqn_79 (k := 12) qh_cX11_workLine rfl rfl
theorem dX11_workLine_238 : decode cX11_workLine 238 = .ok (.aload_n 0, 1) := dqn_42 (k := 11) qh_cX11_workLine rfl rfl
theorem dX11_workLine_239 : decode cX11_workLine 239 = .ok (.getfield 32, 3) := dqn_180 (k := 8) qh_cX11_workLine rfl rfl rfl
theorem dX11_workLine_242 : decode cX11_workLine 242 = .ok (.iconst 0, 1) := dqn_3 (k := 7) qh_cX11_workLine rfl rfl
theorem dX11_workLine_243 : decode cX11_workLine 243 = .ok (.dup2, 1) := dqn_92 (k := 6) qh_cX11_workLine rfl rfl
theorem dX11_workLine_244 : decode cX11_workLine 244 = .ok (.iaload, 1) := dqn_46 (k := 5) qh_cX11_workLine rfl rfl
theorem dX11_workLine_245 : decode cX11_workLine 245 = .ok (.iconst 1, 1) := dqn_4 (k := 4) qh_cX11_workLine rfl rfl
theorem dX11_workLine_246 : decode cX11_workLine 246 = .ok (.iadd, 1) := dqn_96 (k := 3) qh_cX11_workLine rfl rfl
theorem dX11_workLine_247 : decode cX11_workLine 247 = .ok (.iastore, 1) := dqn_79 (k := 2) qh_cX11_workLine rfl rfl
theorem dX11_workLine_248 : decode cX11_workLine 248 = .ok (.iconst 1, 1) := dqn_4 (k := 1) qh_cX11_workLine rfl rfl
theorem dX11_workLine_249 : decode cX11_workLine 249 = .ok (.ireturn, 1) := dqn_172 (k := 0) qh_cX11_workLine rfl rfl
