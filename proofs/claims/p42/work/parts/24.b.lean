theorem k1279 : Cond.fieldLink RX11 112 "PondStairModel" "laterFault" "I" ∈ gt := gt_in 1279 (by decide +kernel) (by decide +kernel)
theorem k1280 : Cond.fieldLink RX11 115 "PondStairModel" "laterPlace" "I" ∈ gt := gt_in 1280 (by decide +kernel) (by decide +kernel)
theorem k1278 : Cond.fieldLink RX11 109 "PondStairModel" "wrongAt" "I" ∈ gt := gt_in 1278 (by decide +kernel) (by decide +kernel)
theorem k1281 : Cond.fieldLink RX11 122 "PondStairModel" "read" "I" ∈ gt := gt_in 1281 (by decide +kernel) (by decide +kernel)
theorem k1417 : Cond.methodLink RX11 133 yX11_token ∈ gt := gt_in 1417 (by decide +kernel) (by decide +kernel)
theorem k1419 : Cond.instanceMethod yX11_token ∈ gt := gt_in 1419 (by decide +kernel) (by decide +kernel)
theorem k38 : Cond.selects RX11 yX11_token yX11_token ∈ gt := gt_in 38 (by decide +kernel) (by decide +kernel)
theorem k1420 : Cond.code yX11_token cX11_token 3 none ∈ gt := gt_in 1420 (by decide +kernel) (by decide +kernel)
theorem np_X11_token : yX11_token.cls ≠ "java/lang/invoke/MethodHandle" ∧ yX11_token.cls ≠ "java/lang/invoke/VarHandle" ∧ (parseMethodDescriptor yX11_token.desc).map (fun d => d.parameters.length) = some 0 := by decide +kernel
theorem k1452 : Cond.methodLink RX11 125 yX11_later ∈ gt := gt_in 1452 (by decide +kernel) (by decide +kernel)
theorem k1454 : Cond.instanceMethod yX11_later ∈ gt := gt_in 1454 (by decide +kernel) (by decide +kernel)
theorem k43 : Cond.selects RX11 yX11_later yX11_later ∈ gt := gt_in 43 (by decide +kernel) (by decide +kernel)
theorem k1455 : Cond.code yX11_later cX11_later 3 none ∈ gt := gt_in 1455 (by decide +kernel) (by decide +kernel)
theorem np_X11_later : yX11_later.cls ≠ "java/lang/invoke/MethodHandle" ∧ yX11_later.cls ≠ "java/lang/invoke/VarHandle" ∧ (parseMethodDescriptor yX11_later.desc).map (fun d => d.parameters.length) = some 2 := by decide +kernel
theorem k1282 : Cond.fieldLink RX11 129 "PondStairModel" "good" "Z" ∈ gt := gt_in 1282 (by decide +kernel) (by decide +kernel)
theorem k1444 : Cond.methodLink RX11 118 yX11_stops ∈ gt := gt_in 1444 (by decide +kernel) (by decide +kernel)
theorem k1446 : Cond.instanceMethod yX11_stops ∈ gt := gt_in 1446 (by decide +kernel) (by decide +kernel)
theorem k41 : Cond.selects RX11 yX11_stops yX11_stops ∈ gt := gt_in 41 (by decide +kernel) (by decide +kernel)
theorem k1447 : Cond.code yX11_stops cX11_stops 1 (some .boolean) ∈ gt := gt_in 1447 (by decide +kernel) (by decide +kernel)
theorem np_X11_stops : yX11_stops.cls ≠ "java/lang/invoke/MethodHandle" ∧ yX11_stops.cls ≠ "java/lang/invoke/VarHandle" ∧ (parseMethodDescriptor yX11_stops.desc).map (fun d => d.parameters.length) = some 0 := by decide +kernel
theorem k1460 : Cond.methodLink RX11 136 yX11_number ∈ gt := gt_in 1460 (by decide +kernel) (by decide +kernel)
theorem k1462 : Cond.instanceMethod yX11_number ∈ gt := gt_in 1462 (by decide +kernel) (by decide +kernel)
theorem k45 : Cond.selects RX11 yX11_number yX11_number ∈ gt := gt_in 45 (by decide +kernel) (by decide +kernel)
theorem k1463 : Cond.code yX11_number cX11_number 3 (some .boolean) ∈ gt := gt_in 1463 (by decide +kernel) (by decide +kernel)
theorem np_X11_number : yX11_number.cls ≠ "java/lang/invoke/MethodHandle" ∧ yX11_number.cls ≠ "java/lang/invoke/VarHandle" ∧ (parseMethodDescriptor yX11_number.desc).map (fun d => d.parameters.length) = some 2 := by decide +kernel
theorem k1456 : Cond.methodLink RX11 140 yX11_take ∈ gt := gt_in 1456 (by decide +kernel) (by decide +kernel)
theorem k1458 : Cond.instanceMethod yX11_take ∈ gt := gt_in 1458 (by decide +kernel) (by decide +kernel)
theorem k44 : Cond.selects RX11 yX11_take yX11_take ∈ gt := gt_in 44 (by decide +kernel) (by decide +kernel)
theorem k1459 : Cond.code yX11_take cX11_take 5 (some .boolean) ∈ gt := gt_in 1459 (by decide +kernel) (by decide +kernel)
theorem np_X11_take : yX11_take.cls ≠ "java/lang/invoke/MethodHandle" ∧ yX11_take.cls ≠ "java/lang/invoke/VarHandle" ∧ (parseMethodDescriptor yX11_take.desc).map (fun d => d.parameters.length) = some 3 := by decide +kernel
theorem k1429 : Cond.constantLong RX11 143 1835363940 ∈ gt := gt_in 1429 (by decide +kernel) (by decide +kernel)
theorem k1430 : Cond.constantLong RX11 145 2003395685 ∈ gt := gt_in 1430 (by decide +kernel) (by decide +kernel)
theorem k1431 : Cond.constantLong RX11 147 491496238692 ∈ gt := gt_in 1431 (by decide +kernel) (by decide +kernel)
theorem k1432 : Cond.constantLong RX11 149 1685026670 ∈ gt := gt_in 1432 (by decide +kernel) (by decide +kernel)
theorem k1433 : Cond.constantLong RX11 151 418548114533 ∈ gt := gt_in 1433 (by decide +kernel) (by decide +kernel)
theorem k1434 : Cond.constantLong RX11 153 422607680115 ∈ gt := gt_in 1434 (by decide +kernel) (by decide +kernel)
theorem k1435 : Cond.constantLong RX11 155 1735353715 ∈ gt := gt_in 1435 (by decide +kernel) (by decide +kernel)
theorem k1436 : Cond.constantLong RX11 157 1751216749 ∈ gt := gt_in 1436 (by decide +kernel) (by decide +kernel)
theorem k1437 : Cond.constantLong RX11 159 478745093490 ∈ gt := gt_in 1437 (by decide +kernel) (by decide +kernel)
theorem k1438 : Cond.constantLong RX11 161 1919509349 ∈ gt := gt_in 1438 (by decide +kernel) (by decide +kernel)
theorem k1439 : Cond.constantLong RX11 163 7823737 ∈ gt := gt_in 1439 (by decide +kernel) (by decide +kernel)
theorem k1440 : Cond.constantLong RX11 165 1734440037 ∈ gt := gt_in 1440 (by decide +kernel) (by decide +kernel)
theorem k1441 : Cond.constantLong RX11 167 1936287598 ∈ gt := gt_in 1441 (by decide +kernel) (by decide +kernel)
theorem k1442 : Cond.constantLong RX11 169 1886350948 ∈ gt := gt_in 1442 (by decide +kernel) (by decide +kernel)
theorem k1448 : Cond.methodLink RX11 173 yX11_pondLine ∈ gt := gt_in 1448 (by decide +kernel) (by decide +kernel)
theorem k1450 : Cond.instanceMethod yX11_pondLine ∈ gt := gt_in 1450 (by decide +kernel) (by decide +kernel)
theorem k42 : Cond.selects RX11 yX11_pondLine yX11_pondLine ∈ gt := gt_in 42 (by decide +kernel) (by decide +kernel)
theorem k1451 : Cond.code yX11_pondLine cX11_pondLine 5 (some .boolean) ∈ gt := gt_in 1451 (by decide +kernel) (by decide +kernel)
theorem np_X11_pondLine : yX11_pondLine.cls ≠ "java/lang/invoke/MethodHandle" ∧ yX11_pondLine.cls ≠ "java/lang/invoke/VarHandle" ∧ (parseMethodDescriptor yX11_pondLine.desc).map (fun d => d.parameters.length) = some 1 := by decide +kernel
theorem k1443 : Cond.constantLong RX11 171 1918986606 ∈ gt := gt_in 1443 (by decide +kernel) (by decide +kernel)
theorem k1472 : Cond.methodLink RX11 183 yX11_ofPond ∈ gt := gt_in 1472 (by decide +kernel) (by decide +kernel)
theorem k1474 : Cond.instanceMethod yX11_ofPond ∈ gt := gt_in 1474 (by decide +kernel) (by decide +kernel)
theorem k48 : Cond.selects RX11 yX11_ofPond yX11_ofPond ∈ gt := gt_in 48 (by decide +kernel) (by decide +kernel)
theorem k1475 : Cond.code yX11_ofPond cX11_ofPond 7 (some .boolean) ∈ gt := gt_in 1475 (by decide +kernel) (by decide +kernel)
theorem np_X11_ofPond : yX11_ofPond.cls ≠ "java/lang/invoke/MethodHandle" ∧ yX11_ofPond.cls ≠ "java/lang/invoke/VarHandle" ∧ (parseMethodDescriptor yX11_ofPond.desc).map (fun d => d.parameters.length) = some 5 := by decide +kernel
theorem k1464 : Cond.methodLink RX11 177 yX11_rainLine ∈ gt := gt_in 1464 (by decide +kernel) (by decide +kernel)
theorem k1466 : Cond.instanceMethod yX11_rainLine ∈ gt := gt_in 1466 (by decide +kernel) (by decide +kernel)
theorem k46 : Cond.selects RX11 yX11_rainLine yX11_rainLine ∈ gt := gt_in 46 (by decide +kernel) (by decide +kernel)
theorem k1467 : Cond.code yX11_rainLine cX11_rainLine 3 (some .boolean) ∈ gt := gt_in 1467 (by decide +kernel) (by decide +kernel)
theorem np_X11_rainLine : yX11_rainLine.cls ≠ "java/lang/invoke/MethodHandle" ∧ yX11_rainLine.cls ≠ "java/lang/invoke/VarHandle" ∧ (parseMethodDescriptor yX11_rainLine.desc).map (fun d => d.parameters.length) = some 1 := by decide +kernel
theorem k1468 : Cond.methodLink RX11 180 yX11_daysLine ∈ gt := gt_in 1468 (by decide +kernel) (by decide +kernel)
theorem k1470 : Cond.instanceMethod yX11_daysLine ∈ gt := gt_in 1470 (by decide +kernel) (by decide +kernel)
theorem k47 : Cond.selects RX11 yX11_daysLine yX11_daysLine ∈ gt := gt_in 47 (by decide +kernel) (by decide +kernel)
theorem k1471 : Cond.code yX11_daysLine cX11_daysLine 3 (some .boolean) ∈ gt := gt_in 1471 (by decide +kernel) (by decide +kernel)
theorem np_X11_daysLine : yX11_daysLine.cls ≠ "java/lang/invoke/MethodHandle" ∧ yX11_daysLine.cls ≠ "java/lang/invoke/VarHandle" ∧ (parseMethodDescriptor yX11_daysLine.desc).map (fun d => d.parameters.length) = some 1 := by decide +kernel
theorem k1480 : Cond.constantLong RX11 187 7106423 ∈ gt := gt_in 1480 (by decide +kernel) (by decide +kernel)
theorem k1481 : Cond.constantLong RX11 189 512869295470 ∈ gt := gt_in 1481 (by decide +kernel) (by decide +kernel)
theorem k1482 : Cond.constantLong RX11 191 7304564 ∈ gt := gt_in 1482 (by decide +kernel) (by decide +kernel)
theorem dX11_later_0 : decode cX11_later 0 = .ok (.aload_n 0, 1) := by decide +kernel
theorem dX11_later_1 : decode cX11_later 1 = .ok (.getfield 112, 3) := by decide +kernel
theorem dX11_later_4 : decode cX11_later 4 = .ok (.ifCond .eq 27, 3) := by decide +kernel
theorem dX11_later_7 : decode cX11_later 7 = .ok (.iload_n 2, 1) := by decide +kernel
theorem dX11_later_8 : decode cX11_later 8 = .ok (.aload_n 0, 1) := by decide +kernel
theorem dX11_later_9 : decode cX11_later 9 = .ok (.getfield 115, 3) := by decide +kernel
theorem dX11_later_12 : decode cX11_later 12 = .ok (.if_icmp .lt 19, 3) := by decide +kernel
theorem dX11_later_15 : decode cX11_later 15 = .ok (.iload_n 2, 1) := by decide +kernel
theorem dX11_later_16 : decode cX11_later 16 = .ok (.aload_n 0, 1) := by decide +kernel
theorem dX11_later_17 : decode cX11_later 17 = .ok (.getfield 115, 3) := by decide +kernel
theorem dX11_later_20 : decode cX11_later 20 = .ok (.if_icmp .ne 21, 3) := by decide +kernel
theorem dX11_later_23 : decode cX11_later 23 = .ok (.iload_n 1, 1) := by decide +kernel
theorem dX11_later_24 : decode cX11_later 24 = .ok (.aload_n 0, 1) := by decide +kernel
theorem dX11_later_25 : decode cX11_later 25 = .ok (.getfield 112, 3) := by decide +kernel
theorem dX11_later_28 : decode cX11_later 28 = .ok (.if_icmp .ge 13, 3) := by decide +kernel
theorem dX11_later_31 : decode cX11_later 31 = .ok (.aload_n 0, 1) := by decide +kernel
theorem dX11_later_32 : decode cX11_later 32 = .ok (.iload_n 1, 1) := by decide +kernel
theorem dX11_later_33 : decode cX11_later 33 = .ok (.putfield 112, 3) := by decide +kernel
theorem dX11_later_36 : decode cX11_later 36 = .ok (.aload_n 0, 1) := by decide +kernel
theorem dX11_later_37 : decode cX11_later 37 = .ok (.iload_n 2, 1) := by decide +kernel
theorem dX11_later_38 : decode cX11_later 38 = .ok (.putfield 115, 3) := by decide +kernel
theorem dX11_later_41 : decode cX11_later 41 = .ok (.return_, 1) := by decide +kernel
theorem dX11_stops_0 : decode cX11_stops 0 = .ok (.aload_n 0, 1) := by decide +kernel
theorem dX11_stops_1 : decode cX11_stops 1 = .ok (.aload_n 0, 1) := by decide +kernel
theorem dX11_stops_2 : decode cX11_stops 2 = .ok (.getfield 96, 3) := by decide +kernel
theorem dX11_stops_5 : decode cX11_stops 5 = .ok (.putfield 109, 3) := by decide +kernel
theorem dX11_stops_8 : decode cX11_stops 8 = .ok (.iconst 0, 1) := by decide +kernel
theorem dX11_stops_9 : decode cX11_stops 9 = .ok (.ireturn, 1) := by decide +kernel
theorem dX11_number_0 : decode cX11_number 0 = .ok (.aload_n 0, 1) := by decide +kernel
theorem dX11_number_1 : decode cX11_number 1 = .ok (.getfield 103, 3) := by decide +kernel
theorem dX11_number_4 : decode cX11_number 4 = .ok (.iconst 3, 1) := by decide +kernel
theorem dX11_number_5 : decode cX11_number 5 = .ok (.if_icmp .eq 8, 3) := by decide +kernel
theorem dX11_number_8 : decode cX11_number 8 = .ok (.aload_n 0, 1) := by decide +kernel
theorem dX11_number_9 : decode cX11_number 9 = .ok (.invokevirtual 118, 3) := by decide +kernel
theorem dX11_number_12 : decode cX11_number 12 = .ok (.ireturn, 1) := by decide +kernel
theorem dX11_number_13 : decode cX11_number 13 = .ok (.aload_n 0, 1) := by decide +kernel
theorem dX11_number_14 : decode cX11_number 14 = .ok (.aload_n 0, 1) := by decide +kernel
theorem dX11_number_15 : decode cX11_number 15 = .ok (.getfield 106, 3) := by decide +kernel
theorem dX11_number_18 : decode cX11_number 18 = .ok (.putfield 122, 3) := by decide +kernel
theorem dX11_number_21 : decode cX11_number 21 = .ok (.aload_n 0, 1) := by decide +kernel
theorem dX11_number_22 : decode cX11_number 22 = .ok (.getfield 106, 3) := by decide +kernel
theorem dX11_number_25 : decode cX11_number 25 = .ok (.iload_n 1, 1) := by decide +kernel
theorem dX11_number_26 : decode cX11_number 26 = .ok (.iload_n 2, 1) := by decide +kernel
theorem dX11_number_27 : decode cX11_number 27 = .ok (.invokestatic 78, 3) := by decide +kernel
theorem dX11_number_30 : decode cX11_number 30 = .ok (.ifCond .ne 17, 3) := by decide +kernel
theorem dX11_number_33 : decode cX11_number 33 = .ok (.aload_n 0, 1) := by decide +kernel
theorem dX11_number_34 : decode cX11_number 34 = .ok (.iconst 2, 1) := by decide +kernel
theorem dX11_number_35 : decode cX11_number 35 = .ok (.aload_n 0, 1) := by decide +kernel
theorem dX11_number_36 : decode cX11_number 36 = .ok (.getfield 96, 3) := by decide +kernel
theorem dX11_number_39 : decode cX11_number 39 = .ok (.invokevirtual 125, 3) := by decide +kernel
theorem dX11_number_42 : decode cX11_number 42 = .ok (.aload_n 0, 1) := by decide +kernel
theorem dX11_number_43 : decode cX11_number 43 = .ok (.iconst 0, 1) := by decide +kernel
theorem dX11_number_44 : decode cX11_number 44 = .ok (.putfield 129, 3) := by decide +kernel
theorem dX11_number_47 : decode cX11_number 47 = .ok (.aload_n 0, 1) := by decide +kernel
theorem dX11_number_48 : decode cX11_number 48 = .ok (.invokevirtual 133, 3) := by decide +kernel
theorem dX11_number_51 : decode cX11_number 51 = .ok (.iconst 1, 1) := by decide +kernel
theorem dX11_number_52 : decode cX11_number 52 = .ok (.ireturn, 1) := by decide +kernel
theorem dX11_take_0 : decode cX11_take 0 = .ok (.aload_n 0, 1) := by decide +kernel
theorem dX11_take_1 : decode cX11_take 1 = .ok (.iload_n 2, 1) := by decide +kernel
theorem dX11_take_2 : decode cX11_take 2 = .ok (.iload_n 3, 1) := by decide +kernel
theorem dX11_take_3 : decode cX11_take 3 = .ok (.invokevirtual 136, 3) := by decide +kernel
theorem dX11_take_6 : decode cX11_take 6 = .ok (.istore 4, 2) := by decide +kernel
theorem dX11_take_8 : decode cX11_take 8 = .ok (.aload_n 0, 1) := by decide +kernel
theorem dX11_take_9 : decode cX11_take 9 = .ok (.getfield 35, 3) := by decide +kernel
theorem dX11_take_12 : decode cX11_take 12 = .ok (.iload_n 1, 1) := by decide +kernel
theorem dX11_take_13 : decode cX11_take 13 = .ok (.aload_n 0, 1) := by decide +kernel
theorem dX11_take_14 : decode cX11_take 14 = .ok (.getfield 122, 3) := by decide +kernel
theorem dX11_take_17 : decode cX11_take 17 = .ok (.iastore, 1) := by decide +kernel
theorem dX11_take_18 : decode cX11_take 18 = .ok (.iload 4, 2) := by decide +kernel
theorem dX11_take_20 : decode cX11_take 20 = .ok (.ireturn, 1) := by decide +kernel
theorem dX11_pondLine_0 : decode cX11_pondLine 0 = .ok (.aload_n 0, 1) := by decide +kernel
theorem dX11_pondLine_1 : decode cX11_pondLine 1 = .ok (.getfield 32, 3) := by decide +kernel
theorem dX11_pondLine_4 : decode cX11_pondLine 4 = .ok (.iconst 0, 1) := by decide +kernel
theorem dX11_pondLine_5 : decode cX11_pondLine 5 = .ok (.iaload, 1) := by decide +kernel
theorem dX11_pondLine_6 : decode cX11_pondLine 6 = .ok (.istore_n 2, 1) := by decide +kernel
theorem dX11_pondLine_7 : decode cX11_pondLine 7 = .ok (.iload_n 2, 1) := by decide +kernel
theorem dX11_pondLine_8 : decode cX11_pondLine 8 = .ok (.bipush 9, 2) := by decide +kernel
theorem dX11_pondLine_10 : decode cX11_pondLine 10 = .ok (.if_icmp .ne 9, 3) := by decide +kernel
theorem dX11_pondLine_13 : decode cX11_pondLine 13 = .ok (.aload_n 0, 1) := by decide +kernel
theorem dX11_pondLine_14 : decode cX11_pondLine 14 = .ok (.iconst 3, 1) := by decide +kernel
theorem dX11_pondLine_15 : decode cX11_pondLine 15 = .ok (.iload_n 1, 1) := by decide +kernel
theorem dX11_pondLine_16 : decode cX11_pondLine 16 = .ok (.invokevirtual 125, 3) := by decide +kernel
theorem dX11_pondLine_19 : decode cX11_pondLine 19 = .ok (.aload_n 0, 1) := by decide +kernel
theorem dX11_pondLine_20 : decode cX11_pondLine 20 = .ok (.iconst 0, 1) := by decide +kernel
theorem dX11_pondLine_21 : decode cX11_pondLine 21 = .ok (.iconst 0, 1) := by decide +kernel
theorem dX11_pondLine_22 : decode cX11_pondLine 22 = .ok (.bipush 24, 2) := by decide +kernel
theorem dX11_pondLine_24 : decode cX11_pondLine 24 = .ok (.invokevirtual 140, 3) := by decide +kernel
theorem dX11_pondLine_27 : decode cX11_pondLine 27 = .ok (.ifCond .eq 45, 3) := by decide +kernel
theorem dX11_pondLine_30 : decode cX11_pondLine 30 = .ok (.aload_n 0, 1) := by decide +kernel
theorem dX11_pondLine_31 : decode cX11_pondLine 31 = .ok (.iconst 1, 1) := by decide +kernel
theorem dX11_pondLine_32 : decode cX11_pondLine 32 = .ok (.iconst 0, 1) := by decide +kernel
theorem dX11_pondLine_33 : decode cX11_pondLine 33 = .ok (.aload_n 0, 1) := by decide +kernel
theorem dX11_pondLine_34 : decode cX11_pondLine 34 = .ok (.getfield 35, 3) := by decide +kernel
theorem dX11_pondLine_37 : decode cX11_pondLine 37 = .ok (.iconst 0, 1) := by decide +kernel
theorem dX11_pondLine_38 : decode cX11_pondLine 38 = .ok (.iaload, 1) := by decide +kernel
theorem dX11_pondLine_39 : decode cX11_pondLine 39 = .ok (.bipush 24, 2) := by decide +kernel
theorem dX11_pondLine_41 : decode cX11_pondLine 41 = .ok (.if_icmp .ge 12, 3) := by decide +kernel
theorem dX11_pondLine_44 : decode cX11_pondLine 44 = .ok (.aload_n 0, 1) := by decide +kernel
theorem dX11_pondLine_45 : decode cX11_pondLine 45 = .ok (.getfield 35, 3) := by decide +kernel
theorem dX11_pondLine_48 : decode cX11_pondLine 48 = .ok (.iconst 0, 1) := by decide +kernel
theorem dX11_pondLine_49 : decode cX11_pondLine 49 = .ok (.iaload, 1) := by decide +kernel
theorem dX11_pondLine_50 : decode cX11_pondLine 50 = .ok (.goto 5, 3) := by decide +kernel
theorem dX11_pondLine_53 : decode cX11_pondLine 53 = .ok (.bipush 24, 2) := by decide +kernel
theorem dX11_pondLine_55 : decode cX11_pondLine 55 = .ok (.invokevirtual 140, 3) := by decide +kernel
theorem dX11_pondLine_58 : decode cX11_pondLine 58 = .ok (.ifCond .eq 14, 3) := by decide +kernel
theorem dX11_pondLine_61 : decode cX11_pondLine 61 = .ok (.aload_n 0, 1) := by decide +kernel
theorem dX11_pondLine_62 : decode cX11_pondLine 62 = .ok (.iconst 2, 1) := by decide +kernel
theorem dX11_pondLine_63 : decode cX11_pondLine 63 = .ok (.iconst 0, 1) := by decide +kernel
theorem dX11_pondLine_64 : decode cX11_pondLine 64 = .ok (.bipush 9, 2) := by decide +kernel
theorem dX11_pondLine_66 : decode cX11_pondLine 66 = .ok (.invokevirtual 140, 3) := by decide +kernel
theorem dX11_pondLine_69 : decode cX11_pondLine 69 = .ok (.ifCond .ne 5, 3) := by decide +kernel
theorem dX11_pondLine_72 : decode cX11_pondLine 72 = .ok (.iconst 0, 1) := by decide +kernel
theorem dX11_pondLine_73 : decode cX11_pondLine 73 = .ok (.ireturn, 1) := by decide +kernel
theorem dX11_pondLine_74 : decode cX11_pondLine 74 = .ok (.iload_n 2, 1) := by decide +kernel
theorem dX11_pondLine_75 : decode cX11_pondLine 75 = .ok (.bipush 9, 2) := by decide +kernel
theorem dX11_pondLine_77 : decode cX11_pondLine 77 = .ok (.if_icmp .ge 88, 3) := by decide +kernel
theorem dX11_pondLine_80 : decode cX11_pondLine 80 = .ok (.bipush 13, 2) := by decide +kernel
theorem dX11_pondLine_82 : decode cX11_pondLine 82 = .ok (.bipush 16, 2) := by decide +kernel
theorem dX11_pondLine_84 : decode cX11_pondLine 84 = .ok (.iload_n 2, 1) := by decide +kernel
theorem dX11_pondLine_85 : decode cX11_pondLine 85 = .ok (.imul, 1) := by decide +kernel
theorem dX11_pondLine_86 : decode cX11_pondLine 86 = .ok (.iadd, 1) := by decide +kernel
theorem dX11_pondLine_87 : decode cX11_pondLine 87 = .ok (.istore_n 3, 1) := by decide +kernel
theorem dX11_pondLine_88 : decode cX11_pondLine 88 = .ok (.iconst 0, 1) := by decide +kernel
theorem dX11_pondLine_89 : decode cX11_pondLine 89 = .ok (.istore 4, 2) := by decide +kernel
theorem dX11_pondLine_91 : decode cX11_pondLine 91 = .ok (.iload 4, 2) := by decide +kernel
theorem dX11_pondLine_93 : decode cX11_pondLine 93 = .ok (.bipush 16, 2) := by decide +kernel
theorem dX11_pondLine_95 : decode cX11_pondLine 95 = .ok (.if_icmp .ge 60, 3) := by decide +kernel
theorem dX11_pondLine_98 : decode cX11_pondLine 98 = .ok (.aload_n 0, 1) := by decide +kernel
theorem dX11_pondLine_99 : decode cX11_pondLine 99 = .ok (.getfield 32, 3) := by decide +kernel
theorem dX11_pondLine_102 : decode cX11_pondLine 102 = .ok (.iload_n 3, 1) := by decide +kernel
theorem dX11_pondLine_103 : decode cX11_pondLine 103 = .ok (.iload 4, 2) := by decide +kernel
theorem dX11_pondLine_105 : decode cX11_pondLine 105 = .ok (.iadd, 1) := by decide +kernel
theorem dX11_pondLine_106 : decode cX11_pondLine 106 = .ok (.iload 4, 2) := by decide +kernel
theorem dX11_pondLine_108 : decode cX11_pondLine 108 = .ok (.iconst 3, 1) := by decide +kernel
theorem dX11_pondLine_109 : decode cX11_pondLine 109 = .ok (.if_icmp .ge 13, 3) := by decide +kernel
theorem dX11_pondLine_112 : decode cX11_pondLine 112 = .ok (.aload_n 0, 1) := by decide +kernel
theorem dX11_pondLine_113 : decode cX11_pondLine 113 = .ok (.getfield 35, 3) := by decide +kernel
theorem dX11_pondLine_116 : decode cX11_pondLine 116 = .ok (.iload 4, 2) := by decide +kernel
theorem dX11_pondLine_118 : decode cX11_pondLine 118 = .ok (.iaload, 1) := by decide +kernel
theorem dX11_pondLine_119 : decode cX11_pondLine 119 = .ok (.goto 29, 3) := by decide +kernel
theorem dX11_pondLine_122 : decode cX11_pondLine 122 = .ok (.iload 4, 2) := by decide +kernel
theorem dX11_pondLine_124 : decode cX11_pondLine 124 = .ok (.bipush 8, 2) := by decide +kernel
theorem dX11_pondLine_126 : decode cX11_pondLine 126 = .ok (.if_icmp .eq 17, 3) := by decide +kernel
theorem dX11_pondLine_129 : decode cX11_pondLine 129 = .ok (.iload 4, 2) := by decide +kernel
theorem dX11_pondLine_131 : decode cX11_pondLine 131 = .ok (.bipush 9, 2) := by decide +kernel
theorem dX11_pondLine_133 : decode cX11_pondLine 133 = .ok (.if_icmp .eq 10, 3) := by decide +kernel
theorem dX11_pondLine_136 : decode cX11_pondLine 136 = .ok (.iload 4, 2) := by decide +kernel
theorem dX11_pondLine_138 : decode cX11_pondLine 138 = .ok (.bipush 12, 2) := by decide +kernel
theorem dX11_pondLine_140 : decode cX11_pondLine 140 = .ok (.if_icmp .ne 7, 3) := by decide +kernel
theorem dX11_pondLine_143 : decode cX11_pondLine 143 = .ok (.iconst (-1), 1) := by decide +kernel
theorem dX11_pondLine_144 : decode cX11_pondLine 144 = .ok (.goto 4, 3) := by decide +kernel
theorem dX11_pondLine_147 : decode cX11_pondLine 147 = .ok (.iconst 0, 1) := by decide +kernel
theorem dX11_pondLine_148 : decode cX11_pondLine 148 = .ok (.iastore, 1) := by decide +kernel
theorem dX11_pondLine_149 : decode cX11_pondLine 149 = .ok (.iinc 4 1, 3) := by decide +kernel
theorem dX11_pondLine_152 : decode cX11_pondLine 152 = .ok (.goto (-61), 3) := by decide +kernel
theorem dX11_pondLine_155 : decode cX11_pondLine 155 = .ok (.aload_n 0, 1) := by decide +kernel
theorem dX11_pondLine_156 : decode cX11_pondLine 156 = .ok (.getfield 32, 3) := by decide +kernel
theorem dX11_pondLine_159 : decode cX11_pondLine 159 = .ok (.iconst 0, 1) := by decide +kernel
theorem dX11_pondLine_160 : decode cX11_pondLine 160 = .ok (.dup2, 1) := by decide +kernel
theorem dX11_pondLine_161 : decode cX11_pondLine 161 = .ok (.iaload, 1) := by decide +kernel
theorem dX11_pondLine_162 : decode cX11_pondLine 162 = .ok (.iconst 1, 1) := by decide +kernel
theorem dX11_pondLine_163 : decode cX11_pondLine 163 = .ok (.iadd, 1) := by decide +kernel
theorem dX11_pondLine_164 : decode cX11_pondLine 164 = .ok (.iastore, 1) := by decide +kernel
theorem dX11_pondLine_165 : decode cX11_pondLine 165 = .ok (.iconst 1, 1) := by decide +kernel
theorem dX11_pondLine_166 : decode cX11_pondLine 166 = .ok (.ireturn, 1) := by decide +kernel
theorem dX11_rainLine_0 : decode cX11_rainLine 0 = .ok (.aload_n 0, 1) := by decide +kernel
theorem dX11_rainLine_1 : decode cX11_rainLine 1 = .ok (.getfield 32, 3) := by decide +kernel
theorem dX11_rainLine_4 : decode cX11_rainLine 4 = .ok (.iconst 1, 1) := by decide +kernel
theorem dX11_rainLine_5 : decode cX11_rainLine 5 = .ok (.iaload, 1) := by decide +kernel
theorem dX11_rainLine_6 : decode cX11_rainLine 6 = .ok (.istore_n 2, 1) := by decide +kernel
theorem dX11_rainLine_7 : decode cX11_rainLine 7 = .ok (.iload_n 2, 1) := by decide +kernel
theorem dX11_rainLine_8 : decode cX11_rainLine 8 = .ok (.iconst 4, 1) := by decide +kernel
theorem dX11_rainLine_9 : decode cX11_rainLine 9 = .ok (.if_icmp .ne 9, 3) := by decide +kernel
theorem dX11_rainLine_12 : decode cX11_rainLine 12 = .ok (.aload_n 0, 1) := by decide +kernel
theorem dX11_rainLine_13 : decode cX11_rainLine 13 = .ok (.iconst 3, 1) := by decide +kernel
theorem dX11_rainLine_14 : decode cX11_rainLine 14 = .ok (.iload_n 1, 1) := by decide +kernel
theorem dX11_rainLine_15 : decode cX11_rainLine 15 = .ok (.invokevirtual 125, 3) := by decide +kernel
theorem dX11_rainLine_18 : decode cX11_rainLine 18 = .ok (.aload_n 0, 1) := by decide +kernel
theorem dX11_rainLine_19 : decode cX11_rainLine 19 = .ok (.iconst 0, 1) := by decide +kernel
theorem dX11_rainLine_20 : decode cX11_rainLine 20 = .ok (.iconst 0, 1) := by decide +kernel
theorem dX11_rainLine_21 : decode cX11_rainLine 21 = .ok (.bipush 9, 2) := by decide +kernel
theorem dX11_rainLine_23 : decode cX11_rainLine 23 = .ok (.invokevirtual 140, 3) := by decide +kernel
theorem dX11_rainLine_26 : decode cX11_rainLine 26 = .ok (.ifCond .eq 14, 3) := by decide +kernel
theorem dX11_rainLine_29 : decode cX11_rainLine 29 = .ok (.aload_n 0, 1) := by decide +kernel
theorem dX11_rainLine_30 : decode cX11_rainLine 30 = .ok (.iconst 1, 1) := by decide +kernel
theorem dX11_rainLine_31 : decode cX11_rainLine 31 = .ok (.iconst 0, 1) := by decide +kernel
theorem dX11_rainLine_32 : decode cX11_rainLine 32 = .ok (.bipush 100, 2) := by decide +kernel
theorem dX11_rainLine_34 : decode cX11_rainLine 34 = .ok (.invokevirtual 140, 3) := by decide +kernel
theorem dX11_rainLine_37 : decode cX11_rainLine 37 = .ok (.ifCond .ne 5, 3) := by decide +kernel
theorem dX11_rainLine_40 : decode cX11_rainLine 40 = .ok (.iconst 0, 1) := by decide +kernel
theorem dX11_rainLine_41 : decode cX11_rainLine 41 = .ok (.ireturn, 1) := by decide +kernel
theorem dX11_rainLine_42 : decode cX11_rainLine 42 = .ok (.iload_n 2, 1) := by decide +kernel
theorem dX11_rainLine_43 : decode cX11_rainLine 43 = .ok (.iconst 4, 1) := by decide +kernel
theorem dX11_rainLine_44 : decode cX11_rainLine 44 = .ok (.if_icmp .ge 47, 3) := by decide +kernel
theorem dX11_rainLine_47 : decode cX11_rainLine 47 = .ok (.aload_n 0, 1) := by decide +kernel
theorem dX11_rainLine_48 : decode cX11_rainLine 48 = .ok (.getfield 32, 3) := by decide +kernel
theorem dX11_rainLine_51 : decode cX11_rainLine 51 = .ok (.iconst 5, 1) := by decide +kernel
theorem dX11_rainLine_52 : decode cX11_rainLine 52 = .ok (.iconst 2, 1) := by decide +kernel
theorem dX11_rainLine_53 : decode cX11_rainLine 53 = .ok (.iload_n 2, 1) := by decide +kernel
theorem dX11_rainLine_54 : decode cX11_rainLine 54 = .ok (.imul, 1) := by decide +kernel
theorem dX11_rainLine_55 : decode cX11_rainLine 55 = .ok (.iadd, 1) := by decide +kernel
theorem dX11_rainLine_56 : decode cX11_rainLine 56 = .ok (.aload_n 0, 1) := by decide +kernel
theorem dX11_rainLine_57 : decode cX11_rainLine 57 = .ok (.getfield 35, 3) := by decide +kernel
theorem dX11_rainLine_60 : decode cX11_rainLine 60 = .ok (.iconst 0, 1) := by decide +kernel
theorem dX11_rainLine_61 : decode cX11_rainLine 61 = .ok (.iaload, 1) := by decide +kernel
theorem dX11_rainLine_62 : decode cX11_rainLine 62 = .ok (.iastore, 1) := by decide +kernel
theorem dX11_rainLine_63 : decode cX11_rainLine 63 = .ok (.aload_n 0, 1) := by decide +kernel
theorem dX11_rainLine_64 : decode cX11_rainLine 64 = .ok (.getfield 32, 3) := by decide +kernel
theorem dX11_rainLine_67 : decode cX11_rainLine 67 = .ok (.iconst 5, 1) := by decide +kernel
theorem dX11_rainLine_68 : decode cX11_rainLine 68 = .ok (.iconst 2, 1) := by decide +kernel
theorem dX11_rainLine_69 : decode cX11_rainLine 69 = .ok (.iload_n 2, 1) := by decide +kernel
theorem dX11_rainLine_70 : decode cX11_rainLine 70 = .ok (.imul, 1) := by decide +kernel
theorem dX11_rainLine_71 : decode cX11_rainLine 71 = .ok (.iadd, 1) := by decide +kernel
theorem dX11_rainLine_72 : decode cX11_rainLine 72 = .ok (.iconst 1, 1) := by decide +kernel
theorem dX11_rainLine_73 : decode cX11_rainLine 73 = .ok (.iadd, 1) := by decide +kernel
theorem dX11_rainLine_74 : decode cX11_rainLine 74 = .ok (.aload_n 0, 1) := by decide +kernel
theorem dX11_rainLine_75 : decode cX11_rainLine 75 = .ok (.getfield 35, 3) := by decide +kernel
theorem dX11_rainLine_78 : decode cX11_rainLine 78 = .ok (.iconst 1, 1) := by decide +kernel
theorem dX11_rainLine_79 : decode cX11_rainLine 79 = .ok (.iaload, 1) := by decide +kernel
theorem dX11_rainLine_80 : decode cX11_rainLine 80 = .ok (.iastore, 1) := by decide +kernel
theorem dX11_rainLine_81 : decode cX11_rainLine 81 = .ok (.aload_n 0, 1) := by decide +kernel
theorem dX11_rainLine_82 : decode cX11_rainLine 82 = .ok (.getfield 32, 3) := by decide +kernel
theorem dX11_rainLine_85 : decode cX11_rainLine 85 = .ok (.iconst 1, 1) := by decide +kernel
theorem dX11_rainLine_86 : decode cX11_rainLine 86 = .ok (.dup2, 1) := by decide +kernel
theorem dX11_rainLine_87 : decode cX11_rainLine 87 = .ok (.iaload, 1) := by decide +kernel
theorem dX11_rainLine_88 : decode cX11_rainLine 88 = .ok (.iconst 1, 1) := by decide +kernel
theorem dX11_rainLine_89 : decode cX11_rainLine 89 = .ok (.iadd, 1) := by decide +kernel
theorem dX11_rainLine_90 : decode cX11_rainLine 90 = .ok (.iastore, 1) := by decide +kernel
theorem dX11_rainLine_91 : decode cX11_rainLine 91 = .ok (.iconst 1, 1) := by decide +kernel
theorem dX11_rainLine_92 : decode cX11_rainLine 92 = .ok (.ireturn, 1) := by decide +kernel
theorem dX11_ofPond_0 : decode cX11_ofPond 0 = .ok (.aload_n 0, 1) := by decide +kernel
theorem dX11_ofPond_1 : decode cX11_ofPond 1 = .ok (.iconst 0, 1) := by decide +kernel
theorem dX11_ofPond_2 : decode cX11_ofPond 2 = .ok (.iconst 0, 1) := by decide +kernel
theorem dX11_ofPond_3 : decode cX11_ofPond 3 = .ok (.aload_n 0, 1) := by decide +kernel
theorem dX11_ofPond_4 : decode cX11_ofPond 4 = .ok (.getfield 32, 3) := by decide +kernel
theorem dX11_ofPond_7 : decode cX11_ofPond 7 = .ok (.iconst 0, 1) := by decide +kernel
theorem dX11_ofPond_8 : decode cX11_ofPond 8 = .ok (.iaload, 1) := by decide +kernel
theorem dX11_ofPond_9 : decode cX11_ofPond 9 = .ok (.iconst 1, 1) := by decide +kernel
theorem dX11_ofPond_10 : decode cX11_ofPond 10 = .ok (.isub, 1) := by decide +kernel
theorem dX11_ofPond_11 : decode cX11_ofPond 11 = .ok (.invokevirtual 140, 3) := by decide +kernel
theorem dX11_ofPond_14 : decode cX11_ofPond 14 = .ok (.ifCond .ne 5, 3) := by decide +kernel
theorem dX11_ofPond_17 : decode cX11_ofPond 17 = .ok (.iconst 0, 1) := by decide +kernel
theorem dX11_ofPond_18 : decode cX11_ofPond 18 = .ok (.ireturn, 1) := by decide +kernel
theorem dX11_ofPond_19 : decode cX11_ofPond 19 = .ok (.iload_n 1, 1) := by decide +kernel
theorem dX11_ofPond_20 : decode cX11_ofPond 20 = .ok (.bipush 8, 2) := by decide +kernel
theorem dX11_ofPond_22 : decode cX11_ofPond 22 = .ok (.if_icmp .eq 9, 3) := by decide +kernel
theorem dX11_ofPond_25 : decode cX11_ofPond 25 = .ok (.iload_n 1, 1) := by decide +kernel
theorem dX11_ofPond_26 : decode cX11_ofPond 26 = .ok (.bipush 9, 2) := by decide +kernel
theorem dX11_ofPond_28 : decode cX11_ofPond 28 = .ok (.if_icmp .ne 7, 3) := by decide +kernel
theorem dX11_ofPond_31 : decode cX11_ofPond 31 = .ok (.iconst 1, 1) := by decide +kernel
theorem dX11_ofPond_32 : decode cX11_ofPond 32 = .ok (.goto 4, 3) := by decide +kernel
theorem dX11_ofPond_35 : decode cX11_ofPond 35 = .ok (.iconst 0, 1) := by decide +kernel
theorem dX11_ofPond_36 : decode cX11_ofPond 36 = .ok (.istore 6, 2) := by decide +kernel
theorem dX11_ofPond_38 : decode cX11_ofPond 38 = .ok (.aload_n 0, 1) := by decide +kernel
theorem dX11_ofPond_39 : decode cX11_ofPond 39 = .ok (.iconst 1, 1) := by decide +kernel
theorem dX11_ofPond_40 : decode cX11_ofPond 40 = .ok (.iload 6, 2) := by decide +kernel
theorem dX11_ofPond_42 : decode cX11_ofPond 42 = .ok (.ifCond .eq 14, 3) := by decide +kernel
theorem dX11_ofPond_45 : decode cX11_ofPond 45 = .ok (.aload_n 0, 1) := by decide +kernel
theorem dX11_ofPond_46 : decode cX11_ofPond 46 = .ok (.getfield 35, 3) := by decide +kernel
theorem dX11_ofPond_49 : decode cX11_ofPond 49 = .ok (.iconst 0, 1) := by decide +kernel
theorem dX11_ofPond_50 : decode cX11_ofPond 50 = .ok (.iaload, 1) := by decide +kernel
theorem dX11_ofPond_51 : decode cX11_ofPond 51 = .ok (.iconst 1, 1) := by decide +kernel
theorem dX11_ofPond_52 : decode cX11_ofPond 52 = .ok (.iadd, 1) := by decide +kernel
theorem dX11_ofPond_53 : decode cX11_ofPond 53 = .ok (.goto 4, 3) := by decide +kernel
theorem dX11_ofPond_56 : decode cX11_ofPond 56 = .ok (.iload_n 3, 1) := by decide +kernel
theorem dX11_ofPond_57 : decode cX11_ofPond 57 = .ok (.iload 6, 2) := by decide +kernel
theorem dX11_ofPond_59 : decode cX11_ofPond 59 = .ok (.ifCond .eq 14, 3) := by decide +kernel
theorem dX11_ofPond_62 : decode cX11_ofPond 62 = .ok (.aload_n 0, 1) := by decide +kernel
theorem dX11_ofPond_63 : decode cX11_ofPond 63 = .ok (.getfield 32, 3) := by decide +kernel
theorem dX11_ofPond_66 : decode cX11_ofPond 66 = .ok (.iconst 0, 1) := by decide +kernel
theorem dX11_ofPond_67 : decode cX11_ofPond 67 = .ok (.iaload, 1) := by decide +kernel
theorem dX11_ofPond_68 : decode cX11_ofPond 68 = .ok (.iconst 1, 1) := by decide +kernel
theorem dX11_ofPond_69 : decode cX11_ofPond 69 = .ok (.isub, 1) := by decide +kernel
theorem dX11_ofPond_70 : decode cX11_ofPond 70 = .ok (.goto 5, 3) := by decide +kernel
theorem dX11_ofPond_73 : decode cX11_ofPond 73 = .ok (.iload 4, 2) := by decide +kernel
theorem dX11_ofPond_75 : decode cX11_ofPond 75 = .ok (.invokevirtual 140, 3) := by decide +kernel
theorem dX11_ofPond_78 : decode cX11_ofPond 78 = .ok (.ifCond .eq 19, 3) := by decide +kernel
theorem dX11_ofPond_81 : decode cX11_ofPond 81 = .ok (.iload_n 2, 1) := by decide +kernel
theorem dX11_ofPond_82 : decode cX11_ofPond 82 = .ok (.iconst 2, 1) := by decide +kernel
theorem dX11_ofPond_83 : decode cX11_ofPond 83 = .ok (.if_icmp .ne 16, 3) := by decide +kernel
theorem dX11_ofPond_86 : decode cX11_ofPond 86 = .ok (.aload_n 0, 1) := by decide +kernel
theorem dX11_ofPond_87 : decode cX11_ofPond 87 = .ok (.iconst 2, 1) := by decide +kernel
theorem dX11_ofPond_88 : decode cX11_ofPond 88 = .ok (.iconst 0, 1) := by decide +kernel
theorem dX11_ofPond_89 : decode cX11_ofPond 89 = .ok (.iload 5, 2) := by decide +kernel
theorem dX11_ofPond_91 : decode cX11_ofPond 91 = .ok (.invokevirtual 140, 3) := by decide +kernel
theorem dX11_ofPond_94 : decode cX11_ofPond 94 = .ok (.ifCond .ne 5, 3) := by decide +kernel
theorem dX11_ofPond_97 : decode cX11_ofPond 97 = .ok (.iconst 0, 1) := by decide +kernel
theorem dX11_ofPond_98 : decode cX11_ofPond 98 = .ok (.ireturn, 1) := by decide +kernel
theorem dX11_ofPond_99 : decode cX11_ofPond 99 = .ok (.aload_n 0, 1) := by decide +kernel
theorem dX11_ofPond_100 : decode cX11_ofPond 100 = .ok (.getfield 129, 3) := by decide +kernel
theorem dX11_ofPond_103 : decode cX11_ofPond 103 = .ok (.ifCond .eq 60, 3) := by decide +kernel
theorem dX11_ofPond_106 : decode cX11_ofPond 106 = .ok (.aload_n 0, 1) := by decide +kernel
theorem dX11_ofPond_107 : decode cX11_ofPond 107 = .ok (.getfield 32, 3) := by decide +kernel
theorem dX11_ofPond_110 : decode cX11_ofPond 110 = .ok (.bipush 13, 2) := by decide +kernel
theorem dX11_ofPond_112 : decode cX11_ofPond 112 = .ok (.bipush 16, 2) := by decide +kernel
theorem dX11_ofPond_114 : decode cX11_ofPond 114 = .ok (.aload_n 0, 1) := by decide +kernel
theorem dX11_ofPond_115 : decode cX11_ofPond 115 = .ok (.getfield 35, 3) := by decide +kernel
theorem dX11_ofPond_118 : decode cX11_ofPond 118 = .ok (.iconst 0, 1) := by decide +kernel
theorem dX11_ofPond_119 : decode cX11_ofPond 119 = .ok (.iaload, 1) := by decide +kernel
theorem dX11_ofPond_120 : decode cX11_ofPond 120 = .ok (.imul, 1) := by decide +kernel
theorem dX11_ofPond_121 : decode cX11_ofPond 121 = .ok (.iadd, 1) := by decide +kernel
theorem dX11_ofPond_122 : decode cX11_ofPond 122 = .ok (.iload_n 1, 1) := by decide +kernel
theorem dX11_ofPond_123 : decode cX11_ofPond 123 = .ok (.iadd, 1) := by decide +kernel
theorem dX11_ofPond_124 : decode cX11_ofPond 124 = .ok (.aload_n 0, 1) := by decide +kernel
theorem dX11_ofPond_125 : decode cX11_ofPond 125 = .ok (.getfield 35, 3) := by decide +kernel
theorem dX11_ofPond_128 : decode cX11_ofPond 128 = .ok (.iconst 1, 1) := by decide +kernel
theorem dX11_ofPond_129 : decode cX11_ofPond 129 = .ok (.iaload, 1) := by decide +kernel
theorem dX11_ofPond_130 : decode cX11_ofPond 130 = .ok (.iastore, 1) := by decide +kernel
theorem dX11_ofPond_131 : decode cX11_ofPond 131 = .ok (.iload_n 2, 1) := by decide +kernel
theorem dX11_ofPond_132 : decode cX11_ofPond 132 = .ok (.iconst 2, 1) := by decide +kernel
theorem dX11_ofPond_133 : decode cX11_ofPond 133 = .ok (.if_icmp .ne 30, 3) := by decide +kernel
theorem dX11_ofPond_136 : decode cX11_ofPond 136 = .ok (.aload_n 0, 1) := by decide +kernel
theorem dX11_ofPond_137 : decode cX11_ofPond 137 = .ok (.getfield 32, 3) := by decide +kernel
theorem dX11_ofPond_140 : decode cX11_ofPond 140 = .ok (.bipush 13, 2) := by decide +kernel
theorem dX11_ofPond_142 : decode cX11_ofPond 142 = .ok (.bipush 16, 2) := by decide +kernel
theorem dX11_ofPond_144 : decode cX11_ofPond 144 = .ok (.aload_n 0, 1) := by decide +kernel
theorem dX11_ofPond_145 : decode cX11_ofPond 145 = .ok (.getfield 35, 3) := by decide +kernel
theorem dX11_ofPond_148 : decode cX11_ofPond 148 = .ok (.iconst 0, 1) := by decide +kernel
theorem dX11_ofPond_149 : decode cX11_ofPond 149 = .ok (.iaload, 1) := by decide +kernel
theorem dX11_ofPond_150 : decode cX11_ofPond 150 = .ok (.imul, 1) := by decide +kernel
theorem dX11_ofPond_151 : decode cX11_ofPond 151 = .ok (.iadd, 1) := by decide +kernel
theorem dX11_ofPond_152 : decode cX11_ofPond 152 = .ok (.iload_n 1, 1) := by decide +kernel
theorem dX11_ofPond_153 : decode cX11_ofPond 153 = .ok (.iadd, 1) := by decide +kernel
theorem dX11_ofPond_154 : decode cX11_ofPond 154 = .ok (.iconst 1, 1) := by decide +kernel
theorem dX11_ofPond_155 : decode cX11_ofPond 155 = .ok (.iadd, 1) := by decide +kernel
theorem dX11_ofPond_156 : decode cX11_ofPond 156 = .ok (.aload_n 0, 1) := by decide +kernel
theorem dX11_ofPond_157 : decode cX11_ofPond 157 = .ok (.getfield 35, 3) := by decide +kernel
theorem dX11_ofPond_160 : decode cX11_ofPond 160 = .ok (.iconst 2, 1) := by decide +kernel
theorem dX11_ofPond_161 : decode cX11_ofPond 161 = .ok (.iaload, 1) := by decide +kernel
theorem dX11_ofPond_162 : decode cX11_ofPond 162 = .ok (.iastore, 1) := by decide +kernel
theorem dX11_ofPond_163 : decode cX11_ofPond 163 = .ok (.iconst 1, 1) := by decide +kernel
theorem dX11_ofPond_164 : decode cX11_ofPond 164 = .ok (.ireturn, 1) := by decide +kernel
theorem dX11_daysLine_0 : decode cX11_daysLine 0 = .ok (.aload_n 0, 1) := by decide +kernel
theorem dX11_daysLine_1 : decode cX11_daysLine 1 = .ok (.iconst 0, 1) := by decide +kernel
theorem dX11_daysLine_2 : decode cX11_daysLine 2 = .ok (.bipush 99, 2) := by decide +kernel
theorem dX11_daysLine_4 : decode cX11_daysLine 4 = .ok (.invokevirtual 136, 3) := by decide +kernel
theorem dX11_daysLine_7 : decode cX11_daysLine 7 = .ok (.istore_n 2, 1) := by decide +kernel
theorem dX11_daysLine_8 : decode cX11_daysLine 8 = .ok (.aload_n 0, 1) := by decide +kernel
theorem dX11_daysLine_9 : decode cX11_daysLine 9 = .ok (.getfield 32, 3) := by decide +kernel
theorem dX11_daysLine_12 : decode cX11_daysLine 12 = .ok (.iload_n 1, 1) := by decide +kernel
theorem dX11_daysLine_13 : decode cX11_daysLine 13 = .ok (.iload_n 2, 1) := by decide +kernel
theorem dX11_daysLine_14 : decode cX11_daysLine 14 = .ok (.ifCond .eq 10, 3) := by decide +kernel
theorem dX11_daysLine_17 : decode cX11_daysLine 17 = .ok (.aload_n 0, 1) := by decide +kernel
theorem dX11_daysLine_18 : decode cX11_daysLine 18 = .ok (.getfield 122, 3) := by decide +kernel
theorem dX11_daysLine_21 : decode cX11_daysLine 21 = .ok (.goto 9, 3) := by decide +kernel
theorem dX11_daysLine_24 : decode cX11_daysLine 24 = .ok (.aload_n 0, 1) := by decide +kernel
theorem dX11_daysLine_25 : decode cX11_daysLine 25 = .ok (.getfield 32, 3) := by decide +kernel
theorem dX11_daysLine_28 : decode cX11_daysLine 28 = .ok (.iload_n 1, 1) := by decide +kernel
theorem dX11_daysLine_29 : decode cX11_daysLine 29 = .ok (.iaload, 1) := by decide +kernel
theorem dX11_daysLine_30 : decode cX11_daysLine 30 = .ok (.iastore, 1) := by decide +kernel
theorem dX11_daysLine_31 : decode cX11_daysLine 31 = .ok (.iload_n 2, 1) := by decide +kernel
theorem dX11_daysLine_32 : decode cX11_daysLine 32 = .ok (.ireturn, 1) := by decide +kernel
theorem dX11_hillLine_0 : decode cX11_hillLine 0 = .ok (.aload_n 0, 1) := by decide +kernel
theorem dX11_hillLine_1 : decode cX11_hillLine 1 = .ok (.getfield 103, 3) := by decide +kernel
theorem dX11_hillLine_4 : decode cX11_hillLine 4 = .ok (.iconst 2, 1) := by decide +kernel
theorem dX11_hillLine_5 : decode cX11_hillLine 5 = .ok (.if_icmp .ne 10, 3) := by decide +kernel
theorem dX11_hillLine_8 : decode cX11_hillLine 8 = .ok (.aload_n 0, 1) := by decide +kernel
theorem dX11_hillLine_9 : decode cX11_hillLine 9 = .ok (.getfield 99, 3) := by decide +kernel
theorem dX11_hillLine_12 : decode cX11_hillLine 12 = .ok (.goto 4, 3) := by decide +kernel
theorem dX11_hillLine_15 : decode cX11_hillLine 15 = .ok (.lconst 0, 1) := by decide +kernel
theorem dX11_hillLine_16 : decode cX11_hillLine 16 = .ok (.lstore_n 2, 1) := by decide +kernel
theorem dX11_hillLine_17 : decode cX11_hillLine 17 = .ok (.lload_n 2, 1) := by decide +kernel
theorem dX11_hillLine_18 : decode cX11_hillLine 18 = .ok (.ldc2_w 143, 3) := by decide +kernel
theorem dX11_hillLine_21 : decode cX11_hillLine 21 = .ok (.lcmp, 1) := by decide +kernel
theorem dX11_hillLine_22 : decode cX11_hillLine 22 = .ok (.ifCond .ne 7, 3) := by decide +kernel
theorem dX11_hillLine_25 : decode cX11_hillLine 25 = .ok (.iconst 2, 1) := by decide +kernel
theorem dX11_hillLine_26 : decode cX11_hillLine 26 = .ok (.goto 28, 3) := by decide +kernel
theorem dX11_hillLine_29 : decode cX11_hillLine 29 = .ok (.lload_n 2, 1) := by decide +kernel
theorem dX11_hillLine_30 : decode cX11_hillLine 30 = .ok (.ldc2_w 145, 3) := by decide +kernel
theorem dX11_hillLine_33 : decode cX11_hillLine 33 = .ok (.lcmp, 1) := by decide +kernel
theorem dX11_hillLine_34 : decode cX11_hillLine 34 = .ok (.ifCond .ne 7, 3) := by decide +kernel
theorem dX11_hillLine_37 : decode cX11_hillLine 37 = .ok (.iconst 3, 1) := by decide +kernel
theorem dX11_hillLine_38 : decode cX11_hillLine 38 = .ok (.goto 16, 3) := by decide +kernel
theorem dX11_hillLine_41 : decode cX11_hillLine 41 = .ok (.lload_n 2, 1) := by decide +kernel
theorem dX11_hillLine_42 : decode cX11_hillLine 42 = .ok (.ldc2_w 147, 3) := by decide +kernel
theorem dX11_hillLine_45 : decode cX11_hillLine 45 = .ok (.lcmp, 1) := by decide +kernel
theorem dX11_hillLine_46 : decode cX11_hillLine 46 = .ok (.ifCond .ne 7, 3) := by decide +kernel
theorem dX11_hillLine_49 : decode cX11_hillLine 49 = .ok (.iconst 4, 1) := by decide +kernel
theorem dX11_hillLine_50 : decode cX11_hillLine 50 = .ok (.goto 4, 3) := by decide +kernel
theorem dX11_hillLine_53 : decode cX11_hillLine 53 = .ok (.iconst (-1), 1) := by decide +kernel
theorem dX11_hillLine_54 : decode cX11_hillLine 54 = .ok (.istore 4, 2) := by decide +kernel
theorem dX11_hillLine_56 : decode cX11_hillLine 56 = .ok (.lload_n 2, 1) := by decide +kernel
theorem dX11_hillLine_57 : decode cX11_hillLine 57 = .ok (.ldc2_w 149, 3) := by decide +kernel
theorem dX11_hillLine_60 : decode cX11_hillLine 60 = .ok (.lcmp, 1) := by decide +kernel
theorem dX11_hillLine_61 : decode cX11_hillLine 61 = .ok (.ifCond .ne 8, 3) := by decide +kernel
theorem dX11_hillLine_64 : decode cX11_hillLine 64 = .ok (.bipush 8, 2) := by decide +kernel
theorem dX11_hillLine_66 : decode cX11_hillLine 66 = .ok (.goto 118, 3) := by decide +kernel
theorem dX11_hillLine_69 : decode cX11_hillLine 69 = .ok (.lload_n 2, 1) := by decide +kernel
theorem dX11_hillLine_70 : decode cX11_hillLine 70 = .ok (.ldc2_w 151, 3) := by decide +kernel
theorem dX11_hillLine_73 : decode cX11_hillLine 73 = .ok (.lcmp, 1) := by decide +kernel
theorem dX11_hillLine_74 : decode cX11_hillLine 74 = .ok (.ifCond .ne 8, 3) := by decide +kernel
theorem dX11_hillLine_77 : decode cX11_hillLine 77 = .ok (.bipush 9, 2) := by decide +kernel
theorem dX11_hillLine_79 : decode cX11_hillLine 79 = .ok (.goto 105, 3) := by decide +kernel
theorem dX11_hillLine_82 : decode cX11_hillLine 82 = .ok (.lload_n 2, 1) := by decide +kernel
theorem dX11_hillLine_83 : decode cX11_hillLine 83 = .ok (.ldc2_w 153, 3) := by decide +kernel
theorem dX11_hillLine_86 : decode cX11_hillLine 86 = .ok (.lcmp, 1) := by decide +kernel
theorem dX11_hillLine_87 : decode cX11_hillLine 87 = .ok (.ifCond .ne 7, 3) := by decide +kernel
theorem dX11_hillLine_90 : decode cX11_hillLine 90 = .ok (.iconst 3, 1) := by decide +kernel
theorem dX11_hillLine_91 : decode cX11_hillLine 91 = .ok (.goto 93, 3) := by decide +kernel
theorem dX11_hillLine_94 : decode cX11_hillLine 94 = .ok (.lload_n 2, 1) := by decide +kernel
theorem dX11_hillLine_95 : decode cX11_hillLine 95 = .ok (.ldc2_w 155, 3) := by decide +kernel
theorem dX11_hillLine_98 : decode cX11_hillLine 98 = .ok (.lcmp, 1) := by decide +kernel
theorem dX11_hillLine_99 : decode cX11_hillLine 99 = .ok (.ifCond .ne 7, 3) := by decide +kernel
theorem dX11_hillLine_102 : decode cX11_hillLine 102 = .ok (.iconst 4, 1) := by decide +kernel
theorem dX11_hillLine_103 : decode cX11_hillLine 103 = .ok (.goto 81, 3) := by decide +kernel
theorem dX11_hillLine_106 : decode cX11_hillLine 106 = .ok (.lload_n 2, 1) := by decide +kernel
theorem dX11_hillLine_107 : decode cX11_hillLine 107 = .ok (.ldc2_w 157, 3) := by decide +kernel
theorem dX11_hillLine_110 : decode cX11_hillLine 110 = .ok (.lcmp, 1) := by decide +kernel
theorem dX11_hillLine_111 : decode cX11_hillLine 111 = .ok (.ifCond .ne 7, 3) := by decide +kernel
theorem dX11_hillLine_114 : decode cX11_hillLine 114 = .ok (.iconst 5, 1) := by decide +kernel
theorem dX11_hillLine_115 : decode cX11_hillLine 115 = .ok (.goto 69, 3) := by decide +kernel
theorem dX11_hillLine_118 : decode cX11_hillLine 118 = .ok (.lload_n 2, 1) := by decide +kernel
theorem dX11_hillLine_119 : decode cX11_hillLine 119 = .ok (.ldc2_w 159, 3) := by decide +kernel
theorem dX11_hillLine_122 : decode cX11_hillLine 122 = .ok (.lcmp, 1) := by decide +kernel
theorem dX11_hillLine_123 : decode cX11_hillLine 123 = .ok (.ifCond .ne 8, 3) := by decide +kernel
theorem dX11_hillLine_126 : decode cX11_hillLine 126 = .ok (.bipush 6, 2) := by decide +kernel
theorem dX11_hillLine_128 : decode cX11_hillLine 128 = .ok (.goto 56, 3) := by decide +kernel
theorem dX11_hillLine_131 : decode cX11_hillLine 131 = .ok (.lload_n 2, 1) := by decide +kernel
theorem dX11_hillLine_132 : decode cX11_hillLine 132 = .ok (.ldc2_w 161, 3) := by decide +kernel
theorem dX11_hillLine_135 : decode cX11_hillLine 135 = .ok (.lcmp, 1) := by decide +kernel
theorem dX11_hillLine_136 : decode cX11_hillLine 136 = .ok (.ifCond .ne 8, 3) := by decide +kernel
theorem dX11_hillLine_139 : decode cX11_hillLine 139 = .ok (.bipush 7, 2) := by decide +kernel
theorem dX11_hillLine_141 : decode cX11_hillLine 141 = .ok (.goto 43, 3) := by decide +kernel
theorem dX11_hillLine_144 : decode cX11_hillLine 144 = .ok (.lload_n 2, 1) := by decide +kernel
theorem dX11_hillLine_145 : decode cX11_hillLine 145 = .ok (.ldc2_w 163, 3) := by decide +kernel
theorem dX11_hillLine_148 : decode cX11_hillLine 148 = .ok (.lcmp, 1) := by decide +kernel
theorem dX11_hillLine_149 : decode cX11_hillLine 149 = .ok (.ifCond .ne 8, 3) := by decide +kernel
theorem dX11_hillLine_152 : decode cX11_hillLine 152 = .ok (.bipush 11, 2) := by decide +kernel
theorem dX11_hillLine_154 : decode cX11_hillLine 154 = .ok (.goto 30, 3) := by decide +kernel
theorem dX11_hillLine_157 : decode cX11_hillLine 157 = .ok (.lload_n 2, 1) := by decide +kernel
theorem dX11_hillLine_158 : decode cX11_hillLine 158 = .ok (.ldc2_w 165, 3) := by decide +kernel
theorem dX11_hillLine_161 : decode cX11_hillLine 161 = .ok (.lcmp, 1) := by decide +kernel
theorem dX11_hillLine_162 : decode cX11_hillLine 162 = .ok (.ifCond .ne 8, 3) := by decide +kernel
theorem dX11_hillLine_165 : decode cX11_hillLine 165 = .ok (.bipush 12, 2) := by decide +kernel
theorem dX11_hillLine_167 : decode cX11_hillLine 167 = .ok (.goto 17, 3) := by decide +kernel
theorem dX11_hillLine_170 : decode cX11_hillLine 170 = .ok (.lload_n 2, 1) := by decide +kernel
theorem dX11_hillLine_171 : decode cX11_hillLine 171 = .ok (.ldc2_w 167, 3) := by decide +kernel
theorem dX11_hillLine_174 : decode cX11_hillLine 174 = .ok (.lcmp, 1) := by decide +kernel
theorem dX11_hillLine_175 : decode cX11_hillLine 175 = .ok (.ifCond .ne 8, 3) := by decide +kernel
theorem dX11_hillLine_178 : decode cX11_hillLine 178 = .ok (.bipush 13, 2) := by decide +kernel
theorem dX11_hillLine_180 : decode cX11_hillLine 180 = .ok (.goto 4, 3) := by decide +kernel
theorem dX11_hillLine_183 : decode cX11_hillLine 183 = .ok (.iconst (-1), 1) := by decide +kernel
theorem dX11_hillLine_184 : decode cX11_hillLine 184 = .ok (.istore 5, 2) := by decide +kernel
theorem dX11_hillLine_186 : decode cX11_hillLine 186 = .ok (.iload 4, 2) := by decide +kernel
theorem dX11_hillLine_188 : decode cX11_hillLine 188 = .ok (.iconst (-1), 1) := by decide +kernel
theorem dX11_hillLine_189 : decode cX11_hillLine 189 = .ok (.if_icmp .ne 30, 3) := by decide +kernel
theorem dX11_hillLine_192 : decode cX11_hillLine 192 = .ok (.iload 5, 2) := by decide +kernel
theorem dX11_hillLine_194 : decode cX11_hillLine 194 = .ok (.iconst (-1), 1) := by decide +kernel
theorem dX11_hillLine_195 : decode cX11_hillLine 195 = .ok (.if_icmp .ne 24, 3) := by decide +kernel
theorem dX11_hillLine_198 : decode cX11_hillLine 198 = .ok (.lload_n 2, 1) := by decide +kernel
theorem dX11_hillLine_199 : decode cX11_hillLine 199 = .ok (.ldc2_w 169, 3) := by decide +kernel
theorem dX11_hillLine_202 : decode cX11_hillLine 202 = .ok (.lcmp, 1) := by decide +kernel
theorem dX11_hillLine_203 : decode cX11_hillLine 203 = .ok (.ifCond .eq 16, 3) := by decide +kernel
theorem dX11_hillLine_206 : decode cX11_hillLine 206 = .ok (.lload_n 2, 1) := by decide +kernel
theorem dX11_hillLine_207 : decode cX11_hillLine 207 = .ok (.ldc2_w 171, 3) := by decide +kernel
theorem dX11_hillLine_210 : decode cX11_hillLine 210 = .ok (.lcmp, 1) := by decide +kernel
theorem dX11_hillLine_211 : decode cX11_hillLine 211 = .ok (.ifCond .eq 8, 3) := by decide +kernel
theorem dX11_hillLine_214 : decode cX11_hillLine 214 = .ok (.aload_n 0, 1) := by decide +kernel
theorem dX11_hillLine_215 : decode cX11_hillLine 215 = .ok (.invokevirtual 118, 3) := by decide +kernel
theorem dX11_hillLine_218 : decode cX11_hillLine 218 = .ok (.ireturn, 1) := by decide +kernel
theorem dX11_hillLine_219 : decode cX11_hillLine 219 = .ok (.aload_n 0, 1) := by decide +kernel
theorem dX11_hillLine_220 : decode cX11_hillLine 220 = .ok (.invokevirtual 133, 3) := by decide +kernel
theorem dX11_hillLine_223 : decode cX11_hillLine 223 = .ok (.lload_n 2, 1) := by decide +kernel
theorem dX11_hillLine_224 : decode cX11_hillLine 224 = .ok (.ldc2_w 169, 3) := by decide +kernel
theorem dX11_hillLine_227 : decode cX11_hillLine 227 = .ok (.lcmp, 1) := by decide +kernel
theorem dX11_hillLine_228 : decode cX11_hillLine 228 = .ok (.ifCond .eq 11, 3) := by decide +kernel
theorem dX11_hillLine_231 : decode cX11_hillLine 231 = .ok (.lload_n 2, 1) := by decide +kernel
theorem dX11_hillLine_232 : decode cX11_hillLine 232 = .ok (.ldc2_w 171, 3) := by decide +kernel
theorem dX11_hillLine_235 : decode cX11_hillLine 235 = .ok (.lcmp, 1) := by decide +kernel
theorem dX11_hillLine_236 : decode cX11_hillLine 236 = .ok (.ifCond .ne 25, 3) := by decide +kernel
theorem dX11_hillLine_239 : decode cX11_hillLine 239 = .ok (.lload_n 2, 1) := by decide +kernel
theorem dX11_hillLine_240 : decode cX11_hillLine 240 = .ok (.ldc2_w 169, 3) := by decide +kernel
theorem dX11_hillLine_243 : decode cX11_hillLine 243 = .ok (.lcmp, 1) := by decide +kernel
theorem dX11_hillLine_244 : decode cX11_hillLine 244 = .ok (.ifCond .ne 11, 3) := by decide +kernel
theorem dX11_hillLine_247 : decode cX11_hillLine 247 = .ok (.aload_n 0, 1) := by decide +kernel
theorem dX11_hillLine_248 : decode cX11_hillLine 248 = .ok (.iload_n 1, 1) := by decide +kernel
theorem dX11_hillLine_249 : decode cX11_hillLine 249 = .ok (.invokevirtual 173, 3) := by decide +kernel
theorem dX11_hillLine_252 : decode cX11_hillLine 252 = .ok (.goto 8, 3) := by decide +kernel
theorem dX11_hillLine_255 : decode cX11_hillLine 255 = .ok (.aload_n 0, 1) := by decide +kernel
theorem dX11_hillLine_256 : decode cX11_hillLine 256 = .ok (.iload_n 1, 1) := by decide +kernel
theorem dX11_hillLine_257 : decode cX11_hillLine 257 = .ok (.invokevirtual 177, 3) := by decide +kernel
theorem dX11_hillLine_260 : decode cX11_hillLine 260 = .ok (.ireturn, 1) := by decide +kernel
theorem dX11_hillLine_261 : decode cX11_hillLine 261 = .ok (.iload 4, 2) := by decide +kernel
theorem dX11_hillLine_263 : decode cX11_hillLine 263 = .ok (.iconst (-1), 1) := by decide +kernel
theorem dX11_hillLine_264 : decode cX11_hillLine 264 = .ok (.if_icmp .eq 10, 3) := by decide +kernel
theorem dX11_hillLine_267 : decode cX11_hillLine 267 = .ok (.aload_n 0, 1) := by decide +kernel
theorem dX11_hillLine_268 : decode cX11_hillLine 268 = .ok (.iload 4, 2) := by decide +kernel
theorem dX11_hillLine_270 : decode cX11_hillLine 270 = .ok (.invokevirtual 180, 3) := by decide +kernel
theorem dX11_hillLine_273 : decode cX11_hillLine 273 = .ok (.ireturn, 1) := by decide +kernel
theorem dX11_hillLine_274 : decode cX11_hillLine 274 = .ok (.iload 5, 2) := by decide +kernel
theorem dX11_hillLine_276 : decode cX11_hillLine 276 = .ok (.iconst 3, 1) := by decide +kernel
theorem dX11_hillLine_277 : decode cX11_hillLine 277 = .ok (.if_icmp .ne 8, 3) := by decide +kernel
theorem dX11_hillLine_280 : decode cX11_hillLine 280 = .ok (.bipush 24, 2) := by decide +kernel
theorem dX11_hillLine_282 : decode cX11_hillLine 282 = .ok (.goto 46, 3) := by decide +kernel
theorem dX11_hillLine_285 : decode cX11_hillLine 285 = .ok (.iload 5, 2) := by decide +kernel
theorem dX11_hillLine_287 : decode cX11_hillLine 287 = .ok (.iconst 4, 1) := by decide +kernel
theorem dX11_hillLine_288 : decode cX11_hillLine 288 = .ok (.if_icmp .eq 10, 3) := by decide +kernel
theorem dX11_hillLine_291 : decode cX11_hillLine 291 = .ok (.iload 5, 2) := by decide +kernel
theorem dX11_hillLine_293 : decode cX11_hillLine 293 = .ok (.bipush 13, 2) := by decide +kernel
theorem dX11_hillLine_295 : decode cX11_hillLine 295 = .ok (.if_icmp .ne 8, 3) := by decide +kernel
theorem dX11_hillLine_298 : decode cX11_hillLine 298 = .ok (.bipush 10, 2) := by decide +kernel
theorem dX11_hillLine_300 : decode cX11_hillLine 300 = .ok (.goto 28, 3) := by decide +kernel
theorem dX11_hillLine_303 : decode cX11_hillLine 303 = .ok (.iload 5, 2) := by decide +kernel
theorem dX11_hillLine_305 : decode cX11_hillLine 305 = .ok (.iconst 5, 1) := by decide +kernel
theorem dX11_hillLine_306 : decode cX11_hillLine 306 = .ok (.if_icmp .ne 9, 3) := by decide +kernel
theorem dX11_hillLine_309 : decode cX11_hillLine 309 = .ok (.sipush 999, 3) := by decide +kernel
theorem dX11_hillLine_312 : decode cX11_hillLine 312 = .ok (.goto 16, 3) := by decide +kernel
theorem dX11_hillLine_315 : decode cX11_hillLine 315 = .ok (.iload 5, 2) := by decide +kernel
theorem dX11_hillLine_317 : decode cX11_hillLine 317 = .ok (.bipush 6, 2) := by decide +kernel
theorem dX11_hillLine_319 : decode cX11_hillLine 319 = .ok (.if_icmp .ne 7, 3) := by decide +kernel
theorem dX11_hillLine_322 : decode cX11_hillLine 322 = .ok (.iconst 3, 1) := by decide +kernel
theorem dX11_hillLine_323 : decode cX11_hillLine 323 = .ok (.goto 5, 3) := by decide +kernel
theorem dX11_hillLine_326 : decode cX11_hillLine 326 = .ok (.bipush 99, 2) := by decide +kernel
theorem dX11_hillLine_328 : decode cX11_hillLine 328 = .ok (.istore 6, 2) := by decide +kernel
theorem dX11_hillLine_330 : decode cX11_hillLine 330 = .ok (.aload_n 0, 1) := by decide +kernel
theorem dX11_hillLine_331 : decode cX11_hillLine 331 = .ok (.iload 5, 2) := by decide +kernel
theorem dX11_hillLine_333 : decode cX11_hillLine 333 = .ok (.iload 5, 2) := by decide +kernel
theorem dX11_hillLine_335 : decode cX11_hillLine 335 = .ok (.bipush 9, 2) := by decide +kernel
theorem dX11_hillLine_337 : decode cX11_hillLine 337 = .ok (.if_icmp .eq 10, 3) := by decide +kernel
theorem dX11_hillLine_340 : decode cX11_hillLine 340 = .ok (.iload 5, 2) := by decide +kernel
theorem dX11_hillLine_342 : decode cX11_hillLine 342 = .ok (.bipush 13, 2) := by decide +kernel
theorem dX11_hillLine_344 : decode cX11_hillLine 344 = .ok (.if_icmp .ne 7, 3) := by decide +kernel
theorem dX11_hillLine_347 : decode cX11_hillLine 347 = .ok (.iconst 2, 1) := by decide +kernel
theorem dX11_hillLine_348 : decode cX11_hillLine 348 = .ok (.goto 4, 3) := by decide +kernel
theorem dX11_hillLine_351 : decode cX11_hillLine 351 = .ok (.iconst 1, 1) := by decide +kernel
theorem dX11_hillLine_352 : decode cX11_hillLine 352 = .ok (.iconst 0, 1) := by decide +kernel
theorem dX11_hillLine_353 : decode cX11_hillLine 353 = .ok (.iload 6, 2) := by decide +kernel
theorem dX11_hillLine_355 : decode cX11_hillLine 355 = .ok (.bipush 10, 2) := by decide +kernel
theorem dX11_hillLine_357 : decode cX11_hillLine 357 = .ok (.invokevirtual 183, 3) := by decide +kernel
theorem dX11_hillLine_360 : decode cX11_hillLine 360 = .ok (.ireturn, 1) := by decide +kernel
theorem dX11_workLine_0 : decode cX11_workLine 0 = .ok (.aload_n 0, 1) := by decide +kernel
theorem dX11_workLine_1 : decode cX11_workLine 1 = .ok (.getfield 103, 3) := by decide +kernel
theorem dX11_workLine_4 : decode cX11_workLine 4 = .ok (.iconst 2, 1) := by decide +kernel
theorem dX11_workLine_5 : decode cX11_workLine 5 = .ok (.if_icmp .ne 10, 3) := by decide +kernel
theorem dX11_workLine_8 : decode cX11_workLine 8 = .ok (.aload_n 0, 1) := by decide +kernel
theorem dX11_workLine_9 : decode cX11_workLine 9 = .ok (.getfield 99, 3) := by decide +kernel
theorem dX11_workLine_12 : decode cX11_workLine 12 = .ok (.goto 4, 3) := by decide +kernel
theorem dX11_workLine_15 : decode cX11_workLine 15 = .ok (.lconst 0, 1) := by decide +kernel
theorem dX11_workLine_16 : decode cX11_workLine 16 = .ok (.lstore_n 2, 1) := by decide +kernel
theorem dX11_workLine_17 : decode cX11_workLine 17 = .ok (.lload_n 2, 1) := by decide +kernel
theorem dX11_workLine_18 : decode cX11_workLine 18 = .ok (.ldc2_w 143, 3) := by decide +kernel
theorem dX11_workLine_21 : decode cX11_workLine 21 = .ok (.lcmp, 1) := by decide +kernel
theorem dX11_workLine_22 : decode cX11_workLine 22 = .ok (.ifCond .ne 7, 3) := by decide +kernel
theorem dX11_workLine_25 : decode cX11_workLine 25 = .ok (.iconst 0, 1) := by decide +kernel
theorem dX11_workLine_26 : decode cX11_workLine 26 = .ok (.goto 52, 3) := by decide +kernel
theorem dX11_workLine_29 : decode cX11_workLine 29 = .ok (.lload_n 2, 1) := by decide +kernel
theorem dX11_workLine_30 : decode cX11_workLine 30 = .ok (.ldc2_w 187, 3) := by decide +kernel
theorem dX11_workLine_33 : decode cX11_workLine 33 = .ok (.lcmp, 1) := by decide +kernel
theorem dX11_workLine_34 : decode cX11_workLine 34 = .ok (.ifCond .ne 7, 3) := by decide +kernel
theorem dX11_workLine_37 : decode cX11_workLine 37 = .ok (.iconst 1, 1) := by decide +kernel
theorem dX11_workLine_38 : decode cX11_workLine 38 = .ok (.goto 40, 3) := by decide +kernel
theorem dX11_workLine_41 : decode cX11_workLine 41 = .ok (.lload_n 2, 1) := by decide +kernel
theorem dX11_workLine_42 : decode cX11_workLine 42 = .ok (.ldc2_w 189, 3) := by decide +kernel
theorem dX11_workLine_45 : decode cX11_workLine 45 = .ok (.lcmp, 1) := by decide +kernel
theorem dX11_workLine_46 : decode cX11_workLine 46 = .ok (.ifCond .ne 7, 3) := by decide +kernel
theorem dX11_workLine_49 : decode cX11_workLine 49 = .ok (.iconst 2, 1) := by decide +kernel
theorem dX11_workLine_50 : decode cX11_workLine 50 = .ok (.goto 28, 3) := by decide +kernel
theorem dX11_workLine_53 : decode cX11_workLine 53 = .ok (.lload_n 2, 1) := by decide +kernel
theorem dX11_workLine_54 : decode cX11_workLine 54 = .ok (.ldc2_w 147, 3) := by decide +kernel
theorem dX11_workLine_57 : decode cX11_workLine 57 = .ok (.lcmp, 1) := by decide +kernel
theorem dX11_workLine_58 : decode cX11_workLine 58 = .ok (.ifCond .ne 7, 3) := by decide +kernel
theorem dX11_workLine_61 : decode cX11_workLine 61 = .ok (.iconst 3, 1) := by decide +kernel
theorem dX11_workLine_62 : decode cX11_workLine 62 = .ok (.goto 16, 3) := by decide +kernel
theorem dX11_workLine_65 : decode cX11_workLine 65 = .ok (.lload_n 2, 1) := by decide +kernel
theorem dX11_workLine_66 : decode cX11_workLine 66 = .ok (.ldc2_w 191, 3) := by decide +kernel
theorem dX11_workLine_69 : decode cX11_workLine 69 = .ok (.lcmp, 1) := by decide +kernel
theorem dX11_workLine_70 : decode cX11_workLine 70 = .ok (.ifCond .ne 7, 3) := by decide +kernel
theorem dX11_workLine_73 : decode cX11_workLine 73 = .ok (.iconst 4, 1) := by decide +kernel
theorem dX11_workLine_74 : decode cX11_workLine 74 = .ok (.goto 4, 3) := by decide +kernel
theorem dX11_workLine_77 : decode cX11_workLine 77 = .ok (.iconst (-1), 1) := by decide +kernel
theorem dX11_workLine_78 : decode cX11_workLine 78 = .ok (.istore 4, 2) := by decide +kernel
theorem dX11_workLine_80 : decode cX11_workLine 80 = .ok (.iload 4, 2) := by decide +kernel
theorem dX11_workLine_82 : decode cX11_workLine 82 = .ok (.iconst (-1), 1) := by decide +kernel
theorem dX11_workLine_83 : decode cX11_workLine 83 = .ok (.if_icmp .ne 8, 3) := by decide +kernel
theorem dX11_workLine_86 : decode cX11_workLine 86 = .ok (.aload_n 0, 1) := by decide +kernel
theorem dX11_workLine_87 : decode cX11_workLine 87 = .ok (.invokevirtual 118, 3) := by decide +kernel
theorem dX11_workLine_90 : decode cX11_workLine 90 = .ok (.ireturn, 1) := by decide +kernel
theorem dX11_workLine_91 : decode cX11_workLine 91 = .ok (.aload_n 0, 1) := by decide +kernel
theorem dX11_workLine_92 : decode cX11_workLine 92 = .ok (.getfield 32, 3) := by decide +kernel
theorem dX11_workLine_95 : decode cX11_workLine 95 = .ok (.iconst 0, 1) := by decide +kernel
theorem dX11_workLine_96 : decode cX11_workLine 96 = .ok (.iaload, 1) := by decide +kernel
theorem dX11_workLine_97 : decode cX11_workLine 97 = .ok (.istore 5, 2) := by decide +kernel
theorem dX11_workLine_99 : decode cX11_workLine 99 = .ok (.iload 5, 2) := by decide +kernel
theorem dX11_workLine_101 : decode cX11_workLine 101 = .ok (.bipush 12, 2) := by decide +kernel
theorem dX11_workLine_103 : decode cX11_workLine 103 = .ok (.if_icmp .ne 9, 3) := by decide +kernel
theorem dX11_workLine_106 : decode cX11_workLine 106 = .ok (.aload_n 0, 1) := by decide +kernel
theorem dX11_workLine_107 : decode cX11_workLine 107 = .ok (.iconst 3, 1) := by decide +kernel
theorem dX11_workLine_108 : decode cX11_workLine 108 = .ok (.iload_n 1, 1) := by decide +kernel
theorem dX11_workLine_109 : decode cX11_workLine 109 = .ok (.invokevirtual 125, 3) := by decide +kernel
theorem dX11_workLine_112 : decode cX11_workLine 112 = .ok (.aload_n 0, 1) := by decide +kernel
theorem dX11_workLine_113 : decode cX11_workLine 113 = .ok (.invokevirtual 133, 3) := by decide +kernel
theorem dX11_workLine_116 : decode cX11_workLine 116 = .ok (.aload_n 0, 1) := by decide +kernel
theorem dX11_workLine_117 : decode cX11_workLine 117 = .ok (.getfield 35, 3) := by decide +kernel
theorem dX11_workLine_120 : decode cX11_workLine 120 = .ok (.iconst 1, 1) := by decide +kernel
theorem dX11_workLine_121 : decode cX11_workLine 121 = .ok (.iconst (-1), 1) := by decide +kernel
theorem dX11_workLine_122 : decode cX11_workLine 122 = .ok (.iastore, 1) := by decide +kernel
theorem dX11_workLine_123 : decode cX11_workLine 123 = .ok (.aload_n 0, 1) := by decide +kernel
theorem dX11_workLine_124 : decode cX11_workLine 124 = .ok (.iconst 0, 1) := by decide +kernel
theorem dX11_workLine_125 : decode cX11_workLine 125 = .ok (.iconst 0, 1) := by decide +kernel
theorem dX11_workLine_126 : decode cX11_workLine 126 = .ok (.bipush 8, 2) := by decide +kernel
theorem dX11_workLine_128 : decode cX11_workLine 128 = .ok (.invokevirtual 140, 3) := by decide +kernel
theorem dX11_workLine_131 : decode cX11_workLine 131 = .ok (.ifCond .eq 51, 3) := by decide +kernel
theorem dX11_workLine_134 : decode cX11_workLine 134 = .ok (.iload 4, 2) := by decide +kernel
theorem dX11_workLine_136 : decode cX11_workLine 136 = .ok (.iconst 4, 1) := by decide +kernel
theorem dX11_workLine_137 : decode cX11_workLine 137 = .ok (.if_icmp .eq 47, 3) := by decide +kernel
theorem dX11_workLine_140 : decode cX11_workLine 140 = .ok (.aload_n 0, 1) := by decide +kernel
theorem dX11_workLine_141 : decode cX11_workLine 141 = .ok (.iconst 1, 1) := by decide +kernel
theorem dX11_workLine_142 : decode cX11_workLine 142 = .ok (.iload 4, 2) := by decide +kernel
theorem dX11_workLine_144 : decode cX11_workLine 144 = .ok (.iconst 3, 1) := by decide +kernel
theorem dX11_workLine_145 : decode cX11_workLine 145 = .ok (.if_icmp .ne 7, 3) := by decide +kernel
theorem dX11_workLine_148 : decode cX11_workLine 148 = .ok (.iconst 0, 1) := by decide +kernel
theorem dX11_workLine_149 : decode cX11_workLine 149 = .ok (.goto 4, 3) := by decide +kernel
theorem dX11_workLine_152 : decode cX11_workLine 152 = .ok (.iconst 1, 1) := by decide +kernel
theorem dX11_workLine_153 : decode cX11_workLine 153 = .ok (.iload 4, 2) := by decide +kernel
theorem dX11_workLine_155 : decode cX11_workLine 155 = .ok (.ifCond .ne 8, 3) := by decide +kernel
theorem dX11_workLine_158 : decode cX11_workLine 158 = .ok (.bipush 10, 2) := by decide +kernel
theorem dX11_workLine_160 : decode cX11_workLine 160 = .ok (.goto 16, 3) := by decide +kernel
theorem dX11_workLine_163 : decode cX11_workLine 163 = .ok (.iload 4, 2) := by decide +kernel
theorem dX11_workLine_165 : decode cX11_workLine 165 = .ok (.iconst 3, 1) := by decide +kernel
theorem dX11_workLine_166 : decode cX11_workLine 166 = .ok (.if_icmp .ne 8, 3) := by decide +kernel
theorem dX11_workLine_169 : decode cX11_workLine 169 = .ok (.bipush 8, 2) := by decide +kernel
theorem dX11_workLine_171 : decode cX11_workLine 171 = .ok (.goto 5, 3) := by decide +kernel
theorem dX11_workLine_174 : decode cX11_workLine 174 = .ok (.bipush 24, 2) := by decide +kernel
theorem dX11_workLine_176 : decode cX11_workLine 176 = .ok (.invokevirtual 140, 3) := by decide +kernel
theorem dX11_workLine_179 : decode cX11_workLine 179 = .ok (.ifCond .ne 5, 3) := by decide +kernel
theorem dX11_workLine_182 : decode cX11_workLine 182 = .ok (.iconst 0, 1) := by decide +kernel
theorem dX11_workLine_183 : decode cX11_workLine 183 = .ok (.ireturn, 1) := by decide +kernel
theorem dX11_workLine_184 : decode cX11_workLine 184 = .ok (.iload 5, 2) := by decide +kernel
theorem dX11_workLine_186 : decode cX11_workLine 186 = .ok (.bipush 12, 2) := by decide +kernel
theorem dX11_workLine_188 : decode cX11_workLine 188 = .ok (.if_icmp .ge 60, 3) := by decide +kernel
theorem dX11_workLine_191 : decode cX11_workLine 191 = .ok (.aload_n 0, 1) := by decide +kernel
theorem dX11_workLine_192 : decode cX11_workLine 192 = .ok (.getfield 32, 3) := by decide +kernel
theorem dX11_workLine_195 : decode cX11_workLine 195 = .ok (.iconst 1, 1) := by decide +kernel
theorem dX11_workLine_196 : decode cX11_workLine 196 = .ok (.iconst 3, 1) := by decide +kernel
theorem dX11_workLine_197 : decode cX11_workLine 197 = .ok (.iload 5, 2) := by decide +kernel
theorem dX11_workLine_199 : decode cX11_workLine 199 = .ok (.imul, 1) := by decide +kernel
theorem dX11_workLine_200 : decode cX11_workLine 200 = .ok (.iadd, 1) := by decide +kernel
theorem dX11_workLine_201 : decode cX11_workLine 201 = .ok (.iload 4, 2) := by decide +kernel
theorem dX11_workLine_203 : decode cX11_workLine 203 = .ok (.iastore, 1) := by decide +kernel
theorem dX11_workLine_204 : decode cX11_workLine 204 = .ok (.aload_n 0, 1) := by decide +kernel
theorem dX11_workLine_205 : decode cX11_workLine 205 = .ok (.getfield 32, 3) := by decide +kernel
theorem dX11_workLine_208 : decode cX11_workLine 208 = .ok (.iconst 2, 1) := by decide +kernel
theorem dX11_workLine_209 : decode cX11_workLine 209 = .ok (.iconst 3, 1) := by decide +kernel
theorem dX11_workLine_210 : decode cX11_workLine 210 = .ok (.iload 5, 2) := by decide +kernel
theorem dX11_workLine_212 : decode cX11_workLine 212 = .ok (.imul, 1) := by decide +kernel
theorem dX11_workLine_213 : decode cX11_workLine 213 = .ok (.iadd, 1) := by decide +kernel
theorem dX11_workLine_214 : decode cX11_workLine 214 = .ok (.aload_n 0, 1) := by decide +kernel
theorem dX11_workLine_215 : decode cX11_workLine 215 = .ok (.getfield 35, 3) := by decide +kernel
theorem dX11_workLine_218 : decode cX11_workLine 218 = .ok (.iconst 0, 1) := by decide +kernel
theorem dX11_workLine_219 : decode cX11_workLine 219 = .ok (.iaload, 1) := by decide +kernel
theorem dX11_workLine_220 : decode cX11_workLine 220 = .ok (.iastore, 1) := by decide +kernel
theorem dX11_workLine_221 : decode cX11_workLine 221 = .ok (.aload_n 0, 1) := by decide +kernel
theorem dX11_workLine_222 : decode cX11_workLine 222 = .ok (.getfield 32, 3) := by decide +kernel
theorem dX11_workLine_225 : decode cX11_workLine 225 = .ok (.iconst 3, 1) := by decide +kernel
theorem dX11_workLine_226 : decode cX11_workLine 226 = .ok (.iconst 3, 1) := by decide +kernel
theorem dX11_workLine_227 : decode cX11_workLine 227 = .ok (.iload 5, 2) := by decide +kernel
theorem dX11_workLine_229 : decode cX11_workLine 229 = .ok (.imul, 1) := by decide +kernel
theorem dX11_workLine_230 : decode cX11_workLine 230 = .ok (.iadd, 1) := by decide +kernel
theorem dX11_workLine_231 : decode cX11_workLine 231 = .ok (.aload_n 0, 1) := by decide +kernel
theorem dX11_workLine_232 : decode cX11_workLine 232 = .ok (.getfield 35, 3) := by decide +kernel
theorem dX11_workLine_235 : decode cX11_workLine 235 = .ok (.iconst 1, 1) := by decide +kernel
theorem dX11_workLine_236 : decode cX11_workLine 236 = .ok (.iaload, 1) := by decide +kernel
theorem dX11_workLine_237 : decode cX11_workLine 237 = .ok (.iastore, 1) := by decide +kernel
theorem dX11_workLine_238 : decode cX11_workLine 238 = .ok (.aload_n 0, 1) := by decide +kernel
theorem dX11_workLine_239 : decode cX11_workLine 239 = .ok (.getfield 32, 3) := by decide +kernel
theorem dX11_workLine_242 : decode cX11_workLine 242 = .ok (.iconst 0, 1) := by decide +kernel
theorem dX11_workLine_243 : decode cX11_workLine 243 = .ok (.dup2, 1) := by decide +kernel
theorem dX11_workLine_244 : decode cX11_workLine 244 = .ok (.iaload, 1) := by decide +kernel
theorem dX11_workLine_245 : decode cX11_workLine 245 = .ok (.iconst 1, 1) := by decide +kernel
theorem dX11_workLine_246 : decode cX11_workLine 246 = .ok (.iadd, 1) := by decide +kernel
theorem dX11_workLine_247 : decode cX11_workLine 247 = .ok (.iastore, 1) := by decide +kernel
theorem dX11_workLine_248 : decode cX11_workLine 248 = .ok (.iconst 1, 1) := by decide +kernel
theorem dX11_workLine_249 : decode cX11_workLine 249 = .ok (.ireturn, 1) := by decide +kernel
set_option maxHeartbeats 4000000 in
set_option maxRecDepth 100000 in
theorem c_M_later {d : Nat} {u : Nat → Nat → Int32} {g : Nat → Nat → Int64} {ex : List MC} {f : Int32} {place : Int32} (hd : 0 ≤ d)  : CT con0 d 0 0 yX11_later cX11_later 3 none [.ref 162, .int f, .int place] (Wd u g ex) (fun r h2 => ∃ (u2 : Nat → Nat → Int32), r = none ∧ h2 = Wd u2 g ex ∧ (u2 162 15 = 0 → f = 0) ∧ (∀ c, c ≠ 162 → u2 c = u c) ∧ (∀ j, j ≠ 15 → j ≠ 16 → u2 162 j = u 162 j)) := by
  refine CT_of (by decide) (Nat.le_of_ble_eq_true rfl) (fun x hq => ?_)
  show J x yX11_later cX11_later 3 none d 0 0 (Wd u g ex).length 0 [(0, .ref 162), (1, .int f), (2, .int place)] [] (Wd u g ex) 0 0
  refine J_aload_n (i := 0) (j := 0) dX11_later_0 rfl rfl ?_
  refine J_get (C := RX11) (T := TX11) (Z := 43) (ci := 11) (f := 15) dX11_later_1 inG11 rfl (by decide) k1279 wc_162 rfl ?_
  refine J_if_eq (tgt := 31) dX11_later_4 (by decide) (fun c1 => ?_) (fun c1 => ?_)
  · refine J_aload_n (i := 0) (j := 0) dX11_later_31 rfl rfl ?_
    refine J_iload_n (i := 1) (j := 1) dX11_later_32 rfl rfl ?_
    obtain ⟨u2, e3⟩ : ∃ z, z = ms u 162 15 f := ⟨_, rfl⟩
    refine J_put (C := RX11) (T := TX11) (Z := 43) (ci := 11) (f := 15) (ty0 := tyX11) dX11_later_33 inG11 rfl tyX11_ok nmX11 (by decide) k1279 rfl rfl wc_162 (Nat.le_of_ble_eq_true rfl) (fun _ _ => ⟨rfl, rfl⟩) (ws e3 wk_162 rfl) ?_
    refine J_aload_n (i := 0) (j := 0) dX11_later_36 rfl rfl ?_
    refine J_iload_n (i := 2) (j := 2) dX11_later_37 rfl rfl ?_
    obtain ⟨u4, e5⟩ : ∃ z, z = ms u2 162 16 place := ⟨_, rfl⟩
    refine J_put (C := RX11) (T := TX11) (Z := 43) (ci := 11) (f := 16) (ty0 := tyX11) dX11_later_38 inG11 rfl tyX11_ok nmX11 (by decide) k1280 rfl rfl wc_162 (Nat.le_of_ble_eq_true rfl) (fun _ _ => ⟨rfl, rfl⟩) (ws e5 wk_162 rfl) ?_
    exact J_vret hq dX11_later_41 rfl wlen (Nat.le_refl _) (Nat.le_refl _) ⟨u4, rfl, rfl, (fun q => ((ms_i e5 (by decide)).trans (ms_e e3)).symm.trans q), (fun c k0_ => ((ms_c e5 k0_).trans (ms_c e3 k0_))), (fun j k15_ k16_ => ((ms_i e5 k16_).trans (ms_i e3 k15_)))⟩
  · refine J_iload_n (i := 2) (j := 2) dX11_later_7 rfl rfl ?_
    refine J_aload_n (i := 0) (j := 0) dX11_later_8 rfl rfl ?_
    refine J_get (C := RX11) (T := TX11) (Z := 43) (ci := 11) (f := 16) dX11_later_9 inG11 rfl (by decide) k1280 wc_162 rfl ?_
    refine J_icmp_lt (tgt := 31) dX11_later_12 (by decide) (fun c6 => ?_) (fun c6 => ?_)
    · refine J_aload_n (i := 0) (j := 0) dX11_later_31 rfl rfl ?_
      refine J_iload_n (i := 1) (j := 1) dX11_later_32 rfl rfl ?_
      obtain ⟨u7, e8⟩ : ∃ z, z = ms u 162 15 f := ⟨_, rfl⟩
      refine J_put (C := RX11) (T := TX11) (Z := 43) (ci := 11) (f := 15) (ty0 := tyX11) dX11_later_33 inG11 rfl tyX11_ok nmX11 (by decide) k1279 rfl rfl wc_162 (Nat.le_of_ble_eq_true rfl) (fun _ _ => ⟨rfl, rfl⟩) (ws e8 wk_162 rfl) ?_
      refine J_aload_n (i := 0) (j := 0) dX11_later_36 rfl rfl ?_
      refine J_iload_n (i := 2) (j := 2) dX11_later_37 rfl rfl ?_
      obtain ⟨u9, e10⟩ : ∃ z, z = ms u7 162 16 place := ⟨_, rfl⟩
      refine J_put (C := RX11) (T := TX11) (Z := 43) (ci := 11) (f := 16) (ty0 := tyX11) dX11_later_38 inG11 rfl tyX11_ok nmX11 (by decide) k1280 rfl rfl wc_162 (Nat.le_of_ble_eq_true rfl) (fun _ _ => ⟨rfl, rfl⟩) (ws e10 wk_162 rfl) ?_
      exact J_vret hq dX11_later_41 rfl wlen (Nat.le_refl _) (Nat.le_refl _) ⟨u9, rfl, rfl, (fun q => ((ms_i e10 (by decide)).trans (ms_e e8)).symm.trans q), (fun c k0_ => ((ms_c e10 k0_).trans (ms_c e8 k0_))), (fun j k15_ k16_ => ((ms_i e10 k16_).trans (ms_i e8 k15_)))⟩
    · refine J_iload_n (i := 2) (j := 2) dX11_later_15 rfl rfl ?_
      refine J_aload_n (i := 0) (j := 0) dX11_later_16 rfl rfl ?_
      refine J_get (C := RX11) (T := TX11) (Z := 43) (ci := 11) (f := 16) dX11_later_17 inG11 rfl (by decide) k1280 wc_162 rfl ?_
      refine J_icmp_ne (tgt := 41) dX11_later_20 (by decide) (fun c11 => ?_) (fun c11 => ?_)
      · exact J_vret hq dX11_later_41 rfl wlen (Nat.le_refl _) (Nat.le_refl _) ⟨u, rfl, rfl, (fun q => absurd q c1), (fun c k0_ => rfl), (fun j k15_ k16_ => rfl)⟩
      · refine J_iload_n (i := 1) (j := 1) dX11_later_23 rfl rfl ?_
        refine J_aload_n (i := 0) (j := 0) dX11_later_24 rfl rfl ?_
        refine J_get (C := RX11) (T := TX11) (Z := 43) (ci := 11) (f := 15) dX11_later_25 inG11 rfl (by decide) k1279 wc_162 rfl ?_
        refine J_icmp_ge (tgt := 41) dX11_later_28 (by decide) (fun c12 => ?_) (fun c12 => ?_)
        · exact J_vret hq dX11_later_41 rfl wlen (Nat.le_refl _) (Nat.le_refl _) ⟨u, rfl, rfl, (fun q => absurd q c1), (fun c k0_ => rfl), (fun j k15_ k16_ => rfl)⟩
        · refine J_aload_n (i := 0) (j := 0) dX11_later_31 rfl rfl ?_
          refine J_iload_n (i := 1) (j := 1) dX11_later_32 rfl rfl ?_
          obtain ⟨u13, e14⟩ : ∃ z, z = ms u 162 15 f := ⟨_, rfl⟩
          refine J_put (C := RX11) (T := TX11) (Z := 43) (ci := 11) (f := 15) (ty0 := tyX11) dX11_later_33 inG11 rfl tyX11_ok nmX11 (by decide) k1279 rfl rfl wc_162 (Nat.le_of_ble_eq_true rfl) (fun _ _ => ⟨rfl, rfl⟩) (ws e14 wk_162 rfl) ?_
          refine J_aload_n (i := 0) (j := 0) dX11_later_36 rfl rfl ?_
          refine J_iload_n (i := 2) (j := 2) dX11_later_37 rfl rfl ?_
          obtain ⟨u15, e16⟩ : ∃ z, z = ms u13 162 16 place := ⟨_, rfl⟩
          refine J_put (C := RX11) (T := TX11) (Z := 43) (ci := 11) (f := 16) (ty0 := tyX11) dX11_later_38 inG11 rfl tyX11_ok nmX11 (by decide) k1280 rfl rfl wc_162 (Nat.le_of_ble_eq_true rfl) (fun _ _ => ⟨rfl, rfl⟩) (ws e16 wk_162 rfl) ?_
          exact J_vret hq dX11_later_41 rfl wlen (Nat.le_refl _) (Nat.le_refl _) ⟨u15, rfl, rfl, (fun q => ((ms_i e16 (by decide)).trans (ms_e e14)).symm.trans q), (fun c k0_ => ((ms_c e16 k0_).trans (ms_c e14 k0_))), (fun j k15_ k16_ => ((ms_i e16 k16_).trans (ms_i e14 k15_)))⟩
set_option maxHeartbeats 4000000 in
set_option maxRecDepth 100000 in
theorem c_M_stops {d : Nat} {u : Nat → Nat → Int32} {g : Nat → Nat → Int64} {ex : List MC}  (hd : 0 ≤ d)  : CT con0 d 0 0 yX11_stops cX11_stops 1 (some .boolean) [.ref 162] (Wd u g ex) (fun r h2 => ∃ (u2 : Nat → Nat → Int32), r = some (.int ((0 : Int32))) ∧ h2 = Wd u2 g ex ∧ (∀ c, c ≠ 162 → u2 c = u c) ∧ (∀ j, j ≠ 14 → u2 162 j = u 162 j)) := by
  refine CT_of (by decide) (Nat.le_of_ble_eq_true rfl) (fun x hq => ?_)
  show J x yX11_stops cX11_stops 1 (some .boolean) d 0 0 (Wd u g ex).length 0 [(0, .ref 162)] [] (Wd u g ex) 0 0
  refine J_aload_n (i := 0) (j := 0) dX11_stops_0 rfl rfl ?_
  refine J_aload_n (i := 0) (j := 0) dX11_stops_1 rfl rfl ?_
  refine J_get (C := RX11) (T := TX11) (Z := 43) (ci := 11) (f := 10) dX11_stops_2 inG11 rfl (by decide) k1274 wc_162 rfl ?_
  obtain ⟨u1, e2⟩ : ∃ z, z = ms u 162 14 (u 162 10) := ⟨_, rfl⟩
  refine J_put (C := RX11) (T := TX11) (Z := 43) (ci := 11) (f := 14) (ty0 := tyX11) dX11_stops_5 inG11 rfl tyX11_ok nmX11 (by decide) k1278 rfl rfl wc_162 (Nat.le_of_ble_eq_true rfl) (fun _ _ => ⟨rfl, rfl⟩) (ws e2 wk_162 rfl) ?_
  refine J_iconst (v := 0) dX11_stops_8 (by decide) ?_
  exact J_zret hq dX11_stops_9 rfl rfl wlen (Nat.le_refl _) (Nat.le_refl _) ⟨u1, (congrArg (fun z => some (Value.int z)) rfl), rfl, (fun c k0_ => (ms_c e2 k0_)), (fun j k14_ => (ms_i e2 k14_))⟩
set_option maxHeartbeats 4000000 in
set_option maxRecDepth 100000 in
theorem c_M_number {d : Nat} {u : Nat → Nat → Int32} {g : Nat → Nat → Int64} {ex : List MC} {low : Int32} {high : Int32} (hd : 2 ≤ d) (hp0 : Bd 0 600 (u 162 8)) (hp1 : Bd 0 600 (u 162 9)) (hp2 : Bd 0 999 (u 162 12)) (hp3 : Bd 0 999 (u 162 17)) : CT con0 d 0 0 yX11_number cX11_number 3 (some .boolean) [.ref 162, .int low, .int high] (Wd u g ex) (fun r h2 => ∃ (z : Bool) (u2 : Nat → Nat → Int32) (g2 : Nat → Nat → Int64), r = some (.int (bI z)) ∧ h2 = Wd u2 g2 ex ∧ Bd 0 600 (u2 162 8) ∧ Bd 0 999 (u2 162 12) ∧ Bd 0 999 (u2 162 17) ∧ (z = true → GV (u 162 8) (u2 162 8) (u2 162 11)) ∧ (z = true → u2 162 18 = 0 ∨ (low ≤ u2 162 17 ∧ u2 162 17 ≤ high)) ∧ (u2 162 18 = 0 ∨ u2 162 18 = u 162 18) ∧ (∀ c, c ≠ 162 → u2 c = u c) ∧ (∀ j, j ≠ 8 → j ≠ 10 → j ≠ 11 → j ≠ 12 → j ≠ 14 → j ≠ 15 → j ≠ 16 → j ≠ 17 → j ≠ 18 → u2 162 j = u 162 j)) := by
  refine CT_of (by decide) (Nat.le_of_ble_eq_true rfl) (fun x hq => ?_)
  show J x yX11_number cX11_number 3 (some .boolean) d 0 0 (Wd u g ex).length 0 [(0, .ref 162), (1, .int low), (2, .int high)] [] (Wd u g ex) 0 0
  refine J_aload_n (i := 0) (j := 0) dX11_number_0 rfl rfl ?_
  refine J_get (C := RX11) (T := TX11) (Z := 43) (ci := 11) (f := 11) dX11_number_1 inG11 rfl (by decide) k1275 wc_162 rfl ?_
  refine J_iconst (v := 3) dX11_number_4 (by decide) ?_
  refine J_icmp_eq (tgt := 13) dX11_number_5 (by decide) (fun c1 => ?_) (fun c1 => ?_)
  · refine J_aload_n (i := 0) (j := 0) dX11_number_13 rfl rfl ?_
    refine J_aload_n (i := 0) (j := 0) dX11_number_14 rfl rfl ?_
    refine J_get (C := RX11) (T := TX11) (Z := 43) (ci := 11) (f := 12) dX11_number_15 inG11 rfl (by decide) k1276 wc_162 rfl ?_
    obtain ⟨u2, e3⟩ : ∃ z, z = ms u 162 17 (u 162 12) := ⟨_, rfl⟩
    refine J_put (C := RX11) (T := TX11) (Z := 43) (ci := 11) (f := 17) (ty0 := tyX11) dX11_number_18 inG11 rfl tyX11_ok nmX11 (by decide) k1281 rfl rfl wc_162 (Nat.le_of_ble_eq_true rfl) (fun _ _ => ⟨rfl, rfl⟩) (ws e3 wk_162 rfl) ?_
    refine J_aload_n (i := 0) (j := 0) dX11_number_21 rfl rfl ?_
    refine J_get (C := RX11) (T := TX11) (Z := 43) (ci := 11) (f := 12) dX11_number_22 inG11 rfl (by decide) k1276 wc_162 rfl ?_
    refine J_ci (v := u 162 12) (ms_i e3 (by decide)) ?_
    refine J_iload_n (i := 1) (j := 1) dX11_number_25 rfl rfl ?_
    refine J_iload_n (i := 2) (j := 2) dX11_number_26 rfl rfl ?_
    refine J_callS (As := [.int (u 162 12), .int low, .int high]) (rest := []) dX11_number_27 (c_M_in (d := 0) (u := u2) (g := g) (ex := ex) (v := u 162 12) (low := low) (high := high)  (by decide) ) hq.n k1406 k1407 k97 k1408 np_X11_in (Nat.le_trans (by decide) hd) (by decide) (Nat.le_refl _) (Nat.le_refl _) wlen rfl (Nat.le_of_ble_eq_true rfl) (fun r_ h_ p4 => ?_)
    obtain ⟨t5, rfl, rfl, h6, h7⟩ := p4
    refine J_ifB_ne (tgt := 47) dX11_number_30 (by decide) (fun c8 => ?_) (fun c8 => ?_)
    · refine J_aload_n (i := 0) (j := 0) dX11_number_47 rfl rfl ?_
      refine J_callV (As := []) (rest := []) dX11_number_48 (c_M_token (d := 1) (u := u2) (g := g) (ex := ex)   (by decide) (bd_r (ms_i e3 (by decide)) hp0) (bd_r (ms_i e3 (by decide)) hp1) (bd_r (ms_i e3 (by decide)) hp2)) hq.n k1417 k1419 k38 wc_162 rfl rfl k97 k1420 np_X11_token (Nat.le_trans (by decide) hd) (by decide) (Nat.le_refl _) (Nat.le_refl _) wlen rfl (Nat.le_of_ble_eq_true rfl) (fun r_ h_ p9 => ?_)
      obtain ⟨u10, g11, rfl, rfl, h12, h13, h14, h15, h16, fr17, fc18⟩ := p9
      refine J_iconst (v := 1) dX11_number_51 (by decide) ?_
      exact J_zret hq dX11_number_52 rfl rfl wlen (Nat.le_refl _) (Nat.le_refl _) ⟨true, u10, g11, rfl, rfl, h12, h15, (bd_r ((fc18 17 (by decide) (by decide) (by decide) (by decide)).trans (ms_e e3)) hp2), (fun _ => (gv_r rfl rfl rfl (gv_r (ms_i e3 (by decide)).symm rfl rfl h16))), (fun _ => nr_t rfl ((fc18 17 (by decide) (by decide) (by decide) (by decide)).trans (ms_e e3)) (Or.inr ⟨(h6 c8), (h7 c8)⟩)), (Or.inr ((fc18 18 (by decide) (by decide) (by decide) (by decide)).trans (ms_i e3 (by decide)))), (fun c k0_ => ((fr17 c k0_).trans (ms_c e3 k0_))), (fun j k8_ k10_ k11_ k12_ k14_ k15_ k16_ k17_ k18_ => ((fc18 j k8_ k10_ k11_ k12_).trans (ms_i e3 k17_)))⟩
    · refine J_aload_n (i := 0) (j := 0) dX11_number_33 rfl rfl ?_
      refine J_iconst (v := 2) dX11_number_34 (by decide) ?_
      refine J_aload_n (i := 0) (j := 0) dX11_number_35 rfl rfl ?_
      refine J_get (C := RX11) (T := TX11) (Z := 43) (ci := 11) (f := 10) dX11_number_36 inG11 rfl (by decide) k1274 wc_162 rfl ?_
      refine J_ci (v := u 162 10) (ms_i e3 (by decide)) ?_
      refine J_callV (As := [.int 2, .int (u 162 10)]) (rest := []) dX11_number_39 (c_M_later (d := 0) (u := u2) (g := g) (ex := ex) (f := 2) (place := u 162 10)  (by decide) ) hq.n k1452 k1454 k43 wc_162 rfl rfl k97 k1455 np_X11_later (Nat.le_trans (by decide) hd) (by decide) (Nat.le_refl _) (Nat.le_refl _) wlen rfl (Nat.le_of_ble_eq_true rfl) (fun r_ h_ p19 => ?_)
      obtain ⟨u20, rfl, rfl, h21, fr22, fc23⟩ := p19
      refine J_aload_n (i := 0) (j := 0) dX11_number_42 rfl rfl ?_
      refine J_iconst (v := 0) dX11_number_43 (by decide) ?_
      obtain ⟨u24, e25⟩ : ∃ z, z = ms u20 162 18 0 := ⟨_, rfl⟩
      refine J_put (C := RX11) (T := TX11) (Z := 43) (ci := 11) (f := 18) (ty0 := tyX11) dX11_number_44 inG11 rfl tyX11_ok nmX11 (by decide) k1282 rfl rfl wc_162 (Nat.le_of_ble_eq_true rfl) (fun _ _ => ⟨rfl, rfl⟩) (ws e25 wk_162 rfl) ?_
      refine J_aload_n (i := 0) (j := 0) dX11_number_47 rfl rfl ?_
      refine J_callV (As := []) (rest := []) dX11_number_48 (c_M_token (d := 1) (u := u24) (g := g) (ex := ex)   (by decide) (bd_r ((ms_i e25 (by decide)).trans ((fc23 8 (by decide) (by decide)).trans (ms_i e3 (by decide)))) hp0) (bd_r ((ms_i e25 (by decide)).trans ((fc23 9 (by decide) (by decide)).trans (ms_i e3 (by decide)))) hp1) (bd_r ((ms_i e25 (by decide)).trans ((fc23 12 (by decide) (by decide)).trans (ms_i e3 (by decide)))) hp2)) hq.n k1417 k1419 k38 wc_162 rfl rfl k97 k1420 np_X11_token (Nat.le_trans (by decide) hd) (by decide) (Nat.le_refl _) (Nat.le_refl _) wlen rfl (Nat.le_of_ble_eq_true rfl) (fun r_ h_ p26 => ?_)
      obtain ⟨u27, g28, rfl, rfl, h29, h30, h31, h32, h33, fr34, fc35⟩ := p26
      refine J_iconst (v := 1) dX11_number_51 (by decide) ?_
      exact J_zret hq dX11_number_52 rfl rfl wlen (Nat.le_refl _) (Nat.le_refl _) ⟨true, u27, g28, rfl, rfl, h29, h32, (bd_r ((fc35 17 (by decide) (by decide) (by decide) (by decide)).trans ((ms_i e25 (by decide)).trans ((fc23 17 (by decide) (by decide)).trans (ms_e e3)))) hp2), (fun _ => (gv_r rfl rfl rfl (gv_r ((ms_i e25 (by decide)).trans ((fc23 8 (by decide) (by decide)).trans (ms_i e3 (by decide)))).symm rfl rfl h33))), (fun _ => Or.inl ((fc35 18 (by decide) (by decide) (by decide) (by decide)).trans (ms_e e25))), (Or.inl ((fc35 18 (by decide) (by decide) (by decide) (by decide)).trans (ms_e e25))), (fun c k0_ => ((fr34 c k0_).trans ((ms_c e25 k0_).trans ((fr22 c k0_).trans (ms_c e3 k0_))))), (fun j k8_ k10_ k11_ k12_ k14_ k15_ k16_ k17_ k18_ => ((fc35 j k8_ k10_ k11_ k12_).trans ((ms_i e25 k18_).trans ((fc23 j k15_ k16_).trans (ms_i e3 k17_)))))⟩
  · refine J_aload_n (i := 0) (j := 0) dX11_number_8 rfl rfl ?_
    refine J_callV (As := []) (rest := []) dX11_number_9 (c_M_stops (d := 0) (u := u) (g := g) (ex := ex)   (by decide) ) hq.n k1444 k1446 k41 wc_162 rfl rfl k97 k1447 np_X11_stops (Nat.le_trans (by decide) hd) (by decide) (Nat.le_refl _) (Nat.le_refl _) wlen rfl (Nat.le_of_ble_eq_true rfl) (fun r_ h_ p36 => ?_)
    obtain ⟨u37, rfl, rfl, fr38, fc39⟩ := p36
    exact J_zret hq dX11_number_12 rfl rfl wlen (Nat.le_refl _) (Nat.le_refl _) ⟨false, u37, g, rfl, rfl, (bd_r (fc39 8 (by decide)) hp0), (bd_r (fc39 12 (by decide)) hp2), (bd_r (fc39 17 (by decide)) hp3), (fun q => absurd q (by decide)), (fun q => absurd q (by decide)), (Or.inr (fc39 18 (by decide))), (fun c k0_ => (fr38 c k0_)), (fun j k8_ k10_ k11_ k12_ k14_ k15_ k16_ k17_ k18_ => (fc39 j k14_))⟩
set_option maxHeartbeats 4000000 in
set_option maxRecDepth 100000 in
theorem c_M_take0 {d : Nat} {u : Nat → Nat → Int32} {g : Nat → Nat → Int64} {ex : List MC} {low : Int32} {high : Int32} (hd : 3 ≤ d) (hp0 : Bd 0 600 (u 162 8)) (hp1 : Bd 0 600 (u 162 9)) (hp2 : Bd 0 999 (u 162 12)) (hp3 : Bd 0 999 (u 162 17)) : CT con0 d 0 0 yX11_take cX11_take 5 (some .boolean) [.ref 162, .int 0, .int low, .int high] (Wd u g ex) (fun r h2 => ∃ (z : Bool) (u2 : Nat → Nat → Int32) (g2 : Nat → Nat → Int64), r = some (.int (bI z)) ∧ h2 = Wd u2 g2 ex ∧ Bd 0 600 (u2 162 8) ∧ Bd 0 999 (u2 162 12) ∧ Bd 0 999 (u2 162 17) ∧ Bd 0 999 (u2 171 0) ∧ (z = true → GV (u 162 8) (u2 162 8) (u2 162 11)) ∧ (z = true → u2 162 18 = 0 ∨ (low ≤ u2 171 0 ∧ u2 171 0 ≤ high)) ∧ (u2 162 18 = 0 ∨ u2 162 18 = u 162 18) ∧ (∀ c, c ≠ 162 → c ≠ 171 → u2 c = u c) ∧ (∀ j, j ≠ 8 → j ≠ 10 → j ≠ 11 → j ≠ 12 → j ≠ 14 → j ≠ 15 → j ≠ 16 → j ≠ 17 → j ≠ 18 → u2 162 j = u 162 j) ∧ (∀ j, j ≠ 0 → u2 171 j = u 171 j)) := by
  refine CT_of (by decide) (Nat.le_of_ble_eq_true rfl) (fun x hq => ?_)
  show J x yX11_take cX11_take 5 (some .boolean) d 0 0 (Wd u g ex).length 0 [(0, .ref 162), (1, .int 0), (2, .int low), (3, .int high)] [] (Wd u g ex) 0 0
  refine J_aload_n (i := 0) (j := 0) dX11_take_0 rfl rfl ?_
  refine J_iload_n (i := 2) (j := 2) dX11_take_1 rfl rfl ?_
  refine J_iload_n (i := 3) (j := 3) dX11_take_2 rfl rfl ?_
  refine J_callV (As := [.int low, .int high]) (rest := []) dX11_take_3 (c_M_number (d := 2) (u := u) (g := g) (ex := ex) (low := low) (high := high)  (by decide) hp0 hp1 hp2 hp3) hq.n k1460 k1462 k45 wc_162 rfl rfl k97 k1463 np_X11_number (Nat.le_trans (by decide) hd) (by decide) (Nat.le_refl _) (Nat.le_refl _) wlen rfl (Nat.le_of_ble_eq_true rfl) (fun r_ h_ p1 => ?_)
  obtain ⟨t2, u3, g4, rfl, rfl, h5, h6, h7, h8, h9, h10, fr11, fc12⟩ := p1
  refine J_istore (i := 4) (lw := [(4, .int (bI t2)), (0, .ref 162), (1, .int 0), (2, .int low), (3, .int high)]) dX11_take_6 (by decide) rfl ?_
  refine J_aload_n (i := 0) (j := 1) dX11_take_8 rfl rfl ?_
  refine J_get (C := RX11) (T := TX11) (Z := 43) (ci := 11) (f := 20) dX11_take_9 inG11 rfl (by decide) k1284 wc_162 rfl ?_
  refine J_iload_n (i := 1) (j := 2) dX11_take_12 rfl rfl ?_
  refine J_aload_n (i := 0) (j := 1) dX11_take_13 rfl rfl ?_
  refine J_get (C := RX11) (T := TX11) (Z := 43) (ci := 11) (f := 17) dX11_take_14 inG11 rfl (by decide) k1281 wc_162 rfl ?_
  obtain ⟨u13, e14⟩ : ∃ z, z = ms u3 171 0 (u3 162 17) := ⟨_, rfl⟩
  refine J_iast dX11_take_17 wc_171 (vin (bd_c (v := 0) (lo := 0) (hi := 0) (by decide)) (by decide)) (ws e14 wk_171 rfl) ?_
  refine J_iload (i := 4) (j := 0) dX11_take_18 rfl ?_
  exact J_zret hq dX11_take_20 rfl (bI_n _) wlen (Nat.le_refl _) (Nat.le_refl _) ⟨t2, u13, g4, rfl, rfl, (bd_r (congrFun (ms_c e14 (by decide)) 8) h5), (bd_r (congrFun (ms_c e14 (by decide)) 12) h6), (bd_r (congrFun (ms_c e14 (by decide)) 17) h7), (bd_r (ms_e e14) h7), (fun q => (gv_r rfl (congrFun (ms_c e14 (by decide)) 8) (congrFun (ms_c e14 (by decide)) 11) (h8 q))), (fun q => nr_t (congrFun (ms_c e14 (by decide)) 18) (ms_e e14) (h9 q)), (nf_t (congrFun (ms_c e14 (by decide)) 18) h10), (fun c k0_ k1_ => ((ms_c e14 k1_).trans (fr11 c k0_))), (fun j k8_ k10_ k11_ k12_ k14_ k15_ k16_ k17_ k18_ => ((congrFun (ms_c e14 (by decide)) j).trans (fc12 j k8_ k10_ k11_ k12_ k14_ k15_ k16_ k17_ k18_))), (fun j k0_ => ((ms_i e14 k0_).trans (congrFun (fr11 171 (by decide)) j)))⟩
set_option maxHeartbeats 4000000 in
set_option maxRecDepth 100000 in
theorem c_M_take1 {d : Nat} {u : Nat → Nat → Int32} {g : Nat → Nat → Int64} {ex : List MC} {low : Int32} {high : Int32} (hd : 3 ≤ d) (hp0 : Bd 0 600 (u 162 8)) (hp1 : Bd 0 600 (u 162 9)) (hp2 : Bd 0 999 (u 162 12)) (hp3 : Bd 0 999 (u 162 17)) : CT con0 d 0 0 yX11_take cX11_take 5 (some .boolean) [.ref 162, .int 1, .int low, .int high] (Wd u g ex) (fun r h2 => ∃ (z : Bool) (u2 : Nat → Nat → Int32) (g2 : Nat → Nat → Int64), r = some (.int (bI z)) ∧ h2 = Wd u2 g2 ex ∧ Bd 0 600 (u2 162 8) ∧ Bd 0 999 (u2 162 12) ∧ Bd 0 999 (u2 162 17) ∧ Bd 0 999 (u2 171 1) ∧ (z = true → GV (u 162 8) (u2 162 8) (u2 162 11)) ∧ (z = true → u2 162 18 = 0 ∨ (low ≤ u2 171 1 ∧ u2 171 1 ≤ high)) ∧ (u2 162 18 = 0 ∨ u2 162 18 = u 162 18) ∧ (∀ c, c ≠ 162 → c ≠ 171 → u2 c = u c) ∧ (∀ j, j ≠ 8 → j ≠ 10 → j ≠ 11 → j ≠ 12 → j ≠ 14 → j ≠ 15 → j ≠ 16 → j ≠ 17 → j ≠ 18 → u2 162 j = u 162 j) ∧ (∀ j, j ≠ 1 → u2 171 j = u 171 j)) := by
  refine CT_of (by decide) (Nat.le_of_ble_eq_true rfl) (fun x hq => ?_)
  show J x yX11_take cX11_take 5 (some .boolean) d 0 0 (Wd u g ex).length 0 [(0, .ref 162), (1, .int 1), (2, .int low), (3, .int high)] [] (Wd u g ex) 0 0
  refine J_aload_n (i := 0) (j := 0) dX11_take_0 rfl rfl ?_
  refine J_iload_n (i := 2) (j := 2) dX11_take_1 rfl rfl ?_
  refine J_iload_n (i := 3) (j := 3) dX11_take_2 rfl rfl ?_
  refine J_callV (As := [.int low, .int high]) (rest := []) dX11_take_3 (c_M_number (d := 2) (u := u) (g := g) (ex := ex) (low := low) (high := high)  (by decide) hp0 hp1 hp2 hp3) hq.n k1460 k1462 k45 wc_162 rfl rfl k97 k1463 np_X11_number (Nat.le_trans (by decide) hd) (by decide) (Nat.le_refl _) (Nat.le_refl _) wlen rfl (Nat.le_of_ble_eq_true rfl) (fun r_ h_ p1 => ?_)
  obtain ⟨t2, u3, g4, rfl, rfl, h5, h6, h7, h8, h9, h10, fr11, fc12⟩ := p1
  refine J_istore (i := 4) (lw := [(4, .int (bI t2)), (0, .ref 162), (1, .int 1), (2, .int low), (3, .int high)]) dX11_take_6 (by decide) rfl ?_
  refine J_aload_n (i := 0) (j := 1) dX11_take_8 rfl rfl ?_
  refine J_get (C := RX11) (T := TX11) (Z := 43) (ci := 11) (f := 20) dX11_take_9 inG11 rfl (by decide) k1284 wc_162 rfl ?_
  refine J_iload_n (i := 1) (j := 2) dX11_take_12 rfl rfl ?_
  refine J_aload_n (i := 0) (j := 1) dX11_take_13 rfl rfl ?_
  refine J_get (C := RX11) (T := TX11) (Z := 43) (ci := 11) (f := 17) dX11_take_14 inG11 rfl (by decide) k1281 wc_162 rfl ?_
  obtain ⟨u13, e14⟩ : ∃ z, z = ms u3 171 1 (u3 162 17) := ⟨_, rfl⟩
  refine J_iast dX11_take_17 wc_171 (vin (bd_c (v := 1) (lo := 1) (hi := 1) (by decide)) (by decide)) (ws e14 wk_171 rfl) ?_
  refine J_iload (i := 4) (j := 0) dX11_take_18 rfl ?_
  exact J_zret hq dX11_take_20 rfl (bI_n _) wlen (Nat.le_refl _) (Nat.le_refl _) ⟨t2, u13, g4, rfl, rfl, (bd_r (congrFun (ms_c e14 (by decide)) 8) h5), (bd_r (congrFun (ms_c e14 (by decide)) 12) h6), (bd_r (congrFun (ms_c e14 (by decide)) 17) h7), (bd_r (ms_e e14) h7), (fun q => (gv_r rfl (congrFun (ms_c e14 (by decide)) 8) (congrFun (ms_c e14 (by decide)) 11) (h8 q))), (fun q => nr_t (congrFun (ms_c e14 (by decide)) 18) (ms_e e14) (h9 q)), (nf_t (congrFun (ms_c e14 (by decide)) 18) h10), (fun c k0_ k1_ => ((ms_c e14 k1_).trans (fr11 c k0_))), (fun j k8_ k10_ k11_ k12_ k14_ k15_ k16_ k17_ k18_ => ((congrFun (ms_c e14 (by decide)) j).trans (fc12 j k8_ k10_ k11_ k12_ k14_ k15_ k16_ k17_ k18_))), (fun j k1_ => ((ms_i e14 k1_).trans (congrFun (fr11 171 (by decide)) j)))⟩
set_option maxHeartbeats 4000000 in
set_option maxRecDepth 100000 in
theorem c_M_take2 {d : Nat} {u : Nat → Nat → Int32} {g : Nat → Nat → Int64} {ex : List MC} {low : Int32} {high : Int32} (hd : 3 ≤ d) (hp0 : Bd 0 600 (u 162 8)) (hp1 : Bd 0 600 (u 162 9)) (hp2 : Bd 0 999 (u 162 12)) (hp3 : Bd 0 999 (u 162 17)) : CT con0 d 0 0 yX11_take cX11_take 5 (some .boolean) [.ref 162, .int 2, .int low, .int high] (Wd u g ex) (fun r h2 => ∃ (z : Bool) (u2 : Nat → Nat → Int32) (g2 : Nat → Nat → Int64), r = some (.int (bI z)) ∧ h2 = Wd u2 g2 ex ∧ Bd 0 600 (u2 162 8) ∧ Bd 0 999 (u2 162 12) ∧ Bd 0 999 (u2 162 17) ∧ Bd 0 999 (u2 171 2) ∧ (z = true → GV (u 162 8) (u2 162 8) (u2 162 11)) ∧ (z = true → u2 162 18 = 0 ∨ (low ≤ u2 171 2 ∧ u2 171 2 ≤ high)) ∧ (u2 162 18 = 0 ∨ u2 162 18 = u 162 18) ∧ (∀ c, c ≠ 162 → c ≠ 171 → u2 c = u c) ∧ (∀ j, j ≠ 8 → j ≠ 10 → j ≠ 11 → j ≠ 12 → j ≠ 14 → j ≠ 15 → j ≠ 16 → j ≠ 17 → j ≠ 18 → u2 162 j = u 162 j) ∧ (∀ j, j ≠ 2 → u2 171 j = u 171 j)) := by
  refine CT_of (by decide) (Nat.le_of_ble_eq_true rfl) (fun x hq => ?_)
  show J x yX11_take cX11_take 5 (some .boolean) d 0 0 (Wd u g ex).length 0 [(0, .ref 162), (1, .int 2), (2, .int low), (3, .int high)] [] (Wd u g ex) 0 0
  refine J_aload_n (i := 0) (j := 0) dX11_take_0 rfl rfl ?_
  refine J_iload_n (i := 2) (j := 2) dX11_take_1 rfl rfl ?_
  refine J_iload_n (i := 3) (j := 3) dX11_take_2 rfl rfl ?_
  refine J_callV (As := [.int low, .int high]) (rest := []) dX11_take_3 (c_M_number (d := 2) (u := u) (g := g) (ex := ex) (low := low) (high := high)  (by decide) hp0 hp1 hp2 hp3) hq.n k1460 k1462 k45 wc_162 rfl rfl k97 k1463 np_X11_number (Nat.le_trans (by decide) hd) (by decide) (Nat.le_refl _) (Nat.le_refl _) wlen rfl (Nat.le_of_ble_eq_true rfl) (fun r_ h_ p1 => ?_)
  obtain ⟨t2, u3, g4, rfl, rfl, h5, h6, h7, h8, h9, h10, fr11, fc12⟩ := p1
  refine J_istore (i := 4) (lw := [(4, .int (bI t2)), (0, .ref 162), (1, .int 2), (2, .int low), (3, .int high)]) dX11_take_6 (by decide) rfl ?_
  refine J_aload_n (i := 0) (j := 1) dX11_take_8 rfl rfl ?_
  refine J_get (C := RX11) (T := TX11) (Z := 43) (ci := 11) (f := 20) dX11_take_9 inG11 rfl (by decide) k1284 wc_162 rfl ?_
  refine J_iload_n (i := 1) (j := 2) dX11_take_12 rfl rfl ?_
  refine J_aload_n (i := 0) (j := 1) dX11_take_13 rfl rfl ?_
  refine J_get (C := RX11) (T := TX11) (Z := 43) (ci := 11) (f := 17) dX11_take_14 inG11 rfl (by decide) k1281 wc_162 rfl ?_
  obtain ⟨u13, e14⟩ : ∃ z, z = ms u3 171 2 (u3 162 17) := ⟨_, rfl⟩
  refine J_iast dX11_take_17 wc_171 (vin (bd_c (v := 2) (lo := 2) (hi := 2) (by decide)) (by decide)) (ws e14 wk_171 rfl) ?_
  refine J_iload (i := 4) (j := 0) dX11_take_18 rfl ?_
  exact J_zret hq dX11_take_20 rfl (bI_n _) wlen (Nat.le_refl _) (Nat.le_refl _) ⟨t2, u13, g4, rfl, rfl, (bd_r (congrFun (ms_c e14 (by decide)) 8) h5), (bd_r (congrFun (ms_c e14 (by decide)) 12) h6), (bd_r (congrFun (ms_c e14 (by decide)) 17) h7), (bd_r (ms_e e14) h7), (fun q => (gv_r rfl (congrFun (ms_c e14 (by decide)) 8) (congrFun (ms_c e14 (by decide)) 11) (h8 q))), (fun q => nr_t (congrFun (ms_c e14 (by decide)) 18) (ms_e e14) (h9 q)), (nf_t (congrFun (ms_c e14 (by decide)) 18) h10), (fun c k0_ k1_ => ((ms_c e14 k1_).trans (fr11 c k0_))), (fun j k8_ k10_ k11_ k12_ k14_ k15_ k16_ k17_ k18_ => ((congrFun (ms_c e14 (by decide)) j).trans (fc12 j k8_ k10_ k11_ k12_ k14_ k15_ k16_ k17_ k18_))), (fun j k2_ => ((ms_i e14 k2_).trans (congrFun (fr11 171 (by decide)) j)))⟩
set_option maxHeartbeats 4000000 in
set_option maxRecDepth 100000 in
theorem c_M_pondLine {d : Nat} {u : Nat → Nat → Int32} {g : Nat → Nat → Int64} {ex : List MC} {at0 : Int32} (hd : 4 ≤ d) (hp0 : Bd 0 600 (u 162 8)) (hp1 : Bd 0 600 (u 162 9)) (hp2 : Bd 0 999 (u 162 12)) (hp3 : Bd 0 999 (u 162 17)) (hp4 : AB u 171 (-1) 999) (hp5 : (RH u)) : CT con0 d 0 0 yX11_pondLine cX11_pondLine 5 (some .boolean) [.ref 162, .int at0] (Wd u g ex) (fun r h2 => ∃ (z : Bool) (u2 : Nat → Nat → Int32) (g2 : Nat → Nat → Int64), r = some (.int (bI z)) ∧ h2 = Wd u2 g2 ex ∧ Bd 0 600 (u2 162 8) ∧ Bd 0 999 (u2 162 12) ∧ Bd 0 999 (u2 162 17) ∧ AB u2 171 (-1) 999 ∧ (RH u2) ∧ (z = true → GV (u 162 8) (u2 162 8) (u2 162 11)) ∧ (∀ c, c ≠ 162 → c ≠ 170 → c ≠ 171 → u2 c = u c) ∧ (∀ j, j ≠ 8 → j ≠ 10 → j ≠ 11 → j ≠ 12 → j ≠ 14 → j ≠ 15 → j ≠ 16 → j ≠ 17 → j ≠ 18 → u2 162 j = u 162 j)) := by
  refine CT_of (by decide) (Nat.le_of_ble_eq_true rfl) (fun x hq => ?_)
  show J x yX11_pondLine cX11_pondLine 5 (some .boolean) d 0 0 (Wd u g ex).length 0 [(0, .ref 162), (1, .int at0)] [] (Wd u g ex) 0 0
  refine J_aload_n (i := 0) (j := 0) dX11_pondLine_0 rfl rfl ?_
  refine J_get (C := RX11) (T := TX11) (Z := 43) (ci := 11) (f := 19) dX11_pondLine_1 inG11 rfl (by decide) k1283 wc_162 rfl ?_
  refine J_iconst (v := 0) dX11_pondLine_4 (by decide) ?_
  refine J_iald dX11_pondLine_5 wc_170 (vin (bd_c (v := 0) (lo := 0) (hi := 0) (by decide)) (by decide)) ?_
  refine J_ci (v := u 170 0) rfl ?_
  refine J_istore_n (i := 2) (lw := [(2, .int (u 170 0)), (0, .ref 162), (1, .int at0)]) dX11_pondLine_6 rfl (by decide) rfl ?_
  refine J_iload_n (i := 2) (j := 0) dX11_pondLine_7 rfl rfl ?_
  refine J_bipush (v := 9) dX11_pondLine_8 (by decide) ?_
  have jn10 : ∀ (u7 : Nat → Nat → Int32), (∀ c, c ≠ 162 → u7 c = u c) → (∀ j, j ≠ 15 → j ≠ 16 → u7 162 j = u 162 j) → J x yX11_pondLine cX11_pondLine 5 (some .boolean) d 0 0 (Wd u g ex).length 19 [(0, .ref 162), (2, .int (u 170 0))] [] (Wd u7 g ex) 0 0 := by
    intro u7 fr8 fc9
    refine J_aload_n (i := 0) (j := 0) dX11_pondLine_19 rfl rfl ?_
    refine J_iconst (v := 0) dX11_pondLine_20 (by decide) ?_
    refine J_iconst (v := 0) dX11_pondLine_21 (by decide) ?_
    refine J_bipush (v := 24) dX11_pondLine_22 (by decide) ?_
    refine J_callV (As := [.int 0, .int 0, .int 24]) (rest := []) dX11_pondLine_24 (c_M_take0 (d := 3) (u := u7) (g := g) (ex := ex) (low := 0) (high := 24)  (by decide) (bd_r (fc9 8 (by decide) (by decide)) hp0) (bd_r (fc9 9 (by decide) (by decide)) hp1) (bd_r (fc9 12 (by decide) (by decide)) hp2) (bd_r (fc9 17 (by decide) (by decide)) hp3)) hq.n k1456 k1458 k44 wc_162 rfl rfl k97 k1459 np_X11_take (Nat.le_trans (by decide) hd) (by decide) (Nat.le_refl _) (Nat.le_refl _) wlen rfl (Nat.le_of_ble_eq_true rfl) (fun r_ h_ p11 => ?_)
    obtain ⟨t12, u13, g14, rfl, rfl, h15, h16, h17, h18, h19, h20, h21, fr22, fc23, fc24⟩ := p11
    refine J_ifB_eq (tgt := 72) dX11_pondLine_27 (by decide) (fun c25 => ?_) (fun c25 => ?_)
    · refine J_iconst (v := 0) dX11_pondLine_72 (by decide) ?_
      exact J_zret hq dX11_pondLine_73 rfl rfl wlen (Nat.le_refl _) (Nat.le_refl _) ⟨false, u13, g14, rfl, rfl, h15, h16, h17, (ab_i fc24 (ab_c (fr8 171 (by decide)) hp4) (bd_w (l := (-1)) (h := 999) h18 (by decide))), (rh_c ((fr22 170 (by decide) (by decide)).trans (fr8 170 (by decide))) hp5), (fun q => absurd q (by decide)), (fun c k0_ k1_ k2_ => ((fr22 c k0_ k2_).trans (fr8 c k0_))), (fun j k8_ k10_ k11_ k12_ k14_ k15_ k16_ k17_ k18_ => ((fc23 j k8_ k10_ k11_ k12_ k14_ k15_ k16_ k17_ k18_).trans (fc9 j k15_ k16_)))⟩
    · refine J_aload_n (i := 0) (j := 0) dX11_pondLine_30 rfl rfl ?_
      refine J_iconst (v := 1) dX11_pondLine_31 (by decide) ?_
      refine J_iconst (v := 0) dX11_pondLine_32 (by decide) ?_
      refine J_aload_n (i := 0) (j := 0) dX11_pondLine_33 rfl rfl ?_
      refine J_get (C := RX11) (T := TX11) (Z := 43) (ci := 11) (f := 20) dX11_pondLine_34 inG11 rfl (by decide) k1284 wc_162 rfl ?_
      refine J_iconst (v := 0) dX11_pondLine_37 (by decide) ?_
      refine J_iald dX11_pondLine_38 wc_171 (vin (bd_c (v := 0) (lo := 0) (hi := 0) (by decide)) (by decide)) ?_
      refine J_ci (v := u13 171 0) rfl ?_
      refine J_bipush (v := 24) dX11_pondLine_39 (by decide) ?_
      have jn28 : ∀ (w27 : Int32), Bd 0 24 w27 → J x yX11_pondLine cX11_pondLine 5 (some .boolean) d 0 0 (Wd u g ex).length 55 [(0, .ref 162), (2, .int (u 170 0))] [.int w27, .int 0, .int 1, .ref 162] (Wd u13 g14 ex) 0 0 := by
        intro w27 bw27
        refine J_callV (As := [.int 1, .int 0, .int w27]) (rest := []) dX11_pondLine_55 (c_M_take1 (d := 3) (u := u13) (g := g14) (ex := ex) (low := 0) (high := w27)  (by decide) h15 (bd_r ((fc23 9 (by decide) (by decide) (by decide) (by decide) (by decide) (by decide) (by decide) (by decide) (by decide)).trans (fc9 9 (by decide) (by decide))) hp1) h16 h17) hq.n k1456 k1458 k44 wc_162 rfl rfl k97 k1459 np_X11_take (Nat.le_trans (by decide) hd) (by decide) (Nat.le_refl _) (Nat.le_refl _) wlen rfl (Nat.le_of_ble_eq_true rfl) (fun r_ h_ p29 => ?_)
        obtain ⟨t30, u31, g32, rfl, rfl, h33, h34, h35, h36, h37, h38, h39, fr40, fc41, fc42⟩ := p29
        refine J_ifB_eq (tgt := 72) dX11_pondLine_58 (by decide) (fun c43 => ?_) (fun c43 => ?_)
        · refine J_iconst (v := 0) dX11_pondLine_72 (by decide) ?_
          exact J_zret hq dX11_pondLine_73 rfl rfl wlen (Nat.le_refl _) (Nat.le_refl _) ⟨false, u31, g32, rfl, rfl, h33, h34, h35, (ab_i fc42 (ab_i fc24 (ab_c (fr8 171 (by decide)) hp4) (bd_w (l := (-1)) (h := 999) h18 (by decide))) (bd_w (l := (-1)) (h := 999) h36 (by decide))), (rh_c ((fr40 170 (by decide) (by decide)).trans ((fr22 170 (by decide) (by decide)).trans (fr8 170 (by decide)))) hp5), (fun q => absurd q (by decide)), (fun c k0_ k1_ k2_ => ((fr40 c k0_ k2_).trans ((fr22 c k0_ k2_).trans (fr8 c k0_)))), (fun j k8_ k10_ k11_ k12_ k14_ k15_ k16_ k17_ k18_ => ((fc41 j k8_ k10_ k11_ k12_ k14_ k15_ k16_ k17_ k18_).trans ((fc23 j k8_ k10_ k11_ k12_ k14_ k15_ k16_ k17_ k18_).trans (fc9 j k15_ k16_))))⟩
        · refine J_aload_n (i := 0) (j := 0) dX11_pondLine_61 rfl rfl ?_
          refine J_iconst (v := 2) dX11_pondLine_62 (by decide) ?_
          refine J_iconst (v := 0) dX11_pondLine_63 (by decide) ?_
          refine J_bipush (v := 9) dX11_pondLine_64 (by decide) ?_
          refine J_callV (As := [.int 2, .int 0, .int 9]) (rest := []) dX11_pondLine_66 (c_M_take2 (d := 3) (u := u31) (g := g32) (ex := ex) (low := 0) (high := 9)  (by decide) h33 (bd_r ((fc41 9 (by decide) (by decide) (by decide) (by decide) (by decide) (by decide) (by decide) (by decide) (by decide)).trans ((fc23 9 (by decide) (by decide) (by decide) (by decide) (by decide) (by decide) (by decide) (by decide) (by decide)).trans (fc9 9 (by decide) (by decide)))) hp1) h34 h35) hq.n k1456 k1458 k44 wc_162 rfl rfl k97 k1459 np_X11_take (Nat.le_trans (by decide) hd) (by decide) (Nat.le_refl _) (Nat.le_refl _) wlen rfl (Nat.le_of_ble_eq_true rfl) (fun r_ h_ p44 => ?_)
          obtain ⟨t45, u46, g47, rfl, rfl, h48, h49, h50, h51, h52, h53, h54, fr55, fc56, fc57⟩ := p44
          refine J_ifB_ne (tgt := 74) dX11_pondLine_69 (by decide) (fun c58 => ?_) (fun c58 => ?_)
          · refine J_iload_n (i := 2) (j := 1) dX11_pondLine_74 rfl rfl ?_
            refine J_bipush (v := 9) dX11_pondLine_75 (by decide) ?_
            have jn188 : ∀ (u184 : Nat → Nat → Int32), (∀ c, c ≠ 170 → u184 c = u46 c) → AB u184 170 (-1) 999 → RH u184 → J x yX11_pondLine cX11_pondLine 5 (some .boolean) d 0 0 (Wd u g ex).length 165 [] [] (Wd u184 g47 ex) 0 0 := by
              intro u184 fr185 ab186 rf187
              refine J_iconst (v := 1) dX11_pondLine_165 (by decide) ?_
              exact J_zret hq dX11_pondLine_166 rfl rfl wlen (Nat.le_refl _) (Nat.le_refl _) ⟨true, u184, g47, rfl, rfl, (bd_r (congrFun (fr185 162 (by decide)) 8) h48), (bd_r (congrFun (fr185 162 (by decide)) 12) h49), (bd_r (congrFun (fr185 162 (by decide)) 17) h50), (ab_c (fr185 171 (by decide)) (ab_i fc57 (ab_i fc42 (ab_i fc24 (ab_c (fr8 171 (by decide)) hp4) (bd_w (l := (-1)) (h := 999) h18 (by decide))) (bd_w (l := (-1)) (h := 999) h36 (by decide))) (bd_w (l := (-1)) (h := 999) h51 (by decide)))), rf187, (fun _ => (gv_r rfl (congrFun (fr185 162 (by decide)) 8) (congrFun (fr185 162 (by decide)) 11) (gv_t (gv_t (gv_r (fc9 8 (by decide) (by decide)).symm rfl rfl (h19 c25)) (h37 c43)) (h52 c58)))), (fun c k0_ k1_ k2_ => ((fr185 c k1_).trans ((fr55 c k0_ k2_).trans ((fr40 c k0_ k2_).trans ((fr22 c k0_ k2_).trans (fr8 c k0_)))))), (fun j k8_ k10_ k11_ k12_ k14_ k15_ k16_ k17_ k18_ => ((congrFun (fr185 162 (by decide)) j).trans ((fc56 j k8_ k10_ k11_ k12_ k14_ k15_ k16_ k17_ k18_).trans ((fc41 j k8_ k10_ k11_ k12_ k14_ k15_ k16_ k17_ k18_).trans ((fc23 j k8_ k10_ k11_ k12_ k14_ k15_ k16_ k17_ k18_).trans (fc9 j k15_ k16_))))))⟩
            refine J_icmp_ge (tgt := 165) dX11_pondLine_77 (by decide) (fun c59 => ?_) (fun c59 => ?_)
            · refine J_lv [] rfl ?_
              exact jn188 u46 (fun c k0_ => rfl) (ab_c ((fr55 170 (by decide) (by decide)).trans ((fr40 170 (by decide) (by decide)).trans ((fr22 170 (by decide) (by decide)).trans (fr8 170 (by decide))))) (hp5).1) (rh_c ((fr55 170 (by decide) (by decide)).trans ((fr40 170 (by decide) (by decide)).trans ((fr22 170 (by decide) (by decide)).trans (fr8 170 (by decide))))) hp5)
            · refine J_bipush (v := 13) dX11_pondLine_80 (by decide) ?_
              refine J_bipush (v := 16) dX11_pondLine_82 (by decide) ?_
              refine J_iload_n (i := 2) (j := 1) dX11_pondLine_84 rfl rfl ?_
              refine J_imul dX11_pondLine_85 ?_
              refine J_iadd dX11_pondLine_86 ?_
              refine J_istore_n (i := 3) (lw := [(3, .int ((13 : Int32) + ((16 : Int32) * (u 170 0)))), (0, .ref 162), (2, .int (u 170 0))]) dX11_pondLine_87 rfl (by decide) rfl ?_
              refine J_iconst (v := 0) dX11_pondLine_88 (by decide) ?_
              refine J_istore (i := 4) (lw := [(4, .int 0), (3, .int ((13 : Int32) + ((16 : Int32) * (u 170 0)))), (0, .ref 162), (2, .int (u 170 0))]) dX11_pondLine_89 (by decide) rfl ?_
              have lp275 : ∀ (n276 : Nat) (w237 : Int32) (u238 : Nat → Nat → Int32), Bd 0 16 w237 → (∀ c, c ≠ 170 → u238 c = u46 c) → AB u238 170 (-1) 999 → RH u238 → u238 170 0 = u 170 0 → (16 - w237.toInt).toNat < n276 → J x yX11_pondLine cX11_pondLine 5 (some .boolean) d 0 0 (Wd u g ex).length 91 [(0, .ref 162), (3, .int ((13 : Int32) + ((16 : Int32) * (u 170 0)))), (4, .int w237)] [] (Wd u238 g47 ex) 0 0 := by
                intro n276
                induction n276 with
                | zero => intro w237 u238 bw237 fr239 ab240 rf241 hI279 hm278; exact absurd hm278 (Nat.not_lt_zero _)
                | succ n276 ih277 =>
                  intro w237 u238 bw237 fr239 ab240 rf241 hI279 hm278
                  refine J_iload (i := 4) (j := 2) dX11_pondLine_91 rfl ?_
                  refine J_bipush (v := 16) dX11_pondLine_93 (by decide) ?_
                  refine J_icmp_ge (tgt := 155) dX11_pondLine_95 (by decide) (fun c280 => ?_) (fun c280 => ?_)
                  · refine J_aload_n (i := 0) (j := 0) dX11_pondLine_155 rfl rfl ?_
                    refine J_get (C := RX11) (T := TX11) (Z := 43) (ci := 11) (f := 19) dX11_pondLine_156 inG11 rfl (by decide) k1283 wc_162 rfl ?_
                    refine J_iconst (v := 0) dX11_pondLine_159 (by decide) ?_
                    refine J_dup2_11 dX11_pondLine_160 rfl rfl ?_
                    refine J_iald dX11_pondLine_161 wc_170 (vin (bd_c (v := 0) (lo := 0) (hi := 0) (by decide)) (by decide)) ?_
                    refine J_ci (v := u238 170 0) rfl ?_
                    refine J_iconst (v := 1) dX11_pondLine_162 (by decide) ?_
                    refine J_iadd dX11_pondLine_163 ?_
                    obtain ⟨u296, e297⟩ : ∃ z, z = ms u238 170 0 ((u238 170 0) + 1) := ⟨_, rfl⟩
                    refine J_iast dX11_pondLine_164 wc_170 (vin (bd_c (v := 0) (lo := 0) (hi := 0) (by decide)) (by decide)) (ws e297 wk_170 rfl) ?_
                    refine J_lv [] rfl ?_
                    exact jn188 u296 (fun c k0_ => ((ms_c e297 k0_).trans (fr239 c k0_))) (ab_s e297 ab240 (bd_w (l := (-1)) (h := 999) (bd_add (l := 1) (h := 9) (bd_r hI279 (bd_lt_hi (hp5).2.1 (i_nle c59) (bd_c (v := 9) (lo := 9) (hi := 9) (by decide)))) (bd_c (v := 1) (lo := 1) (hi := 1) (by decide)) (by decide)) (by decide))) (rh_0 e297 (bd_w (l := 0) (h := 9) (bd_add (l := 1) (h := 9) (bd_r hI279 (bd_lt_hi (hp5).2.1 (i_nle c59) (bd_c (v := 9) (lo := 9) (hi := 9) (by decide)))) (bd_c (v := 1) (lo := 1) (hi := 1) (by decide)) (by decide)) (by decide)) rf241)
                  · refine J_aload_n (i := 0) (j := 0) dX11_pondLine_98 rfl rfl ?_
                    refine J_get (C := RX11) (T := TX11) (Z := 43) (ci := 11) (f := 19) dX11_pondLine_99 inG11 rfl (by decide) k1283 wc_162 rfl ?_
                    refine J_iload_n (i := 3) (j := 1) dX11_pondLine_102 rfl rfl ?_
                    refine J_iload (i := 4) (j := 2) dX11_pondLine_103 rfl ?_
                    refine J_iadd dX11_pondLine_105 ?_
                    refine J_iload (i := 4) (j := 2) dX11_pondLine_106 rfl ?_
                    refine J_iconst (v := 3) dX11_pondLine_108 (by decide) ?_
                    refine J_icmp_ge (tgt := 122) dX11_pondLine_109 (by decide) (fun c298 => ?_) (fun c298 => ?_)
                    · refine J_iload (i := 4) (j := 2) dX11_pondLine_122 rfl ?_
                      refine J_bipush (v := 8) dX11_pondLine_124 (by decide) ?_
                      refine J_icmp_eq (tgt := 143) dX11_pondLine_126 (by decide) (fun c299 => ?_) (fun c299 => ?_)
                      · refine J_iconst (v := (-1)) dX11_pondLine_143 (by decide) ?_
                        refine J_goto (tgt := 148) dX11_pondLine_144 (by decide) ?_
                        obtain ⟨u300, e301⟩ : ∃ z, z = ms u238 170 ((((13 : Int32) + ((16 : Int32) * (u 170 0))) + w237).toNatClampNeg) (-1) := ⟨_, rfl⟩
                        refine J_iast dX11_pondLine_148 wc_170 (vin (bd_add (l := 21) (h := 149) (bd_add (l := 13) (h := 141) (bd_c (v := 13) (lo := 13) (hi := 13) (by decide)) (bd_mul (l := 0) (h := 128) (bd_c (v := 16) (lo := 16) (hi := 16) (by decide)) (bd_lt_hi (hp5).2.1 (i_nle c59) (bd_c (v := 9) (lo := 9) (hi := 9) (by decide))) (by decide)) (by decide)) (bd_r c299 (bd_c (v := 8) (lo := 8) (hi := 8) (by decide))) (by decide)) (by decide)) (ws e301 wk_170 rfl) ?_
                        refine J_iinc (i := 4) (j := 2) (v := (w237 + 1)) (lw := [(4, .int (w237 + 1)), (0, .ref 162), (3, .int ((13 : Int32) + ((16 : Int32) * (u 170 0))))]) dX11_pondLine_149 rfl rfl (by decide) rfl ?_
                        refine J_goto (tgt := 91) dX11_pondLine_152 (by decide) ?_
                        refine J_lv [1, 2, 0] rfl ?_
                        exact ih277 (w237 + 1) u300 (bd_w (l := 0) (h := 16) (bd_add (l := 9) (h := 9) (bd_r c299 (bd_c (v := 8) (lo := 8) (hi := 8) (by decide))) (bd_c (v := 1) (lo := 1) (hi := 1) (by decide)) (by decide)) (by decide)) (fun c k0_ => ((ms_c e301 k0_).trans (fr239 c k0_))) (ab_s e301 ab240 (bd_w (l := (-1)) (h := 999) (bd_c (v := (-1)) (lo := (-1)) (hi := (-1)) (by decide)) (by decide))) (rh_p e301 (bd_lt_hi (hp5).2.1 (i_nle c59) (bd_c (v := 9) (lo := 9) (hi := 9) (by decide))) (bd_w (l := 0) (h := 15) (bd_r c299 (bd_c (v := 8) (lo := 8) (hi := 8) (by decide))) (by decide)) (bd_w (l := (-1)) (h := 999) (bd_c (v := (-1)) (lo := (-1)) (hi := (-1)) (by decide)) (by decide)) (fun _ => (bd_w (l := (-1)) (h := 8) (bd_c (v := (-1)) (lo := (-1)) (hi := (-1)) (by decide)) (by decide))) rf241) ((ms_i e301 (ixne (bd_add (l := 21) (h := 149) (bd_add (l := 13) (h := 141) (bd_c (v := 13) (lo := 13) (hi := 13) (by decide)) (bd_mul (l := 0) (h := 128) (bd_c (v := 16) (lo := 16) (hi := 16) (by decide)) (bd_lt_hi (hp5).2.1 (i_nle c59) (bd_c (v := 9) (lo := 9) (hi := 9) (by decide))) (by decide)) (by decide)) (bd_r c299 (bd_c (v := 8) (lo := 8) (hi := 8) (by decide))) (by decide)) (by decide))).trans hI279) (mu_up 1 bw237 rfl (by decide) (bd_w (l := 9) (h := 16) (bd_add (l := 9) (h := 9) (bd_r c299 (bd_c (v := 8) (lo := 8) (hi := 8) (by decide))) (bd_c (v := 1) (lo := 1) (hi := 1) (by decide)) (by decide)) (by decide)) hm278)
                      · refine J_iload (i := 4) (j := 2) dX11_pondLine_129 rfl ?_
                        refine J_bipush (v := 9) dX11_pondLine_131 (by decide) ?_
                        refine J_icmp_eq (tgt := 143) dX11_pondLine_133 (by decide) (fun c302 => ?_) (fun c302 => ?_)
                        · refine J_iconst (v := (-1)) dX11_pondLine_143 (by decide) ?_
                          refine J_goto (tgt := 148) dX11_pondLine_144 (by decide) ?_
                          obtain ⟨u303, e304⟩ : ∃ z, z = ms u238 170 ((((13 : Int32) + ((16 : Int32) * (u 170 0))) + w237).toNatClampNeg) (-1) := ⟨_, rfl⟩
                          refine J_iast dX11_pondLine_148 wc_170 (vin (bd_add (l := 22) (h := 150) (bd_add (l := 13) (h := 141) (bd_c (v := 13) (lo := 13) (hi := 13) (by decide)) (bd_mul (l := 0) (h := 128) (bd_c (v := 16) (lo := 16) (hi := 16) (by decide)) (bd_lt_hi (hp5).2.1 (i_nle c59) (bd_c (v := 9) (lo := 9) (hi := 9) (by decide))) (by decide)) (by decide)) (bd_r c302 (bd_c (v := 9) (lo := 9) (hi := 9) (by decide))) (by decide)) (by decide)) (ws e304 wk_170 rfl) ?_
                          refine J_iinc (i := 4) (j := 2) (v := (w237 + 1)) (lw := [(4, .int (w237 + 1)), (0, .ref 162), (3, .int ((13 : Int32) + ((16 : Int32) * (u 170 0))))]) dX11_pondLine_149 rfl rfl (by decide) rfl ?_
                          refine J_goto (tgt := 91) dX11_pondLine_152 (by decide) ?_
                          refine J_lv [1, 2, 0] rfl ?_
                          exact ih277 (w237 + 1) u303 (bd_w (l := 0) (h := 16) (bd_add (l := 10) (h := 10) (bd_r c302 (bd_c (v := 9) (lo := 9) (hi := 9) (by decide))) (bd_c (v := 1) (lo := 1) (hi := 1) (by decide)) (by decide)) (by decide)) (fun c k0_ => ((ms_c e304 k0_).trans (fr239 c k0_))) (ab_s e304 ab240 (bd_w (l := (-1)) (h := 999) (bd_c (v := (-1)) (lo := (-1)) (hi := (-1)) (by decide)) (by decide))) (rh_p e304 (bd_lt_hi (hp5).2.1 (i_nle c59) (bd_c (v := 9) (lo := 9) (hi := 9) (by decide))) (bd_w (l := 0) (h := 15) (bd_r c302 (bd_c (v := 9) (lo := 9) (hi := 9) (by decide))) (by decide)) (bd_w (l := (-1)) (h := 999) (bd_c (v := (-1)) (lo := (-1)) (hi := (-1)) (by decide)) (by decide)) (fun _ => (bd_w (l := (-1)) (h := 8) (bd_c (v := (-1)) (lo := (-1)) (hi := (-1)) (by decide)) (by decide))) rf241) ((ms_i e304 (ixne (bd_add (l := 22) (h := 150) (bd_add (l := 13) (h := 141) (bd_c (v := 13) (lo := 13) (hi := 13) (by decide)) (bd_mul (l := 0) (h := 128) (bd_c (v := 16) (lo := 16) (hi := 16) (by decide)) (bd_lt_hi (hp5).2.1 (i_nle c59) (bd_c (v := 9) (lo := 9) (hi := 9) (by decide))) (by decide)) (by decide)) (bd_r c302 (bd_c (v := 9) (lo := 9) (hi := 9) (by decide))) (by decide)) (by decide))).trans hI279) (mu_up 1 bw237 rfl (by decide) (bd_w (l := 10) (h := 16) (bd_add (l := 10) (h := 10) (bd_r c302 (bd_c (v := 9) (lo := 9) (hi := 9) (by decide))) (bd_c (v := 1) (lo := 1) (hi := 1) (by decide)) (by decide)) (by decide)) hm278)
                        · refine J_iload (i := 4) (j := 2) dX11_pondLine_136 rfl ?_
                          refine J_bipush (v := 12) dX11_pondLine_138 (by decide) ?_
                          refine J_icmp_ne (tgt := 147) dX11_pondLine_140 (by decide) (fun c305 => ?_) (fun c305 => ?_)
                          · refine J_iconst (v := 0) dX11_pondLine_147 (by decide) ?_
                            obtain ⟨u306, e307⟩ : ∃ z, z = ms u238 170 ((((13 : Int32) + ((16 : Int32) * (u 170 0))) + w237).toNatClampNeg) 0 := ⟨_, rfl⟩
                            refine J_iast dX11_pondLine_148 wc_170 (vin (bd_add (l := 16) (h := 156) (bd_add (l := 13) (h := 141) (bd_c (v := 13) (lo := 13) (hi := 13) (by decide)) (bd_mul (l := 0) (h := 128) (bd_c (v := 16) (lo := 16) (hi := 16) (by decide)) (bd_lt_hi (hp5).2.1 (i_nle c59) (bd_c (v := 9) (lo := 9) (hi := 9) (by decide))) (by decide)) (by decide)) (bd_le_lo (bd_lt_hi bw237 (i_nle c280) (bd_c (v := 16) (lo := 16) (hi := 16) (by decide))) c298 (bd_c (v := 3) (lo := 3) (hi := 3) (by decide))) (by decide)) (by decide)) (ws e307 wk_170 rfl) ?_
                            refine J_iinc (i := 4) (j := 2) (v := (w237 + 1)) (lw := [(4, .int (w237 + 1)), (0, .ref 162), (3, .int ((13 : Int32) + ((16 : Int32) * (u 170 0))))]) dX11_pondLine_149 rfl rfl (by decide) rfl ?_
                            refine J_goto (tgt := 91) dX11_pondLine_152 (by decide) ?_
                            refine J_lv [1, 2, 0] rfl ?_
                            exact ih277 (w237 + 1) u306 (bd_w (l := 0) (h := 16) (bd_add (l := 4) (h := 16) (bd_le_lo (bd_lt_hi bw237 (i_nle c280) (bd_c (v := 16) (lo := 16) (hi := 16) (by decide))) c298 (bd_c (v := 3) (lo := 3) (hi := 3) (by decide))) (bd_c (v := 1) (lo := 1) (hi := 1) (by decide)) (by decide)) (by decide)) (fun c k0_ => ((ms_c e307 k0_).trans (fr239 c k0_))) (ab_s e307 ab240 (bd_w (l := (-1)) (h := 999) (bd_c (v := 0) (lo := 0) (hi := 0) (by decide)) (by decide))) (rh_p e307 (bd_lt_hi (hp5).2.1 (i_nle c59) (bd_c (v := 9) (lo := 9) (hi := 9) (by decide))) (bd_w (l := 0) (h := 15) (bd_le_lo (bd_lt_hi bw237 (i_nle c280) (bd_c (v := 16) (lo := 16) (hi := 16) (by decide))) c298 (bd_c (v := 3) (lo := 3) (hi := 3) (by decide))) (by decide)) (bd_w (l := (-1)) (h := 999) (bd_c (v := 0) (lo := 0) (hi := 0) (by decide)) (by decide)) (fun _ => (bd_w (l := (-1)) (h := 8) (bd_c (v := 0) (lo := 0) (hi := 0) (by decide)) (by decide))) rf241) ((ms_i e307 (ixne (bd_add (l := 16) (h := 156) (bd_add (l := 13) (h := 141) (bd_c (v := 13) (lo := 13) (hi := 13) (by decide)) (bd_mul (l := 0) (h := 128) (bd_c (v := 16) (lo := 16) (hi := 16) (by decide)) (bd_lt_hi (hp5).2.1 (i_nle c59) (bd_c (v := 9) (lo := 9) (hi := 9) (by decide))) (by decide)) (by decide)) (bd_le_lo (bd_lt_hi bw237 (i_nle c280) (bd_c (v := 16) (lo := 16) (hi := 16) (by decide))) c298 (bd_c (v := 3) (lo := 3) (hi := 3) (by decide))) (by decide)) (by decide))).trans hI279) (mu_up 1 bw237 rfl (by decide) (bd_w (l := 4) (h := 16) (bd_add (l := 4) (h := 16) (bd_le_lo (bd_lt_hi bw237 (i_nle c280) (bd_c (v := 16) (lo := 16) (hi := 16) (by decide))) c298 (bd_c (v := 3) (lo := 3) (hi := 3) (by decide))) (bd_c (v := 1) (lo := 1) (hi := 1) (by decide)) (by decide)) (by decide)) hm278)
                          · refine J_iconst (v := (-1)) dX11_pondLine_143 (by decide) ?_
                            refine J_goto (tgt := 148) dX11_pondLine_144 (by decide) ?_
                            obtain ⟨u308, e309⟩ : ∃ z, z = ms u238 170 ((((13 : Int32) + ((16 : Int32) * (u 170 0))) + w237).toNatClampNeg) (-1) := ⟨_, rfl⟩
                            refine J_iast dX11_pondLine_148 wc_170 (vin (bd_add (l := 25) (h := 153) (bd_add (l := 13) (h := 141) (bd_c (v := 13) (lo := 13) (hi := 13) (by decide)) (bd_mul (l := 0) (h := 128) (bd_c (v := 16) (lo := 16) (hi := 16) (by decide)) (bd_lt_hi (hp5).2.1 (i_nle c59) (bd_c (v := 9) (lo := 9) (hi := 9) (by decide))) (by decide)) (by decide)) (bd_r c305 (bd_c (v := 12) (lo := 12) (hi := 12) (by decide))) (by decide)) (by decide)) (ws e309 wk_170 rfl) ?_
                            refine J_iinc (i := 4) (j := 2) (v := (w237 + 1)) (lw := [(4, .int (w237 + 1)), (0, .ref 162), (3, .int ((13 : Int32) + ((16 : Int32) * (u 170 0))))]) dX11_pondLine_149 rfl rfl (by decide) rfl ?_
                            refine J_goto (tgt := 91) dX11_pondLine_152 (by decide) ?_
                            refine J_lv [1, 2, 0] rfl ?_
                            exact ih277 (w237 + 1) u308 (bd_w (l := 0) (h := 16) (bd_add (l := 13) (h := 13) (bd_r c305 (bd_c (v := 12) (lo := 12) (hi := 12) (by decide))) (bd_c (v := 1) (lo := 1) (hi := 1) (by decide)) (by decide)) (by decide)) (fun c k0_ => ((ms_c e309 k0_).trans (fr239 c k0_))) (ab_s e309 ab240 (bd_w (l := (-1)) (h := 999) (bd_c (v := (-1)) (lo := (-1)) (hi := (-1)) (by decide)) (by decide))) (rh_p e309 (bd_lt_hi (hp5).2.1 (i_nle c59) (bd_c (v := 9) (lo := 9) (hi := 9) (by decide))) (bd_w (l := 0) (h := 15) (bd_r c305 (bd_c (v := 12) (lo := 12) (hi := 12) (by decide))) (by decide)) (bd_w (l := (-1)) (h := 999) (bd_c (v := (-1)) (lo := (-1)) (hi := (-1)) (by decide)) (by decide)) (fun _ => (bd_w (l := (-1)) (h := 8) (bd_c (v := (-1)) (lo := (-1)) (hi := (-1)) (by decide)) (by decide))) rf241) ((ms_i e309 (ixne (bd_add (l := 25) (h := 153) (bd_add (l := 13) (h := 141) (bd_c (v := 13) (lo := 13) (hi := 13) (by decide)) (bd_mul (l := 0) (h := 128) (bd_c (v := 16) (lo := 16) (hi := 16) (by decide)) (bd_lt_hi (hp5).2.1 (i_nle c59) (bd_c (v := 9) (lo := 9) (hi := 9) (by decide))) (by decide)) (by decide)) (bd_r c305 (bd_c (v := 12) (lo := 12) (hi := 12) (by decide))) (by decide)) (by decide))).trans hI279) (mu_up 1 bw237 rfl (by decide) (bd_w (l := 13) (h := 16) (bd_add (l := 13) (h := 13) (bd_r c305 (bd_c (v := 12) (lo := 12) (hi := 12) (by decide))) (bd_c (v := 1) (lo := 1) (hi := 1) (by decide)) (by decide)) (by decide)) hm278)
                    · refine J_aload_n (i := 0) (j := 0) dX11_pondLine_112 rfl rfl ?_
                      refine J_get (C := RX11) (T := TX11) (Z := 43) (ci := 11) (f := 20) dX11_pondLine_113 inG11 rfl (by decide) k1284 wc_162 rfl ?_
                      refine J_iload (i := 4) (j := 2) dX11_pondLine_116 rfl ?_
                      refine J_iald dX11_pondLine_118 wc_171 (vin (bd_lt_hi (bd_lt_hi bw237 (i_nle c280) (bd_c (v := 16) (lo := 16) (hi := 16) (by decide))) (i_nle c298) (bd_c (v := 3) (lo := 3) (hi := 3) (by decide))) (by decide)) ?_
                      refine J_topi (fun v310 qv310 => ?_)
                      refine J_goto (tgt := 148) dX11_pondLine_119 (by decide) ?_
                      obtain ⟨u311, e312⟩ : ∃ z, z = ms u238 170 ((((13 : Int32) + ((16 : Int32) * (u 170 0))) + w237).toNatClampNeg) v310 := ⟨_, rfl⟩
                      refine J_iast dX11_pondLine_148 wc_170 (vin (bd_add (l := 13) (h := 143) (bd_add (l := 13) (h := 141) (bd_c (v := 13) (lo := 13) (hi := 13) (by decide)) (bd_mul (l := 0) (h := 128) (bd_c (v := 16) (lo := 16) (hi := 16) (by decide)) (bd_lt_hi (hp5).2.1 (i_nle c59) (bd_c (v := 9) (lo := 9) (hi := 9) (by decide))) (by decide)) (by decide)) (bd_lt_hi (bd_lt_hi bw237 (i_nle c280) (bd_c (v := 16) (lo := 16) (hi := 16) (by decide))) (i_nle c298) (bd_c (v := 3) (lo := 3) (hi := 3) (by decide))) (by decide)) (by decide)) (ws e312 wk_170 rfl) ?_
                      refine J_iinc (i := 4) (j := 2) (v := (w237 + 1)) (lw := [(4, .int (w237 + 1)), (0, .ref 162), (3, .int ((13 : Int32) + ((16 : Int32) * (u 170 0))))]) dX11_pondLine_149 rfl rfl (by decide) rfl ?_
                      refine J_goto (tgt := 91) dX11_pondLine_152 (by decide) ?_
                      refine J_lv [1, 2, 0] rfl ?_
                      exact ih277 (w237 + 1) u311 (bd_w (l := 0) (h := 16) (bd_add (l := 1) (h := 3) (bd_lt_hi (bd_lt_hi bw237 (i_nle c280) (bd_c (v := 16) (lo := 16) (hi := 16) (by decide))) (i_nle c298) (bd_c (v := 3) (lo := 3) (hi := 3) (by decide))) (bd_c (v := 1) (lo := 1) (hi := 1) (by decide)) (by decide)) (by decide)) (fun c k0_ => ((ms_c e312 k0_).trans (fr239 c k0_))) (ab_s e312 ab240 (bd_r qv310 ((ab_c (fr239 171 (by decide)) (ab_i fc57 (ab_i fc42 (ab_i fc24 (ab_c (fr8 171 (by decide)) hp4) (bd_w (l := (-1)) (h := 999) h18 (by decide))) (bd_w (l := (-1)) (h := 999) h36 (by decide))) (bd_w (l := (-1)) (h := 999) h51 (by decide)))) w237.toNatClampNeg))) (rh_p e312 (bd_lt_hi (hp5).2.1 (i_nle c59) (bd_c (v := 9) (lo := 9) (hi := 9) (by decide))) (bd_w (l := 0) (h := 15) (bd_lt_hi (bd_lt_hi bw237 (i_nle c280) (bd_c (v := 16) (lo := 16) (hi := 16) (by decide))) (i_nle c298) (bd_c (v := 3) (lo := 3) (hi := 3) (by decide))) (by decide)) (bd_r qv310 ((ab_c (fr239 171 (by decide)) (ab_i fc57 (ab_i fc42 (ab_i fc24 (ab_c (fr8 171 (by decide)) hp4) (bd_w (l := (-1)) (h := 999) h18 (by decide))) (bd_w (l := (-1)) (h := 999) h36 (by decide))) (bd_w (l := (-1)) (h := 999) h51 (by decide)))) w237.toNatClampNeg)) (bd_n89 (bd_lt_hi (bd_lt_hi bw237 (i_nle c280) (bd_c (v := 16) (lo := 16) (hi := 16) (by decide))) (i_nle c298) (bd_c (v := 3) (lo := 3) (hi := 3) (by decide))) (by decide)) rf241) ((ms_i e312 (ixne (bd_add (l := 13) (h := 143) (bd_add (l := 13) (h := 141) (bd_c (v := 13) (lo := 13) (hi := 13) (by decide)) (bd_mul (l := 0) (h := 128) (bd_c (v := 16) (lo := 16) (hi := 16) (by decide)) (bd_lt_hi (hp5).2.1 (i_nle c59) (bd_c (v := 9) (lo := 9) (hi := 9) (by decide))) (by decide)) (by decide)) (bd_lt_hi (bd_lt_hi bw237 (i_nle c280) (bd_c (v := 16) (lo := 16) (hi := 16) (by decide))) (i_nle c298) (bd_c (v := 3) (lo := 3) (hi := 3) (by decide))) (by decide)) (by decide))).trans hI279) (mu_up 1 bw237 rfl (by decide) (bd_w (l := 1) (h := 16) (bd_add (l := 1) (h := 3) (bd_lt_hi (bd_lt_hi bw237 (i_nle c280) (bd_c (v := 16) (lo := 16) (hi := 16) (by decide))) (i_nle c298) (bd_c (v := 3) (lo := 3) (hi := 3) (by decide))) (bd_c (v := 1) (lo := 1) (hi := 1) (by decide)) (by decide)) (by decide)) hm278)
              refine J_lv [2, 1, 0] rfl ?_
              exact lp275 _ (0 : Int32) u46 (bd_w (l := 0) (h := 16) (bd_c (v := 0) (lo := 0) (hi := 0) (by decide)) (by decide)) (fun c k0_ => rfl) (ab_c ((fr55 170 (by decide) (by decide)).trans ((fr40 170 (by decide) (by decide)).trans ((fr22 170 (by decide) (by decide)).trans (fr8 170 (by decide))))) (hp5).1) (rh_c ((fr55 170 (by decide) (by decide)).trans ((fr40 170 (by decide) (by decide)).trans ((fr22 170 (by decide) (by decide)).trans (fr8 170 (by decide))))) hp5) ((congrFun (fr55 170 (by decide) (by decide)) 0).trans ((congrFun (fr40 170 (by decide) (by decide)) 0).trans ((congrFun (fr22 170 (by decide) (by decide)) 0).trans (congrFun (fr8 170 (by decide)) 0)))) (Nat.lt_succ_self _)
          · refine J_iconst (v := 0) dX11_pondLine_72 (by decide) ?_
            exact J_zret hq dX11_pondLine_73 rfl rfl wlen (Nat.le_refl _) (Nat.le_refl _) ⟨false, u46, g47, rfl, rfl, h48, h49, h50, (ab_i fc57 (ab_i fc42 (ab_i fc24 (ab_c (fr8 171 (by decide)) hp4) (bd_w (l := (-1)) (h := 999) h18 (by decide))) (bd_w (l := (-1)) (h := 999) h36 (by decide))) (bd_w (l := (-1)) (h := 999) h51 (by decide))), (rh_c ((fr55 170 (by decide) (by decide)).trans ((fr40 170 (by decide) (by decide)).trans ((fr22 170 (by decide) (by decide)).trans (fr8 170 (by decide))))) hp5), (fun q => absurd q (by decide)), (fun c k0_ k1_ k2_ => ((fr55 c k0_ k2_).trans ((fr40 c k0_ k2_).trans ((fr22 c k0_ k2_).trans (fr8 c k0_))))), (fun j k8_ k10_ k11_ k12_ k14_ k15_ k16_ k17_ k18_ => ((fc56 j k8_ k10_ k11_ k12_ k14_ k15_ k16_ k17_ k18_).trans ((fc41 j k8_ k10_ k11_ k12_ k14_ k15_ k16_ k17_ k18_).trans ((fc23 j k8_ k10_ k11_ k12_ k14_ k15_ k16_ k17_ k18_).trans (fc9 j k15_ k16_)))))⟩
      refine J_icmp_ge (tgt := 53) dX11_pondLine_41 (by decide) (fun c26 => ?_) (fun c26 => ?_)
      · refine J_bipush (v := 24) dX11_pondLine_53 (by decide) ?_
        refine J_lv [0, 1] rfl ?_
        exact jn28 (24 : Int32) (bd_w (l := 0) (h := 24) (bd_c (v := 24) (lo := 24) (hi := 24) (by decide)) (by decide))
      · refine J_aload_n (i := 0) (j := 0) dX11_pondLine_44 rfl rfl ?_
        refine J_get (C := RX11) (T := TX11) (Z := 43) (ci := 11) (f := 20) dX11_pondLine_45 inG11 rfl (by decide) k1284 wc_162 rfl ?_
        refine J_iconst (v := 0) dX11_pondLine_48 (by decide) ?_
        refine J_iald dX11_pondLine_49 wc_171 (vin (bd_c (v := 0) (lo := 0) (hi := 0) (by decide)) (by decide)) ?_
        refine J_ci (v := u13 171 0) rfl ?_
        refine J_goto (tgt := 55) dX11_pondLine_50 (by decide) ?_
        refine J_lv [0, 1] rfl ?_
        exact jn28 (u13 171 0) (bd_w (l := 0) (h := 24) (bd_lt_hi h18 (i_nle c26) (bd_c (v := 24) (lo := 24) (hi := 24) (by decide))) (by decide))
  refine J_icmp_ne (tgt := 19) dX11_pondLine_10 (by decide) (fun c1 => ?_) (fun c1 => ?_)
  · refine J_lv [1, 0] rfl ?_
    exact jn10 u (fun c k0_ => rfl) (fun j k15_ k16_ => rfl)
  · refine J_aload_n (i := 0) (j := 1) dX11_pondLine_13 rfl rfl ?_
    refine J_iconst (v := 3) dX11_pondLine_14 (by decide) ?_
    refine J_iload_n (i := 1) (j := 2) dX11_pondLine_15 rfl rfl ?_
    refine J_callV (As := [.int 3, .int at0]) (rest := []) dX11_pondLine_16 (c_M_later (d := 0) (u := u) (g := g) (ex := ex) (f := 3) (place := at0)  (by decide) ) hq.n k1452 k1454 k43 wc_162 rfl rfl k97 k1455 np_X11_later (Nat.le_trans (by decide) hd) (by decide) (Nat.le_refl _) (Nat.le_refl _) wlen rfl (Nat.le_of_ble_eq_true rfl) (fun r_ h_ p313 => ?_)
    obtain ⟨u314, rfl, rfl, h315, fr316, fc317⟩ := p313
    refine J_lv [1, 0] rfl ?_
    exact jn10 u314 (fun c k0_ => (fr316 c k0_)) (fun j k15_ k16_ => (fc317 j k15_ k16_))
set_option maxHeartbeats 4000000 in
set_option maxRecDepth 100000 in
theorem c_M_rainLine {d : Nat} {u : Nat → Nat → Int32} {g : Nat → Nat → Int64} {ex : List MC} {at0 : Int32} (hd : 4 ≤ d) (hp0 : Bd 0 600 (u 162 8)) (hp1 : Bd 0 600 (u 162 9)) (hp2 : Bd 0 999 (u 162 12)) (hp3 : Bd 0 999 (u 162 17)) (hp4 : AB u 171 (-1) 999) (hp5 : (RH u)) : CT con0 d 0 0 yX11_rainLine cX11_rainLine 3 (some .boolean) [.ref 162, .int at0] (Wd u g ex) (fun r h2 => ∃ (z : Bool) (u2 : Nat → Nat → Int32) (g2 : Nat → Nat → Int64), r = some (.int (bI z)) ∧ h2 = Wd u2 g2 ex ∧ Bd 0 600 (u2 162 8) ∧ Bd 0 999 (u2 162 12) ∧ Bd 0 999 (u2 162 17) ∧ AB u2 171 (-1) 999 ∧ (RH u2) ∧ (z = true → GV (u 162 8) (u2 162 8) (u2 162 11)) ∧ (∀ c, c ≠ 162 → c ≠ 170 → c ≠ 171 → u2 c = u c) ∧ (∀ j, j ≠ 8 → j ≠ 10 → j ≠ 11 → j ≠ 12 → j ≠ 14 → j ≠ 15 → j ≠ 16 → j ≠ 17 → j ≠ 18 → u2 162 j = u 162 j)) := by
  refine CT_of (by decide) (Nat.le_of_ble_eq_true rfl) (fun x hq => ?_)
  show J x yX11_rainLine cX11_rainLine 3 (some .boolean) d 0 0 (Wd u g ex).length 0 [(0, .ref 162), (1, .int at0)] [] (Wd u g ex) 0 0
  refine J_aload_n (i := 0) (j := 0) dX11_rainLine_0 rfl rfl ?_
  refine J_get (C := RX11) (T := TX11) (Z := 43) (ci := 11) (f := 19) dX11_rainLine_1 inG11 rfl (by decide) k1283 wc_162 rfl ?_
  refine J_iconst (v := 1) dX11_rainLine_4 (by decide) ?_
  refine J_iald dX11_rainLine_5 wc_170 (vin (bd_c (v := 1) (lo := 1) (hi := 1) (by decide)) (by decide)) ?_
  refine J_ci (v := u 170 1) rfl ?_
  refine J_istore_n (i := 2) (lw := [(2, .int (u 170 1)), (0, .ref 162), (1, .int at0)]) dX11_rainLine_6 rfl (by decide) rfl ?_
  refine J_iload_n (i := 2) (j := 0) dX11_rainLine_7 rfl rfl ?_
  refine J_iconst (v := 4) dX11_rainLine_8 (by decide) ?_
  refine J_icmp_ne (tgt := 18) dX11_rainLine_9 (by decide) (fun c1 => ?_) (fun c1 => ?_)
  · refine J_aload_n (i := 0) (j := 1) dX11_rainLine_18 rfl rfl ?_
    refine J_iconst (v := 0) dX11_rainLine_19 (by decide) ?_
    refine J_iconst (v := 0) dX11_rainLine_20 (by decide) ?_
    refine J_bipush (v := 9) dX11_rainLine_21 (by decide) ?_
    refine J_callV (As := [.int 0, .int 0, .int 9]) (rest := []) dX11_rainLine_23 (c_M_take0 (d := 3) (u := u) (g := g) (ex := ex) (low := 0) (high := 9)  (by decide) hp0 hp1 hp2 hp3) hq.n k1456 k1458 k44 wc_162 rfl rfl k97 k1459 np_X11_take (Nat.le_trans (by decide) hd) (by decide) (Nat.le_refl _) (Nat.le_refl _) wlen rfl (Nat.le_of_ble_eq_true rfl) (fun r_ h_ p2 => ?_)
    obtain ⟨t3, u4, g5, rfl, rfl, h6, h7, h8, h9, h10, h11, h12, fr13, fc14, fc15⟩ := p2
    refine J_ifB_eq (tgt := 40) dX11_rainLine_26 (by decide) (fun c16 => ?_) (fun c16 => ?_)
    · refine J_iconst (v := 0) dX11_rainLine_40 (by decide) ?_
      exact J_zret hq dX11_rainLine_41 rfl rfl wlen (Nat.le_refl _) (Nat.le_refl _) ⟨false, u4, g5, rfl, rfl, h6, h7, h8, (ab_i fc15 hp4 (bd_w (l := (-1)) (h := 999) h9 (by decide))), (rh_c (fr13 170 (by decide) (by decide)) hp5), (fun q => absurd q (by decide)), (fun c k0_ k1_ k2_ => (fr13 c k0_ k2_)), (fun j k8_ k10_ k11_ k12_ k14_ k15_ k16_ k17_ k18_ => (fc14 j k8_ k10_ k11_ k12_ k14_ k15_ k16_ k17_ k18_))⟩
    · refine J_aload_n (i := 0) (j := 1) dX11_rainLine_29 rfl rfl ?_
      refine J_iconst (v := 1) dX11_rainLine_30 (by decide) ?_
      refine J_iconst (v := 0) dX11_rainLine_31 (by decide) ?_
      refine J_bipush (v := 100) dX11_rainLine_32 (by decide) ?_
      refine J_callV (As := [.int 1, .int 0, .int 100]) (rest := []) dX11_rainLine_34 (c_M_take1 (d := 3) (u := u4) (g := g5) (ex := ex) (low := 0) (high := 100)  (by decide) h6 (bd_r (fc14 9 (by decide) (by decide) (by decide) (by decide) (by decide) (by decide) (by decide) (by decide) (by decide)) hp1) h7 h8) hq.n k1456 k1458 k44 wc_162 rfl rfl k97 k1459 np_X11_take (Nat.le_trans (by decide) hd) (by decide) (Nat.le_refl _) (Nat.le_refl _) wlen rfl (Nat.le_of_ble_eq_true rfl) (fun r_ h_ p17 => ?_)
      obtain ⟨t18, u19, g20, rfl, rfl, h21, h22, h23, h24, h25, h26, h27, fr28, fc29, fc30⟩ := p17
      refine J_ifB_ne (tgt := 42) dX11_rainLine_37 (by decide) (fun c31 => ?_) (fun c31 => ?_)
      · refine J_iload_n (i := 2) (j := 0) dX11_rainLine_42 rfl rfl ?_
        refine J_iconst (v := 4) dX11_rainLine_43 (by decide) ?_
        refine J_icmp_ge (tgt := 91) dX11_rainLine_44 (by decide) (fun c32 => ?_) (fun c32 => ?_)
        · exact (bd_no (bd_le_lo (bd_ne_hi (hp5).2.2.1 c1 (by decide)) c32 (bd_c (v := 4) (lo := 4) (hi := 4) (by decide))) (by decide)).elim
        · refine J_aload_n (i := 0) (j := 1) dX11_rainLine_47 rfl rfl ?_
          refine J_get (C := RX11) (T := TX11) (Z := 43) (ci := 11) (f := 19) dX11_rainLine_48 inG11 rfl (by decide) k1283 wc_162 rfl ?_
          refine J_iconst (v := 5) dX11_rainLine_51 (by decide) ?_
          refine J_iconst (v := 2) dX11_rainLine_52 (by decide) ?_
          refine J_iload_n (i := 2) (j := 0) dX11_rainLine_53 rfl rfl ?_
          refine J_imul dX11_rainLine_54 ?_
          refine J_iadd dX11_rainLine_55 ?_
          refine J_aload_n (i := 0) (j := 1) dX11_rainLine_56 rfl rfl ?_
          refine J_get (C := RX11) (T := TX11) (Z := 43) (ci := 11) (f := 20) dX11_rainLine_57 inG11 rfl (by decide) k1284 wc_162 rfl ?_
          refine J_iconst (v := 0) dX11_rainLine_60 (by decide) ?_
          refine J_iald dX11_rainLine_61 wc_171 (vin (bd_c (v := 0) (lo := 0) (hi := 0) (by decide)) (by decide)) ?_
          refine J_ci (v := u4 171 0) (fc30 0 (by decide)) ?_
          obtain ⟨u33, e34⟩ : ∃ z, z = ms u19 170 (((5 : Int32) + ((2 : Int32) * (u 170 1))).toNatClampNeg) (u4 171 0) := ⟨_, rfl⟩
          refine J_iast dX11_rainLine_62 wc_170 (vin (bd_add (l := 5) (h := 11) (bd_c (v := 5) (lo := 5) (hi := 5) (by decide)) (bd_mul (l := 0) (h := 6) (bd_c (v := 2) (lo := 2) (hi := 2) (by decide)) (bd_ne_hi (hp5).2.2.1 c1 (by decide)) (by decide)) (by decide)) (by decide)) (ws e34 wk_170 rfl) ?_
          refine J_aload_n (i := 0) (j := 1) dX11_rainLine_63 rfl rfl ?_
          refine J_get (C := RX11) (T := TX11) (Z := 43) (ci := 11) (f := 19) dX11_rainLine_64 inG11 rfl (by decide) k1283 wc_162 rfl ?_
          refine J_iconst (v := 5) dX11_rainLine_67 (by decide) ?_
          refine J_iconst (v := 2) dX11_rainLine_68 (by decide) ?_
          refine J_iload_n (i := 2) (j := 0) dX11_rainLine_69 rfl rfl ?_
          refine J_imul dX11_rainLine_70 ?_
          refine J_iadd dX11_rainLine_71 ?_
          refine J_iconst (v := 1) dX11_rainLine_72 (by decide) ?_
          refine J_iadd dX11_rainLine_73 ?_
          refine J_aload_n (i := 0) (j := 1) dX11_rainLine_74 rfl rfl ?_
          refine J_get (C := RX11) (T := TX11) (Z := 43) (ci := 11) (f := 20) dX11_rainLine_75 inG11 rfl (by decide) k1284 wc_162 rfl ?_
          refine J_iconst (v := 1) dX11_rainLine_78 (by decide) ?_
          refine J_iald dX11_rainLine_79 wc_171 (vin (bd_c (v := 1) (lo := 1) (hi := 1) (by decide)) (by decide)) ?_
          refine J_ci (v := u19 171 1) (congrFun (ms_c e34 (by decide)) 1) ?_
          obtain ⟨u35, e36⟩ : ∃ z, z = ms u33 170 ((((5 : Int32) + ((2 : Int32) * (u 170 1))) + 1).toNatClampNeg) (u19 171 1) := ⟨_, rfl⟩
          refine J_iast dX11_rainLine_80 wc_170 (vin (bd_add (l := 6) (h := 12) (bd_add (l := 5) (h := 11) (bd_c (v := 5) (lo := 5) (hi := 5) (by decide)) (bd_mul (l := 0) (h := 6) (bd_c (v := 2) (lo := 2) (hi := 2) (by decide)) (bd_ne_hi (hp5).2.2.1 c1 (by decide)) (by decide)) (by decide)) (bd_c (v := 1) (lo := 1) (hi := 1) (by decide)) (by decide)) (by decide)) (ws e36 wk_170 rfl) ?_
          refine J_aload_n (i := 0) (j := 1) dX11_rainLine_81 rfl rfl ?_
          refine J_get (C := RX11) (T := TX11) (Z := 43) (ci := 11) (f := 19) dX11_rainLine_82 inG11 rfl (by decide) k1283 wc_162 rfl ?_
          refine J_iconst (v := 1) dX11_rainLine_85 (by decide) ?_
          refine J_dup2_11 dX11_rainLine_86 rfl rfl ?_
          refine J_iald dX11_rainLine_87 wc_170 (vin (bd_c (v := 1) (lo := 1) (hi := 1) (by decide)) (by decide)) ?_
          refine J_ci (v := u 170 1) ((ms_i e36 (ixne (bd_add (l := 6) (h := 12) (bd_add (l := 5) (h := 11) (bd_c (v := 5) (lo := 5) (hi := 5) (by decide)) (bd_mul (l := 0) (h := 6) (bd_c (v := 2) (lo := 2) (hi := 2) (by decide)) (bd_ne_hi (hp5).2.2.1 c1 (by decide)) (by decide)) (by decide)) (bd_c (v := 1) (lo := 1) (hi := 1) (by decide)) (by decide)) (by decide))).trans ((ms_i e34 (ixne (bd_add (l := 5) (h := 11) (bd_c (v := 5) (lo := 5) (hi := 5) (by decide)) (bd_mul (l := 0) (h := 6) (bd_c (v := 2) (lo := 2) (hi := 2) (by decide)) (bd_ne_hi (hp5).2.2.1 c1 (by decide)) (by decide)) (by decide)) (by decide))).trans ((congrFun (fr28 170 (by decide) (by decide)) 1).trans (congrFun (fr13 170 (by decide) (by decide)) 1)))) ?_
          refine J_iconst (v := 1) dX11_rainLine_88 (by decide) ?_
          refine J_iadd dX11_rainLine_89 ?_
          obtain ⟨u37, e38⟩ : ∃ z, z = ms u35 170 1 ((u 170 1) + 1) := ⟨_, rfl⟩
          refine J_iast dX11_rainLine_90 wc_170 (vin (bd_c (v := 1) (lo := 1) (hi := 1) (by decide)) (by decide)) (ws e38 wk_170 rfl) ?_
          refine J_iconst (v := 1) dX11_rainLine_91 (by decide) ?_
          exact J_zret hq dX11_rainLine_92 rfl rfl wlen (Nat.le_refl _) (Nat.le_refl _) ⟨true, u37, g20, rfl, rfl, (bd_r ((congrFun (ms_c e38 (by decide)) 8).trans ((congrFun (ms_c e36 (by decide)) 8).trans (congrFun (ms_c e34 (by decide)) 8))) h21), (bd_r ((congrFun (ms_c e38 (by decide)) 12).trans ((congrFun (ms_c e36 (by decide)) 12).trans (congrFun (ms_c e34 (by decide)) 12))) h22), (bd_r ((congrFun (ms_c e38 (by decide)) 17).trans ((congrFun (ms_c e36 (by decide)) 17).trans (congrFun (ms_c e34 (by decide)) 17))) h23), (ab_c ((ms_c e38 (by decide)).trans ((ms_c e36 (by decide)).trans (ms_c e34 (by decide)))) (ab_i fc30 (ab_i fc15 hp4 (bd_w (l := (-1)) (h := 999) h9 (by decide))) (bd_w (l := (-1)) (h := 999) h24 (by decide)))), (rh_1 e38 (bd_w (l := 0) (h := 4) (bd_add (l := 1) (h := 4) (bd_ne_hi (hp5).2.2.1 c1 (by decide)) (bd_c (v := 1) (lo := 1) (hi := 1) (by decide)) (by decide)) (by decide)) (rh_r e36 (bd_w (l := 5) (h := 12) (bd_add (l := 6) (h := 12) (bd_add (l := 5) (h := 11) (bd_c (v := 5) (lo := 5) (hi := 5) (by decide)) (bd_mul (l := 0) (h := 6) (bd_c (v := 2) (lo := 2) (hi := 2) (by decide)) (bd_ne_hi (hp5).2.2.1 c1 (by decide)) (by decide)) (by decide)) (bd_c (v := 1) (lo := 1) (hi := 1) (by decide)) (by decide)) (by decide)) h24 (rh_r e34 (bd_w (l := 5) (h := 12) (bd_add (l := 5) (h := 11) (bd_c (v := 5) (lo := 5) (hi := 5) (by decide)) (bd_mul (l := 0) (h := 6) (bd_c (v := 2) (lo := 2) (hi := 2) (by decide)) (bd_ne_hi (hp5).2.2.1 c1 (by decide)) (by decide)) (by decide)) (by decide)) h9 (rh_c ((fr28 170 (by decide) (by decide)).trans (fr13 170 (by decide) (by decide))) hp5)))), (fun _ => (gv_r rfl ((congrFun (ms_c e38 (by decide)) 8).trans ((congrFun (ms_c e36 (by decide)) 8).trans (congrFun (ms_c e34 (by decide)) 8))) ((congrFun (ms_c e38 (by decide)) 11).trans ((congrFun (ms_c e36 (by decide)) 11).trans (congrFun (ms_c e34 (by decide)) 11))) (gv_t (h10 c16) (h25 c31)))), (fun c k0_ k1_ k2_ => ((ms_c e38 k1_).trans ((ms_c e36 k1_).trans ((ms_c e34 k1_).trans ((fr28 c k0_ k2_).trans (fr13 c k0_ k2_)))))), (fun j k8_ k10_ k11_ k12_ k14_ k15_ k16_ k17_ k18_ => ((congrFun (ms_c e38 (by decide)) j).trans ((congrFun (ms_c e36 (by decide)) j).trans ((congrFun (ms_c e34 (by decide)) j).trans ((fc29 j k8_ k10_ k11_ k12_ k14_ k15_ k16_ k17_ k18_).trans (fc14 j k8_ k10_ k11_ k12_ k14_ k15_ k16_ k17_ k18_))))))⟩
      · refine J_iconst (v := 0) dX11_rainLine_40 (by decide) ?_
        exact J_zret hq dX11_rainLine_41 rfl rfl wlen (Nat.le_refl _) (Nat.le_refl _) ⟨false, u19, g20, rfl, rfl, h21, h22, h23, (ab_i fc30 (ab_i fc15 hp4 (bd_w (l := (-1)) (h := 999) h9 (by decide))) (bd_w (l := (-1)) (h := 999) h24 (by decide))), (rh_c ((fr28 170 (by decide) (by decide)).trans (fr13 170 (by decide) (by decide))) hp5), (fun q => absurd q (by decide)), (fun c k0_ k1_ k2_ => ((fr28 c k0_ k2_).trans (fr13 c k0_ k2_))), (fun j k8_ k10_ k11_ k12_ k14_ k15_ k16_ k17_ k18_ => ((fc29 j k8_ k10_ k11_ k12_ k14_ k15_ k16_ k17_ k18_).trans (fc14 j k8_ k10_ k11_ k12_ k14_ k15_ k16_ k17_ k18_)))⟩
  · refine J_aload_n (i := 0) (j := 1) dX11_rainLine_12 rfl rfl ?_
    refine J_iconst (v := 3) dX11_rainLine_13 (by decide) ?_
    refine J_iload_n (i := 1) (j := 2) dX11_rainLine_14 rfl rfl ?_
    refine J_callV (As := [.int 3, .int at0]) (rest := []) dX11_rainLine_15 (c_M_later (d := 0) (u := u) (g := g) (ex := ex) (f := 3) (place := at0)  (by decide) ) hq.n k1452 k1454 k43 wc_162 rfl rfl k97 k1455 np_X11_later (Nat.le_trans (by decide) hd) (by decide) (Nat.le_refl _) (Nat.le_refl _) wlen rfl (Nat.le_of_ble_eq_true rfl) (fun r_ h_ p39 => ?_)
    obtain ⟨u40, rfl, rfl, h41, fr42, fc43⟩ := p39
    refine J_aload_n (i := 0) (j := 1) dX11_rainLine_18 rfl rfl ?_
    refine J_iconst (v := 0) dX11_rainLine_19 (by decide) ?_
    refine J_iconst (v := 0) dX11_rainLine_20 (by decide) ?_
    refine J_bipush (v := 9) dX11_rainLine_21 (by decide) ?_
    refine J_callV (As := [.int 0, .int 0, .int 9]) (rest := []) dX11_rainLine_23 (c_M_take0 (d := 3) (u := u40) (g := g) (ex := ex) (low := 0) (high := 9)  (by decide) (bd_r (fc43 8 (by decide) (by decide)) hp0) (bd_r (fc43 9 (by decide) (by decide)) hp1) (bd_r (fc43 12 (by decide) (by decide)) hp2) (bd_r (fc43 17 (by decide) (by decide)) hp3)) hq.n k1456 k1458 k44 wc_162 rfl rfl k97 k1459 np_X11_take (Nat.le_trans (by decide) hd) (by decide) (Nat.le_refl _) (Nat.le_refl _) wlen rfl (Nat.le_of_ble_eq_true rfl) (fun r_ h_ p44 => ?_)
    obtain ⟨t45, u46, g47, rfl, rfl, h48, h49, h50, h51, h52, h53, h54, fr55, fc56, fc57⟩ := p44
    refine J_ifB_eq (tgt := 40) dX11_rainLine_26 (by decide) (fun c58 => ?_) (fun c58 => ?_)
    · refine J_iconst (v := 0) dX11_rainLine_40 (by decide) ?_
      exact J_zret hq dX11_rainLine_41 rfl rfl wlen (Nat.le_refl _) (Nat.le_refl _) ⟨false, u46, g47, rfl, rfl, h48, h49, h50, (ab_i fc57 (ab_c (fr42 171 (by decide)) hp4) (bd_w (l := (-1)) (h := 999) h51 (by decide))), (rh_c ((fr55 170 (by decide) (by decide)).trans (fr42 170 (by decide))) hp5), (fun q => absurd q (by decide)), (fun c k0_ k1_ k2_ => ((fr55 c k0_ k2_).trans (fr42 c k0_))), (fun j k8_ k10_ k11_ k12_ k14_ k15_ k16_ k17_ k18_ => ((fc56 j k8_ k10_ k11_ k12_ k14_ k15_ k16_ k17_ k18_).trans (fc43 j k15_ k16_)))⟩
    · refine J_aload_n (i := 0) (j := 1) dX11_rainLine_29 rfl rfl ?_
      refine J_iconst (v := 1) dX11_rainLine_30 (by decide) ?_
      refine J_iconst (v := 0) dX11_rainLine_31 (by decide) ?_
      refine J_bipush (v := 100) dX11_rainLine_32 (by decide) ?_
      refine J_callV (As := [.int 1, .int 0, .int 100]) (rest := []) dX11_rainLine_34 (c_M_take1 (d := 3) (u := u46) (g := g47) (ex := ex) (low := 0) (high := 100)  (by decide) h48 (bd_r ((fc56 9 (by decide) (by decide) (by decide) (by decide) (by decide) (by decide) (by decide) (by decide) (by decide)).trans (fc43 9 (by decide) (by decide))) hp1) h49 h50) hq.n k1456 k1458 k44 wc_162 rfl rfl k97 k1459 np_X11_take (Nat.le_trans (by decide) hd) (by decide) (Nat.le_refl _) (Nat.le_refl _) wlen rfl (Nat.le_of_ble_eq_true rfl) (fun r_ h_ p59 => ?_)
      obtain ⟨t60, u61, g62, rfl, rfl, h63, h64, h65, h66, h67, h68, h69, fr70, fc71, fc72⟩ := p59
      refine J_ifB_ne (tgt := 42) dX11_rainLine_37 (by decide) (fun c73 => ?_) (fun c73 => ?_)
      · refine J_iload_n (i := 2) (j := 0) dX11_rainLine_42 rfl rfl ?_
        refine J_iconst (v := 4) dX11_rainLine_43 (by decide) ?_
        refine J_icmp_ge (tgt := 91) dX11_rainLine_44 (by decide) (fun c74 => ?_) (fun c74 => ?_)
        · refine J_iconst (v := 1) dX11_rainLine_91 (by decide) ?_
          exact J_zret hq dX11_rainLine_92 rfl rfl wlen (Nat.le_refl _) (Nat.le_refl _) ⟨true, u61, g62, rfl, rfl, h63, h64, h65, (ab_i fc72 (ab_i fc57 (ab_c (fr42 171 (by decide)) hp4) (bd_w (l := (-1)) (h := 999) h51 (by decide))) (bd_w (l := (-1)) (h := 999) h66 (by decide))), (rh_c ((fr70 170 (by decide) (by decide)).trans ((fr55 170 (by decide) (by decide)).trans (fr42 170 (by decide)))) hp5), (fun _ => (gv_r rfl rfl rfl (gv_t (gv_r (fc43 8 (by decide) (by decide)).symm rfl rfl (h52 c58)) (h67 c73)))), (fun c k0_ k1_ k2_ => ((fr70 c k0_ k2_).trans ((fr55 c k0_ k2_).trans (fr42 c k0_)))), (fun j k8_ k10_ k11_ k12_ k14_ k15_ k16_ k17_ k18_ => ((fc71 j k8_ k10_ k11_ k12_ k14_ k15_ k16_ k17_ k18_).trans ((fc56 j k8_ k10_ k11_ k12_ k14_ k15_ k16_ k17_ k18_).trans (fc43 j k15_ k16_))))⟩
        · exact (bd_no (bd_lt_hi (bd_r c1 (bd_c (v := 4) (lo := 4) (hi := 4) (by decide))) (i_nle c74) (bd_c (v := 4) (lo := 4) (hi := 4) (by decide))) (by decide)).elim
      · refine J_iconst (v := 0) dX11_rainLine_40 (by decide) ?_
        exact J_zret hq dX11_rainLine_41 rfl rfl wlen (Nat.le_refl _) (Nat.le_refl _) ⟨false, u61, g62, rfl, rfl, h63, h64, h65, (ab_i fc72 (ab_i fc57 (ab_c (fr42 171 (by decide)) hp4) (bd_w (l := (-1)) (h := 999) h51 (by decide))) (bd_w (l := (-1)) (h := 999) h66 (by decide))), (rh_c ((fr70 170 (by decide) (by decide)).trans ((fr55 170 (by decide) (by decide)).trans (fr42 170 (by decide)))) hp5), (fun q => absurd q (by decide)), (fun c k0_ k1_ k2_ => ((fr70 c k0_ k2_).trans ((fr55 c k0_ k2_).trans (fr42 c k0_)))), (fun j k8_ k10_ k11_ k12_ k14_ k15_ k16_ k17_ k18_ => ((fc71 j k8_ k10_ k11_ k12_ k14_ k15_ k16_ k17_ k18_).trans ((fc56 j k8_ k10_ k11_ k12_ k14_ k15_ k16_ k17_ k18_).trans (fc43 j k15_ k16_))))⟩
set_option maxHeartbeats 4000000 in
set_option maxRecDepth 100000 in
theorem c_M_ofPond1 {d : Nat} {u : Nat → Nat → Int32} {g : Nat → Nat → Int64} {ex : List MC} {to : Int32} {low : Int32} {high : Int32} {second : Int32} (hd : 4 ≤ d) (hp0 : Bd 0 600 (u 162 8)) (hp1 : Bd 0 600 (u 162 9)) (hp2 : Bd 0 999 (u 162 12)) (hp3 : Bd 0 999 (u 162 17)) (hp4 : AB u 171 (-1) 999) (hp5 : (RH u)) (hp6 : Bd 0 15 to) : CT con0 d 0 0 yX11_ofPond cX11_ofPond 7 (some .boolean) [.ref 162, .int to, .int 1, .int low, .int high, .int second] (Wd u g ex) (fun r h2 => ∃ (z : Bool) (u2 : Nat → Nat → Int32) (g2 : Nat → Nat → Int64), r = some (.int (bI z)) ∧ h2 = Wd u2 g2 ex ∧ Bd 0 600 (u2 162 8) ∧ Bd 0 999 (u2 162 12) ∧ Bd 0 999 (u2 162 17) ∧ AB u2 171 (-1) 999 ∧ (RH u2) ∧ (z = true → GV (u 162 8) (u2 162 8) (u2 162 11)) ∧ (∀ c, c ≠ 162 → c ≠ 170 → c ≠ 171 → u2 c = u c) ∧ (∀ j, j ≠ 8 → j ≠ 10 → j ≠ 11 → j ≠ 12 → j ≠ 14 → j ≠ 15 → j ≠ 16 → j ≠ 17 → j ≠ 18 → u2 162 j = u 162 j)) := by
  refine CT_of (by decide) (Nat.le_of_ble_eq_true rfl) (fun x hq => ?_)
  show J x yX11_ofPond cX11_ofPond 7 (some .boolean) d 0 0 (Wd u g ex).length 0 [(0, .ref 162), (1, .int to), (2, .int 1), (3, .int low), (4, .int high), (5, .int second)] [] (Wd u g ex) 0 0
  refine J_aload_n (i := 0) (j := 0) dX11_ofPond_0 rfl rfl ?_
  refine J_iconst (v := 0) dX11_ofPond_1 (by decide) ?_
  refine J_iconst (v := 0) dX11_ofPond_2 (by decide) ?_
  refine J_aload_n (i := 0) (j := 0) dX11_ofPond_3 rfl rfl ?_
  refine J_get (C := RX11) (T := TX11) (Z := 43) (ci := 11) (f := 19) dX11_ofPond_4 inG11 rfl (by decide) k1283 wc_162 rfl ?_
  refine J_iconst (v := 0) dX11_ofPond_7 (by decide) ?_
  refine J_iald dX11_ofPond_8 wc_170 (vin (bd_c (v := 0) (lo := 0) (hi := 0) (by decide)) (by decide)) ?_
  refine J_ci (v := u 170 0) rfl ?_
  refine J_iconst (v := 1) dX11_ofPond_9 (by decide) ?_
  refine J_isub dX11_ofPond_10 ?_
  refine J_callV (As := [.int 0, .int 0, .int ((u 170 0) - 1)]) (rest := []) dX11_ofPond_11 (c_M_take0 (d := 3) (u := u) (g := g) (ex := ex) (low := 0) (high := ((u 170 0) - 1))  (by decide) hp0 hp1 hp2 hp3) hq.n k1456 k1458 k44 wc_162 rfl rfl k97 k1459 np_X11_take (Nat.le_trans (by decide) hd) (by decide) (Nat.le_refl _) (Nat.le_refl _) wlen rfl (Nat.le_of_ble_eq_true rfl) (fun r_ h_ p1 => ?_)
  obtain ⟨t2, u3, g4, rfl, rfl, h5, h6, h7, h8, h9, h10, h11, fr12, fc13, fc14⟩ := p1
  refine J_ifB_ne (tgt := 19) dX11_ofPond_14 (by decide) (fun c15 => ?_) (fun c15 => ?_)
  · refine J_iload_n (i := 1) (j := 1) dX11_ofPond_19 rfl rfl ?_
    refine J_bipush (v := 8) dX11_ofPond_20 (by decide) ?_
    refine J_icmp_eq (tgt := 31) dX11_ofPond_22 (by decide) (fun c16 => ?_) (fun c16 => ?_)
    · refine J_iconst (v := 1) dX11_ofPond_31 (by decide) ?_
      refine J_goto (tgt := 36) dX11_ofPond_32 (by decide) ?_
      refine J_istore (i := 6) (lw := [(6, .int 1), (0, .ref 162), (1, .int to), (2, .int 1), (3, .int low), (4, .int high), (5, .int second)]) dX11_ofPond_36 (by decide) rfl ?_
      refine J_aload_n (i := 0) (j := 1) dX11_ofPond_38 rfl rfl ?_
      refine J_iconst (v := 1) dX11_ofPond_39 (by decide) ?_
      refine J_iload (i := 6) (j := 0) dX11_ofPond_40 rfl ?_
      refine J_if_eq (tgt := 56) dX11_ofPond_42 (by decide) (fun q => absurd q (by decide)) (fun _ => ?_)
      refine J_aload_n (i := 0) (j := 1) dX11_ofPond_45 rfl rfl ?_
      refine J_get (C := RX11) (T := TX11) (Z := 43) (ci := 11) (f := 20) dX11_ofPond_46 inG11 rfl (by decide) k1284 wc_162 rfl ?_
      refine J_iconst (v := 0) dX11_ofPond_49 (by decide) ?_
      refine J_iald dX11_ofPond_50 wc_171 (vin (bd_c (v := 0) (lo := 0) (hi := 0) (by decide)) (by decide)) ?_
      refine J_ci (v := u3 171 0) rfl ?_
      refine J_iconst (v := 1) dX11_ofPond_51 (by decide) ?_
      refine J_iadd dX11_ofPond_52 ?_
      refine J_goto (tgt := 57) dX11_ofPond_53 (by decide) ?_
      refine J_iload (i := 6) (j := 0) dX11_ofPond_57 rfl ?_
      refine J_if_eq (tgt := 73) dX11_ofPond_59 (by decide) (fun q => absurd q (by decide)) (fun _ => ?_)
      refine J_aload_n (i := 0) (j := 1) dX11_ofPond_62 rfl rfl ?_
      refine J_get (C := RX11) (T := TX11) (Z := 43) (ci := 11) (f := 19) dX11_ofPond_63 inG11 rfl (by decide) k1283 wc_162 rfl ?_
      refine J_iconst (v := 0) dX11_ofPond_66 (by decide) ?_
      refine J_iald dX11_ofPond_67 wc_170 (vin (bd_c (v := 0) (lo := 0) (hi := 0) (by decide)) (by decide)) ?_
      refine J_ci (v := u 170 0) (congrFun (fr12 170 (by decide) (by decide)) 0) ?_
      refine J_iconst (v := 1) dX11_ofPond_68 (by decide) ?_
      refine J_isub dX11_ofPond_69 ?_
      refine J_goto (tgt := 75) dX11_ofPond_70 (by decide) ?_
      refine J_callV (As := [.int 1, .int ((u3 171 0) + 1), .int ((u 170 0) - 1)]) (rest := []) dX11_ofPond_75 (c_M_take1 (d := 3) (u := u3) (g := g4) (ex := ex) (low := ((u3 171 0) + 1)) (high := ((u 170 0) - 1))  (by decide) h5 (bd_r (fc13 9 (by decide) (by decide) (by decide) (by decide) (by decide) (by decide) (by decide) (by decide) (by decide)) hp1) h6 h7) hq.n k1456 k1458 k44 wc_162 rfl rfl k97 k1459 np_X11_take (Nat.le_trans (by decide) hd) (by decide) (Nat.le_refl _) (Nat.le_refl _) wlen rfl (Nat.le_of_ble_eq_true rfl) (fun r_ h_ p17 => ?_)
      obtain ⟨t18, u19, g20, rfl, rfl, h21, h22, h23, h24, h25, h26, h27, fr28, fc29, fc30⟩ := p17
      refine J_ifB_eq (tgt := 97) dX11_ofPond_78 (by decide) (fun c31 => ?_) (fun c31 => ?_)
      · refine J_iconst (v := 0) dX11_ofPond_97 (by decide) ?_
        exact J_zret hq dX11_ofPond_98 rfl rfl wlen (Nat.le_refl _) (Nat.le_refl _) ⟨false, u19, g20, rfl, rfl, h21, h22, h23, (ab_i fc30 (ab_i fc14 hp4 (bd_w (l := (-1)) (h := 999) h8 (by decide))) (bd_w (l := (-1)) (h := 999) h24 (by decide))), (rh_c ((fr28 170 (by decide) (by decide)).trans (fr12 170 (by decide) (by decide))) hp5), (fun q => absurd q (by decide)), (fun c k0_ k1_ k2_ => ((fr28 c k0_ k2_).trans (fr12 c k0_ k2_))), (fun j k8_ k10_ k11_ k12_ k14_ k15_ k16_ k17_ k18_ => ((fc29 j k8_ k10_ k11_ k12_ k14_ k15_ k16_ k17_ k18_).trans (fc13 j k8_ k10_ k11_ k12_ k14_ k15_ k16_ k17_ k18_)))⟩
      · refine J_iload_n (i := 2) (j := 3) dX11_ofPond_81 rfl rfl ?_
        refine J_iconst (v := 2) dX11_ofPond_82 (by decide) ?_
        refine J_icmp_ne (tgt := 99) dX11_ofPond_83 (by decide) (fun _ => ?_) (fun q => absurd q (by decide))
        refine J_aload_n (i := 0) (j := 1) dX11_ofPond_99 rfl rfl ?_
        refine J_get (C := RX11) (T := TX11) (Z := 43) (ci := 11) (f := 18) dX11_ofPond_100 inG11 rfl (by decide) k1282 wc_162 rfl ?_
        refine J_if_eq (tgt := 163) dX11_ofPond_103 (by decide) (fun c32 => ?_) (fun c32 => ?_)
        · refine J_iconst (v := 1) dX11_ofPond_163 (by decide) ?_
          exact J_zret hq dX11_ofPond_164 rfl rfl wlen (Nat.le_refl _) (Nat.le_refl _) ⟨true, u19, g20, rfl, rfl, h21, h22, h23, (ab_i fc30 (ab_i fc14 hp4 (bd_w (l := (-1)) (h := 999) h8 (by decide))) (bd_w (l := (-1)) (h := 999) h24 (by decide))), (rh_c ((fr28 170 (by decide) (by decide)).trans (fr12 170 (by decide) (by decide))) hp5), (fun _ => (gv_r rfl rfl rfl (gv_t (h9 c15) (h25 c31)))), (fun c k0_ k1_ k2_ => ((fr28 c k0_ k2_).trans (fr12 c k0_ k2_))), (fun j k8_ k10_ k11_ k12_ k14_ k15_ k16_ k17_ k18_ => ((fc29 j k8_ k10_ k11_ k12_ k14_ k15_ k16_ k17_ k18_).trans (fc13 j k8_ k10_ k11_ k12_ k14_ k15_ k16_ k17_ k18_)))⟩
        · have ho33 := Or.resolve_left (h26 c31) c32
          have hg34 : ¬ u3 162 18 = 0 := fun e => Or.elim h27 c32 (fun q => c32 (q.trans e))
          have ho35 := Or.resolve_left (h10 c15) hg34
          have hg36 : ¬ u 162 18 = 0 := fun e => Or.elim h11 hg34 (fun q => hg34 (q.trans e))
          refine J_aload_n (i := 0) (j := 1) dX11_ofPond_106 rfl rfl ?_
          refine J_get (C := RX11) (T := TX11) (Z := 43) (ci := 11) (f := 19) dX11_ofPond_107 inG11 rfl (by decide) k1283 wc_162 rfl ?_
          refine J_bipush (v := 13) dX11_ofPond_110 (by decide) ?_
          refine J_bipush (v := 16) dX11_ofPond_112 (by decide) ?_
          refine J_aload_n (i := 0) (j := 1) dX11_ofPond_114 rfl rfl ?_
          refine J_get (C := RX11) (T := TX11) (Z := 43) (ci := 11) (f := 20) dX11_ofPond_115 inG11 rfl (by decide) k1284 wc_162 rfl ?_
          refine J_iconst (v := 0) dX11_ofPond_118 (by decide) ?_
          refine J_iald dX11_ofPond_119 wc_171 (vin (bd_c (v := 0) (lo := 0) (hi := 0) (by decide)) (by decide)) ?_
          refine J_ci (v := u3 171 0) (fc30 0 (by decide)) ?_
          refine J_imul dX11_ofPond_120 ?_
          refine J_iadd dX11_ofPond_121 ?_
          refine J_iload_n (i := 1) (j := 2) dX11_ofPond_122 rfl rfl ?_
          refine J_iadd dX11_ofPond_123 ?_
          refine J_aload_n (i := 0) (j := 1) dX11_ofPond_124 rfl rfl ?_
          refine J_get (C := RX11) (T := TX11) (Z := 43) (ci := 11) (f := 20) dX11_ofPond_125 inG11 rfl (by decide) k1284 wc_162 rfl ?_
          refine J_iconst (v := 1) dX11_ofPond_128 (by decide) ?_
          refine J_iald dX11_ofPond_129 wc_171 (vin (bd_c (v := 1) (lo := 1) (hi := 1) (by decide)) (by decide)) ?_
          refine J_ci (v := u19 171 1) rfl ?_
          obtain ⟨u37, e38⟩ : ∃ z, z = ms u19 170 ((((13 : Int32) + ((16 : Int32) * (u3 171 0))) + to).toNatClampNeg) (u19 171 1) := ⟨_, rfl⟩
          refine J_iast dX11_ofPond_130 wc_170 (vin (bd_add (l := 21) (h := 133) (bd_add (l := 13) (h := 125) (bd_c (v := 13) (lo := 13) (hi := 13) (by decide)) (bd_mul (l := 0) (h := 112) (bd_c (v := 16) (lo := 16) (hi := 16) (by decide)) (bd_adc (c := 1) (h := 7) h8 ho33.1 (bd_le_hi h24 ho33.2 (bd_le_lo (bd_sub (l := (-1)) (h := 8) (hp5).2.1 (bd_c (v := 1) (lo := 1) (hi := 1) (by decide)) (by decide)) ho35.2 h8)) (by decide)) (by decide)) (by decide)) (bd_r c16 (bd_c (v := 8) (lo := 8) (hi := 8) (by decide))) (by decide)) (by decide)) (ws e38 wk_170 rfl) ?_
          refine J_iload_n (i := 2) (j := 3) dX11_ofPond_131 rfl rfl ?_
          refine J_iconst (v := 2) dX11_ofPond_132 (by decide) ?_
          refine J_icmp_ne (tgt := 163) dX11_ofPond_133 (by decide) (fun _ => ?_) (fun q => absurd q (by decide))
          refine J_iconst (v := 1) dX11_ofPond_163 (by decide) ?_
          exact J_zret hq dX11_ofPond_164 rfl rfl wlen (Nat.le_refl _) (Nat.le_refl _) ⟨true, u37, g20, rfl, rfl, (bd_r (congrFun (ms_c e38 (by decide)) 8) h21), (bd_r (congrFun (ms_c e38 (by decide)) 12) h22), (bd_r (congrFun (ms_c e38 (by decide)) 17) h23), (ab_c (ms_c e38 (by decide)) (ab_i fc30 (ab_i fc14 hp4 (bd_w (l := (-1)) (h := 999) (bd_adc (c := 1) (h := 7) h8 ho33.1 (bd_le_hi h24 ho33.2 (bd_le_lo (bd_sub (l := (-1)) (h := 8) (hp5).2.1 (bd_c (v := 1) (lo := 1) (hi := 1) (by decide)) (by decide)) ho35.2 h8)) (by decide)) (by decide))) (bd_w (l := (-1)) (h := 999) (bd_le_hi (bd_le_lo h24 ho33.1 (bd_add (l := 1) (h := 9) (bd_le_hi h8 ho35.2 (bd_le_lo (bd_sub (l := (-1)) (h := 8) (hp5).2.1 (bd_c (v := 1) (lo := 1) (hi := 1) (by decide)) (by decide)) ho33.2 h24)) (bd_c (v := 1) (lo := 1) (hi := 1) (by decide)) (by decide))) ho33.2 (bd_le_lo (bd_sub (l := (-1)) (h := 8) (hp5).2.1 (bd_c (v := 1) (lo := 1) (hi := 1) (by decide)) (by decide)) ho35.2 (bd_adc (c := 1) (h := 998) h8 ho33.1 h24 (by decide)))) (by decide)))), (rh_p e38 (bd_w (l := 0) (h := 8) (bd_adc (c := 1) (h := 7) h8 ho33.1 (bd_le_hi h24 ho33.2 (bd_le_lo (bd_sub (l := (-1)) (h := 8) (hp5).2.1 (bd_c (v := 1) (lo := 1) (hi := 1) (by decide)) (by decide)) ho35.2 h8)) (by decide)) (by decide)) (bd_w (l := 0) (h := 15) (bd_r c16 (bd_c (v := 8) (lo := 8) (hi := 8) (by decide))) (by decide)) (bd_w (l := (-1)) (h := 999) (bd_le_hi (bd_le_lo h24 ho33.1 (bd_add (l := 1) (h := 9) (bd_le_hi h8 ho35.2 (bd_le_lo (bd_sub (l := (-1)) (h := 8) (hp5).2.1 (bd_c (v := 1) (lo := 1) (hi := 1) (by decide)) (by decide)) ho33.2 h24)) (bd_c (v := 1) (lo := 1) (hi := 1) (by decide)) (by decide))) ho33.2 (bd_le_lo (bd_sub (l := (-1)) (h := 8) (hp5).2.1 (bd_c (v := 1) (lo := 1) (hi := 1) (by decide)) (by decide)) ho35.2 (bd_adc (c := 1) (h := 998) h8 ho33.1 h24 (by decide)))) (by decide)) (fun _ => (bd_w (l := (-1)) (h := 8) (bd_le_hi (bd_le_lo h24 ho33.1 (bd_add (l := 1) (h := 9) (bd_le_hi h8 ho35.2 (bd_le_lo (bd_sub (l := (-1)) (h := 8) (hp5).2.1 (bd_c (v := 1) (lo := 1) (hi := 1) (by decide)) (by decide)) ho33.2 h24)) (bd_c (v := 1) (lo := 1) (hi := 1) (by decide)) (by decide))) ho33.2 (bd_le_lo (bd_sub (l := (-1)) (h := 8) (hp5).2.1 (bd_c (v := 1) (lo := 1) (hi := 1) (by decide)) (by decide)) ho35.2 (bd_adc (c := 1) (h := 998) h8 ho33.1 h24 (by decide)))) (by decide))) (rh_c ((fr28 170 (by decide) (by decide)).trans (fr12 170 (by decide) (by decide))) hp5)), (fun _ => (gv_r rfl (congrFun (ms_c e38 (by decide)) 8) (congrFun (ms_c e38 (by decide)) 11) (gv_t (h9 c15) (h25 c31)))), (fun c k0_ k1_ k2_ => ((ms_c e38 k1_).trans ((fr28 c k0_ k2_).trans (fr12 c k0_ k2_)))), (fun j k8_ k10_ k11_ k12_ k14_ k15_ k16_ k17_ k18_ => ((congrFun (ms_c e38 (by decide)) j).trans ((fc29 j k8_ k10_ k11_ k12_ k14_ k15_ k16_ k17_ k18_).trans (fc13 j k8_ k10_ k11_ k12_ k14_ k15_ k16_ k17_ k18_))))⟩
    · refine J_iload_n (i := 1) (j := 1) dX11_ofPond_25 rfl rfl ?_
      refine J_bipush (v := 9) dX11_ofPond_26 (by decide) ?_
      refine J_icmp_ne (tgt := 35) dX11_ofPond_28 (by decide) (fun c39 => ?_) (fun c39 => ?_)
      · refine J_iconst (v := 0) dX11_ofPond_35 (by decide) ?_
        refine J_istore (i := 6) (lw := [(6, .int 0), (0, .ref 162), (1, .int to), (2, .int 1), (3, .int low), (4, .int high), (5, .int second)]) dX11_ofPond_36 (by decide) rfl ?_
        refine J_aload_n (i := 0) (j := 1) dX11_ofPond_38 rfl rfl ?_
        refine J_iconst (v := 1) dX11_ofPond_39 (by decide) ?_
        refine J_iload (i := 6) (j := 0) dX11_ofPond_40 rfl ?_
        refine J_if_eq (tgt := 56) dX11_ofPond_42 (by decide) (fun _ => ?_) (fun q => absurd (by decide) q)
        refine J_iload_n (i := 3) (j := 4) dX11_ofPond_56 rfl rfl ?_
        refine J_iload (i := 6) (j := 0) dX11_ofPond_57 rfl ?_
        refine J_if_eq (tgt := 73) dX11_ofPond_59 (by decide) (fun _ => ?_) (fun q => absurd (by decide) q)
        refine J_iload (i := 4) (j := 5) dX11_ofPond_73 rfl ?_
        refine J_callV (As := [.int 1, .int low, .int high]) (rest := []) dX11_ofPond_75 (c_M_take1 (d := 3) (u := u3) (g := g4) (ex := ex) (low := low) (high := high)  (by decide) h5 (bd_r (fc13 9 (by decide) (by decide) (by decide) (by decide) (by decide) (by decide) (by decide) (by decide) (by decide)) hp1) h6 h7) hq.n k1456 k1458 k44 wc_162 rfl rfl k97 k1459 np_X11_take (Nat.le_trans (by decide) hd) (by decide) (Nat.le_refl _) (Nat.le_refl _) wlen rfl (Nat.le_of_ble_eq_true rfl) (fun r_ h_ p40 => ?_)
        obtain ⟨t41, u42, g43, rfl, rfl, h44, h45, h46, h47, h48, h49, h50, fr51, fc52, fc53⟩ := p40
        refine J_ifB_eq (tgt := 97) dX11_ofPond_78 (by decide) (fun c54 => ?_) (fun c54 => ?_)
        · refine J_iconst (v := 0) dX11_ofPond_97 (by decide) ?_
          exact J_zret hq dX11_ofPond_98 rfl rfl wlen (Nat.le_refl _) (Nat.le_refl _) ⟨false, u42, g43, rfl, rfl, h44, h45, h46, (ab_i fc53 (ab_i fc14 hp4 (bd_w (l := (-1)) (h := 999) h8 (by decide))) (bd_w (l := (-1)) (h := 999) h47 (by decide))), (rh_c ((fr51 170 (by decide) (by decide)).trans (fr12 170 (by decide) (by decide))) hp5), (fun q => absurd q (by decide)), (fun c k0_ k1_ k2_ => ((fr51 c k0_ k2_).trans (fr12 c k0_ k2_))), (fun j k8_ k10_ k11_ k12_ k14_ k15_ k16_ k17_ k18_ => ((fc52 j k8_ k10_ k11_ k12_ k14_ k15_ k16_ k17_ k18_).trans (fc13 j k8_ k10_ k11_ k12_ k14_ k15_ k16_ k17_ k18_)))⟩
        · refine J_iload_n (i := 2) (j := 3) dX11_ofPond_81 rfl rfl ?_
          refine J_iconst (v := 2) dX11_ofPond_82 (by decide) ?_
          refine J_icmp_ne (tgt := 99) dX11_ofPond_83 (by decide) (fun _ => ?_) (fun q => absurd q (by decide))
          refine J_aload_n (i := 0) (j := 1) dX11_ofPond_99 rfl rfl ?_
          refine J_get (C := RX11) (T := TX11) (Z := 43) (ci := 11) (f := 18) dX11_ofPond_100 inG11 rfl (by decide) k1282 wc_162 rfl ?_
          refine J_if_eq (tgt := 163) dX11_ofPond_103 (by decide) (fun c55 => ?_) (fun c55 => ?_)
          · refine J_iconst (v := 1) dX11_ofPond_163 (by decide) ?_
            exact J_zret hq dX11_ofPond_164 rfl rfl wlen (Nat.le_refl _) (Nat.le_refl _) ⟨true, u42, g43, rfl, rfl, h44, h45, h46, (ab_i fc53 (ab_i fc14 hp4 (bd_w (l := (-1)) (h := 999) h8 (by decide))) (bd_w (l := (-1)) (h := 999) h47 (by decide))), (rh_c ((fr51 170 (by decide) (by decide)).trans (fr12 170 (by decide) (by decide))) hp5), (fun _ => (gv_r rfl rfl rfl (gv_t (h9 c15) (h48 c54)))), (fun c k0_ k1_ k2_ => ((fr51 c k0_ k2_).trans (fr12 c k0_ k2_))), (fun j k8_ k10_ k11_ k12_ k14_ k15_ k16_ k17_ k18_ => ((fc52 j k8_ k10_ k11_ k12_ k14_ k15_ k16_ k17_ k18_).trans (fc13 j k8_ k10_ k11_ k12_ k14_ k15_ k16_ k17_ k18_)))⟩
          · have ho56 := Or.resolve_left (h49 c54) c55
            have hg57 : ¬ u3 162 18 = 0 := fun e => Or.elim h50 c55 (fun q => c55 (q.trans e))
            have ho58 := Or.resolve_left (h10 c15) hg57
            have hg59 : ¬ u 162 18 = 0 := fun e => Or.elim h11 hg57 (fun q => hg57 (q.trans e))
            refine J_aload_n (i := 0) (j := 1) dX11_ofPond_106 rfl rfl ?_
            refine J_get (C := RX11) (T := TX11) (Z := 43) (ci := 11) (f := 19) dX11_ofPond_107 inG11 rfl (by decide) k1283 wc_162 rfl ?_
            refine J_bipush (v := 13) dX11_ofPond_110 (by decide) ?_
            refine J_bipush (v := 16) dX11_ofPond_112 (by decide) ?_
            refine J_aload_n (i := 0) (j := 1) dX11_ofPond_114 rfl rfl ?_
            refine J_get (C := RX11) (T := TX11) (Z := 43) (ci := 11) (f := 20) dX11_ofPond_115 inG11 rfl (by decide) k1284 wc_162 rfl ?_
            refine J_iconst (v := 0) dX11_ofPond_118 (by decide) ?_
            refine J_iald dX11_ofPond_119 wc_171 (vin (bd_c (v := 0) (lo := 0) (hi := 0) (by decide)) (by decide)) ?_
            refine J_ci (v := u3 171 0) (fc53 0 (by decide)) ?_
            refine J_imul dX11_ofPond_120 ?_
            refine J_iadd dX11_ofPond_121 ?_
            refine J_iload_n (i := 1) (j := 2) dX11_ofPond_122 rfl rfl ?_
            refine J_iadd dX11_ofPond_123 ?_
            refine J_aload_n (i := 0) (j := 1) dX11_ofPond_124 rfl rfl ?_
            refine J_get (C := RX11) (T := TX11) (Z := 43) (ci := 11) (f := 20) dX11_ofPond_125 inG11 rfl (by decide) k1284 wc_162 rfl ?_
            refine J_iconst (v := 1) dX11_ofPond_128 (by decide) ?_
            refine J_iald dX11_ofPond_129 wc_171 (vin (bd_c (v := 1) (lo := 1) (hi := 1) (by decide)) (by decide)) ?_
            refine J_ci (v := u42 171 1) rfl ?_
            obtain ⟨u60, e61⟩ : ∃ z, z = ms u42 170 ((((13 : Int32) + ((16 : Int32) * (u3 171 0))) + to).toNatClampNeg) (u42 171 1) := ⟨_, rfl⟩
            refine J_iast dX11_ofPond_130 wc_170 (vin (bd_add (l := 13) (h := 156) (bd_add (l := 13) (h := 141) (bd_c (v := 13) (lo := 13) (hi := 13) (by decide)) (bd_mul (l := 0) (h := 128) (bd_c (v := 16) (lo := 16) (hi := 16) (by decide)) (bd_le_hi h8 ho58.2 (bd_sub (l := (-1)) (h := 8) (hp5).2.1 (bd_c (v := 1) (lo := 1) (hi := 1) (by decide)) (by decide))) (by decide)) (by decide)) hp6 (by decide)) (by decide)) (ws e61 wk_170 rfl) ?_
            refine J_iload_n (i := 2) (j := 3) dX11_ofPond_131 rfl rfl ?_
            refine J_iconst (v := 2) dX11_ofPond_132 (by decide) ?_
            refine J_icmp_ne (tgt := 163) dX11_ofPond_133 (by decide) (fun _ => ?_) (fun q => absurd q (by decide))
            refine J_iconst (v := 1) dX11_ofPond_163 (by decide) ?_
            exact J_zret hq dX11_ofPond_164 rfl rfl wlen (Nat.le_refl _) (Nat.le_refl _) ⟨true, u60, g43, rfl, rfl, (bd_r (congrFun (ms_c e61 (by decide)) 8) h44), (bd_r (congrFun (ms_c e61 (by decide)) 12) h45), (bd_r (congrFun (ms_c e61 (by decide)) 17) h46), (ab_c (ms_c e61 (by decide)) (ab_i fc53 (ab_i fc14 hp4 (bd_w (l := (-1)) (h := 999) (bd_le_hi h8 ho58.2 (bd_sub (l := (-1)) (h := 8) (hp5).2.1 (bd_c (v := 1) (lo := 1) (hi := 1) (by decide)) (by decide))) (by decide))) (bd_w (l := (-1)) (h := 999) h47 (by decide)))), (rh_p e61 (bd_le_hi h8 ho58.2 (bd_sub (l := (-1)) (h := 8) (hp5).2.1 (bd_c (v := 1) (lo := 1) (hi := 1) (by decide)) (by decide))) hp6 (bd_w (l := (-1)) (h := 999) h47 (by decide)) (ne_n89 c16 c39) (rh_c ((fr51 170 (by decide) (by decide)).trans (fr12 170 (by decide) (by decide))) hp5)), (fun _ => (gv_r rfl (congrFun (ms_c e61 (by decide)) 8) (congrFun (ms_c e61 (by decide)) 11) (gv_t (h9 c15) (h48 c54)))), (fun c k0_ k1_ k2_ => ((ms_c e61 k1_).trans ((fr51 c k0_ k2_).trans (fr12 c k0_ k2_)))), (fun j k8_ k10_ k11_ k12_ k14_ k15_ k16_ k17_ k18_ => ((congrFun (ms_c e61 (by decide)) j).trans ((fc52 j k8_ k10_ k11_ k12_ k14_ k15_ k16_ k17_ k18_).trans (fc13 j k8_ k10_ k11_ k12_ k14_ k15_ k16_ k17_ k18_))))⟩
      · refine J_iconst (v := 1) dX11_ofPond_31 (by decide) ?_
        refine J_goto (tgt := 36) dX11_ofPond_32 (by decide) ?_
        refine J_istore (i := 6) (lw := [(6, .int 1), (0, .ref 162), (1, .int to), (2, .int 1), (3, .int low), (4, .int high), (5, .int second)]) dX11_ofPond_36 (by decide) rfl ?_
        refine J_aload_n (i := 0) (j := 1) dX11_ofPond_38 rfl rfl ?_
        refine J_iconst (v := 1) dX11_ofPond_39 (by decide) ?_
        refine J_iload (i := 6) (j := 0) dX11_ofPond_40 rfl ?_
        refine J_if_eq (tgt := 56) dX11_ofPond_42 (by decide) (fun q => absurd q (by decide)) (fun _ => ?_)
        refine J_aload_n (i := 0) (j := 1) dX11_ofPond_45 rfl rfl ?_
        refine J_get (C := RX11) (T := TX11) (Z := 43) (ci := 11) (f := 20) dX11_ofPond_46 inG11 rfl (by decide) k1284 wc_162 rfl ?_
        refine J_iconst (v := 0) dX11_ofPond_49 (by decide) ?_
        refine J_iald dX11_ofPond_50 wc_171 (vin (bd_c (v := 0) (lo := 0) (hi := 0) (by decide)) (by decide)) ?_
        refine J_ci (v := u3 171 0) rfl ?_
        refine J_iconst (v := 1) dX11_ofPond_51 (by decide) ?_
        refine J_iadd dX11_ofPond_52 ?_
        refine J_goto (tgt := 57) dX11_ofPond_53 (by decide) ?_
        refine J_iload (i := 6) (j := 0) dX11_ofPond_57 rfl ?_
        refine J_if_eq (tgt := 73) dX11_ofPond_59 (by decide) (fun q => absurd q (by decide)) (fun _ => ?_)
        refine J_aload_n (i := 0) (j := 1) dX11_ofPond_62 rfl rfl ?_
        refine J_get (C := RX11) (T := TX11) (Z := 43) (ci := 11) (f := 19) dX11_ofPond_63 inG11 rfl (by decide) k1283 wc_162 rfl ?_
        refine J_iconst (v := 0) dX11_ofPond_66 (by decide) ?_
        refine J_iald dX11_ofPond_67 wc_170 (vin (bd_c (v := 0) (lo := 0) (hi := 0) (by decide)) (by decide)) ?_
        refine J_ci (v := u 170 0) (congrFun (fr12 170 (by decide) (by decide)) 0) ?_
        refine J_iconst (v := 1) dX11_ofPond_68 (by decide) ?_
        refine J_isub dX11_ofPond_69 ?_
        refine J_goto (tgt := 75) dX11_ofPond_70 (by decide) ?_
        refine J_callV (As := [.int 1, .int ((u3 171 0) + 1), .int ((u 170 0) - 1)]) (rest := []) dX11_ofPond_75 (c_M_take1 (d := 3) (u := u3) (g := g4) (ex := ex) (low := ((u3 171 0) + 1)) (high := ((u 170 0) - 1))  (by decide) h5 (bd_r (fc13 9 (by decide) (by decide) (by decide) (by decide) (by decide) (by decide) (by decide) (by decide) (by decide)) hp1) h6 h7) hq.n k1456 k1458 k44 wc_162 rfl rfl k97 k1459 np_X11_take (Nat.le_trans (by decide) hd) (by decide) (Nat.le_refl _) (Nat.le_refl _) wlen rfl (Nat.le_of_ble_eq_true rfl) (fun r_ h_ p62 => ?_)
        obtain ⟨t63, u64, g65, rfl, rfl, h66, h67, h68, h69, h70, h71, h72, fr73, fc74, fc75⟩ := p62
        refine J_ifB_eq (tgt := 97) dX11_ofPond_78 (by decide) (fun c76 => ?_) (fun c76 => ?_)
        · refine J_iconst (v := 0) dX11_ofPond_97 (by decide) ?_
          exact J_zret hq dX11_ofPond_98 rfl rfl wlen (Nat.le_refl _) (Nat.le_refl _) ⟨false, u64, g65, rfl, rfl, h66, h67, h68, (ab_i fc75 (ab_i fc14 hp4 (bd_w (l := (-1)) (h := 999) h8 (by decide))) (bd_w (l := (-1)) (h := 999) h69 (by decide))), (rh_c ((fr73 170 (by decide) (by decide)).trans (fr12 170 (by decide) (by decide))) hp5), (fun q => absurd q (by decide)), (fun c k0_ k1_ k2_ => ((fr73 c k0_ k2_).trans (fr12 c k0_ k2_))), (fun j k8_ k10_ k11_ k12_ k14_ k15_ k16_ k17_ k18_ => ((fc74 j k8_ k10_ k11_ k12_ k14_ k15_ k16_ k17_ k18_).trans (fc13 j k8_ k10_ k11_ k12_ k14_ k15_ k16_ k17_ k18_)))⟩
        · refine J_iload_n (i := 2) (j := 3) dX11_ofPond_81 rfl rfl ?_
          refine J_iconst (v := 2) dX11_ofPond_82 (by decide) ?_
          refine J_icmp_ne (tgt := 99) dX11_ofPond_83 (by decide) (fun _ => ?_) (fun q => absurd q (by decide))
          refine J_aload_n (i := 0) (j := 1) dX11_ofPond_99 rfl rfl ?_
          refine J_get (C := RX11) (T := TX11) (Z := 43) (ci := 11) (f := 18) dX11_ofPond_100 inG11 rfl (by decide) k1282 wc_162 rfl ?_
          refine J_if_eq (tgt := 163) dX11_ofPond_103 (by decide) (fun c77 => ?_) (fun c77 => ?_)
          · refine J_iconst (v := 1) dX11_ofPond_163 (by decide) ?_
            exact J_zret hq dX11_ofPond_164 rfl rfl wlen (Nat.le_refl _) (Nat.le_refl _) ⟨true, u64, g65, rfl, rfl, h66, h67, h68, (ab_i fc75 (ab_i fc14 hp4 (bd_w (l := (-1)) (h := 999) h8 (by decide))) (bd_w (l := (-1)) (h := 999) h69 (by decide))), (rh_c ((fr73 170 (by decide) (by decide)).trans (fr12 170 (by decide) (by decide))) hp5), (fun _ => (gv_r rfl rfl rfl (gv_t (h9 c15) (h70 c76)))), (fun c k0_ k1_ k2_ => ((fr73 c k0_ k2_).trans (fr12 c k0_ k2_))), (fun j k8_ k10_ k11_ k12_ k14_ k15_ k16_ k17_ k18_ => ((fc74 j k8_ k10_ k11_ k12_ k14_ k15_ k16_ k17_ k18_).trans (fc13 j k8_ k10_ k11_ k12_ k14_ k15_ k16_ k17_ k18_)))⟩
          · have ho78 := Or.resolve_left (h71 c76) c77
            have hg79 : ¬ u3 162 18 = 0 := fun e => Or.elim h72 c77 (fun q => c77 (q.trans e))
            have ho80 := Or.resolve_left (h10 c15) hg79
            have hg81 : ¬ u 162 18 = 0 := fun e => Or.elim h11 hg79 (fun q => hg79 (q.trans e))
            refine J_aload_n (i := 0) (j := 1) dX11_ofPond_106 rfl rfl ?_
            refine J_get (C := RX11) (T := TX11) (Z := 43) (ci := 11) (f := 19) dX11_ofPond_107 inG11 rfl (by decide) k1283 wc_162 rfl ?_
            refine J_bipush (v := 13) dX11_ofPond_110 (by decide) ?_
            refine J_bipush (v := 16) dX11_ofPond_112 (by decide) ?_
            refine J_aload_n (i := 0) (j := 1) dX11_ofPond_114 rfl rfl ?_
            refine J_get (C := RX11) (T := TX11) (Z := 43) (ci := 11) (f := 20) dX11_ofPond_115 inG11 rfl (by decide) k1284 wc_162 rfl ?_
            refine J_iconst (v := 0) dX11_ofPond_118 (by decide) ?_
            refine J_iald dX11_ofPond_119 wc_171 (vin (bd_c (v := 0) (lo := 0) (hi := 0) (by decide)) (by decide)) ?_
            refine J_ci (v := u3 171 0) (fc75 0 (by decide)) ?_
            refine J_imul dX11_ofPond_120 ?_
            refine J_iadd dX11_ofPond_121 ?_
            refine J_iload_n (i := 1) (j := 2) dX11_ofPond_122 rfl rfl ?_
            refine J_iadd dX11_ofPond_123 ?_
            refine J_aload_n (i := 0) (j := 1) dX11_ofPond_124 rfl rfl ?_
            refine J_get (C := RX11) (T := TX11) (Z := 43) (ci := 11) (f := 20) dX11_ofPond_125 inG11 rfl (by decide) k1284 wc_162 rfl ?_
            refine J_iconst (v := 1) dX11_ofPond_128 (by decide) ?_
            refine J_iald dX11_ofPond_129 wc_171 (vin (bd_c (v := 1) (lo := 1) (hi := 1) (by decide)) (by decide)) ?_
            refine J_ci (v := u64 171 1) rfl ?_
            obtain ⟨u82, e83⟩ : ∃ z, z = ms u64 170 ((((13 : Int32) + ((16 : Int32) * (u3 171 0))) + to).toNatClampNeg) (u64 171 1) := ⟨_, rfl⟩
            refine J_iast dX11_ofPond_130 wc_170 (vin (bd_add (l := 22) (h := 134) (bd_add (l := 13) (h := 125) (bd_c (v := 13) (lo := 13) (hi := 13) (by decide)) (bd_mul (l := 0) (h := 112) (bd_c (v := 16) (lo := 16) (hi := 16) (by decide)) (bd_adc (c := 1) (h := 7) h8 ho78.1 (bd_le_hi h69 ho78.2 (bd_le_lo (bd_sub (l := (-1)) (h := 8) (hp5).2.1 (bd_c (v := 1) (lo := 1) (hi := 1) (by decide)) (by decide)) ho80.2 h8)) (by decide)) (by decide)) (by decide)) (bd_r c39 (bd_c (v := 9) (lo := 9) (hi := 9) (by decide))) (by decide)) (by decide)) (ws e83 wk_170 rfl) ?_
            refine J_iload_n (i := 2) (j := 3) dX11_ofPond_131 rfl rfl ?_
            refine J_iconst (v := 2) dX11_ofPond_132 (by decide) ?_
            refine J_icmp_ne (tgt := 163) dX11_ofPond_133 (by decide) (fun _ => ?_) (fun q => absurd q (by decide))
            refine J_iconst (v := 1) dX11_ofPond_163 (by decide) ?_
            exact J_zret hq dX11_ofPond_164 rfl rfl wlen (Nat.le_refl _) (Nat.le_refl _) ⟨true, u82, g65, rfl, rfl, (bd_r (congrFun (ms_c e83 (by decide)) 8) h66), (bd_r (congrFun (ms_c e83 (by decide)) 12) h67), (bd_r (congrFun (ms_c e83 (by decide)) 17) h68), (ab_c (ms_c e83 (by decide)) (ab_i fc75 (ab_i fc14 hp4 (bd_w (l := (-1)) (h := 999) (bd_adc (c := 1) (h := 7) h8 ho78.1 (bd_le_hi h69 ho78.2 (bd_le_lo (bd_sub (l := (-1)) (h := 8) (hp5).2.1 (bd_c (v := 1) (lo := 1) (hi := 1) (by decide)) (by decide)) ho80.2 h8)) (by decide)) (by decide))) (bd_w (l := (-1)) (h := 999) (bd_le_hi (bd_le_lo h69 ho78.1 (bd_add (l := 1) (h := 9) (bd_le_hi h8 ho80.2 (bd_le_lo (bd_sub (l := (-1)) (h := 8) (hp5).2.1 (bd_c (v := 1) (lo := 1) (hi := 1) (by decide)) (by decide)) ho78.2 h69)) (bd_c (v := 1) (lo := 1) (hi := 1) (by decide)) (by decide))) ho78.2 (bd_le_lo (bd_sub (l := (-1)) (h := 8) (hp5).2.1 (bd_c (v := 1) (lo := 1) (hi := 1) (by decide)) (by decide)) ho80.2 (bd_adc (c := 1) (h := 998) h8 ho78.1 h69 (by decide)))) (by decide)))), (rh_p e83 (bd_w (l := 0) (h := 8) (bd_adc (c := 1) (h := 7) h8 ho78.1 (bd_le_hi h69 ho78.2 (bd_le_lo (bd_sub (l := (-1)) (h := 8) (hp5).2.1 (bd_c (v := 1) (lo := 1) (hi := 1) (by decide)) (by decide)) ho80.2 h8)) (by decide)) (by decide)) (bd_w (l := 0) (h := 15) (bd_r c39 (bd_c (v := 9) (lo := 9) (hi := 9) (by decide))) (by decide)) (bd_w (l := (-1)) (h := 999) (bd_le_hi (bd_le_lo h69 ho78.1 (bd_add (l := 1) (h := 9) (bd_le_hi h8 ho80.2 (bd_le_lo (bd_sub (l := (-1)) (h := 8) (hp5).2.1 (bd_c (v := 1) (lo := 1) (hi := 1) (by decide)) (by decide)) ho78.2 h69)) (bd_c (v := 1) (lo := 1) (hi := 1) (by decide)) (by decide))) ho78.2 (bd_le_lo (bd_sub (l := (-1)) (h := 8) (hp5).2.1 (bd_c (v := 1) (lo := 1) (hi := 1) (by decide)) (by decide)) ho80.2 (bd_adc (c := 1) (h := 998) h8 ho78.1 h69 (by decide)))) (by decide)) (fun _ => (bd_w (l := (-1)) (h := 8) (bd_le_hi (bd_le_lo h69 ho78.1 (bd_add (l := 1) (h := 9) (bd_le_hi h8 ho80.2 (bd_le_lo (bd_sub (l := (-1)) (h := 8) (hp5).2.1 (bd_c (v := 1) (lo := 1) (hi := 1) (by decide)) (by decide)) ho78.2 h69)) (bd_c (v := 1) (lo := 1) (hi := 1) (by decide)) (by decide))) ho78.2 (bd_le_lo (bd_sub (l := (-1)) (h := 8) (hp5).2.1 (bd_c (v := 1) (lo := 1) (hi := 1) (by decide)) (by decide)) ho80.2 (bd_adc (c := 1) (h := 998) h8 ho78.1 h69 (by decide)))) (by decide))) (rh_c ((fr73 170 (by decide) (by decide)).trans (fr12 170 (by decide) (by decide))) hp5)), (fun _ => (gv_r rfl (congrFun (ms_c e83 (by decide)) 8) (congrFun (ms_c e83 (by decide)) 11) (gv_t (h9 c15) (h70 c76)))), (fun c k0_ k1_ k2_ => ((ms_c e83 k1_).trans ((fr73 c k0_ k2_).trans (fr12 c k0_ k2_)))), (fun j k8_ k10_ k11_ k12_ k14_ k15_ k16_ k17_ k18_ => ((congrFun (ms_c e83 (by decide)) j).trans ((fc74 j k8_ k10_ k11_ k12_ k14_ k15_ k16_ k17_ k18_).trans (fc13 j k8_ k10_ k11_ k12_ k14_ k15_ k16_ k17_ k18_))))⟩
  · refine J_iconst (v := 0) dX11_ofPond_17 (by decide) ?_
    exact J_zret hq dX11_ofPond_18 rfl rfl wlen (Nat.le_refl _) (Nat.le_refl _) ⟨false, u3, g4, rfl, rfl, h5, h6, h7, (ab_i fc14 hp4 (bd_w (l := (-1)) (h := 999) h8 (by decide))), (rh_c (fr12 170 (by decide) (by decide)) hp5), (fun q => absurd q (by decide)), (fun c k0_ k1_ k2_ => (fr12 c k0_ k2_)), (fun j k8_ k10_ k11_ k12_ k14_ k15_ k16_ k17_ k18_ => (fc13 j k8_ k10_ k11_ k12_ k14_ k15_ k16_ k17_ k18_))⟩
set_option maxHeartbeats 4000000 in
set_option maxRecDepth 100000 in
theorem c_M_ofPond2 {d : Nat} {u : Nat → Nat → Int32} {g : Nat → Nat → Int64} {ex : List MC} {to : Int32} {low : Int32} {high : Int32} {second : Int32} (hd : 4 ≤ d) (hp0 : Bd 0 600 (u 162 8)) (hp1 : Bd 0 600 (u 162 9)) (hp2 : Bd 0 999 (u 162 12)) (hp3 : Bd 0 999 (u 162 17)) (hp4 : AB u 171 (-1) 999) (hp5 : (RH u)) (hp6 : Bd 9 13 to) : CT con0 d 0 0 yX11_ofPond cX11_ofPond 7 (some .boolean) [.ref 162, .int to, .int 2, .int low, .int high, .int second] (Wd u g ex) (fun r h2 => ∃ (z : Bool) (u2 : Nat → Nat → Int32) (g2 : Nat → Nat → Int64), r = some (.int (bI z)) ∧ h2 = Wd u2 g2 ex ∧ Bd 0 600 (u2 162 8) ∧ Bd 0 999 (u2 162 12) ∧ Bd 0 999 (u2 162 17) ∧ AB u2 171 (-1) 999 ∧ (RH u2) ∧ (z = true → GV (u 162 8) (u2 162 8) (u2 162 11)) ∧ (∀ c, c ≠ 162 → c ≠ 170 → c ≠ 171 → u2 c = u c) ∧ (∀ j, j ≠ 8 → j ≠ 10 → j ≠ 11 → j ≠ 12 → j ≠ 14 → j ≠ 15 → j ≠ 16 → j ≠ 17 → j ≠ 18 → u2 162 j = u 162 j)) := by
  refine CT_of (by decide) (Nat.le_of_ble_eq_true rfl) (fun x hq => ?_)
  show J x yX11_ofPond cX11_ofPond 7 (some .boolean) d 0 0 (Wd u g ex).length 0 [(0, .ref 162), (1, .int to), (2, .int 2), (3, .int low), (4, .int high), (5, .int second)] [] (Wd u g ex) 0 0
  refine J_aload_n (i := 0) (j := 0) dX11_ofPond_0 rfl rfl ?_
  refine J_iconst (v := 0) dX11_ofPond_1 (by decide) ?_
  refine J_iconst (v := 0) dX11_ofPond_2 (by decide) ?_
  refine J_aload_n (i := 0) (j := 0) dX11_ofPond_3 rfl rfl ?_
  refine J_get (C := RX11) (T := TX11) (Z := 43) (ci := 11) (f := 19) dX11_ofPond_4 inG11 rfl (by decide) k1283 wc_162 rfl ?_
  refine J_iconst (v := 0) dX11_ofPond_7 (by decide) ?_
  refine J_iald dX11_ofPond_8 wc_170 (vin (bd_c (v := 0) (lo := 0) (hi := 0) (by decide)) (by decide)) ?_
  refine J_ci (v := u 170 0) rfl ?_
  refine J_iconst (v := 1) dX11_ofPond_9 (by decide) ?_
  refine J_isub dX11_ofPond_10 ?_
  refine J_callV (As := [.int 0, .int 0, .int ((u 170 0) - 1)]) (rest := []) dX11_ofPond_11 (c_M_take0 (d := 3) (u := u) (g := g) (ex := ex) (low := 0) (high := ((u 170 0) - 1))  (by decide) hp0 hp1 hp2 hp3) hq.n k1456 k1458 k44 wc_162 rfl rfl k97 k1459 np_X11_take (Nat.le_trans (by decide) hd) (by decide) (Nat.le_refl _) (Nat.le_refl _) wlen rfl (Nat.le_of_ble_eq_true rfl) (fun r_ h_ p1 => ?_)
  obtain ⟨t2, u3, g4, rfl, rfl, h5, h6, h7, h8, h9, h10, h11, fr12, fc13, fc14⟩ := p1
  refine J_ifB_ne (tgt := 19) dX11_ofPond_14 (by decide) (fun c15 => ?_) (fun c15 => ?_)
  · refine J_iload_n (i := 1) (j := 1) dX11_ofPond_19 rfl rfl ?_
    refine J_bipush (v := 8) dX11_ofPond_20 (by decide) ?_
    refine J_icmp_eq (tgt := 31) dX11_ofPond_22 (by decide) (fun c16 => ?_) (fun c16 => ?_)
    · exact (bd_neq c16 hp6 (bd_c (v := 8) (lo := 8) (hi := 8) (by decide)) (by decide)).elim
    · refine J_iload_n (i := 1) (j := 1) dX11_ofPond_25 rfl rfl ?_
      refine J_bipush (v := 9) dX11_ofPond_26 (by decide) ?_
      refine J_icmp_ne (tgt := 35) dX11_ofPond_28 (by decide) (fun c17 => ?_) (fun c17 => ?_)
      · refine J_iconst (v := 0) dX11_ofPond_35 (by decide) ?_
        refine J_istore (i := 6) (lw := [(6, .int 0), (0, .ref 162), (1, .int to), (2, .int 2), (3, .int low), (4, .int high), (5, .int second)]) dX11_ofPond_36 (by decide) rfl ?_
        refine J_aload_n (i := 0) (j := 1) dX11_ofPond_38 rfl rfl ?_
        refine J_iconst (v := 1) dX11_ofPond_39 (by decide) ?_
        refine J_iload (i := 6) (j := 0) dX11_ofPond_40 rfl ?_
        refine J_if_eq (tgt := 56) dX11_ofPond_42 (by decide) (fun _ => ?_) (fun q => absurd (by decide) q)
        refine J_iload_n (i := 3) (j := 4) dX11_ofPond_56 rfl rfl ?_
        refine J_iload (i := 6) (j := 0) dX11_ofPond_57 rfl ?_
        refine J_if_eq (tgt := 73) dX11_ofPond_59 (by decide) (fun _ => ?_) (fun q => absurd (by decide) q)
        refine J_iload (i := 4) (j := 5) dX11_ofPond_73 rfl ?_
        refine J_callV (As := [.int 1, .int low, .int high]) (rest := []) dX11_ofPond_75 (c_M_take1 (d := 3) (u := u3) (g := g4) (ex := ex) (low := low) (high := high)  (by decide) h5 (bd_r (fc13 9 (by decide) (by decide) (by decide) (by decide) (by decide) (by decide) (by decide) (by decide) (by decide)) hp1) h6 h7) hq.n k1456 k1458 k44 wc_162 rfl rfl k97 k1459 np_X11_take (Nat.le_trans (by decide) hd) (by decide) (Nat.le_refl _) (Nat.le_refl _) wlen rfl (Nat.le_of_ble_eq_true rfl) (fun r_ h_ p18 => ?_)
        obtain ⟨t19, u20, g21, rfl, rfl, h22, h23, h24, h25, h26, h27, h28, fr29, fc30, fc31⟩ := p18
        refine J_ifB_eq (tgt := 97) dX11_ofPond_78 (by decide) (fun c32 => ?_) (fun c32 => ?_)
        · refine J_iconst (v := 0) dX11_ofPond_97 (by decide) ?_
          exact J_zret hq dX11_ofPond_98 rfl rfl wlen (Nat.le_refl _) (Nat.le_refl _) ⟨false, u20, g21, rfl, rfl, h22, h23, h24, (ab_i fc31 (ab_i fc14 hp4 (bd_w (l := (-1)) (h := 999) h8 (by decide))) (bd_w (l := (-1)) (h := 999) h25 (by decide))), (rh_c ((fr29 170 (by decide) (by decide)).trans (fr12 170 (by decide) (by decide))) hp5), (fun q => absurd q (by decide)), (fun c k0_ k1_ k2_ => ((fr29 c k0_ k2_).trans (fr12 c k0_ k2_))), (fun j k8_ k10_ k11_ k12_ k14_ k15_ k16_ k17_ k18_ => ((fc30 j k8_ k10_ k11_ k12_ k14_ k15_ k16_ k17_ k18_).trans (fc13 j k8_ k10_ k11_ k12_ k14_ k15_ k16_ k17_ k18_)))⟩
        · refine J_iload_n (i := 2) (j := 3) dX11_ofPond_81 rfl rfl ?_
          refine J_iconst (v := 2) dX11_ofPond_82 (by decide) ?_
          refine J_icmp_ne (tgt := 99) dX11_ofPond_83 (by decide) (fun q => absurd (by decide) q) (fun _ => ?_)
          refine J_aload_n (i := 0) (j := 1) dX11_ofPond_86 rfl rfl ?_
          refine J_iconst (v := 2) dX11_ofPond_87 (by decide) ?_
          refine J_iconst (v := 0) dX11_ofPond_88 (by decide) ?_
          refine J_iload (i := 5) (j := 6) dX11_ofPond_89 rfl ?_
          refine J_callV (As := [.int 2, .int 0, .int second]) (rest := []) dX11_ofPond_91 (c_M_take2 (d := 3) (u := u20) (g := g21) (ex := ex) (low := 0) (high := second)  (by decide) h22 (bd_r ((fc30 9 (by decide) (by decide) (by decide) (by decide) (by decide) (by decide) (by decide) (by decide) (by decide)).trans (fc13 9 (by decide) (by decide) (by decide) (by decide) (by decide) (by decide) (by decide) (by decide) (by decide))) hp1) h23 h24) hq.n k1456 k1458 k44 wc_162 rfl rfl k97 k1459 np_X11_take (Nat.le_trans (by decide) hd) (by decide) (Nat.le_refl _) (Nat.le_refl _) wlen rfl (Nat.le_of_ble_eq_true rfl) (fun r_ h_ p33 => ?_)
          obtain ⟨t34, u35, g36, rfl, rfl, h37, h38, h39, h40, h41, h42, h43, fr44, fc45, fc46⟩ := p33
          refine J_ifB_ne (tgt := 99) dX11_ofPond_94 (by decide) (fun c47 => ?_) (fun c47 => ?_)
          · refine J_aload_n (i := 0) (j := 1) dX11_ofPond_99 rfl rfl ?_
            refine J_get (C := RX11) (T := TX11) (Z := 43) (ci := 11) (f := 18) dX11_ofPond_100 inG11 rfl (by decide) k1282 wc_162 rfl ?_
            refine J_if_eq (tgt := 163) dX11_ofPond_103 (by decide) (fun c48 => ?_) (fun c48 => ?_)
            · refine J_iconst (v := 1) dX11_ofPond_163 (by decide) ?_
              exact J_zret hq dX11_ofPond_164 rfl rfl wlen (Nat.le_refl _) (Nat.le_refl _) ⟨true, u35, g36, rfl, rfl, h37, h38, h39, (ab_i fc46 (ab_i fc31 (ab_i fc14 hp4 (bd_w (l := (-1)) (h := 999) h8 (by decide))) (bd_w (l := (-1)) (h := 999) h25 (by decide))) (bd_w (l := (-1)) (h := 999) h40 (by decide))), (rh_c ((fr44 170 (by decide) (by decide)).trans ((fr29 170 (by decide) (by decide)).trans (fr12 170 (by decide) (by decide)))) hp5), (fun _ => (gv_r rfl rfl rfl (gv_t (gv_t (h9 c15) (h26 c32)) (h41 c47)))), (fun c k0_ k1_ k2_ => ((fr44 c k0_ k2_).trans ((fr29 c k0_ k2_).trans (fr12 c k0_ k2_)))), (fun j k8_ k10_ k11_ k12_ k14_ k15_ k16_ k17_ k18_ => ((fc45 j k8_ k10_ k11_ k12_ k14_ k15_ k16_ k17_ k18_).trans ((fc30 j k8_ k10_ k11_ k12_ k14_ k15_ k16_ k17_ k18_).trans (fc13 j k8_ k10_ k11_ k12_ k14_ k15_ k16_ k17_ k18_))))⟩
            · have ho49 := Or.resolve_left (h42 c47) c48
              have hg50 : ¬ u20 162 18 = 0 := fun e => Or.elim h43 c48 (fun q => c48 (q.trans e))
              have ho51 := Or.resolve_left (h27 c32) hg50
              have hg52 : ¬ u3 162 18 = 0 := fun e => Or.elim h28 hg50 (fun q => hg50 (q.trans e))
              have ho53 := Or.resolve_left (h10 c15) hg52
              have hg54 : ¬ u 162 18 = 0 := fun e => Or.elim h11 hg52 (fun q => hg52 (q.trans e))
              refine J_aload_n (i := 0) (j := 1) dX11_ofPond_106 rfl rfl ?_
              refine J_get (C := RX11) (T := TX11) (Z := 43) (ci := 11) (f := 19) dX11_ofPond_107 inG11 rfl (by decide) k1283 wc_162 rfl ?_
              refine J_bipush (v := 13) dX11_ofPond_110 (by decide) ?_
              refine J_bipush (v := 16) dX11_ofPond_112 (by decide) ?_
              refine J_aload_n (i := 0) (j := 1) dX11_ofPond_114 rfl rfl ?_
              refine J_get (C := RX11) (T := TX11) (Z := 43) (ci := 11) (f := 20) dX11_ofPond_115 inG11 rfl (by decide) k1284 wc_162 rfl ?_
              refine J_iconst (v := 0) dX11_ofPond_118 (by decide) ?_
              refine J_iald dX11_ofPond_119 wc_171 (vin (bd_c (v := 0) (lo := 0) (hi := 0) (by decide)) (by decide)) ?_
              refine J_ci (v := u3 171 0) ((fc46 0 (by decide)).trans (fc31 0 (by decide))) ?_
              refine J_imul dX11_ofPond_120 ?_
              refine J_iadd dX11_ofPond_121 ?_
              refine J_iload_n (i := 1) (j := 2) dX11_ofPond_122 rfl rfl ?_
              refine J_iadd dX11_ofPond_123 ?_
              refine J_aload_n (i := 0) (j := 1) dX11_ofPond_124 rfl rfl ?_
              refine J_get (C := RX11) (T := TX11) (Z := 43) (ci := 11) (f := 20) dX11_ofPond_125 inG11 rfl (by decide) k1284 wc_162 rfl ?_
              refine J_iconst (v := 1) dX11_ofPond_128 (by decide) ?_
              refine J_iald dX11_ofPond_129 wc_171 (vin (bd_c (v := 1) (lo := 1) (hi := 1) (by decide)) (by decide)) ?_
              refine J_ci (v := u20 171 1) (fc46 1 (by decide)) ?_
              obtain ⟨u55, e56⟩ : ∃ z, z = ms u35 170 ((((13 : Int32) + ((16 : Int32) * (u3 171 0))) + to).toNatClampNeg) (u20 171 1) := ⟨_, rfl⟩
              refine J_iast dX11_ofPond_130 wc_170 (vin (bd_add (l := 23) (h := 154) (bd_add (l := 13) (h := 141) (bd_c (v := 13) (lo := 13) (hi := 13) (by decide)) (bd_mul (l := 0) (h := 128) (bd_c (v := 16) (lo := 16) (hi := 16) (by decide)) (bd_le_hi h8 ho53.2 (bd_sub (l := (-1)) (h := 8) (hp5).2.1 (bd_c (v := 1) (lo := 1) (hi := 1) (by decide)) (by decide))) (by decide)) (by decide)) (bd_ne_lo hp6 c17 (by decide)) (by decide)) (by decide)) (ws e56 wk_170 rfl) ?_
              refine J_iload_n (i := 2) (j := 3) dX11_ofPond_131 rfl rfl ?_
              refine J_iconst (v := 2) dX11_ofPond_132 (by decide) ?_
              refine J_icmp_ne (tgt := 163) dX11_ofPond_133 (by decide) (fun q => absurd (by decide) q) (fun _ => ?_)
              refine J_aload_n (i := 0) (j := 1) dX11_ofPond_136 rfl rfl ?_
              refine J_get (C := RX11) (T := TX11) (Z := 43) (ci := 11) (f := 19) dX11_ofPond_137 inG11 rfl (by decide) k1283 wc_162 rfl ?_
              refine J_bipush (v := 13) dX11_ofPond_140 (by decide) ?_
              refine J_bipush (v := 16) dX11_ofPond_142 (by decide) ?_
              refine J_aload_n (i := 0) (j := 1) dX11_ofPond_144 rfl rfl ?_
              refine J_get (C := RX11) (T := TX11) (Z := 43) (ci := 11) (f := 20) dX11_ofPond_145 inG11 rfl (by decide) k1284 wc_162 rfl ?_
              refine J_iconst (v := 0) dX11_ofPond_148 (by decide) ?_
              refine J_iald dX11_ofPond_149 wc_171 (vin (bd_c (v := 0) (lo := 0) (hi := 0) (by decide)) (by decide)) ?_
              refine J_ci (v := u3 171 0) ((congrFun (ms_c e56 (by decide)) 0).trans ((fc46 0 (by decide)).trans (fc31 0 (by decide)))) ?_
              refine J_imul dX11_ofPond_150 ?_
              refine J_iadd dX11_ofPond_151 ?_
              refine J_iload_n (i := 1) (j := 2) dX11_ofPond_152 rfl rfl ?_
              refine J_iadd dX11_ofPond_153 ?_
              refine J_iconst (v := 1) dX11_ofPond_154 (by decide) ?_
              refine J_iadd dX11_ofPond_155 ?_
              refine J_aload_n (i := 0) (j := 1) dX11_ofPond_156 rfl rfl ?_
              refine J_get (C := RX11) (T := TX11) (Z := 43) (ci := 11) (f := 20) dX11_ofPond_157 inG11 rfl (by decide) k1284 wc_162 rfl ?_
              refine J_iconst (v := 2) dX11_ofPond_160 (by decide) ?_
              refine J_iald dX11_ofPond_161 wc_171 (vin (bd_c (v := 2) (lo := 2) (hi := 2) (by decide)) (by decide)) ?_
              refine J_ci (v := u35 171 2) (congrFun (ms_c e56 (by decide)) 2) ?_
              obtain ⟨u57, e58⟩ : ∃ z, z = ms u55 170 (((((13 : Int32) + ((16 : Int32) * (u3 171 0))) + to) + 1).toNatClampNeg) (u35 171 2) := ⟨_, rfl⟩
              refine J_iast dX11_ofPond_162 wc_170 (vin (bd_add (l := 24) (h := 155) (bd_add (l := 23) (h := 154) (bd_add (l := 13) (h := 141) (bd_c (v := 13) (lo := 13) (hi := 13) (by decide)) (bd_mul (l := 0) (h := 128) (bd_c (v := 16) (lo := 16) (hi := 16) (by decide)) (bd_le_hi h8 ho53.2 (bd_sub (l := (-1)) (h := 8) (hp5).2.1 (bd_c (v := 1) (lo := 1) (hi := 1) (by decide)) (by decide))) (by decide)) (by decide)) (bd_ne_lo hp6 c17 (by decide)) (by decide)) (bd_c (v := 1) (lo := 1) (hi := 1) (by decide)) (by decide)) (by decide)) (ws e58 wk_170 rfl) ?_
              refine J_iconst (v := 1) dX11_ofPond_163 (by decide) ?_
              exact J_zret hq dX11_ofPond_164 rfl rfl wlen (Nat.le_refl _) (Nat.le_refl _) ⟨true, u57, g36, rfl, rfl, (bd_r ((congrFun (ms_c e58 (by decide)) 8).trans (congrFun (ms_c e56 (by decide)) 8)) h37), (bd_r ((congrFun (ms_c e58 (by decide)) 12).trans (congrFun (ms_c e56 (by decide)) 12)) h38), (bd_r ((congrFun (ms_c e58 (by decide)) 17).trans (congrFun (ms_c e56 (by decide)) 17)) h39), (ab_c ((ms_c e58 (by decide)).trans (ms_c e56 (by decide))) (ab_i fc46 (ab_i fc31 (ab_i fc14 hp4 (bd_w (l := (-1)) (h := 999) (bd_le_hi h8 ho53.2 (bd_sub (l := (-1)) (h := 8) (hp5).2.1 (bd_c (v := 1) (lo := 1) (hi := 1) (by decide)) (by decide))) (by decide))) (bd_w (l := (-1)) (h := 999) h25 (by decide))) (bd_w (l := (-1)) (h := 999) h40 (by decide)))), (rh_p1 e58 (bd_le_hi h8 ho53.2 (bd_sub (l := (-1)) (h := 8) (hp5).2.1 (bd_c (v := 1) (lo := 1) (hi := 1) (by decide)) (by decide))) (bd_w (l := 0) (h := 15) (bd_add (l := 11) (h := 14) (bd_ne_lo hp6 c17 (by decide)) (bd_c (v := 1) (lo := 1) (hi := 1) (by decide)) (by decide)) (by decide)) (bd_w (l := (-1)) (h := 999) h40 (by decide)) (bd_n89 (bd_add (l := 11) (h := 14) (bd_ne_lo hp6 c17 (by decide)) (bd_c (v := 1) (lo := 1) (hi := 1) (by decide)) (by decide)) (by decide)) (rh_p e56 (bd_le_hi h8 ho53.2 (bd_sub (l := (-1)) (h := 8) (hp5).2.1 (bd_c (v := 1) (lo := 1) (hi := 1) (by decide)) (by decide))) (bd_w (l := 0) (h := 15) (bd_ne_lo hp6 c17 (by decide)) (by decide)) (bd_w (l := (-1)) (h := 999) h25 (by decide)) (bd_n89 (bd_ne_lo hp6 c17 (by decide)) (by decide)) (rh_c ((fr44 170 (by decide) (by decide)).trans ((fr29 170 (by decide) (by decide)).trans (fr12 170 (by decide) (by decide)))) hp5))), (fun _ => (gv_r rfl ((congrFun (ms_c e58 (by decide)) 8).trans (congrFun (ms_c e56 (by decide)) 8)) ((congrFun (ms_c e58 (by decide)) 11).trans (congrFun (ms_c e56 (by decide)) 11)) (gv_t (gv_t (h9 c15) (h26 c32)) (h41 c47)))), (fun c k0_ k1_ k2_ => ((ms_c e58 k1_).trans ((ms_c e56 k1_).trans ((fr44 c k0_ k2_).trans ((fr29 c k0_ k2_).trans (fr12 c k0_ k2_)))))), (fun j k8_ k10_ k11_ k12_ k14_ k15_ k16_ k17_ k18_ => ((congrFun (ms_c e58 (by decide)) j).trans ((congrFun (ms_c e56 (by decide)) j).trans ((fc45 j k8_ k10_ k11_ k12_ k14_ k15_ k16_ k17_ k18_).trans ((fc30 j k8_ k10_ k11_ k12_ k14_ k15_ k16_ k17_ k18_).trans (fc13 j k8_ k10_ k11_ k12_ k14_ k15_ k16_ k17_ k18_))))))⟩
          · refine J_iconst (v := 0) dX11_ofPond_97 (by decide) ?_
            exact J_zret hq dX11_ofPond_98 rfl rfl wlen (Nat.le_refl _) (Nat.le_refl _) ⟨false, u35, g36, rfl, rfl, h37, h38, h39, (ab_i fc46 (ab_i fc31 (ab_i fc14 hp4 (bd_w (l := (-1)) (h := 999) h8 (by decide))) (bd_w (l := (-1)) (h := 999) h25 (by decide))) (bd_w (l := (-1)) (h := 999) h40 (by decide))), (rh_c ((fr44 170 (by decide) (by decide)).trans ((fr29 170 (by decide) (by decide)).trans (fr12 170 (by decide) (by decide)))) hp5), (fun q => absurd q (by decide)), (fun c k0_ k1_ k2_ => ((fr44 c k0_ k2_).trans ((fr29 c k0_ k2_).trans (fr12 c k0_ k2_)))), (fun j k8_ k10_ k11_ k12_ k14_ k15_ k16_ k17_ k18_ => ((fc45 j k8_ k10_ k11_ k12_ k14_ k15_ k16_ k17_ k18_).trans ((fc30 j k8_ k10_ k11_ k12_ k14_ k15_ k16_ k17_ k18_).trans (fc13 j k8_ k10_ k11_ k12_ k14_ k15_ k16_ k17_ k18_))))⟩
      · refine J_iconst (v := 1) dX11_ofPond_31 (by decide) ?_
        refine J_goto (tgt := 36) dX11_ofPond_32 (by decide) ?_
        refine J_istore (i := 6) (lw := [(6, .int 1), (0, .ref 162), (1, .int to), (2, .int 2), (3, .int low), (4, .int high), (5, .int second)]) dX11_ofPond_36 (by decide) rfl ?_
        refine J_aload_n (i := 0) (j := 1) dX11_ofPond_38 rfl rfl ?_
        refine J_iconst (v := 1) dX11_ofPond_39 (by decide) ?_
        refine J_iload (i := 6) (j := 0) dX11_ofPond_40 rfl ?_
        refine J_if_eq (tgt := 56) dX11_ofPond_42 (by decide) (fun q => absurd q (by decide)) (fun _ => ?_)
        refine J_aload_n (i := 0) (j := 1) dX11_ofPond_45 rfl rfl ?_
        refine J_get (C := RX11) (T := TX11) (Z := 43) (ci := 11) (f := 20) dX11_ofPond_46 inG11 rfl (by decide) k1284 wc_162 rfl ?_
        refine J_iconst (v := 0) dX11_ofPond_49 (by decide) ?_
        refine J_iald dX11_ofPond_50 wc_171 (vin (bd_c (v := 0) (lo := 0) (hi := 0) (by decide)) (by decide)) ?_
        refine J_ci (v := u3 171 0) rfl ?_
        refine J_iconst (v := 1) dX11_ofPond_51 (by decide) ?_
        refine J_iadd dX11_ofPond_52 ?_
        refine J_goto (tgt := 57) dX11_ofPond_53 (by decide) ?_
        refine J_iload (i := 6) (j := 0) dX11_ofPond_57 rfl ?_
        refine J_if_eq (tgt := 73) dX11_ofPond_59 (by decide) (fun q => absurd q (by decide)) (fun _ => ?_)
        refine J_aload_n (i := 0) (j := 1) dX11_ofPond_62 rfl rfl ?_
        refine J_get (C := RX11) (T := TX11) (Z := 43) (ci := 11) (f := 19) dX11_ofPond_63 inG11 rfl (by decide) k1283 wc_162 rfl ?_
        refine J_iconst (v := 0) dX11_ofPond_66 (by decide) ?_
        refine J_iald dX11_ofPond_67 wc_170 (vin (bd_c (v := 0) (lo := 0) (hi := 0) (by decide)) (by decide)) ?_
        refine J_ci (v := u 170 0) (congrFun (fr12 170 (by decide) (by decide)) 0) ?_
        refine J_iconst (v := 1) dX11_ofPond_68 (by decide) ?_
        refine J_isub dX11_ofPond_69 ?_
        refine J_goto (tgt := 75) dX11_ofPond_70 (by decide) ?_
        refine J_callV (As := [.int 1, .int ((u3 171 0) + 1), .int ((u 170 0) - 1)]) (rest := []) dX11_ofPond_75 (c_M_take1 (d := 3) (u := u3) (g := g4) (ex := ex) (low := ((u3 171 0) + 1)) (high := ((u 170 0) - 1))  (by decide) h5 (bd_r (fc13 9 (by decide) (by decide) (by decide) (by decide) (by decide) (by decide) (by decide) (by decide) (by decide)) hp1) h6 h7) hq.n k1456 k1458 k44 wc_162 rfl rfl k97 k1459 np_X11_take (Nat.le_trans (by decide) hd) (by decide) (Nat.le_refl _) (Nat.le_refl _) wlen rfl (Nat.le_of_ble_eq_true rfl) (fun r_ h_ p59 => ?_)
        obtain ⟨t60, u61, g62, rfl, rfl, h63, h64, h65, h66, h67, h68, h69, fr70, fc71, fc72⟩ := p59
        refine J_ifB_eq (tgt := 97) dX11_ofPond_78 (by decide) (fun c73 => ?_) (fun c73 => ?_)
        · refine J_iconst (v := 0) dX11_ofPond_97 (by decide) ?_
          exact J_zret hq dX11_ofPond_98 rfl rfl wlen (Nat.le_refl _) (Nat.le_refl _) ⟨false, u61, g62, rfl, rfl, h63, h64, h65, (ab_i fc72 (ab_i fc14 hp4 (bd_w (l := (-1)) (h := 999) h8 (by decide))) (bd_w (l := (-1)) (h := 999) h66 (by decide))), (rh_c ((fr70 170 (by decide) (by decide)).trans (fr12 170 (by decide) (by decide))) hp5), (fun q => absurd q (by decide)), (fun c k0_ k1_ k2_ => ((fr70 c k0_ k2_).trans (fr12 c k0_ k2_))), (fun j k8_ k10_ k11_ k12_ k14_ k15_ k16_ k17_ k18_ => ((fc71 j k8_ k10_ k11_ k12_ k14_ k15_ k16_ k17_ k18_).trans (fc13 j k8_ k10_ k11_ k12_ k14_ k15_ k16_ k17_ k18_)))⟩
        · refine J_iload_n (i := 2) (j := 3) dX11_ofPond_81 rfl rfl ?_
          refine J_iconst (v := 2) dX11_ofPond_82 (by decide) ?_
          refine J_icmp_ne (tgt := 99) dX11_ofPond_83 (by decide) (fun q => absurd (by decide) q) (fun _ => ?_)
          refine J_aload_n (i := 0) (j := 1) dX11_ofPond_86 rfl rfl ?_
          refine J_iconst (v := 2) dX11_ofPond_87 (by decide) ?_
          refine J_iconst (v := 0) dX11_ofPond_88 (by decide) ?_
          refine J_iload (i := 5) (j := 6) dX11_ofPond_89 rfl ?_
          refine J_callV (As := [.int 2, .int 0, .int second]) (rest := []) dX11_ofPond_91 (c_M_take2 (d := 3) (u := u61) (g := g62) (ex := ex) (low := 0) (high := second)  (by decide) h63 (bd_r ((fc71 9 (by decide) (by decide) (by decide) (by decide) (by decide) (by decide) (by decide) (by decide) (by decide)).trans (fc13 9 (by decide) (by decide) (by decide) (by decide) (by decide) (by decide) (by decide) (by decide) (by decide))) hp1) h64 h65) hq.n k1456 k1458 k44 wc_162 rfl rfl k97 k1459 np_X11_take (Nat.le_trans (by decide) hd) (by decide) (Nat.le_refl _) (Nat.le_refl _) wlen rfl (Nat.le_of_ble_eq_true rfl) (fun r_ h_ p74 => ?_)
          obtain ⟨t75, u76, g77, rfl, rfl, h78, h79, h80, h81, h82, h83, h84, fr85, fc86, fc87⟩ := p74
          refine J_ifB_ne (tgt := 99) dX11_ofPond_94 (by decide) (fun c88 => ?_) (fun c88 => ?_)
          · refine J_aload_n (i := 0) (j := 1) dX11_ofPond_99 rfl rfl ?_
            refine J_get (C := RX11) (T := TX11) (Z := 43) (ci := 11) (f := 18) dX11_ofPond_100 inG11 rfl (by decide) k1282 wc_162 rfl ?_
            refine J_if_eq (tgt := 163) dX11_ofPond_103 (by decide) (fun c89 => ?_) (fun c89 => ?_)
            · refine J_iconst (v := 1) dX11_ofPond_163 (by decide) ?_
              exact J_zret hq dX11_ofPond_164 rfl rfl wlen (Nat.le_refl _) (Nat.le_refl _) ⟨true, u76, g77, rfl, rfl, h78, h79, h80, (ab_i fc87 (ab_i fc72 (ab_i fc14 hp4 (bd_w (l := (-1)) (h := 999) h8 (by decide))) (bd_w (l := (-1)) (h := 999) h66 (by decide))) (bd_w (l := (-1)) (h := 999) h81 (by decide))), (rh_c ((fr85 170 (by decide) (by decide)).trans ((fr70 170 (by decide) (by decide)).trans (fr12 170 (by decide) (by decide)))) hp5), (fun _ => (gv_r rfl rfl rfl (gv_t (gv_t (h9 c15) (h67 c73)) (h82 c88)))), (fun c k0_ k1_ k2_ => ((fr85 c k0_ k2_).trans ((fr70 c k0_ k2_).trans (fr12 c k0_ k2_)))), (fun j k8_ k10_ k11_ k12_ k14_ k15_ k16_ k17_ k18_ => ((fc86 j k8_ k10_ k11_ k12_ k14_ k15_ k16_ k17_ k18_).trans ((fc71 j k8_ k10_ k11_ k12_ k14_ k15_ k16_ k17_ k18_).trans (fc13 j k8_ k10_ k11_ k12_ k14_ k15_ k16_ k17_ k18_))))⟩
            · have ho90 := Or.resolve_left (h83 c88) c89
              have hg91 : ¬ u61 162 18 = 0 := fun e => Or.elim h84 c89 (fun q => c89 (q.trans e))
              have ho92 := Or.resolve_left (h68 c73) hg91
              have hg93 : ¬ u3 162 18 = 0 := fun e => Or.elim h69 hg91 (fun q => hg91 (q.trans e))
              have ho94 := Or.resolve_left (h10 c15) hg93
              have hg95 : ¬ u 162 18 = 0 := fun e => Or.elim h11 hg93 (fun q => hg93 (q.trans e))
              refine J_aload_n (i := 0) (j := 1) dX11_ofPond_106 rfl rfl ?_
              refine J_get (C := RX11) (T := TX11) (Z := 43) (ci := 11) (f := 19) dX11_ofPond_107 inG11 rfl (by decide) k1283 wc_162 rfl ?_
              refine J_bipush (v := 13) dX11_ofPond_110 (by decide) ?_
              refine J_bipush (v := 16) dX11_ofPond_112 (by decide) ?_
              refine J_aload_n (i := 0) (j := 1) dX11_ofPond_114 rfl rfl ?_
              refine J_get (C := RX11) (T := TX11) (Z := 43) (ci := 11) (f := 20) dX11_ofPond_115 inG11 rfl (by decide) k1284 wc_162 rfl ?_
              refine J_iconst (v := 0) dX11_ofPond_118 (by decide) ?_
              refine J_iald dX11_ofPond_119 wc_171 (vin (bd_c (v := 0) (lo := 0) (hi := 0) (by decide)) (by decide)) ?_
              refine J_ci (v := u3 171 0) ((fc87 0 (by decide)).trans (fc72 0 (by decide))) ?_
              refine J_imul dX11_ofPond_120 ?_
              refine J_iadd dX11_ofPond_121 ?_
              refine J_iload_n (i := 1) (j := 2) dX11_ofPond_122 rfl rfl ?_
              refine J_iadd dX11_ofPond_123 ?_
              refine J_aload_n (i := 0) (j := 1) dX11_ofPond_124 rfl rfl ?_
              refine J_get (C := RX11) (T := TX11) (Z := 43) (ci := 11) (f := 20) dX11_ofPond_125 inG11 rfl (by decide) k1284 wc_162 rfl ?_
              refine J_iconst (v := 1) dX11_ofPond_128 (by decide) ?_
              refine J_iald dX11_ofPond_129 wc_171 (vin (bd_c (v := 1) (lo := 1) (hi := 1) (by decide)) (by decide)) ?_
              refine J_ci (v := u61 171 1) (fc87 1 (by decide)) ?_
              obtain ⟨u96, e97⟩ : ∃ z, z = ms u76 170 ((((13 : Int32) + ((16 : Int32) * (u3 171 0))) + to).toNatClampNeg) (u61 171 1) := ⟨_, rfl⟩
              refine J_iast dX11_ofPond_130 wc_170 (vin (bd_add (l := 22) (h := 134) (bd_add (l := 13) (h := 125) (bd_c (v := 13) (lo := 13) (hi := 13) (by decide)) (bd_mul (l := 0) (h := 112) (bd_c (v := 16) (lo := 16) (hi := 16) (by decide)) (bd_adc (c := 1) (h := 7) h8 ho92.1 (bd_le_hi h66 ho92.2 (bd_le_lo (bd_sub (l := (-1)) (h := 8) (hp5).2.1 (bd_c (v := 1) (lo := 1) (hi := 1) (by decide)) (by decide)) ho94.2 h8)) (by decide)) (by decide)) (by decide)) (bd_r c17 (bd_c (v := 9) (lo := 9) (hi := 9) (by decide))) (by decide)) (by decide)) (ws e97 wk_170 rfl) ?_
              refine J_iload_n (i := 2) (j := 3) dX11_ofPond_131 rfl rfl ?_
              refine J_iconst (v := 2) dX11_ofPond_132 (by decide) ?_
              refine J_icmp_ne (tgt := 163) dX11_ofPond_133 (by decide) (fun q => absurd (by decide) q) (fun _ => ?_)
              refine J_aload_n (i := 0) (j := 1) dX11_ofPond_136 rfl rfl ?_
              refine J_get (C := RX11) (T := TX11) (Z := 43) (ci := 11) (f := 19) dX11_ofPond_137 inG11 rfl (by decide) k1283 wc_162 rfl ?_
              refine J_bipush (v := 13) dX11_ofPond_140 (by decide) ?_
              refine J_bipush (v := 16) dX11_ofPond_142 (by decide) ?_
              refine J_aload_n (i := 0) (j := 1) dX11_ofPond_144 rfl rfl ?_
              refine J_get (C := RX11) (T := TX11) (Z := 43) (ci := 11) (f := 20) dX11_ofPond_145 inG11 rfl (by decide) k1284 wc_162 rfl ?_
              refine J_iconst (v := 0) dX11_ofPond_148 (by decide) ?_
              refine J_iald dX11_ofPond_149 wc_171 (vin (bd_c (v := 0) (lo := 0) (hi := 0) (by decide)) (by decide)) ?_
              refine J_ci (v := u3 171 0) ((congrFun (ms_c e97 (by decide)) 0).trans ((fc87 0 (by decide)).trans (fc72 0 (by decide)))) ?_
              refine J_imul dX11_ofPond_150 ?_
              refine J_iadd dX11_ofPond_151 ?_
              refine J_iload_n (i := 1) (j := 2) dX11_ofPond_152 rfl rfl ?_
              refine J_iadd dX11_ofPond_153 ?_
              refine J_iconst (v := 1) dX11_ofPond_154 (by decide) ?_
              refine J_iadd dX11_ofPond_155 ?_
              refine J_aload_n (i := 0) (j := 1) dX11_ofPond_156 rfl rfl ?_
              refine J_get (C := RX11) (T := TX11) (Z := 43) (ci := 11) (f := 20) dX11_ofPond_157 inG11 rfl (by decide) k1284 wc_162 rfl ?_
              refine J_iconst (v := 2) dX11_ofPond_160 (by decide) ?_
              refine J_iald dX11_ofPond_161 wc_171 (vin (bd_c (v := 2) (lo := 2) (hi := 2) (by decide)) (by decide)) ?_
              refine J_ci (v := u76 171 2) (congrFun (ms_c e97 (by decide)) 2) ?_
              obtain ⟨u98, e99⟩ : ∃ z, z = ms u96 170 (((((13 : Int32) + ((16 : Int32) * (u3 171 0))) + to) + 1).toNatClampNeg) (u76 171 2) := ⟨_, rfl⟩
              refine J_iast dX11_ofPond_162 wc_170 (vin (bd_add (l := 23) (h := 135) (bd_add (l := 22) (h := 134) (bd_add (l := 13) (h := 125) (bd_c (v := 13) (lo := 13) (hi := 13) (by decide)) (bd_mul (l := 0) (h := 112) (bd_c (v := 16) (lo := 16) (hi := 16) (by decide)) (bd_adc (c := 1) (h := 7) h8 ho92.1 (bd_le_hi h66 ho92.2 (bd_le_lo (bd_sub (l := (-1)) (h := 8) (hp5).2.1 (bd_c (v := 1) (lo := 1) (hi := 1) (by decide)) (by decide)) ho94.2 h8)) (by decide)) (by decide)) (by decide)) (bd_r c17 (bd_c (v := 9) (lo := 9) (hi := 9) (by decide))) (by decide)) (bd_c (v := 1) (lo := 1) (hi := 1) (by decide)) (by decide)) (by decide)) (ws e99 wk_170 rfl) ?_
              refine J_iconst (v := 1) dX11_ofPond_163 (by decide) ?_
              exact J_zret hq dX11_ofPond_164 rfl rfl wlen (Nat.le_refl _) (Nat.le_refl _) ⟨true, u98, g77, rfl, rfl, (bd_r ((congrFun (ms_c e99 (by decide)) 8).trans (congrFun (ms_c e97 (by decide)) 8)) h78), (bd_r ((congrFun (ms_c e99 (by decide)) 12).trans (congrFun (ms_c e97 (by decide)) 12)) h79), (bd_r ((congrFun (ms_c e99 (by decide)) 17).trans (congrFun (ms_c e97 (by decide)) 17)) h80), (ab_c ((ms_c e99 (by decide)).trans (ms_c e97 (by decide))) (ab_i fc87 (ab_i fc72 (ab_i fc14 hp4 (bd_w (l := (-1)) (h := 999) (bd_adc (c := 1) (h := 7) h8 ho92.1 (bd_le_hi h66 ho92.2 (bd_le_lo (bd_sub (l := (-1)) (h := 8) (hp5).2.1 (bd_c (v := 1) (lo := 1) (hi := 1) (by decide)) (by decide)) ho94.2 h8)) (by decide)) (by decide))) (bd_w (l := (-1)) (h := 999) (bd_le_hi (bd_le_lo h66 ho92.1 (bd_add (l := 1) (h := 9) (bd_le_hi h8 ho94.2 (bd_le_lo (bd_sub (l := (-1)) (h := 8) (hp5).2.1 (bd_c (v := 1) (lo := 1) (hi := 1) (by decide)) (by decide)) ho92.2 h66)) (bd_c (v := 1) (lo := 1) (hi := 1) (by decide)) (by decide))) ho92.2 (bd_le_lo (bd_sub (l := (-1)) (h := 8) (hp5).2.1 (bd_c (v := 1) (lo := 1) (hi := 1) (by decide)) (by decide)) ho94.2 (bd_adc (c := 1) (h := 998) h8 ho92.1 h66 (by decide)))) (by decide))) (bd_w (l := (-1)) (h := 999) h81 (by decide)))), (rh_p1 e99 (bd_w (l := 0) (h := 8) (bd_adc (c := 1) (h := 7) h8 ho92.1 (bd_le_hi h66 ho92.2 (bd_le_lo (bd_sub (l := (-1)) (h := 8) (hp5).2.1 (bd_c (v := 1) (lo := 1) (hi := 1) (by decide)) (by decide)) ho94.2 h8)) (by decide)) (by decide)) (bd_w (l := 0) (h := 15) (bd_add (l := 10) (h := 10) (bd_r c17 (bd_c (v := 9) (lo := 9) (hi := 9) (by decide))) (bd_c (v := 1) (lo := 1) (hi := 1) (by decide)) (by decide)) (by decide)) (bd_w (l := (-1)) (h := 999) h81 (by decide)) (bd_n89 (bd_add (l := 10) (h := 10) (bd_r c17 (bd_c (v := 9) (lo := 9) (hi := 9) (by decide))) (bd_c (v := 1) (lo := 1) (hi := 1) (by decide)) (by decide)) (by decide)) (rh_p e97 (bd_w (l := 0) (h := 8) (bd_adc (c := 1) (h := 7) h8 ho92.1 (bd_le_hi h66 ho92.2 (bd_le_lo (bd_sub (l := (-1)) (h := 8) (hp5).2.1 (bd_c (v := 1) (lo := 1) (hi := 1) (by decide)) (by decide)) ho94.2 h8)) (by decide)) (by decide)) (bd_w (l := 0) (h := 15) (bd_r c17 (bd_c (v := 9) (lo := 9) (hi := 9) (by decide))) (by decide)) (bd_w (l := (-1)) (h := 999) (bd_le_hi (bd_le_lo h66 ho92.1 (bd_add (l := 1) (h := 9) (bd_le_hi h8 ho94.2 (bd_le_lo (bd_sub (l := (-1)) (h := 8) (hp5).2.1 (bd_c (v := 1) (lo := 1) (hi := 1) (by decide)) (by decide)) ho92.2 h66)) (bd_c (v := 1) (lo := 1) (hi := 1) (by decide)) (by decide))) ho92.2 (bd_le_lo (bd_sub (l := (-1)) (h := 8) (hp5).2.1 (bd_c (v := 1) (lo := 1) (hi := 1) (by decide)) (by decide)) ho94.2 (bd_adc (c := 1) (h := 998) h8 ho92.1 h66 (by decide)))) (by decide)) (fun _ => (bd_w (l := (-1)) (h := 8) (bd_le_hi (bd_le_lo h66 ho92.1 (bd_add (l := 1) (h := 9) (bd_le_hi h8 ho94.2 (bd_le_lo (bd_sub (l := (-1)) (h := 8) (hp5).2.1 (bd_c (v := 1) (lo := 1) (hi := 1) (by decide)) (by decide)) ho92.2 h66)) (bd_c (v := 1) (lo := 1) (hi := 1) (by decide)) (by decide))) ho92.2 (bd_le_lo (bd_sub (l := (-1)) (h := 8) (hp5).2.1 (bd_c (v := 1) (lo := 1) (hi := 1) (by decide)) (by decide)) ho94.2 (bd_adc (c := 1) (h := 998) h8 ho92.1 h66 (by decide)))) (by decide))) (rh_c ((fr85 170 (by decide) (by decide)).trans ((fr70 170 (by decide) (by decide)).trans (fr12 170 (by decide) (by decide)))) hp5))), (fun _ => (gv_r rfl ((congrFun (ms_c e99 (by decide)) 8).trans (congrFun (ms_c e97 (by decide)) 8)) ((congrFun (ms_c e99 (by decide)) 11).trans (congrFun (ms_c e97 (by decide)) 11)) (gv_t (gv_t (h9 c15) (h67 c73)) (h82 c88)))), (fun c k0_ k1_ k2_ => ((ms_c e99 k1_).trans ((ms_c e97 k1_).trans ((fr85 c k0_ k2_).trans ((fr70 c k0_ k2_).trans (fr12 c k0_ k2_)))))), (fun j k8_ k10_ k11_ k12_ k14_ k15_ k16_ k17_ k18_ => ((congrFun (ms_c e99 (by decide)) j).trans ((congrFun (ms_c e97 (by decide)) j).trans ((fc86 j k8_ k10_ k11_ k12_ k14_ k15_ k16_ k17_ k18_).trans ((fc71 j k8_ k10_ k11_ k12_ k14_ k15_ k16_ k17_ k18_).trans (fc13 j k8_ k10_ k11_ k12_ k14_ k15_ k16_ k17_ k18_))))))⟩
          · refine J_iconst (v := 0) dX11_ofPond_97 (by decide) ?_
            exact J_zret hq dX11_ofPond_98 rfl rfl wlen (Nat.le_refl _) (Nat.le_refl _) ⟨false, u76, g77, rfl, rfl, h78, h79, h80, (ab_i fc87 (ab_i fc72 (ab_i fc14 hp4 (bd_w (l := (-1)) (h := 999) h8 (by decide))) (bd_w (l := (-1)) (h := 999) h66 (by decide))) (bd_w (l := (-1)) (h := 999) h81 (by decide))), (rh_c ((fr85 170 (by decide) (by decide)).trans ((fr70 170 (by decide) (by decide)).trans (fr12 170 (by decide) (by decide)))) hp5), (fun q => absurd q (by decide)), (fun c k0_ k1_ k2_ => ((fr85 c k0_ k2_).trans ((fr70 c k0_ k2_).trans (fr12 c k0_ k2_)))), (fun j k8_ k10_ k11_ k12_ k14_ k15_ k16_ k17_ k18_ => ((fc86 j k8_ k10_ k11_ k12_ k14_ k15_ k16_ k17_ k18_).trans ((fc71 j k8_ k10_ k11_ k12_ k14_ k15_ k16_ k17_ k18_).trans (fc13 j k8_ k10_ k11_ k12_ k14_ k15_ k16_ k17_ k18_))))⟩
  · refine J_iconst (v := 0) dX11_ofPond_17 (by decide) ?_
    exact J_zret hq dX11_ofPond_18 rfl rfl wlen (Nat.le_refl _) (Nat.le_refl _) ⟨false, u3, g4, rfl, rfl, h5, h6, h7, (ab_i fc14 hp4 (bd_w (l := (-1)) (h := 999) h8 (by decide))), (rh_c (fr12 170 (by decide) (by decide)) hp5), (fun q => absurd q (by decide)), (fun c k0_ k1_ k2_ => (fr12 c k0_ k2_)), (fun j k8_ k10_ k11_ k12_ k14_ k15_ k16_ k17_ k18_ => (fc13 j k8_ k10_ k11_ k12_ k14_ k15_ k16_ k17_ k18_))⟩
set_option maxHeartbeats 4000000 in
set_option maxRecDepth 100000 in
theorem c_M_daysLine {d : Nat} {u : Nat → Nat → Int32} {g : Nat → Nat → Int64} {ex : List MC} {to : Int32} (hd : 3 ≤ d) (hp0 : Bd 0 600 (u 162 8)) (hp1 : Bd 0 600 (u 162 9)) (hp2 : Bd 0 999 (u 162 12)) (hp3 : Bd 0 999 (u 162 17)) (hp4 : AB u 171 (-1) 999) (hp5 : (RH u)) (hp6 : Bd 2 4 to) : CT con0 d 0 0 yX11_daysLine cX11_daysLine 3 (some .boolean) [.ref 162, .int to] (Wd u g ex) (fun r h2 => ∃ (z : Bool) (u2 : Nat → Nat → Int32) (g2 : Nat → Nat → Int64), r = some (.int (bI z)) ∧ h2 = Wd u2 g2 ex ∧ Bd 0 600 (u2 162 8) ∧ Bd 0 999 (u2 162 12) ∧ Bd 0 999 (u2 162 17) ∧ AB u2 171 (-1) 999 ∧ (RH u2) ∧ (z = true → GV (u 162 8) (u2 162 8) (u2 162 11)) ∧ (∀ c, c ≠ 162 → c ≠ 170 → c ≠ 171 → u2 c = u c) ∧ (∀ j, j ≠ 8 → j ≠ 10 → j ≠ 11 → j ≠ 12 → j ≠ 14 → j ≠ 15 → j ≠ 16 → j ≠ 17 → j ≠ 18 → u2 162 j = u 162 j)) := by
  refine CT_of (by decide) (Nat.le_of_ble_eq_true rfl) (fun x hq => ?_)
  show J x yX11_daysLine cX11_daysLine 3 (some .boolean) d 0 0 (Wd u g ex).length 0 [(0, .ref 162), (1, .int to)] [] (Wd u g ex) 0 0
  refine J_aload_n (i := 0) (j := 0) dX11_daysLine_0 rfl rfl ?_
  refine J_iconst (v := 0) dX11_daysLine_1 (by decide) ?_
  refine J_bipush (v := 99) dX11_daysLine_2 (by decide) ?_
  refine J_callV (As := [.int 0, .int 99]) (rest := []) dX11_daysLine_4 (c_M_number (d := 2) (u := u) (g := g) (ex := ex) (low := 0) (high := 99)  (by decide) hp0 hp1 hp2 hp3) hq.n k1460 k1462 k45 wc_162 rfl rfl k97 k1463 np_X11_number (Nat.le_trans (by decide) hd) (by decide) (Nat.le_refl _) (Nat.le_refl _) wlen rfl (Nat.le_of_ble_eq_true rfl) (fun r_ h_ p1 => ?_)
  obtain ⟨t2, u3, g4, rfl, rfl, h5, h6, h7, h8, h9, h10, fr11, fc12⟩ := p1
  refine J_istore_n (i := 2) (lw := [(2, .int (bI t2)), (0, .ref 162), (1, .int to)]) dX11_daysLine_7 rfl (by decide) rfl ?_
  refine J_aload_n (i := 0) (j := 1) dX11_daysLine_8 rfl rfl ?_
  refine J_get (C := RX11) (T := TX11) (Z := 43) (ci := 11) (f := 19) dX11_daysLine_9 inG11 rfl (by decide) k1283 wc_162 rfl ?_
  refine J_iload_n (i := 1) (j := 2) dX11_daysLine_12 rfl rfl ?_
  refine J_iload_n (i := 2) (j := 0) dX11_daysLine_13 rfl rfl ?_
  have jn16 : ∀ (w15 : Int32), Bd (-1) 999 w15 → J x yX11_daysLine cX11_daysLine 3 (some .boolean) d 0 0 (Wd u g ex).length 30 [(2, .int (bI t2))] [.int w15, .int to, .ref 170] (Wd u3 g4 ex) 0 0 := by
    intro w15 bw15
    obtain ⟨u17, e18⟩ : ∃ z, z = ms u3 170 to.toNatClampNeg w15 := ⟨_, rfl⟩
    refine J_iast dX11_daysLine_30 wc_170 (vin hp6 (by decide)) (ws e18 wk_170 rfl) ?_
    refine J_iload_n (i := 2) (j := 0) dX11_daysLine_31 rfl rfl ?_
    exact J_zret hq dX11_daysLine_32 rfl (bI_n _) wlen (Nat.le_refl _) (Nat.le_refl _) ⟨t2, u17, g4, rfl, rfl, (bd_r (congrFun (ms_c e18 (by decide)) 8) h5), (bd_r (congrFun (ms_c e18 (by decide)) 12) h6), (bd_r (congrFun (ms_c e18 (by decide)) 17) h7), (ab_c ((ms_c e18 (by decide)).trans (fr11 171 (by decide))) hp4), (rh_d e18 hp6 bw15 (rh_c (fr11 170 (by decide)) hp5)), (fun q => (gv_r rfl (congrFun (ms_c e18 (by decide)) 8) (congrFun (ms_c e18 (by decide)) 11) (h8 q))), (fun c k0_ k1_ k2_ => ((ms_c e18 k1_).trans (fr11 c k0_))), (fun j k8_ k10_ k11_ k12_ k14_ k15_ k16_ k17_ k18_ => ((congrFun (ms_c e18 (by decide)) j).trans (fc12 j k8_ k10_ k11_ k12_ k14_ k15_ k16_ k17_ k18_)))⟩
  refine J_ifB_eq (tgt := 24) dX11_daysLine_14 (by decide) (fun c13 => ?_) (fun c13 => ?_)
  · refine J_aload_n (i := 0) (j := 1) dX11_daysLine_24 rfl rfl ?_
    refine J_get (C := RX11) (T := TX11) (Z := 43) (ci := 11) (f := 19) dX11_daysLine_25 inG11 rfl (by decide) k1283 wc_162 rfl ?_
    refine J_iload_n (i := 1) (j := 2) dX11_daysLine_28 rfl rfl ?_
    refine J_iald dX11_daysLine_29 wc_170 (vin hp6 (by decide)) ?_
    refine J_topi (fun v19 qv19 => ?_)
    refine J_lv [0] rfl ?_
    exact jn16 v19 (bd_r qv19 ((ab_c (fr11 170 (by decide)) (hp5).1) to.toNatClampNeg))
  · refine J_aload_n (i := 0) (j := 1) dX11_daysLine_17 rfl rfl ?_
    refine J_get (C := RX11) (T := TX11) (Z := 43) (ci := 11) (f := 17) dX11_daysLine_18 inG11 rfl (by decide) k1281 wc_162 rfl ?_
    refine J_goto (tgt := 30) dX11_daysLine_21 (by decide) ?_
    refine J_lv [0] rfl ?_
    exact jn16 (u3 162 17) (bd_w (l := (-1)) (h := 999) h7 (by decide))
set_option maxHeartbeats 4000000 in
set_option maxRecDepth 100000 in
theorem c_M_hillLine {d : Nat} {u : Nat → Nat → Int32} {g : Nat → Nat → Int64} {ex : List MC} {at0 : Int32} (hd : 5 ≤ d) (hp0 : Bd 0 600 (u 162 8)) (hp1 : Bd 0 600 (u 162 9)) (hp2 : Bd 0 999 (u 162 12)) (hp3 : Bd 0 999 (u 162 17)) (hp4 : AB u 171 (-1) 999) (hp5 : (RH u)) : CT con0 d 0 0 yX11_hillLine cX11_hillLine 7 (some .boolean) [.ref 162, .int at0] (Wd u g ex) (fun r h2 => ∃ (z : Bool) (u2 : Nat → Nat → Int32) (g2 : Nat → Nat → Int64), r = some (.int (bI z)) ∧ h2 = Wd u2 g2 ex ∧ Bd 0 600 (u2 162 8) ∧ Bd 0 999 (u2 162 12) ∧ Bd 0 999 (u2 162 17) ∧ AB u2 171 (-1) 999 ∧ (RH u2) ∧ (z = true → GV (u 162 8) (u2 162 8) (u2 162 11)) ∧ (∀ c, c ≠ 162 → c ≠ 170 → c ≠ 171 → u2 c = u c) ∧ (∀ j, j ≠ 8 → j ≠ 10 → j ≠ 11 → j ≠ 12 → j ≠ 14 → j ≠ 15 → j ≠ 16 → j ≠ 17 → j ≠ 18 → u2 162 j = u 162 j)) := by
  refine CT_of (by decide) (Nat.le_of_ble_eq_true rfl) (fun x hq => ?_)
  show J x yX11_hillLine cX11_hillLine 7 (some .boolean) d 0 0 (Wd u g ex).length 0 [(0, .ref 162), (1, .int at0)] [] (Wd u g ex) 0 0
  refine J_aload_n (i := 0) (j := 0) dX11_hillLine_0 rfl rfl ?_
  refine J_get (C := RX11) (T := TX11) (Z := 43) (ci := 11) (f := 11) dX11_hillLine_1 inG11 rfl (by decide) k1275 wc_162 rfl ?_
  refine J_iconst (v := 2) dX11_hillLine_4 (by decide) ?_
  have jn4 : ∀ (w3 : Int64), J x yX11_hillLine cX11_hillLine 7 (some .boolean) d 0 0 (Wd u g ex).length 16 [(0, .ref 162), (1, .int at0)] [.long w3] (Wd u g ex) 0 0 := by
    intro w3
    refine J_lstore_n (i := 2) (lw := [(2, .long w3), (0, .ref 162), (1, .int at0)]) dX11_hillLine_16 rfl (by decide) rfl ?_
    refine J_lload_n (i := 2) (j := 0) dX11_hillLine_17 rfl rfl ?_
    refine J_ldc2 (v := 1835363940) dX11_hillLine_18 k1429 ?_
    refine J_lcmp dX11_hillLine_21 ?_
    refine J_if_ne (tgt := 29) dX11_hillLine_22 (by decide) (fun c5 => ?_) (fun c5 => ?_)
    · refine J_lload_n (i := 2) (j := 0) dX11_hillLine_29 rfl rfl ?_
      refine J_ldc2 (v := 2003395685) dX11_hillLine_30 k1430 ?_
      refine J_lcmp dX11_hillLine_33 ?_
      refine J_if_ne (tgt := 41) dX11_hillLine_34 (by decide) (fun c6 => ?_) (fun c6 => ?_)
      · refine J_lload_n (i := 2) (j := 0) dX11_hillLine_41 rfl rfl ?_
        refine J_ldc2 (v := 491496238692) dX11_hillLine_42 k1431 ?_
        refine J_lcmp dX11_hillLine_45 ?_
        refine J_if_ne (tgt := 53) dX11_hillLine_46 (by decide) (fun c7 => ?_) (fun c7 => ?_)
        · refine J_iconst (v := (-1)) dX11_hillLine_53 (by decide) ?_
          refine J_istore (i := 4) (lw := [(4, .int (-1)), (2, .long w3), (0, .ref 162), (1, .int at0)]) dX11_hillLine_54 (by decide) rfl ?_
          refine J_lload_n (i := 2) (j := 1) dX11_hillLine_56 rfl rfl ?_
          refine J_ldc2 (v := 1685026670) dX11_hillLine_57 k1432 ?_
          refine J_lcmp dX11_hillLine_60 ?_
          have jn19 : ∀ (w18 : Int32), Bd (-1) 13 w18 → J x yX11_hillLine cX11_hillLine 7 (some .boolean) d 0 0 (Wd u g ex).length 184 [(0, .ref 162), (1, .int at0), (2, .long w3), (4, .int (-1))] [.int w18] (Wd u g ex) 0 0 := by
            intro w18 bw18
            refine J_istore (i := 5) (lw := [(5, .int w18), (0, .ref 162), (1, .int at0), (2, .long w3), (4, .int (-1))]) dX11_hillLine_184 (by decide) rfl ?_
            refine J_iload (i := 4) (j := 4) dX11_hillLine_186 rfl ?_
            refine J_iconst (v := (-1)) dX11_hillLine_188 (by decide) ?_
            refine J_icmp_ne (tgt := 219) dX11_hillLine_189 (by decide) (fun q => absurd (by decide) q) (fun _ => ?_)
            refine J_iload (i := 5) (j := 0) dX11_hillLine_192 rfl ?_
            refine J_iconst (v := (-1)) dX11_hillLine_194 (by decide) ?_
            refine J_icmp_ne (tgt := 219) dX11_hillLine_195 (by decide) (fun c20 => ?_) (fun c20 => ?_)
            · refine J_aload_n (i := 0) (j := 1) dX11_hillLine_219 rfl rfl ?_
              refine J_callV (As := []) (rest := []) dX11_hillLine_220 (c_M_token (d := 1) (u := u) (g := g) (ex := ex)   (by decide) hp0 hp1 hp2) hq.n k1417 k1419 k38 wc_162 rfl rfl k97 k1420 np_X11_token (Nat.le_trans (by decide) hd) (by decide) (Nat.le_refl _) (Nat.le_refl _) wlen rfl (Nat.le_of_ble_eq_true rfl) (fun r_ h_ p21 => ?_)
              obtain ⟨u22, g23, rfl, rfl, h24, h25, h26, h27, h28, fr29, fc30⟩ := p21
              refine J_lload_n (i := 2) (j := 3) dX11_hillLine_223 rfl rfl ?_
              refine J_ldc2 (v := 1886350948) dX11_hillLine_224 k1442 ?_
              refine J_lcmp dX11_hillLine_227 ?_
              refine J_if_eq (tgt := 239) dX11_hillLine_228 (by decide) (fun c31 => ?_) (fun c31 => ?_)
              · refine J_lload_n (i := 2) (j := 3) dX11_hillLine_239 rfl rfl ?_
                refine J_ldc2 (v := 1886350948) dX11_hillLine_240 k1442 ?_
                refine J_lcmp dX11_hillLine_243 ?_
                refine J_if_ne (tgt := 255) dX11_hillLine_244 (by decide) (fun q => absurd c31 q) (fun _ => ?_)
                refine J_aload_n (i := 0) (j := 1) dX11_hillLine_247 rfl rfl ?_
                refine J_iload_n (i := 1) (j := 2) dX11_hillLine_248 rfl rfl ?_
                refine J_callV (As := [.int at0]) (rest := []) dX11_hillLine_249 (c_M_pondLine (d := 4) (u := u22) (g := g23) (ex := ex) (at0 := at0)  (by decide) h24 (bd_r (fc30 9 (by decide) (by decide) (by decide) (by decide)) hp1) h27 (bd_r (fc30 17 (by decide) (by decide) (by decide) (by decide)) hp3) (ab_c (fr29 171 (by decide)) hp4) (rh_c (fr29 170 (by decide)) hp5)) hq.n k1448 k1450 k42 wc_162 rfl rfl k97 k1451 np_X11_pondLine (Nat.le_trans (by decide) hd) (by decide) (Nat.le_refl _) (Nat.le_refl _) wlen rfl (Nat.le_of_ble_eq_true rfl) (fun r_ h_ p32 => ?_)
                obtain ⟨t33, u34, g35, rfl, rfl, h36, h37, h38, h39, h40, h41, fr42, fc43⟩ := p32
                refine J_goto (tgt := 260) dX11_hillLine_252 (by decide) ?_
                exact J_zret hq dX11_hillLine_260 rfl (bI_n _) wlen (Nat.le_refl _) (Nat.le_refl _) ⟨t33, u34, g35, rfl, rfl, h36, h37, h38, h39, h40, (fun q => (gv_r rfl rfl rfl (gv_t h28 (h41 q)))), (fun c k0_ k1_ k2_ => ((fr42 c k0_ k1_ k2_).trans (fr29 c k0_))), (fun j k8_ k10_ k11_ k12_ k14_ k15_ k16_ k17_ k18_ => ((fc43 j k8_ k10_ k11_ k12_ k14_ k15_ k16_ k17_ k18_).trans (fc30 j k8_ k10_ k11_ k12_)))⟩
              · refine J_lload_n (i := 2) (j := 3) dX11_hillLine_231 rfl rfl ?_
                refine J_ldc2 (v := 1918986606) dX11_hillLine_232 k1443 ?_
                refine J_lcmp dX11_hillLine_235 ?_
                refine J_if_ne (tgt := 261) dX11_hillLine_236 (by decide) (fun c44 => ?_) (fun c44 => ?_)
                · refine J_iload (i := 4) (j := 4) dX11_hillLine_261 rfl ?_
                  refine J_iconst (v := (-1)) dX11_hillLine_263 (by decide) ?_
                  refine J_icmp_eq (tgt := 274) dX11_hillLine_264 (by decide) (fun _ => ?_) (fun q => absurd (by decide) q)
                  refine J_iload (i := 5) (j := 0) dX11_hillLine_274 rfl ?_
                  refine J_iconst (v := 3) dX11_hillLine_276 (by decide) ?_
                  have jn51 : ∀ (w50 : Int32), Bd 3 999 w50 → J x yX11_hillLine cX11_hillLine 7 (some .boolean) d 0 0 (Wd u g ex).length 328 [(0, .ref 162), (5, .int w18)] [.int w50] (Wd u22 g23 ex) 0 0 := by
                    intro w50 bw50
                    refine J_istore (i := 6) (lw := [(6, .int w50), (0, .ref 162), (5, .int w18)]) dX11_hillLine_328 (by decide) rfl ?_
                    refine J_aload_n (i := 0) (j := 1) dX11_hillLine_330 rfl rfl ?_
                    refine J_iload (i := 5) (j := 2) dX11_hillLine_331 rfl ?_
                    refine J_iload (i := 5) (j := 2) dX11_hillLine_333 rfl ?_
                    refine J_bipush (v := 9) dX11_hillLine_335 (by decide) ?_
                    refine J_icmp_eq (tgt := 347) dX11_hillLine_337 (by decide) (fun c52 => ?_) (fun c52 => ?_)
                    · refine J_iconst (v := 2) dX11_hillLine_347 (by decide) ?_
                      refine J_goto (tgt := 352) dX11_hillLine_348 (by decide) ?_
                      refine J_iconst (v := 0) dX11_hillLine_352 (by decide) ?_
                      refine J_iload (i := 6) (j := 0) dX11_hillLine_353 rfl ?_
                      refine J_bipush (v := 10) dX11_hillLine_355 (by decide) ?_
                      refine J_callV (As := [.int w18, .int 2, .int 0, .int w50, .int 10]) (rest := []) dX11_hillLine_357 (c_M_ofPond2 (d := 4) (u := u22) (g := g23) (ex := ex) (to := w18) (low := 0) (high := w50) (second := 10)  (by decide) h24 (bd_r (fc30 9 (by decide) (by decide) (by decide) (by decide)) hp1) h27 (bd_r (fc30 17 (by decide) (by decide) (by decide) (by decide)) hp3) (ab_c (fr29 171 (by decide)) hp4) (rh_c (fr29 170 (by decide)) hp5) (bd_w (l := 9) (h := 13) (bd_r c52 (bd_c (v := 9) (lo := 9) (hi := 9) (by decide))) (by decide))) hq.n k1472 k1474 k48 wc_162 rfl rfl k97 k1475 np_X11_ofPond (Nat.le_trans (by decide) hd) (by decide) (Nat.le_refl _) (Nat.le_refl _) wlen rfl (Nat.le_of_ble_eq_true rfl) (fun r_ h_ p53 => ?_)
                      obtain ⟨t54, u55, g56, rfl, rfl, h57, h58, h59, h60, h61, h62, fr63, fc64⟩ := p53
                      exact J_zret hq dX11_hillLine_360 rfl (bI_n _) wlen (Nat.le_refl _) (Nat.le_refl _) ⟨t54, u55, g56, rfl, rfl, h57, h58, h59, h60, h61, (fun q => (gv_r rfl rfl rfl (gv_t h28 (h62 q)))), (fun c k0_ k1_ k2_ => ((fr63 c k0_ k1_ k2_).trans (fr29 c k0_))), (fun j k8_ k10_ k11_ k12_ k14_ k15_ k16_ k17_ k18_ => ((fc64 j k8_ k10_ k11_ k12_ k14_ k15_ k16_ k17_ k18_).trans (fc30 j k8_ k10_ k11_ k12_)))⟩
                    · refine J_iload (i := 5) (j := 2) dX11_hillLine_340 rfl ?_
                      refine J_bipush (v := 13) dX11_hillLine_342 (by decide) ?_
                      refine J_icmp_ne (tgt := 351) dX11_hillLine_344 (by decide) (fun c65 => ?_) (fun c65 => ?_)
                      · refine J_iconst (v := 1) dX11_hillLine_351 (by decide) ?_
                        refine J_iconst (v := 0) dX11_hillLine_352 (by decide) ?_
                        refine J_iload (i := 6) (j := 0) dX11_hillLine_353 rfl ?_
                        refine J_bipush (v := 10) dX11_hillLine_355 (by decide) ?_
                        refine J_callV (As := [.int w18, .int 1, .int 0, .int w50, .int 10]) (rest := []) dX11_hillLine_357 (c_M_ofPond1 (d := 4) (u := u22) (g := g23) (ex := ex) (to := w18) (low := 0) (high := w50) (second := 10)  (by decide) h24 (bd_r (fc30 9 (by decide) (by decide) (by decide) (by decide)) hp1) h27 (bd_r (fc30 17 (by decide) (by decide) (by decide) (by decide)) hp3) (ab_c (fr29 171 (by decide)) hp4) (rh_c (fr29 170 (by decide)) hp5) (bd_w (l := 0) (h := 15) (bd_ne_hi (bd_ne_lo bw18 c20 (by decide)) c65 (by decide)) (by decide))) hq.n k1472 k1474 k48 wc_162 rfl rfl k97 k1475 np_X11_ofPond (Nat.le_trans (by decide) hd) (by decide) (Nat.le_refl _) (Nat.le_refl _) wlen rfl (Nat.le_of_ble_eq_true rfl) (fun r_ h_ p66 => ?_)
                        obtain ⟨t67, u68, g69, rfl, rfl, h70, h71, h72, h73, h74, h75, fr76, fc77⟩ := p66
                        exact J_zret hq dX11_hillLine_360 rfl (bI_n _) wlen (Nat.le_refl _) (Nat.le_refl _) ⟨t67, u68, g69, rfl, rfl, h70, h71, h72, h73, h74, (fun q => (gv_r rfl rfl rfl (gv_t h28 (h75 q)))), (fun c k0_ k1_ k2_ => ((fr76 c k0_ k1_ k2_).trans (fr29 c k0_))), (fun j k8_ k10_ k11_ k12_ k14_ k15_ k16_ k17_ k18_ => ((fc77 j k8_ k10_ k11_ k12_ k14_ k15_ k16_ k17_ k18_).trans (fc30 j k8_ k10_ k11_ k12_)))⟩
                      · refine J_iconst (v := 2) dX11_hillLine_347 (by decide) ?_
                        refine J_goto (tgt := 352) dX11_hillLine_348 (by decide) ?_
                        refine J_iconst (v := 0) dX11_hillLine_352 (by decide) ?_
                        refine J_iload (i := 6) (j := 0) dX11_hillLine_353 rfl ?_
                        refine J_bipush (v := 10) dX11_hillLine_355 (by decide) ?_
                        refine J_callV (As := [.int w18, .int 2, .int 0, .int w50, .int 10]) (rest := []) dX11_hillLine_357 (c_M_ofPond2 (d := 4) (u := u22) (g := g23) (ex := ex) (to := w18) (low := 0) (high := w50) (second := 10)  (by decide) h24 (bd_r (fc30 9 (by decide) (by decide) (by decide) (by decide)) hp1) h27 (bd_r (fc30 17 (by decide) (by decide) (by decide) (by decide)) hp3) (ab_c (fr29 171 (by decide)) hp4) (rh_c (fr29 170 (by decide)) hp5) (bd_w (l := 9) (h := 13) (bd_r c65 (bd_c (v := 13) (lo := 13) (hi := 13) (by decide))) (by decide))) hq.n k1472 k1474 k48 wc_162 rfl rfl k97 k1475 np_X11_ofPond (Nat.le_trans (by decide) hd) (by decide) (Nat.le_refl _) (Nat.le_refl _) wlen rfl (Nat.le_of_ble_eq_true rfl) (fun r_ h_ p78 => ?_)
                        obtain ⟨t79, u80, g81, rfl, rfl, h82, h83, h84, h85, h86, h87, fr88, fc89⟩ := p78
                        exact J_zret hq dX11_hillLine_360 rfl (bI_n _) wlen (Nat.le_refl _) (Nat.le_refl _) ⟨t79, u80, g81, rfl, rfl, h82, h83, h84, h85, h86, (fun q => (gv_r rfl rfl rfl (gv_t h28 (h87 q)))), (fun c k0_ k1_ k2_ => ((fr88 c k0_ k1_ k2_).trans (fr29 c k0_))), (fun j k8_ k10_ k11_ k12_ k14_ k15_ k16_ k17_ k18_ => ((fc89 j k8_ k10_ k11_ k12_ k14_ k15_ k16_ k17_ k18_).trans (fc30 j k8_ k10_ k11_ k12_)))⟩
                  refine J_icmp_ne (tgt := 285) dX11_hillLine_277 (by decide) (fun c45 => ?_) (fun c45 => ?_)
                  · refine J_iload (i := 5) (j := 0) dX11_hillLine_285 rfl ?_
                    refine J_iconst (v := 4) dX11_hillLine_287 (by decide) ?_
                    refine J_icmp_eq (tgt := 298) dX11_hillLine_288 (by decide) (fun c90 => ?_) (fun c90 => ?_)
                    · refine J_bipush (v := 10) dX11_hillLine_298 (by decide) ?_
                      refine J_goto (tgt := 328) dX11_hillLine_300 (by decide) ?_
                      refine J_lv [1, 0] rfl ?_
                      exact jn51 (10 : Int32) (bd_w (l := 3) (h := 999) (bd_c (v := 10) (lo := 10) (hi := 10) (by decide)) (by decide))
                    · refine J_iload (i := 5) (j := 0) dX11_hillLine_291 rfl ?_
                      refine J_bipush (v := 13) dX11_hillLine_293 (by decide) ?_
                      refine J_icmp_ne (tgt := 303) dX11_hillLine_295 (by decide) (fun c91 => ?_) (fun c91 => ?_)
                      · refine J_iload (i := 5) (j := 0) dX11_hillLine_303 rfl ?_
                        refine J_iconst (v := 5) dX11_hillLine_305 (by decide) ?_
                        refine J_icmp_ne (tgt := 315) dX11_hillLine_306 (by decide) (fun c92 => ?_) (fun c92 => ?_)
                        · refine J_iload (i := 5) (j := 0) dX11_hillLine_315 rfl ?_
                          refine J_bipush (v := 6) dX11_hillLine_317 (by decide) ?_
                          refine J_icmp_ne (tgt := 326) dX11_hillLine_319 (by decide) (fun c93 => ?_) (fun c93 => ?_)
                          · refine J_bipush (v := 99) dX11_hillLine_326 (by decide) ?_
                            refine J_lv [1, 0] rfl ?_
                            exact jn51 (99 : Int32) (bd_w (l := 3) (h := 999) (bd_c (v := 99) (lo := 99) (hi := 99) (by decide)) (by decide))
                          · refine J_iconst (v := 3) dX11_hillLine_322 (by decide) ?_
                            refine J_goto (tgt := 328) dX11_hillLine_323 (by decide) ?_
                            refine J_lv [1, 0] rfl ?_
                            exact jn51 (3 : Int32) (bd_w (l := 3) (h := 999) (bd_c (v := 3) (lo := 3) (hi := 3) (by decide)) (by decide))
                        · refine J_sipush (v := 999) dX11_hillLine_309 (by decide) ?_
                          refine J_goto (tgt := 328) dX11_hillLine_312 (by decide) ?_
                          refine J_lv [1, 0] rfl ?_
                          exact jn51 (999 : Int32) (bd_w (l := 3) (h := 999) (bd_c (v := 999) (lo := 999) (hi := 999) (by decide)) (by decide))
                      · refine J_bipush (v := 10) dX11_hillLine_298 (by decide) ?_
                        refine J_goto (tgt := 328) dX11_hillLine_300 (by decide) ?_
                        refine J_lv [1, 0] rfl ?_
                        exact jn51 (10 : Int32) (bd_w (l := 3) (h := 999) (bd_c (v := 10) (lo := 10) (hi := 10) (by decide)) (by decide))
                  · refine J_bipush (v := 24) dX11_hillLine_280 (by decide) ?_
                    refine J_goto (tgt := 328) dX11_hillLine_282 (by decide) ?_
                    refine J_lv [1, 0] rfl ?_
                    exact jn51 (24 : Int32) (bd_w (l := 3) (h := 999) (bd_c (v := 24) (lo := 24) (hi := 24) (by decide)) (by decide))
                · refine J_lload_n (i := 2) (j := 3) dX11_hillLine_239 rfl rfl ?_
                  refine J_ldc2 (v := 1886350948) dX11_hillLine_240 k1442 ?_
                  refine J_lcmp dX11_hillLine_243 ?_
                  refine J_if_ne (tgt := 255) dX11_hillLine_244 (by decide) (fun _ => ?_) (fun q => absurd q c31)
                  refine J_aload_n (i := 0) (j := 1) dX11_hillLine_255 rfl rfl ?_
                  refine J_iload_n (i := 1) (j := 2) dX11_hillLine_256 rfl rfl ?_
                  refine J_callV (As := [.int at0]) (rest := []) dX11_hillLine_257 (c_M_rainLine (d := 4) (u := u22) (g := g23) (ex := ex) (at0 := at0)  (by decide) h24 (bd_r (fc30 9 (by decide) (by decide) (by decide) (by decide)) hp1) h27 (bd_r (fc30 17 (by decide) (by decide) (by decide) (by decide)) hp3) (ab_c (fr29 171 (by decide)) hp4) (rh_c (fr29 170 (by decide)) hp5)) hq.n k1464 k1466 k46 wc_162 rfl rfl k97 k1467 np_X11_rainLine (Nat.le_trans (by decide) hd) (by decide) (Nat.le_refl _) (Nat.le_refl _) wlen rfl (Nat.le_of_ble_eq_true rfl) (fun r_ h_ p94 => ?_)
                  obtain ⟨t95, u96, g97, rfl, rfl, h98, h99, h100, h101, h102, h103, fr104, fc105⟩ := p94
                  exact J_zret hq dX11_hillLine_260 rfl (bI_n _) wlen (Nat.le_refl _) (Nat.le_refl _) ⟨t95, u96, g97, rfl, rfl, h98, h99, h100, h101, h102, (fun q => (gv_r rfl rfl rfl (gv_t h28 (h103 q)))), (fun c k0_ k1_ k2_ => ((fr104 c k0_ k1_ k2_).trans (fr29 c k0_))), (fun j k8_ k10_ k11_ k12_ k14_ k15_ k16_ k17_ k18_ => ((fc105 j k8_ k10_ k11_ k12_ k14_ k15_ k16_ k17_ k18_).trans (fc30 j k8_ k10_ k11_ k12_)))⟩
            · refine J_lload_n (i := 2) (j := 3) dX11_hillLine_198 rfl rfl ?_
              refine J_ldc2 (v := 1886350948) dX11_hillLine_199 k1442 ?_
              refine J_lcmp dX11_hillLine_202 ?_
              refine J_if_eq (tgt := 219) dX11_hillLine_203 (by decide) (fun c106 => ?_) (fun c106 => ?_)
              · refine J_aload_n (i := 0) (j := 1) dX11_hillLine_219 rfl rfl ?_
                refine J_callV (As := []) (rest := []) dX11_hillLine_220 (c_M_token (d := 1) (u := u) (g := g) (ex := ex)   (by decide) hp0 hp1 hp2) hq.n k1417 k1419 k38 wc_162 rfl rfl k97 k1420 np_X11_token (Nat.le_trans (by decide) hd) (by decide) (Nat.le_refl _) (Nat.le_refl _) wlen rfl (Nat.le_of_ble_eq_true rfl) (fun r_ h_ p107 => ?_)
                obtain ⟨u108, g109, rfl, rfl, h110, h111, h112, h113, h114, fr115, fc116⟩ := p107
                refine J_lload_n (i := 2) (j := 3) dX11_hillLine_223 rfl rfl ?_
                refine J_ldc2 (v := 1886350948) dX11_hillLine_224 k1442 ?_
                refine J_lcmp dX11_hillLine_227 ?_
                refine J_if_eq (tgt := 239) dX11_hillLine_228 (by decide) (fun _ => ?_) (fun q => absurd c106 q)
                refine J_lload_n (i := 2) (j := 3) dX11_hillLine_239 rfl rfl ?_
                refine J_ldc2 (v := 1886350948) dX11_hillLine_240 k1442 ?_
                refine J_lcmp dX11_hillLine_243 ?_
                refine J_if_ne (tgt := 255) dX11_hillLine_244 (by decide) (fun q => absurd c106 q) (fun _ => ?_)
                refine J_aload_n (i := 0) (j := 1) dX11_hillLine_247 rfl rfl ?_
                refine J_iload_n (i := 1) (j := 2) dX11_hillLine_248 rfl rfl ?_
                refine J_callV (As := [.int at0]) (rest := []) dX11_hillLine_249 (c_M_pondLine (d := 4) (u := u108) (g := g109) (ex := ex) (at0 := at0)  (by decide) h110 (bd_r (fc116 9 (by decide) (by decide) (by decide) (by decide)) hp1) h113 (bd_r (fc116 17 (by decide) (by decide) (by decide) (by decide)) hp3) (ab_c (fr115 171 (by decide)) hp4) (rh_c (fr115 170 (by decide)) hp5)) hq.n k1448 k1450 k42 wc_162 rfl rfl k97 k1451 np_X11_pondLine (Nat.le_trans (by decide) hd) (by decide) (Nat.le_refl _) (Nat.le_refl _) wlen rfl (Nat.le_of_ble_eq_true rfl) (fun r_ h_ p117 => ?_)
                obtain ⟨t118, u119, g120, rfl, rfl, h121, h122, h123, h124, h125, h126, fr127, fc128⟩ := p117
                refine J_goto (tgt := 260) dX11_hillLine_252 (by decide) ?_
                exact J_zret hq dX11_hillLine_260 rfl (bI_n _) wlen (Nat.le_refl _) (Nat.le_refl _) ⟨t118, u119, g120, rfl, rfl, h121, h122, h123, h124, h125, (fun q => (gv_r rfl rfl rfl (gv_t h114 (h126 q)))), (fun c k0_ k1_ k2_ => ((fr127 c k0_ k1_ k2_).trans (fr115 c k0_))), (fun j k8_ k10_ k11_ k12_ k14_ k15_ k16_ k17_ k18_ => ((fc128 j k8_ k10_ k11_ k12_ k14_ k15_ k16_ k17_ k18_).trans (fc116 j k8_ k10_ k11_ k12_)))⟩
              · refine J_lload_n (i := 2) (j := 3) dX11_hillLine_206 rfl rfl ?_
                refine J_ldc2 (v := 1918986606) dX11_hillLine_207 k1443 ?_
                refine J_lcmp dX11_hillLine_210 ?_
                refine J_if_eq (tgt := 219) dX11_hillLine_211 (by decide) (fun c129 => ?_) (fun c129 => ?_)
                · refine J_aload_n (i := 0) (j := 1) dX11_hillLine_219 rfl rfl ?_
                  refine J_callV (As := []) (rest := []) dX11_hillLine_220 (c_M_token (d := 1) (u := u) (g := g) (ex := ex)   (by decide) hp0 hp1 hp2) hq.n k1417 k1419 k38 wc_162 rfl rfl k97 k1420 np_X11_token (Nat.le_trans (by decide) hd) (by decide) (Nat.le_refl _) (Nat.le_refl _) wlen rfl (Nat.le_of_ble_eq_true rfl) (fun r_ h_ p130 => ?_)
                  obtain ⟨u131, g132, rfl, rfl, h133, h134, h135, h136, h137, fr138, fc139⟩ := p130
                  refine J_lload_n (i := 2) (j := 3) dX11_hillLine_223 rfl rfl ?_
                  refine J_ldc2 (v := 1886350948) dX11_hillLine_224 k1442 ?_
                  refine J_lcmp dX11_hillLine_227 ?_
                  refine J_if_eq (tgt := 239) dX11_hillLine_228 (by decide) (fun q => absurd q c106) (fun _ => ?_)
                  refine J_lload_n (i := 2) (j := 3) dX11_hillLine_231 rfl rfl ?_
                  refine J_ldc2 (v := 1918986606) dX11_hillLine_232 k1443 ?_
                  refine J_lcmp dX11_hillLine_235 ?_
                  refine J_if_ne (tgt := 261) dX11_hillLine_236 (by decide) (fun q => absurd c129 q) (fun _ => ?_)
                  refine J_lload_n (i := 2) (j := 3) dX11_hillLine_239 rfl rfl ?_
                  refine J_ldc2 (v := 1886350948) dX11_hillLine_240 k1442 ?_
                  refine J_lcmp dX11_hillLine_243 ?_
                  refine J_if_ne (tgt := 255) dX11_hillLine_244 (by decide) (fun _ => ?_) (fun q => absurd q c106)
                  refine J_aload_n (i := 0) (j := 1) dX11_hillLine_255 rfl rfl ?_
                  refine J_iload_n (i := 1) (j := 2) dX11_hillLine_256 rfl rfl ?_
                  refine J_callV (As := [.int at0]) (rest := []) dX11_hillLine_257 (c_M_rainLine (d := 4) (u := u131) (g := g132) (ex := ex) (at0 := at0)  (by decide) h133 (bd_r (fc139 9 (by decide) (by decide) (by decide) (by decide)) hp1) h136 (bd_r (fc139 17 (by decide) (by decide) (by decide) (by decide)) hp3) (ab_c (fr138 171 (by decide)) hp4) (rh_c (fr138 170 (by decide)) hp5)) hq.n k1464 k1466 k46 wc_162 rfl rfl k97 k1467 np_X11_rainLine (Nat.le_trans (by decide) hd) (by decide) (Nat.le_refl _) (Nat.le_refl _) wlen rfl (Nat.le_of_ble_eq_true rfl) (fun r_ h_ p140 => ?_)
                  obtain ⟨t141, u142, g143, rfl, rfl, h144, h145, h146, h147, h148, h149, fr150, fc151⟩ := p140
                  exact J_zret hq dX11_hillLine_260 rfl (bI_n _) wlen (Nat.le_refl _) (Nat.le_refl _) ⟨t141, u142, g143, rfl, rfl, h144, h145, h146, h147, h148, (fun q => (gv_r rfl rfl rfl (gv_t h137 (h149 q)))), (fun c k0_ k1_ k2_ => ((fr150 c k0_ k1_ k2_).trans (fr138 c k0_))), (fun j k8_ k10_ k11_ k12_ k14_ k15_ k16_ k17_ k18_ => ((fc151 j k8_ k10_ k11_ k12_ k14_ k15_ k16_ k17_ k18_).trans (fc139 j k8_ k10_ k11_ k12_)))⟩
                · refine J_aload_n (i := 0) (j := 1) dX11_hillLine_214 rfl rfl ?_
                  refine J_callV (As := []) (rest := []) dX11_hillLine_215 (c_M_stops (d := 0) (u := u) (g := g) (ex := ex)   (by decide) ) hq.n k1444 k1446 k41 wc_162 rfl rfl k97 k1447 np_X11_stops (Nat.le_trans (by decide) hd) (by decide) (Nat.le_refl _) (Nat.le_refl _) wlen rfl (Nat.le_of_ble_eq_true rfl) (fun r_ h_ p152 => ?_)
                  obtain ⟨u153, rfl, rfl, fr154, fc155⟩ := p152
                  exact J_zret hq dX11_hillLine_218 rfl rfl wlen (Nat.le_refl _) (Nat.le_refl _) ⟨false, u153, g, rfl, rfl, (bd_r (fc155 8 (by decide)) hp0), (bd_r (fc155 12 (by decide)) hp2), (bd_r (fc155 17 (by decide)) hp3), (ab_c (fr154 171 (by decide)) hp4), (rh_c (fr154 170 (by decide)) hp5), (fun q => absurd q (by decide)), (fun c k0_ k1_ k2_ => (fr154 c k0_)), (fun j k8_ k10_ k11_ k12_ k14_ k15_ k16_ k17_ k18_ => (fc155 j k14_))⟩
          refine J_if_ne (tgt := 69) dX11_hillLine_61 (by decide) (fun c8 => ?_) (fun c8 => ?_)
          · refine J_lload_n (i := 2) (j := 1) dX11_hillLine_69 rfl rfl ?_
            refine J_ldc2 (v := 418548114533) dX11_hillLine_70 k1433 ?_
            refine J_lcmp dX11_hillLine_73 ?_
            refine J_if_ne (tgt := 82) dX11_hillLine_74 (by decide) (fun c156 => ?_) (fun c156 => ?_)
            · refine J_lload_n (i := 2) (j := 1) dX11_hillLine_82 rfl rfl ?_
              refine J_ldc2 (v := 422607680115) dX11_hillLine_83 k1434 ?_
              refine J_lcmp dX11_hillLine_86 ?_
              refine J_if_ne (tgt := 94) dX11_hillLine_87 (by decide) (fun c157 => ?_) (fun c157 => ?_)
              · refine J_lload_n (i := 2) (j := 1) dX11_hillLine_94 rfl rfl ?_
                refine J_ldc2 (v := 1735353715) dX11_hillLine_95 k1435 ?_
                refine J_lcmp dX11_hillLine_98 ?_
                refine J_if_ne (tgt := 106) dX11_hillLine_99 (by decide) (fun c158 => ?_) (fun c158 => ?_)
                · refine J_lload_n (i := 2) (j := 1) dX11_hillLine_106 rfl rfl ?_
                  refine J_ldc2 (v := 1751216749) dX11_hillLine_107 k1436 ?_
                  refine J_lcmp dX11_hillLine_110 ?_
                  refine J_if_ne (tgt := 118) dX11_hillLine_111 (by decide) (fun c159 => ?_) (fun c159 => ?_)
                  · refine J_lload_n (i := 2) (j := 1) dX11_hillLine_118 rfl rfl ?_
                    refine J_ldc2 (v := 478745093490) dX11_hillLine_119 k1437 ?_
                    refine J_lcmp dX11_hillLine_122 ?_
                    refine J_if_ne (tgt := 131) dX11_hillLine_123 (by decide) (fun c160 => ?_) (fun c160 => ?_)
                    · refine J_lload_n (i := 2) (j := 1) dX11_hillLine_131 rfl rfl ?_
                      refine J_ldc2 (v := 1919509349) dX11_hillLine_132 k1438 ?_
                      refine J_lcmp dX11_hillLine_135 ?_
                      refine J_if_ne (tgt := 144) dX11_hillLine_136 (by decide) (fun c161 => ?_) (fun c161 => ?_)
                      · refine J_lload_n (i := 2) (j := 1) dX11_hillLine_144 rfl rfl ?_
                        refine J_ldc2 (v := 7823737) dX11_hillLine_145 k1439 ?_
                        refine J_lcmp dX11_hillLine_148 ?_
                        refine J_if_ne (tgt := 157) dX11_hillLine_149 (by decide) (fun c162 => ?_) (fun c162 => ?_)
                        · refine J_lload_n (i := 2) (j := 1) dX11_hillLine_157 rfl rfl ?_
                          refine J_ldc2 (v := 1734440037) dX11_hillLine_158 k1440 ?_
                          refine J_lcmp dX11_hillLine_161 ?_
                          refine J_if_ne (tgt := 170) dX11_hillLine_162 (by decide) (fun c163 => ?_) (fun c163 => ?_)
                          · refine J_lload_n (i := 2) (j := 1) dX11_hillLine_170 rfl rfl ?_
                            refine J_ldc2 (v := 1936287598) dX11_hillLine_171 k1441 ?_
                            refine J_lcmp dX11_hillLine_174 ?_
                            refine J_if_ne (tgt := 183) dX11_hillLine_175 (by decide) (fun c164 => ?_) (fun c164 => ?_)
                            · refine J_iconst (v := (-1)) dX11_hillLine_183 (by decide) ?_
                              refine J_lv [2, 3, 1, 0] rfl ?_
                              exact jn19 ((-1) : Int32) (bd_w (l := (-1)) (h := 13) (bd_c (v := (-1)) (lo := (-1)) (hi := (-1)) (by decide)) (by decide))
                            · refine J_bipush (v := 13) dX11_hillLine_178 (by decide) ?_
                              refine J_goto (tgt := 184) dX11_hillLine_180 (by decide) ?_
                              refine J_lv [2, 3, 1, 0] rfl ?_
                              exact jn19 (13 : Int32) (bd_w (l := (-1)) (h := 13) (bd_c (v := 13) (lo := 13) (hi := 13) (by decide)) (by decide))
                          · refine J_bipush (v := 12) dX11_hillLine_165 (by decide) ?_
                            refine J_goto (tgt := 184) dX11_hillLine_167 (by decide) ?_
                            refine J_lv [2, 3, 1, 0] rfl ?_
                            exact jn19 (12 : Int32) (bd_w (l := (-1)) (h := 13) (bd_c (v := 12) (lo := 12) (hi := 12) (by decide)) (by decide))
                        · refine J_bipush (v := 11) dX11_hillLine_152 (by decide) ?_
                          refine J_goto (tgt := 184) dX11_hillLine_154 (by decide) ?_
                          refine J_lv [2, 3, 1, 0] rfl ?_
                          exact jn19 (11 : Int32) (bd_w (l := (-1)) (h := 13) (bd_c (v := 11) (lo := 11) (hi := 11) (by decide)) (by decide))
                      · refine J_bipush (v := 7) dX11_hillLine_139 (by decide) ?_
                        refine J_goto (tgt := 184) dX11_hillLine_141 (by decide) ?_
                        refine J_lv [2, 3, 1, 0] rfl ?_
                        exact jn19 (7 : Int32) (bd_w (l := (-1)) (h := 13) (bd_c (v := 7) (lo := 7) (hi := 7) (by decide)) (by decide))
                    · refine J_bipush (v := 6) dX11_hillLine_126 (by decide) ?_
                      refine J_goto (tgt := 184) dX11_hillLine_128 (by decide) ?_
                      refine J_lv [2, 3, 1, 0] rfl ?_
                      exact jn19 (6 : Int32) (bd_w (l := (-1)) (h := 13) (bd_c (v := 6) (lo := 6) (hi := 6) (by decide)) (by decide))
                  · refine J_iconst (v := 5) dX11_hillLine_114 (by decide) ?_
                    refine J_goto (tgt := 184) dX11_hillLine_115 (by decide) ?_
                    refine J_lv [2, 3, 1, 0] rfl ?_
                    exact jn19 (5 : Int32) (bd_w (l := (-1)) (h := 13) (bd_c (v := 5) (lo := 5) (hi := 5) (by decide)) (by decide))
                · refine J_iconst (v := 4) dX11_hillLine_102 (by decide) ?_
                  refine J_goto (tgt := 184) dX11_hillLine_103 (by decide) ?_
                  refine J_lv [2, 3, 1, 0] rfl ?_
                  exact jn19 (4 : Int32) (bd_w (l := (-1)) (h := 13) (bd_c (v := 4) (lo := 4) (hi := 4) (by decide)) (by decide))
              · refine J_iconst (v := 3) dX11_hillLine_90 (by decide) ?_
                refine J_goto (tgt := 184) dX11_hillLine_91 (by decide) ?_
                refine J_lv [2, 3, 1, 0] rfl ?_
                exact jn19 (3 : Int32) (bd_w (l := (-1)) (h := 13) (bd_c (v := 3) (lo := 3) (hi := 3) (by decide)) (by decide))
            · refine J_bipush (v := 9) dX11_hillLine_77 (by decide) ?_
              refine J_goto (tgt := 184) dX11_hillLine_79 (by decide) ?_
              refine J_lv [2, 3, 1, 0] rfl ?_
              exact jn19 (9 : Int32) (bd_w (l := (-1)) (h := 13) (bd_c (v := 9) (lo := 9) (hi := 9) (by decide)) (by decide))
          · refine J_bipush (v := 8) dX11_hillLine_64 (by decide) ?_
            refine J_goto (tgt := 184) dX11_hillLine_66 (by decide) ?_
            refine J_lv [2, 3, 1, 0] rfl ?_
            exact jn19 (8 : Int32) (bd_w (l := (-1)) (h := 13) (bd_c (v := 8) (lo := 8) (hi := 8) (by decide)) (by decide))
        · refine J_iconst (v := 4) dX11_hillLine_49 (by decide) ?_
          refine J_goto (tgt := 54) dX11_hillLine_50 (by decide) ?_
          refine J_istore (i := 4) (lw := [(4, .int 4), (2, .long w3), (0, .ref 162), (1, .int at0)]) dX11_hillLine_54 (by decide) rfl ?_
          refine J_lload_n (i := 2) (j := 1) dX11_hillLine_56 rfl rfl ?_
          refine J_ldc2 (v := 1685026670) dX11_hillLine_57 k1432 ?_
          refine J_lcmp dX11_hillLine_60 ?_
          have jn176 : ∀ (w175 : Int32), Bd (-1) 13 w175 → J x yX11_hillLine cX11_hillLine 7 (some .boolean) d 0 0 (Wd u g ex).length 184 [(0, .ref 162), (1, .int at0), (2, .long w3), (4, .int 4)] [.int w175] (Wd u g ex) 0 0 := by
            intro w175 bw175
            refine J_istore (i := 5) (lw := [(5, .int w175), (0, .ref 162), (1, .int at0), (2, .long w3), (4, .int 4)]) dX11_hillLine_184 (by decide) rfl ?_
            refine J_iload (i := 4) (j := 4) dX11_hillLine_186 rfl ?_
            refine J_iconst (v := (-1)) dX11_hillLine_188 (by decide) ?_
            refine J_icmp_ne (tgt := 219) dX11_hillLine_189 (by decide) (fun _ => ?_) (fun q => absurd q (by decide))
            refine J_aload_n (i := 0) (j := 1) dX11_hillLine_219 rfl rfl ?_
            refine J_callV (As := []) (rest := []) dX11_hillLine_220 (c_M_token (d := 1) (u := u) (g := g) (ex := ex)   (by decide) hp0 hp1 hp2) hq.n k1417 k1419 k38 wc_162 rfl rfl k97 k1420 np_X11_token (Nat.le_trans (by decide) hd) (by decide) (Nat.le_refl _) (Nat.le_refl _) wlen rfl (Nat.le_of_ble_eq_true rfl) (fun r_ h_ p177 => ?_)
            obtain ⟨u178, g179, rfl, rfl, h180, h181, h182, h183, h184, fr185, fc186⟩ := p177
            refine J_lload_n (i := 2) (j := 3) dX11_hillLine_223 rfl rfl ?_
            refine J_ldc2 (v := 1886350948) dX11_hillLine_224 k1442 ?_
            refine J_lcmp dX11_hillLine_227 ?_
            refine J_if_eq (tgt := 239) dX11_hillLine_228 (by decide) (fun c187 => ?_) (fun c187 => ?_)
            · refine J_lload_n (i := 2) (j := 3) dX11_hillLine_239 rfl rfl ?_
              refine J_ldc2 (v := 1886350948) dX11_hillLine_240 k1442 ?_
              refine J_lcmp dX11_hillLine_243 ?_
              refine J_if_ne (tgt := 255) dX11_hillLine_244 (by decide) (fun q => absurd c187 q) (fun _ => ?_)
              refine J_aload_n (i := 0) (j := 1) dX11_hillLine_247 rfl rfl ?_
              refine J_iload_n (i := 1) (j := 2) dX11_hillLine_248 rfl rfl ?_
              refine J_callV (As := [.int at0]) (rest := []) dX11_hillLine_249 (c_M_pondLine (d := 4) (u := u178) (g := g179) (ex := ex) (at0 := at0)  (by decide) h180 (bd_r (fc186 9 (by decide) (by decide) (by decide) (by decide)) hp1) h183 (bd_r (fc186 17 (by decide) (by decide) (by decide) (by decide)) hp3) (ab_c (fr185 171 (by decide)) hp4) (rh_c (fr185 170 (by decide)) hp5)) hq.n k1448 k1450 k42 wc_162 rfl rfl k97 k1451 np_X11_pondLine (Nat.le_trans (by decide) hd) (by decide) (Nat.le_refl _) (Nat.le_refl _) wlen rfl (Nat.le_of_ble_eq_true rfl) (fun r_ h_ p188 => ?_)
              obtain ⟨t189, u190, g191, rfl, rfl, h192, h193, h194, h195, h196, h197, fr198, fc199⟩ := p188
              refine J_goto (tgt := 260) dX11_hillLine_252 (by decide) ?_
              exact J_zret hq dX11_hillLine_260 rfl (bI_n _) wlen (Nat.le_refl _) (Nat.le_refl _) ⟨t189, u190, g191, rfl, rfl, h192, h193, h194, h195, h196, (fun q => (gv_r rfl rfl rfl (gv_t h184 (h197 q)))), (fun c k0_ k1_ k2_ => ((fr198 c k0_ k1_ k2_).trans (fr185 c k0_))), (fun j k8_ k10_ k11_ k12_ k14_ k15_ k16_ k17_ k18_ => ((fc199 j k8_ k10_ k11_ k12_ k14_ k15_ k16_ k17_ k18_).trans (fc186 j k8_ k10_ k11_ k12_)))⟩
            · refine J_lload_n (i := 2) (j := 3) dX11_hillLine_231 rfl rfl ?_
              refine J_ldc2 (v := 1918986606) dX11_hillLine_232 k1443 ?_
              refine J_lcmp dX11_hillLine_235 ?_
              refine J_if_ne (tgt := 261) dX11_hillLine_236 (by decide) (fun c200 => ?_) (fun c200 => ?_)
              · refine J_iload (i := 4) (j := 4) dX11_hillLine_261 rfl ?_
                refine J_iconst (v := (-1)) dX11_hillLine_263 (by decide) ?_
                refine J_icmp_eq (tgt := 274) dX11_hillLine_264 (by decide) (fun q => absurd q (by decide)) (fun _ => ?_)
                refine J_aload_n (i := 0) (j := 1) dX11_hillLine_267 rfl rfl ?_
                refine J_iload (i := 4) (j := 4) dX11_hillLine_268 rfl ?_
                refine J_callV (As := [.int 4]) (rest := []) dX11_hillLine_270 (c_M_daysLine (d := 3) (u := u178) (g := g179) (ex := ex) (to := 4)  (by decide) h180 (bd_r (fc186 9 (by decide) (by decide) (by decide) (by decide)) hp1) h183 (bd_r (fc186 17 (by decide) (by decide) (by decide) (by decide)) hp3) (ab_c (fr185 171 (by decide)) hp4) (rh_c (fr185 170 (by decide)) hp5) (bd_w (l := 2) (h := 4) (bd_c (v := 4) (lo := 4) (hi := 4) (by decide)) (by decide))) hq.n k1468 k1470 k47 wc_162 rfl rfl k97 k1471 np_X11_daysLine (Nat.le_trans (by decide) hd) (by decide) (Nat.le_refl _) (Nat.le_refl _) wlen rfl (Nat.le_of_ble_eq_true rfl) (fun r_ h_ p201 => ?_)
                obtain ⟨t202, u203, g204, rfl, rfl, h205, h206, h207, h208, h209, h210, fr211, fc212⟩ := p201
                exact J_zret hq dX11_hillLine_273 rfl (bI_n _) wlen (Nat.le_refl _) (Nat.le_refl _) ⟨t202, u203, g204, rfl, rfl, h205, h206, h207, h208, h209, (fun q => (gv_r rfl rfl rfl (gv_t h184 (h210 q)))), (fun c k0_ k1_ k2_ => ((fr211 c k0_ k1_ k2_).trans (fr185 c k0_))), (fun j k8_ k10_ k11_ k12_ k14_ k15_ k16_ k17_ k18_ => ((fc212 j k8_ k10_ k11_ k12_ k14_ k15_ k16_ k17_ k18_).trans (fc186 j k8_ k10_ k11_ k12_)))⟩
              · refine J_lload_n (i := 2) (j := 3) dX11_hillLine_239 rfl rfl ?_
                refine J_ldc2 (v := 1886350948) dX11_hillLine_240 k1442 ?_
                refine J_lcmp dX11_hillLine_243 ?_
                refine J_if_ne (tgt := 255) dX11_hillLine_244 (by decide) (fun _ => ?_) (fun q => absurd q c187)
                refine J_aload_n (i := 0) (j := 1) dX11_hillLine_255 rfl rfl ?_
                refine J_iload_n (i := 1) (j := 2) dX11_hillLine_256 rfl rfl ?_
                refine J_callV (As := [.int at0]) (rest := []) dX11_hillLine_257 (c_M_rainLine (d := 4) (u := u178) (g := g179) (ex := ex) (at0 := at0)  (by decide) h180 (bd_r (fc186 9 (by decide) (by decide) (by decide) (by decide)) hp1) h183 (bd_r (fc186 17 (by decide) (by decide) (by decide) (by decide)) hp3) (ab_c (fr185 171 (by decide)) hp4) (rh_c (fr185 170 (by decide)) hp5)) hq.n k1464 k1466 k46 wc_162 rfl rfl k97 k1467 np_X11_rainLine (Nat.le_trans (by decide) hd) (by decide) (Nat.le_refl _) (Nat.le_refl _) wlen rfl (Nat.le_of_ble_eq_true rfl) (fun r_ h_ p213 => ?_)
                obtain ⟨t214, u215, g216, rfl, rfl, h217, h218, h219, h220, h221, h222, fr223, fc224⟩ := p213
                exact J_zret hq dX11_hillLine_260 rfl (bI_n _) wlen (Nat.le_refl _) (Nat.le_refl _) ⟨t214, u215, g216, rfl, rfl, h217, h218, h219, h220, h221, (fun q => (gv_r rfl rfl rfl (gv_t h184 (h222 q)))), (fun c k0_ k1_ k2_ => ((fr223 c k0_ k1_ k2_).trans (fr185 c k0_))), (fun j k8_ k10_ k11_ k12_ k14_ k15_ k16_ k17_ k18_ => ((fc224 j k8_ k10_ k11_ k12_ k14_ k15_ k16_ k17_ k18_).trans (fc186 j k8_ k10_ k11_ k12_)))⟩
          refine J_if_ne (tgt := 69) dX11_hillLine_61 (by decide) (fun c165 => ?_) (fun c165 => ?_)
          · refine J_lload_n (i := 2) (j := 1) dX11_hillLine_69 rfl rfl ?_
            refine J_ldc2 (v := 418548114533) dX11_hillLine_70 k1433 ?_
            refine J_lcmp dX11_hillLine_73 ?_
            refine J_if_ne (tgt := 82) dX11_hillLine_74 (by decide) (fun c225 => ?_) (fun c225 => ?_)
            · refine J_lload_n (i := 2) (j := 1) dX11_hillLine_82 rfl rfl ?_
              refine J_ldc2 (v := 422607680115) dX11_hillLine_83 k1434 ?_
              refine J_lcmp dX11_hillLine_86 ?_
              refine J_if_ne (tgt := 94) dX11_hillLine_87 (by decide) (fun c226 => ?_) (fun c226 => ?_)
              · refine J_lload_n (i := 2) (j := 1) dX11_hillLine_94 rfl rfl ?_
                refine J_ldc2 (v := 1735353715) dX11_hillLine_95 k1435 ?_
                refine J_lcmp dX11_hillLine_98 ?_
                refine J_if_ne (tgt := 106) dX11_hillLine_99 (by decide) (fun c227 => ?_) (fun c227 => ?_)
                · refine J_lload_n (i := 2) (j := 1) dX11_hillLine_106 rfl rfl ?_
                  refine J_ldc2 (v := 1751216749) dX11_hillLine_107 k1436 ?_
                  refine J_lcmp dX11_hillLine_110 ?_
                  refine J_if_ne (tgt := 118) dX11_hillLine_111 (by decide) (fun c228 => ?_) (fun c228 => ?_)
                  · refine J_lload_n (i := 2) (j := 1) dX11_hillLine_118 rfl rfl ?_
                    refine J_ldc2 (v := 478745093490) dX11_hillLine_119 k1437 ?_
                    refine J_lcmp dX11_hillLine_122 ?_
                    refine J_if_ne (tgt := 131) dX11_hillLine_123 (by decide) (fun c229 => ?_) (fun c229 => ?_)
                    · refine J_lload_n (i := 2) (j := 1) dX11_hillLine_131 rfl rfl ?_
                      refine J_ldc2 (v := 1919509349) dX11_hillLine_132 k1438 ?_
                      refine J_lcmp dX11_hillLine_135 ?_
                      refine J_if_ne (tgt := 144) dX11_hillLine_136 (by decide) (fun c230 => ?_) (fun c230 => ?_)
                      · refine J_lload_n (i := 2) (j := 1) dX11_hillLine_144 rfl rfl ?_
                        refine J_ldc2 (v := 7823737) dX11_hillLine_145 k1439 ?_
                        refine J_lcmp dX11_hillLine_148 ?_
                        refine J_if_ne (tgt := 157) dX11_hillLine_149 (by decide) (fun c231 => ?_) (fun c231 => ?_)
                        · refine J_lload_n (i := 2) (j := 1) dX11_hillLine_157 rfl rfl ?_
                          refine J_ldc2 (v := 1734440037) dX11_hillLine_158 k1440 ?_
                          refine J_lcmp dX11_hillLine_161 ?_
                          refine J_if_ne (tgt := 170) dX11_hillLine_162 (by decide) (fun c232 => ?_) (fun c232 => ?_)
                          · refine J_lload_n (i := 2) (j := 1) dX11_hillLine_170 rfl rfl ?_
                            refine J_ldc2 (v := 1936287598) dX11_hillLine_171 k1441 ?_
                            refine J_lcmp dX11_hillLine_174 ?_
                            refine J_if_ne (tgt := 183) dX11_hillLine_175 (by decide) (fun c233 => ?_) (fun c233 => ?_)
                            · refine J_iconst (v := (-1)) dX11_hillLine_183 (by decide) ?_
                              refine J_lv [2, 3, 1, 0] rfl ?_
                              exact jn176 ((-1) : Int32) (bd_w (l := (-1)) (h := 13) (bd_c (v := (-1)) (lo := (-1)) (hi := (-1)) (by decide)) (by decide))
                            · refine J_bipush (v := 13) dX11_hillLine_178 (by decide) ?_
                              refine J_goto (tgt := 184) dX11_hillLine_180 (by decide) ?_
                              refine J_lv [2, 3, 1, 0] rfl ?_
                              exact jn176 (13 : Int32) (bd_w (l := (-1)) (h := 13) (bd_c (v := 13) (lo := 13) (hi := 13) (by decide)) (by decide))
                          · refine J_bipush (v := 12) dX11_hillLine_165 (by decide) ?_
                            refine J_goto (tgt := 184) dX11_hillLine_167 (by decide) ?_
                            refine J_lv [2, 3, 1, 0] rfl ?_
                            exact jn176 (12 : Int32) (bd_w (l := (-1)) (h := 13) (bd_c (v := 12) (lo := 12) (hi := 12) (by decide)) (by decide))
                        · refine J_bipush (v := 11) dX11_hillLine_152 (by decide) ?_
                          refine J_goto (tgt := 184) dX11_hillLine_154 (by decide) ?_
                          refine J_lv [2, 3, 1, 0] rfl ?_
                          exact jn176 (11 : Int32) (bd_w (l := (-1)) (h := 13) (bd_c (v := 11) (lo := 11) (hi := 11) (by decide)) (by decide))
                      · refine J_bipush (v := 7) dX11_hillLine_139 (by decide) ?_
                        refine J_goto (tgt := 184) dX11_hillLine_141 (by decide) ?_
                        refine J_lv [2, 3, 1, 0] rfl ?_
                        exact jn176 (7 : Int32) (bd_w (l := (-1)) (h := 13) (bd_c (v := 7) (lo := 7) (hi := 7) (by decide)) (by decide))
                    · refine J_bipush (v := 6) dX11_hillLine_126 (by decide) ?_
                      refine J_goto (tgt := 184) dX11_hillLine_128 (by decide) ?_
                      refine J_lv [2, 3, 1, 0] rfl ?_
                      exact jn176 (6 : Int32) (bd_w (l := (-1)) (h := 13) (bd_c (v := 6) (lo := 6) (hi := 6) (by decide)) (by decide))
                  · refine J_iconst (v := 5) dX11_hillLine_114 (by decide) ?_
                    refine J_goto (tgt := 184) dX11_hillLine_115 (by decide) ?_
                    refine J_lv [2, 3, 1, 0] rfl ?_
                    exact jn176 (5 : Int32) (bd_w (l := (-1)) (h := 13) (bd_c (v := 5) (lo := 5) (hi := 5) (by decide)) (by decide))
                · refine J_iconst (v := 4) dX11_hillLine_102 (by decide) ?_
                  refine J_goto (tgt := 184) dX11_hillLine_103 (by decide) ?_
                  refine J_lv [2, 3, 1, 0] rfl ?_
                  exact jn176 (4 : Int32) (bd_w (l := (-1)) (h := 13) (bd_c (v := 4) (lo := 4) (hi := 4) (by decide)) (by decide))
              · refine J_iconst (v := 3) dX11_hillLine_90 (by decide) ?_
                refine J_goto (tgt := 184) dX11_hillLine_91 (by decide) ?_
                refine J_lv [2, 3, 1, 0] rfl ?_
                exact jn176 (3 : Int32) (bd_w (l := (-1)) (h := 13) (bd_c (v := 3) (lo := 3) (hi := 3) (by decide)) (by decide))
            · refine J_bipush (v := 9) dX11_hillLine_77 (by decide) ?_
              refine J_goto (tgt := 184) dX11_hillLine_79 (by decide) ?_
              refine J_lv [2, 3, 1, 0] rfl ?_
              exact jn176 (9 : Int32) (bd_w (l := (-1)) (h := 13) (bd_c (v := 9) (lo := 9) (hi := 9) (by decide)) (by decide))
          · refine J_bipush (v := 8) dX11_hillLine_64 (by decide) ?_
            refine J_goto (tgt := 184) dX11_hillLine_66 (by decide) ?_
            refine J_lv [2, 3, 1, 0] rfl ?_
            exact jn176 (8 : Int32) (bd_w (l := (-1)) (h := 13) (bd_c (v := 8) (lo := 8) (hi := 8) (by decide)) (by decide))
      · refine J_iconst (v := 3) dX11_hillLine_37 (by decide) ?_
        refine J_goto (tgt := 54) dX11_hillLine_38 (by decide) ?_
        refine J_istore (i := 4) (lw := [(4, .int 3), (2, .long w3), (0, .ref 162), (1, .int at0)]) dX11_hillLine_54 (by decide) rfl ?_
        refine J_lload_n (i := 2) (j := 1) dX11_hillLine_56 rfl rfl ?_
        refine J_ldc2 (v := 1685026670) dX11_hillLine_57 k1432 ?_
        refine J_lcmp dX11_hillLine_60 ?_
        have jn245 : ∀ (w244 : Int32), Bd (-1) 13 w244 → J x yX11_hillLine cX11_hillLine 7 (some .boolean) d 0 0 (Wd u g ex).length 184 [(0, .ref 162), (1, .int at0), (2, .long w3), (4, .int 3)] [.int w244] (Wd u g ex) 0 0 := by
          intro w244 bw244
          refine J_istore (i := 5) (lw := [(5, .int w244), (0, .ref 162), (1, .int at0), (2, .long w3), (4, .int 3)]) dX11_hillLine_184 (by decide) rfl ?_
          refine J_iload (i := 4) (j := 4) dX11_hillLine_186 rfl ?_
          refine J_iconst (v := (-1)) dX11_hillLine_188 (by decide) ?_
          refine J_icmp_ne (tgt := 219) dX11_hillLine_189 (by decide) (fun _ => ?_) (fun q => absurd q (by decide))
          refine J_aload_n (i := 0) (j := 1) dX11_hillLine_219 rfl rfl ?_
          refine J_callV (As := []) (rest := []) dX11_hillLine_220 (c_M_token (d := 1) (u := u) (g := g) (ex := ex)   (by decide) hp0 hp1 hp2) hq.n k1417 k1419 k38 wc_162 rfl rfl k97 k1420 np_X11_token (Nat.le_trans (by decide) hd) (by decide) (Nat.le_refl _) (Nat.le_refl _) wlen rfl (Nat.le_of_ble_eq_true rfl) (fun r_ h_ p246 => ?_)
          obtain ⟨u247, g248, rfl, rfl, h249, h250, h251, h252, h253, fr254, fc255⟩ := p246
          refine J_lload_n (i := 2) (j := 3) dX11_hillLine_223 rfl rfl ?_
          refine J_ldc2 (v := 1886350948) dX11_hillLine_224 k1442 ?_
          refine J_lcmp dX11_hillLine_227 ?_
          refine J_if_eq (tgt := 239) dX11_hillLine_228 (by decide) (fun c256 => ?_) (fun c256 => ?_)
          · refine J_lload_n (i := 2) (j := 3) dX11_hillLine_239 rfl rfl ?_
            refine J_ldc2 (v := 1886350948) dX11_hillLine_240 k1442 ?_
            refine J_lcmp dX11_hillLine_243 ?_
            refine J_if_ne (tgt := 255) dX11_hillLine_244 (by decide) (fun q => absurd c256 q) (fun _ => ?_)
            refine J_aload_n (i := 0) (j := 1) dX11_hillLine_247 rfl rfl ?_
            refine J_iload_n (i := 1) (j := 2) dX11_hillLine_248 rfl rfl ?_
            refine J_callV (As := [.int at0]) (rest := []) dX11_hillLine_249 (c_M_pondLine (d := 4) (u := u247) (g := g248) (ex := ex) (at0 := at0)  (by decide) h249 (bd_r (fc255 9 (by decide) (by decide) (by decide) (by decide)) hp1) h252 (bd_r (fc255 17 (by decide) (by decide) (by decide) (by decide)) hp3) (ab_c (fr254 171 (by decide)) hp4) (rh_c (fr254 170 (by decide)) hp5)) hq.n k1448 k1450 k42 wc_162 rfl rfl k97 k1451 np_X11_pondLine (Nat.le_trans (by decide) hd) (by decide) (Nat.le_refl _) (Nat.le_refl _) wlen rfl (Nat.le_of_ble_eq_true rfl) (fun r_ h_ p257 => ?_)
            obtain ⟨t258, u259, g260, rfl, rfl, h261, h262, h263, h264, h265, h266, fr267, fc268⟩ := p257
            refine J_goto (tgt := 260) dX11_hillLine_252 (by decide) ?_
            exact J_zret hq dX11_hillLine_260 rfl (bI_n _) wlen (Nat.le_refl _) (Nat.le_refl _) ⟨t258, u259, g260, rfl, rfl, h261, h262, h263, h264, h265, (fun q => (gv_r rfl rfl rfl (gv_t h253 (h266 q)))), (fun c k0_ k1_ k2_ => ((fr267 c k0_ k1_ k2_).trans (fr254 c k0_))), (fun j k8_ k10_ k11_ k12_ k14_ k15_ k16_ k17_ k18_ => ((fc268 j k8_ k10_ k11_ k12_ k14_ k15_ k16_ k17_ k18_).trans (fc255 j k8_ k10_ k11_ k12_)))⟩
          · refine J_lload_n (i := 2) (j := 3) dX11_hillLine_231 rfl rfl ?_
            refine J_ldc2 (v := 1918986606) dX11_hillLine_232 k1443 ?_
            refine J_lcmp dX11_hillLine_235 ?_
            refine J_if_ne (tgt := 261) dX11_hillLine_236 (by decide) (fun c269 => ?_) (fun c269 => ?_)
            · refine J_iload (i := 4) (j := 4) dX11_hillLine_261 rfl ?_
              refine J_iconst (v := (-1)) dX11_hillLine_263 (by decide) ?_
              refine J_icmp_eq (tgt := 274) dX11_hillLine_264 (by decide) (fun q => absurd q (by decide)) (fun _ => ?_)
              refine J_aload_n (i := 0) (j := 1) dX11_hillLine_267 rfl rfl ?_
              refine J_iload (i := 4) (j := 4) dX11_hillLine_268 rfl ?_
              refine J_callV (As := [.int 3]) (rest := []) dX11_hillLine_270 (c_M_daysLine (d := 3) (u := u247) (g := g248) (ex := ex) (to := 3)  (by decide) h249 (bd_r (fc255 9 (by decide) (by decide) (by decide) (by decide)) hp1) h252 (bd_r (fc255 17 (by decide) (by decide) (by decide) (by decide)) hp3) (ab_c (fr254 171 (by decide)) hp4) (rh_c (fr254 170 (by decide)) hp5) (bd_w (l := 2) (h := 4) (bd_c (v := 3) (lo := 3) (hi := 3) (by decide)) (by decide))) hq.n k1468 k1470 k47 wc_162 rfl rfl k97 k1471 np_X11_daysLine (Nat.le_trans (by decide) hd) (by decide) (Nat.le_refl _) (Nat.le_refl _) wlen rfl (Nat.le_of_ble_eq_true rfl) (fun r_ h_ p270 => ?_)
              obtain ⟨t271, u272, g273, rfl, rfl, h274, h275, h276, h277, h278, h279, fr280, fc281⟩ := p270
              exact J_zret hq dX11_hillLine_273 rfl (bI_n _) wlen (Nat.le_refl _) (Nat.le_refl _) ⟨t271, u272, g273, rfl, rfl, h274, h275, h276, h277, h278, (fun q => (gv_r rfl rfl rfl (gv_t h253 (h279 q)))), (fun c k0_ k1_ k2_ => ((fr280 c k0_ k1_ k2_).trans (fr254 c k0_))), (fun j k8_ k10_ k11_ k12_ k14_ k15_ k16_ k17_ k18_ => ((fc281 j k8_ k10_ k11_ k12_ k14_ k15_ k16_ k17_ k18_).trans (fc255 j k8_ k10_ k11_ k12_)))⟩
            · refine J_lload_n (i := 2) (j := 3) dX11_hillLine_239 rfl rfl ?_
              refine J_ldc2 (v := 1886350948) dX11_hillLine_240 k1442 ?_
              refine J_lcmp dX11_hillLine_243 ?_
              refine J_if_ne (tgt := 255) dX11_hillLine_244 (by decide) (fun _ => ?_) (fun q => absurd q c256)
              refine J_aload_n (i := 0) (j := 1) dX11_hillLine_255 rfl rfl ?_
              refine J_iload_n (i := 1) (j := 2) dX11_hillLine_256 rfl rfl ?_
              refine J_callV (As := [.int at0]) (rest := []) dX11_hillLine_257 (c_M_rainLine (d := 4) (u := u247) (g := g248) (ex := ex) (at0 := at0)  (by decide) h249 (bd_r (fc255 9 (by decide) (by decide) (by decide) (by decide)) hp1) h252 (bd_r (fc255 17 (by decide) (by decide) (by decide) (by decide)) hp3) (ab_c (fr254 171 (by decide)) hp4) (rh_c (fr254 170 (by decide)) hp5)) hq.n k1464 k1466 k46 wc_162 rfl rfl k97 k1467 np_X11_rainLine (Nat.le_trans (by decide) hd) (by decide) (Nat.le_refl _) (Nat.le_refl _) wlen rfl (Nat.le_of_ble_eq_true rfl) (fun r_ h_ p282 => ?_)
              obtain ⟨t283, u284, g285, rfl, rfl, h286, h287, h288, h289, h290, h291, fr292, fc293⟩ := p282
              exact J_zret hq dX11_hillLine_260 rfl (bI_n _) wlen (Nat.le_refl _) (Nat.le_refl _) ⟨t283, u284, g285, rfl, rfl, h286, h287, h288, h289, h290, (fun q => (gv_r rfl rfl rfl (gv_t h253 (h291 q)))), (fun c k0_ k1_ k2_ => ((fr292 c k0_ k1_ k2_).trans (fr254 c k0_))), (fun j k8_ k10_ k11_ k12_ k14_ k15_ k16_ k17_ k18_ => ((fc293 j k8_ k10_ k11_ k12_ k14_ k15_ k16_ k17_ k18_).trans (fc255 j k8_ k10_ k11_ k12_)))⟩
        refine J_if_ne (tgt := 69) dX11_hillLine_61 (by decide) (fun c234 => ?_) (fun c234 => ?_)
        · refine J_lload_n (i := 2) (j := 1) dX11_hillLine_69 rfl rfl ?_
          refine J_ldc2 (v := 418548114533) dX11_hillLine_70 k1433 ?_
          refine J_lcmp dX11_hillLine_73 ?_
          refine J_if_ne (tgt := 82) dX11_hillLine_74 (by decide) (fun c294 => ?_) (fun c294 => ?_)
          · refine J_lload_n (i := 2) (j := 1) dX11_hillLine_82 rfl rfl ?_
            refine J_ldc2 (v := 422607680115) dX11_hillLine_83 k1434 ?_
            refine J_lcmp dX11_hillLine_86 ?_
            refine J_if_ne (tgt := 94) dX11_hillLine_87 (by decide) (fun c295 => ?_) (fun c295 => ?_)
            · refine J_lload_n (i := 2) (j := 1) dX11_hillLine_94 rfl rfl ?_
              refine J_ldc2 (v := 1735353715) dX11_hillLine_95 k1435 ?_
              refine J_lcmp dX11_hillLine_98 ?_
              refine J_if_ne (tgt := 106) dX11_hillLine_99 (by decide) (fun c296 => ?_) (fun c296 => ?_)
              · refine J_lload_n (i := 2) (j := 1) dX11_hillLine_106 rfl rfl ?_
                refine J_ldc2 (v := 1751216749) dX11_hillLine_107 k1436 ?_
                refine J_lcmp dX11_hillLine_110 ?_
                refine J_if_ne (tgt := 118) dX11_hillLine_111 (by decide) (fun c297 => ?_) (fun c297 => ?_)
                · refine J_lload_n (i := 2) (j := 1) dX11_hillLine_118 rfl rfl ?_
                  refine J_ldc2 (v := 478745093490) dX11_hillLine_119 k1437 ?_
                  refine J_lcmp dX11_hillLine_122 ?_
                  refine J_if_ne (tgt := 131) dX11_hillLine_123 (by decide) (fun c298 => ?_) (fun c298 => ?_)
                  · refine J_lload_n (i := 2) (j := 1) dX11_hillLine_131 rfl rfl ?_
                    refine J_ldc2 (v := 1919509349) dX11_hillLine_132 k1438 ?_
                    refine J_lcmp dX11_hillLine_135 ?_
                    refine J_if_ne (tgt := 144) dX11_hillLine_136 (by decide) (fun c299 => ?_) (fun c299 => ?_)
                    · refine J_lload_n (i := 2) (j := 1) dX11_hillLine_144 rfl rfl ?_
                      refine J_ldc2 (v := 7823737) dX11_hillLine_145 k1439 ?_
                      refine J_lcmp dX11_hillLine_148 ?_
                      refine J_if_ne (tgt := 157) dX11_hillLine_149 (by decide) (fun c300 => ?_) (fun c300 => ?_)
                      · refine J_lload_n (i := 2) (j := 1) dX11_hillLine_157 rfl rfl ?_
                        refine J_ldc2 (v := 1734440037) dX11_hillLine_158 k1440 ?_
                        refine J_lcmp dX11_hillLine_161 ?_
                        refine J_if_ne (tgt := 170) dX11_hillLine_162 (by decide) (fun c301 => ?_) (fun c301 => ?_)
                        · refine J_lload_n (i := 2) (j := 1) dX11_hillLine_170 rfl rfl ?_
                          refine J_ldc2 (v := 1936287598) dX11_hillLine_171 k1441 ?_
                          refine J_lcmp dX11_hillLine_174 ?_
                          refine J_if_ne (tgt := 183) dX11_hillLine_175 (by decide) (fun c302 => ?_) (fun c302 => ?_)
                          · refine J_iconst (v := (-1)) dX11_hillLine_183 (by decide) ?_
                            refine J_lv [2, 3, 1, 0] rfl ?_
                            exact jn245 ((-1) : Int32) (bd_w (l := (-1)) (h := 13) (bd_c (v := (-1)) (lo := (-1)) (hi := (-1)) (by decide)) (by decide))
                          · refine J_bipush (v := 13) dX11_hillLine_178 (by decide) ?_
                            refine J_goto (tgt := 184) dX11_hillLine_180 (by decide) ?_
                            refine J_lv [2, 3, 1, 0] rfl ?_
                            exact jn245 (13 : Int32) (bd_w (l := (-1)) (h := 13) (bd_c (v := 13) (lo := 13) (hi := 13) (by decide)) (by decide))
                        · refine J_bipush (v := 12) dX11_hillLine_165 (by decide) ?_
                          refine J_goto (tgt := 184) dX11_hillLine_167 (by decide) ?_
                          refine J_lv [2, 3, 1, 0] rfl ?_
                          exact jn245 (12 : Int32) (bd_w (l := (-1)) (h := 13) (bd_c (v := 12) (lo := 12) (hi := 12) (by decide)) (by decide))
                      · refine J_bipush (v := 11) dX11_hillLine_152 (by decide) ?_
                        refine J_goto (tgt := 184) dX11_hillLine_154 (by decide) ?_
                        refine J_lv [2, 3, 1, 0] rfl ?_
                        exact jn245 (11 : Int32) (bd_w (l := (-1)) (h := 13) (bd_c (v := 11) (lo := 11) (hi := 11) (by decide)) (by decide))
                    · refine J_bipush (v := 7) dX11_hillLine_139 (by decide) ?_
                      refine J_goto (tgt := 184) dX11_hillLine_141 (by decide) ?_
                      refine J_lv [2, 3, 1, 0] rfl ?_
                      exact jn245 (7 : Int32) (bd_w (l := (-1)) (h := 13) (bd_c (v := 7) (lo := 7) (hi := 7) (by decide)) (by decide))
                  · refine J_bipush (v := 6) dX11_hillLine_126 (by decide) ?_
                    refine J_goto (tgt := 184) dX11_hillLine_128 (by decide) ?_
                    refine J_lv [2, 3, 1, 0] rfl ?_
                    exact jn245 (6 : Int32) (bd_w (l := (-1)) (h := 13) (bd_c (v := 6) (lo := 6) (hi := 6) (by decide)) (by decide))
                · refine J_iconst (v := 5) dX11_hillLine_114 (by decide) ?_
                  refine J_goto (tgt := 184) dX11_hillLine_115 (by decide) ?_
                  refine J_lv [2, 3, 1, 0] rfl ?_
                  exact jn245 (5 : Int32) (bd_w (l := (-1)) (h := 13) (bd_c (v := 5) (lo := 5) (hi := 5) (by decide)) (by decide))
              · refine J_iconst (v := 4) dX11_hillLine_102 (by decide) ?_
                refine J_goto (tgt := 184) dX11_hillLine_103 (by decide) ?_
                refine J_lv [2, 3, 1, 0] rfl ?_
                exact jn245 (4 : Int32) (bd_w (l := (-1)) (h := 13) (bd_c (v := 4) (lo := 4) (hi := 4) (by decide)) (by decide))
            · refine J_iconst (v := 3) dX11_hillLine_90 (by decide) ?_
              refine J_goto (tgt := 184) dX11_hillLine_91 (by decide) ?_
              refine J_lv [2, 3, 1, 0] rfl ?_
              exact jn245 (3 : Int32) (bd_w (l := (-1)) (h := 13) (bd_c (v := 3) (lo := 3) (hi := 3) (by decide)) (by decide))
          · refine J_bipush (v := 9) dX11_hillLine_77 (by decide) ?_
            refine J_goto (tgt := 184) dX11_hillLine_79 (by decide) ?_
            refine J_lv [2, 3, 1, 0] rfl ?_
            exact jn245 (9 : Int32) (bd_w (l := (-1)) (h := 13) (bd_c (v := 9) (lo := 9) (hi := 9) (by decide)) (by decide))
        · refine J_bipush (v := 8) dX11_hillLine_64 (by decide) ?_
          refine J_goto (tgt := 184) dX11_hillLine_66 (by decide) ?_
          refine J_lv [2, 3, 1, 0] rfl ?_
          exact jn245 (8 : Int32) (bd_w (l := (-1)) (h := 13) (bd_c (v := 8) (lo := 8) (hi := 8) (by decide)) (by decide))
    · refine J_iconst (v := 2) dX11_hillLine_25 (by decide) ?_
      refine J_goto (tgt := 54) dX11_hillLine_26 (by decide) ?_
      refine J_istore (i := 4) (lw := [(4, .int 2), (2, .long w3), (0, .ref 162), (1, .int at0)]) dX11_hillLine_54 (by decide) rfl ?_
      refine J_lload_n (i := 2) (j := 1) dX11_hillLine_56 rfl rfl ?_
      refine J_ldc2 (v := 1685026670) dX11_hillLine_57 k1432 ?_
      refine J_lcmp dX11_hillLine_60 ?_
      have jn314 : ∀ (w313 : Int32), Bd (-1) 13 w313 → J x yX11_hillLine cX11_hillLine 7 (some .boolean) d 0 0 (Wd u g ex).length 184 [(0, .ref 162), (1, .int at0), (2, .long w3), (4, .int 2)] [.int w313] (Wd u g ex) 0 0 := by
        intro w313 bw313
        refine J_istore (i := 5) (lw := [(5, .int w313), (0, .ref 162), (1, .int at0), (2, .long w3), (4, .int 2)]) dX11_hillLine_184 (by decide) rfl ?_
        refine J_iload (i := 4) (j := 4) dX11_hillLine_186 rfl ?_
        refine J_iconst (v := (-1)) dX11_hillLine_188 (by decide) ?_
        refine J_icmp_ne (tgt := 219) dX11_hillLine_189 (by decide) (fun _ => ?_) (fun q => absurd q (by decide))
        refine J_aload_n (i := 0) (j := 1) dX11_hillLine_219 rfl rfl ?_
        refine J_callV (As := []) (rest := []) dX11_hillLine_220 (c_M_token (d := 1) (u := u) (g := g) (ex := ex)   (by decide) hp0 hp1 hp2) hq.n k1417 k1419 k38 wc_162 rfl rfl k97 k1420 np_X11_token (Nat.le_trans (by decide) hd) (by decide) (Nat.le_refl _) (Nat.le_refl _) wlen rfl (Nat.le_of_ble_eq_true rfl) (fun r_ h_ p315 => ?_)
        obtain ⟨u316, g317, rfl, rfl, h318, h319, h320, h321, h322, fr323, fc324⟩ := p315
        refine J_lload_n (i := 2) (j := 3) dX11_hillLine_223 rfl rfl ?_
        refine J_ldc2 (v := 1886350948) dX11_hillLine_224 k1442 ?_
        refine J_lcmp dX11_hillLine_227 ?_
        refine J_if_eq (tgt := 239) dX11_hillLine_228 (by decide) (fun c325 => ?_) (fun c325 => ?_)
        · refine J_lload_n (i := 2) (j := 3) dX11_hillLine_239 rfl rfl ?_
          refine J_ldc2 (v := 1886350948) dX11_hillLine_240 k1442 ?_
          refine J_lcmp dX11_hillLine_243 ?_
          refine J_if_ne (tgt := 255) dX11_hillLine_244 (by decide) (fun q => absurd c325 q) (fun _ => ?_)
          refine J_aload_n (i := 0) (j := 1) dX11_hillLine_247 rfl rfl ?_
          refine J_iload_n (i := 1) (j := 2) dX11_hillLine_248 rfl rfl ?_
          refine J_callV (As := [.int at0]) (rest := []) dX11_hillLine_249 (c_M_pondLine (d := 4) (u := u316) (g := g317) (ex := ex) (at0 := at0)  (by decide) h318 (bd_r (fc324 9 (by decide) (by decide) (by decide) (by decide)) hp1) h321 (bd_r (fc324 17 (by decide) (by decide) (by decide) (by decide)) hp3) (ab_c (fr323 171 (by decide)) hp4) (rh_c (fr323 170 (by decide)) hp5)) hq.n k1448 k1450 k42 wc_162 rfl rfl k97 k1451 np_X11_pondLine (Nat.le_trans (by decide) hd) (by decide) (Nat.le_refl _) (Nat.le_refl _) wlen rfl (Nat.le_of_ble_eq_true rfl) (fun r_ h_ p326 => ?_)
          obtain ⟨t327, u328, g329, rfl, rfl, h330, h331, h332, h333, h334, h335, fr336, fc337⟩ := p326
          refine J_goto (tgt := 260) dX11_hillLine_252 (by decide) ?_
          exact J_zret hq dX11_hillLine_260 rfl (bI_n _) wlen (Nat.le_refl _) (Nat.le_refl _) ⟨t327, u328, g329, rfl, rfl, h330, h331, h332, h333, h334, (fun q => (gv_r rfl rfl rfl (gv_t h322 (h335 q)))), (fun c k0_ k1_ k2_ => ((fr336 c k0_ k1_ k2_).trans (fr323 c k0_))), (fun j k8_ k10_ k11_ k12_ k14_ k15_ k16_ k17_ k18_ => ((fc337 j k8_ k10_ k11_ k12_ k14_ k15_ k16_ k17_ k18_).trans (fc324 j k8_ k10_ k11_ k12_)))⟩
        · refine J_lload_n (i := 2) (j := 3) dX11_hillLine_231 rfl rfl ?_
          refine J_ldc2 (v := 1918986606) dX11_hillLine_232 k1443 ?_
          refine J_lcmp dX11_hillLine_235 ?_
          refine J_if_ne (tgt := 261) dX11_hillLine_236 (by decide) (fun c338 => ?_) (fun c338 => ?_)
          · refine J_iload (i := 4) (j := 4) dX11_hillLine_261 rfl ?_
            refine J_iconst (v := (-1)) dX11_hillLine_263 (by decide) ?_
            refine J_icmp_eq (tgt := 274) dX11_hillLine_264 (by decide) (fun q => absurd q (by decide)) (fun _ => ?_)
            refine J_aload_n (i := 0) (j := 1) dX11_hillLine_267 rfl rfl ?_
            refine J_iload (i := 4) (j := 4) dX11_hillLine_268 rfl ?_
            refine J_callV (As := [.int 2]) (rest := []) dX11_hillLine_270 (c_M_daysLine (d := 3) (u := u316) (g := g317) (ex := ex) (to := 2)  (by decide) h318 (bd_r (fc324 9 (by decide) (by decide) (by decide) (by decide)) hp1) h321 (bd_r (fc324 17 (by decide) (by decide) (by decide) (by decide)) hp3) (ab_c (fr323 171 (by decide)) hp4) (rh_c (fr323 170 (by decide)) hp5) (bd_w (l := 2) (h := 4) (bd_c (v := 2) (lo := 2) (hi := 2) (by decide)) (by decide))) hq.n k1468 k1470 k47 wc_162 rfl rfl k97 k1471 np_X11_daysLine (Nat.le_trans (by decide) hd) (by decide) (Nat.le_refl _) (Nat.le_refl _) wlen rfl (Nat.le_of_ble_eq_true rfl) (fun r_ h_ p339 => ?_)
            obtain ⟨t340, u341, g342, rfl, rfl, h343, h344, h345, h346, h347, h348, fr349, fc350⟩ := p339
            exact J_zret hq dX11_hillLine_273 rfl (bI_n _) wlen (Nat.le_refl _) (Nat.le_refl _) ⟨t340, u341, g342, rfl, rfl, h343, h344, h345, h346, h347, (fun q => (gv_r rfl rfl rfl (gv_t h322 (h348 q)))), (fun c k0_ k1_ k2_ => ((fr349 c k0_ k1_ k2_).trans (fr323 c k0_))), (fun j k8_ k10_ k11_ k12_ k14_ k15_ k16_ k17_ k18_ => ((fc350 j k8_ k10_ k11_ k12_ k14_ k15_ k16_ k17_ k18_).trans (fc324 j k8_ k10_ k11_ k12_)))⟩
          · refine J_lload_n (i := 2) (j := 3) dX11_hillLine_239 rfl rfl ?_
            refine J_ldc2 (v := 1886350948) dX11_hillLine_240 k1442 ?_
            refine J_lcmp dX11_hillLine_243 ?_
            refine J_if_ne (tgt := 255) dX11_hillLine_244 (by decide) (fun _ => ?_) (fun q => absurd q c325)
            refine J_aload_n (i := 0) (j := 1) dX11_hillLine_255 rfl rfl ?_
            refine J_iload_n (i := 1) (j := 2) dX11_hillLine_256 rfl rfl ?_
            refine J_callV (As := [.int at0]) (rest := []) dX11_hillLine_257 (c_M_rainLine (d := 4) (u := u316) (g := g317) (ex := ex) (at0 := at0)  (by decide) h318 (bd_r (fc324 9 (by decide) (by decide) (by decide) (by decide)) hp1) h321 (bd_r (fc324 17 (by decide) (by decide) (by decide) (by decide)) hp3) (ab_c (fr323 171 (by decide)) hp4) (rh_c (fr323 170 (by decide)) hp5)) hq.n k1464 k1466 k46 wc_162 rfl rfl k97 k1467 np_X11_rainLine (Nat.le_trans (by decide) hd) (by decide) (Nat.le_refl _) (Nat.le_refl _) wlen rfl (Nat.le_of_ble_eq_true rfl) (fun r_ h_ p351 => ?_)
            obtain ⟨t352, u353, g354, rfl, rfl, h355, h356, h357, h358, h359, h360, fr361, fc362⟩ := p351
            exact J_zret hq dX11_hillLine_260 rfl (bI_n _) wlen (Nat.le_refl _) (Nat.le_refl _) ⟨t352, u353, g354, rfl, rfl, h355, h356, h357, h358, h359, (fun q => (gv_r rfl rfl rfl (gv_t h322 (h360 q)))), (fun c k0_ k1_ k2_ => ((fr361 c k0_ k1_ k2_).trans (fr323 c k0_))), (fun j k8_ k10_ k11_ k12_ k14_ k15_ k16_ k17_ k18_ => ((fc362 j k8_ k10_ k11_ k12_ k14_ k15_ k16_ k17_ k18_).trans (fc324 j k8_ k10_ k11_ k12_)))⟩
      refine J_if_ne (tgt := 69) dX11_hillLine_61 (by decide) (fun c303 => ?_) (fun c303 => ?_)
      · refine J_lload_n (i := 2) (j := 1) dX11_hillLine_69 rfl rfl ?_
        refine J_ldc2 (v := 418548114533) dX11_hillLine_70 k1433 ?_
        refine J_lcmp dX11_hillLine_73 ?_
        refine J_if_ne (tgt := 82) dX11_hillLine_74 (by decide) (fun c363 => ?_) (fun c363 => ?_)
        · refine J_lload_n (i := 2) (j := 1) dX11_hillLine_82 rfl rfl ?_
          refine J_ldc2 (v := 422607680115) dX11_hillLine_83 k1434 ?_
          refine J_lcmp dX11_hillLine_86 ?_
          refine J_if_ne (tgt := 94) dX11_hillLine_87 (by decide) (fun c364 => ?_) (fun c364 => ?_)
          · refine J_lload_n (i := 2) (j := 1) dX11_hillLine_94 rfl rfl ?_
            refine J_ldc2 (v := 1735353715) dX11_hillLine_95 k1435 ?_
            refine J_lcmp dX11_hillLine_98 ?_
            refine J_if_ne (tgt := 106) dX11_hillLine_99 (by decide) (fun c365 => ?_) (fun c365 => ?_)
            · refine J_lload_n (i := 2) (j := 1) dX11_hillLine_106 rfl rfl ?_
              refine J_ldc2 (v := 1751216749) dX11_hillLine_107 k1436 ?_
              refine J_lcmp dX11_hillLine_110 ?_
              refine J_if_ne (tgt := 118) dX11_hillLine_111 (by decide) (fun c366 => ?_) (fun c366 => ?_)
              · refine J_lload_n (i := 2) (j := 1) dX11_hillLine_118 rfl rfl ?_
                refine J_ldc2 (v := 478745093490) dX11_hillLine_119 k1437 ?_
                refine J_lcmp dX11_hillLine_122 ?_
                refine J_if_ne (tgt := 131) dX11_hillLine_123 (by decide) (fun c367 => ?_) (fun c367 => ?_)
                · refine J_lload_n (i := 2) (j := 1) dX11_hillLine_131 rfl rfl ?_
                  refine J_ldc2 (v := 1919509349) dX11_hillLine_132 k1438 ?_
                  refine J_lcmp dX11_hillLine_135 ?_
                  refine J_if_ne (tgt := 144) dX11_hillLine_136 (by decide) (fun c368 => ?_) (fun c368 => ?_)
                  · refine J_lload_n (i := 2) (j := 1) dX11_hillLine_144 rfl rfl ?_
                    refine J_ldc2 (v := 7823737) dX11_hillLine_145 k1439 ?_
                    refine J_lcmp dX11_hillLine_148 ?_
                    refine J_if_ne (tgt := 157) dX11_hillLine_149 (by decide) (fun c369 => ?_) (fun c369 => ?_)
                    · refine J_lload_n (i := 2) (j := 1) dX11_hillLine_157 rfl rfl ?_
                      refine J_ldc2 (v := 1734440037) dX11_hillLine_158 k1440 ?_
                      refine J_lcmp dX11_hillLine_161 ?_
                      refine J_if_ne (tgt := 170) dX11_hillLine_162 (by decide) (fun c370 => ?_) (fun c370 => ?_)
                      · refine J_lload_n (i := 2) (j := 1) dX11_hillLine_170 rfl rfl ?_
                        refine J_ldc2 (v := 1936287598) dX11_hillLine_171 k1441 ?_
                        refine J_lcmp dX11_hillLine_174 ?_
                        refine J_if_ne (tgt := 183) dX11_hillLine_175 (by decide) (fun c371 => ?_) (fun c371 => ?_)
                        · refine J_iconst (v := (-1)) dX11_hillLine_183 (by decide) ?_
                          refine J_lv [2, 3, 1, 0] rfl ?_
                          exact jn314 ((-1) : Int32) (bd_w (l := (-1)) (h := 13) (bd_c (v := (-1)) (lo := (-1)) (hi := (-1)) (by decide)) (by decide))
                        · refine J_bipush (v := 13) dX11_hillLine_178 (by decide) ?_
                          refine J_goto (tgt := 184) dX11_hillLine_180 (by decide) ?_
                          refine J_lv [2, 3, 1, 0] rfl ?_
                          exact jn314 (13 : Int32) (bd_w (l := (-1)) (h := 13) (bd_c (v := 13) (lo := 13) (hi := 13) (by decide)) (by decide))
                      · refine J_bipush (v := 12) dX11_hillLine_165 (by decide) ?_
                        refine J_goto (tgt := 184) dX11_hillLine_167 (by decide) ?_
                        refine J_lv [2, 3, 1, 0] rfl ?_
                        exact jn314 (12 : Int32) (bd_w (l := (-1)) (h := 13) (bd_c (v := 12) (lo := 12) (hi := 12) (by decide)) (by decide))
                    · refine J_bipush (v := 11) dX11_hillLine_152 (by decide) ?_
                      refine J_goto (tgt := 184) dX11_hillLine_154 (by decide) ?_
                      refine J_lv [2, 3, 1, 0] rfl ?_
                      exact jn314 (11 : Int32) (bd_w (l := (-1)) (h := 13) (bd_c (v := 11) (lo := 11) (hi := 11) (by decide)) (by decide))
                  · refine J_bipush (v := 7) dX11_hillLine_139 (by decide) ?_
                    refine J_goto (tgt := 184) dX11_hillLine_141 (by decide) ?_
                    refine J_lv [2, 3, 1, 0] rfl ?_
                    exact jn314 (7 : Int32) (bd_w (l := (-1)) (h := 13) (bd_c (v := 7) (lo := 7) (hi := 7) (by decide)) (by decide))
                · refine J_bipush (v := 6) dX11_hillLine_126 (by decide) ?_
                  refine J_goto (tgt := 184) dX11_hillLine_128 (by decide) ?_
                  refine J_lv [2, 3, 1, 0] rfl ?_
                  exact jn314 (6 : Int32) (bd_w (l := (-1)) (h := 13) (bd_c (v := 6) (lo := 6) (hi := 6) (by decide)) (by decide))
              · refine J_iconst (v := 5) dX11_hillLine_114 (by decide) ?_
                refine J_goto (tgt := 184) dX11_hillLine_115 (by decide) ?_
                refine J_lv [2, 3, 1, 0] rfl ?_
                exact jn314 (5 : Int32) (bd_w (l := (-1)) (h := 13) (bd_c (v := 5) (lo := 5) (hi := 5) (by decide)) (by decide))
            · refine J_iconst (v := 4) dX11_hillLine_102 (by decide) ?_
              refine J_goto (tgt := 184) dX11_hillLine_103 (by decide) ?_
              refine J_lv [2, 3, 1, 0] rfl ?_
              exact jn314 (4 : Int32) (bd_w (l := (-1)) (h := 13) (bd_c (v := 4) (lo := 4) (hi := 4) (by decide)) (by decide))
          · refine J_iconst (v := 3) dX11_hillLine_90 (by decide) ?_
            refine J_goto (tgt := 184) dX11_hillLine_91 (by decide) ?_
            refine J_lv [2, 3, 1, 0] rfl ?_
            exact jn314 (3 : Int32) (bd_w (l := (-1)) (h := 13) (bd_c (v := 3) (lo := 3) (hi := 3) (by decide)) (by decide))
        · refine J_bipush (v := 9) dX11_hillLine_77 (by decide) ?_
          refine J_goto (tgt := 184) dX11_hillLine_79 (by decide) ?_
          refine J_lv [2, 3, 1, 0] rfl ?_
          exact jn314 (9 : Int32) (bd_w (l := (-1)) (h := 13) (bd_c (v := 9) (lo := 9) (hi := 9) (by decide)) (by decide))
      · refine J_bipush (v := 8) dX11_hillLine_64 (by decide) ?_
        refine J_goto (tgt := 184) dX11_hillLine_66 (by decide) ?_
        refine J_lv [2, 3, 1, 0] rfl ?_
        exact jn314 (8 : Int32) (bd_w (l := (-1)) (h := 13) (bd_c (v := 8) (lo := 8) (hi := 8) (by decide)) (by decide))
  refine J_icmp_ne (tgt := 15) dX11_hillLine_5 (by decide) (fun c1 => ?_) (fun c1 => ?_)
  · refine J_lconst (v := 0) dX11_hillLine_15 (by decide) ?_
    refine J_lv [0, 1] rfl ?_
    exact jn4 (0 : Int64) 
  · refine J_aload_n (i := 0) (j := 0) dX11_hillLine_8 rfl rfl ?_
    refine J_get (C := RX11) (T := TX11) (Z := 43) (ci := 11) (f := 13) dX11_hillLine_9 inG11 rfl (by decide) k1277 wc_162 rfl ?_
    refine J_topl (fun l372 _ => ?_)
    refine J_goto (tgt := 16) dX11_hillLine_12 (by decide) ?_
    refine J_lv [0, 1] rfl ?_
    exact jn4 l372 
set_option maxHeartbeats 4000000 in
set_option maxRecDepth 100000 in
theorem c_M_workLine {d : Nat} {u : Nat → Nat → Int32} {g : Nat → Nat → Int64} {ex : List MC} {at0 : Int32} (hd : 4 ≤ d) (hp0 : Bd 0 600 (u 162 8)) (hp1 : Bd 0 600 (u 162 9)) (hp2 : Bd 0 999 (u 162 12)) (hp3 : Bd 0 999 (u 162 17)) (hp4 : AB u 171 (-1) 999) (hp5 : (RP u)) : CT con0 d 0 0 yX11_workLine cX11_workLine 6 (some .boolean) [.ref 162, .int at0] (Wd u g ex) (fun r h2 => ∃ (z : Bool) (u2 : Nat → Nat → Int32) (g2 : Nat → Nat → Int64), r = some (.int (bI z)) ∧ h2 = Wd u2 g2 ex ∧ Bd 0 600 (u2 162 8) ∧ Bd 0 999 (u2 162 12) ∧ Bd 0 999 (u2 162 17) ∧ AB u2 171 (-1) 999 ∧ (RP u2) ∧ (z = true → GV (u 162 8) (u2 162 8) (u2 162 11)) ∧ (∀ c, c ≠ 162 → c ≠ 170 → c ≠ 171 → u2 c = u c) ∧ (∀ j, j ≠ 8 → j ≠ 10 → j ≠ 11 → j ≠ 12 → j ≠ 14 → j ≠ 15 → j ≠ 16 → j ≠ 17 → j ≠ 18 → u2 162 j = u 162 j)) := by
  refine CT_of (by decide) (Nat.le_of_ble_eq_true rfl) (fun x hq => ?_)
  show J x yX11_workLine cX11_workLine 6 (some .boolean) d 0 0 (Wd u g ex).length 0 [(0, .ref 162), (1, .int at0)] [] (Wd u g ex) 0 0
  refine J_aload_n (i := 0) (j := 0) dX11_workLine_0 rfl rfl ?_
  refine J_get (C := RX11) (T := TX11) (Z := 43) (ci := 11) (f := 11) dX11_workLine_1 inG11 rfl (by decide) k1275 wc_162 rfl ?_
  refine J_iconst (v := 2) dX11_workLine_4 (by decide) ?_
  have jn4 : ∀ (w3 : Int64), J x yX11_workLine cX11_workLine 6 (some .boolean) d 0 0 (Wd u g ex).length 16 [(0, .ref 162), (1, .int at0)] [.long w3] (Wd u g ex) 0 0 := by
    intro w3
    refine J_lstore_n (i := 2) (lw := [(2, .long w3), (0, .ref 162), (1, .int at0)]) dX11_workLine_16 rfl (by decide) rfl ?_
    refine J_lload_n (i := 2) (j := 0) dX11_workLine_17 rfl rfl ?_
    refine J_ldc2 (v := 1835363940) dX11_workLine_18 k1429 ?_
    refine J_lcmp dX11_workLine_21 ?_
    have jn11 : ∀ (w10 : Int32), Bd (-1) 4 w10 → J x yX11_workLine cX11_workLine 6 (some .boolean) d 0 0 (Wd u g ex).length 78 [(0, .ref 162), (1, .int at0)] [.int w10] (Wd u g ex) 0 0 := by
      intro w10 bw10
      refine J_istore (i := 4) (lw := [(4, .int w10), (0, .ref 162), (1, .int at0)]) dX11_workLine_78 (by decide) rfl ?_
      refine J_iload (i := 4) (j := 0) dX11_workLine_80 rfl ?_
      refine J_iconst (v := (-1)) dX11_workLine_82 (by decide) ?_
      refine J_icmp_ne (tgt := 91) dX11_workLine_83 (by decide) (fun c12 => ?_) (fun c12 => ?_)
      · refine J_aload_n (i := 0) (j := 1) dX11_workLine_91 rfl rfl ?_
        refine J_get (C := RX11) (T := TX11) (Z := 43) (ci := 11) (f := 19) dX11_workLine_92 inG11 rfl (by decide) k1283 wc_162 rfl ?_
        refine J_iconst (v := 0) dX11_workLine_95 (by decide) ?_
        refine J_iald dX11_workLine_96 wc_170 (vin (bd_c (v := 0) (lo := 0) (hi := 0) (by decide)) (by decide)) ?_
        refine J_ci (v := u 170 0) rfl ?_
        refine J_istore (i := 5) (lw := [(5, .int (u 170 0)), (4, .int w10), (0, .ref 162), (1, .int at0)]) dX11_workLine_97 (by decide) rfl ?_
        refine J_iload (i := 5) (j := 0) dX11_workLine_99 rfl ?_
        refine J_bipush (v := 12) dX11_workLine_101 (by decide) ?_
        have jn22 : ∀ (u19 : Nat → Nat → Int32), (∀ c, c ≠ 162 → u19 c = u c) → (∀ j, j ≠ 15 → j ≠ 16 → u19 162 j = u 162 j) → J x yX11_workLine cX11_workLine 6 (some .boolean) d 0 0 (Wd u g ex).length 112 [(0, .ref 162), (4, .int w10), (5, .int (u 170 0))] [] (Wd u19 g ex) 0 0 := by
          intro u19 fr20 fc21
          refine J_aload_n (i := 0) (j := 0) dX11_workLine_112 rfl rfl ?_
          refine J_callV (As := []) (rest := []) dX11_workLine_113 (c_M_token (d := 1) (u := u19) (g := g) (ex := ex)   (by decide) (bd_r (fc21 8 (by decide) (by decide)) hp0) (bd_r (fc21 9 (by decide) (by decide)) hp1) (bd_r (fc21 12 (by decide) (by decide)) hp2)) hq.n k1417 k1419 k38 wc_162 rfl rfl k97 k1420 np_X11_token (Nat.le_trans (by decide) hd) (by decide) (Nat.le_refl _) (Nat.le_refl _) wlen rfl (Nat.le_of_ble_eq_true rfl) (fun r_ h_ p23 => ?_)
          obtain ⟨u24, g25, rfl, rfl, h26, h27, h28, h29, h30, fr31, fc32⟩ := p23
          refine J_aload_n (i := 0) (j := 0) dX11_workLine_116 rfl rfl ?_
          refine J_get (C := RX11) (T := TX11) (Z := 43) (ci := 11) (f := 20) dX11_workLine_117 inG11 rfl (by decide) k1284 wc_162 rfl ?_
          refine J_iconst (v := 1) dX11_workLine_120 (by decide) ?_
          refine J_iconst (v := (-1)) dX11_workLine_121 (by decide) ?_
          obtain ⟨u33, e34⟩ : ∃ z, z = ms u24 171 1 (-1) := ⟨_, rfl⟩
          refine J_iast dX11_workLine_122 wc_171 (vin (bd_c (v := 1) (lo := 1) (hi := 1) (by decide)) (by decide)) (ws e34 wk_171 rfl) ?_
          refine J_aload_n (i := 0) (j := 0) dX11_workLine_123 rfl rfl ?_
          refine J_iconst (v := 0) dX11_workLine_124 (by decide) ?_
          refine J_iconst (v := 0) dX11_workLine_125 (by decide) ?_
          refine J_bipush (v := 8) dX11_workLine_126 (by decide) ?_
          refine J_callV (As := [.int 0, .int 0, .int 8]) (rest := []) dX11_workLine_128 (c_M_take0 (d := 3) (u := u33) (g := g25) (ex := ex) (low := 0) (high := 8)  (by decide) (bd_r (congrFun (ms_c e34 (by decide)) 8) h26) (bd_r ((congrFun (ms_c e34 (by decide)) 9).trans ((fc32 9 (by decide) (by decide) (by decide) (by decide)).trans (fc21 9 (by decide) (by decide)))) hp1) (bd_r (congrFun (ms_c e34 (by decide)) 12) h29) (bd_r ((congrFun (ms_c e34 (by decide)) 17).trans ((fc32 17 (by decide) (by decide) (by decide) (by decide)).trans (fc21 17 (by decide) (by decide)))) hp3)) hq.n k1456 k1458 k44 wc_162 rfl rfl k97 k1459 np_X11_take (Nat.le_trans (by decide) hd) (by decide) (Nat.le_refl _) (Nat.le_refl _) wlen rfl (Nat.le_of_ble_eq_true rfl) (fun r_ h_ p35 => ?_)
          obtain ⟨t36, u37, g38, rfl, rfl, h39, h40, h41, h42, h43, h44, h45, fr46, fc47, fc48⟩ := p35
          refine J_ifB_eq (tgt := 182) dX11_workLine_131 (by decide) (fun c49 => ?_) (fun c49 => ?_)
          · refine J_iconst (v := 0) dX11_workLine_182 (by decide) ?_
            exact J_zret hq dX11_workLine_183 rfl rfl wlen (Nat.le_refl _) (Nat.le_refl _) ⟨false, u37, g38, rfl, rfl, h39, h40, h41, (ab_i fc48 (ab_s e34 (ab_c ((fr31 171 (by decide)).trans (fr20 171 (by decide))) hp4) (bd_w (l := (-1)) (h := 999) (bd_c (v := (-1)) (lo := (-1)) (hi := (-1)) (by decide)) (by decide))) (bd_w (l := (-1)) (h := 999) h42 (by decide))), (rp_c ((fr46 170 (by decide) (by decide)).trans ((ms_c e34 (by decide)).trans ((fr31 170 (by decide)).trans (fr20 170 (by decide))))) hp5), (fun q => absurd q (by decide)), (fun c k0_ k1_ k2_ => ((fr46 c k0_ k2_).trans ((ms_c e34 k2_).trans ((fr31 c k0_).trans (fr20 c k0_))))), (fun j k8_ k10_ k11_ k12_ k14_ k15_ k16_ k17_ k18_ => ((fc47 j k8_ k10_ k11_ k12_ k14_ k15_ k16_ k17_ k18_).trans ((congrFun (ms_c e34 (by decide)) j).trans ((fc32 j k8_ k10_ k11_ k12_).trans (fc21 j k15_ k16_)))))⟩
          · refine J_iload (i := 4) (j := 1) dX11_workLine_134 rfl ?_
            refine J_iconst (v := 4) dX11_workLine_136 (by decide) ?_
            refine J_icmp_eq (tgt := 184) dX11_workLine_137 (by decide) (fun c50 => ?_) (fun c50 => ?_)
            · refine J_iload (i := 5) (j := 2) dX11_workLine_184 rfl ?_
              refine J_bipush (v := 12) dX11_workLine_186 (by decide) ?_
              have jn64 : ∀ (u60 : Nat → Nat → Int32), (∀ c, c ≠ 170 → u60 c = u37 c) → AB u60 170 (-1) 999 → RP u60 → J x yX11_workLine cX11_workLine 6 (some .boolean) d 0 0 (Wd u g ex).length 248 [] [] (Wd u60 g38 ex) 0 0 := by
                intro u60 fr61 ab62 rf63
                refine J_iconst (v := 1) dX11_workLine_248 (by decide) ?_
                exact J_zret hq dX11_workLine_249 rfl rfl wlen (Nat.le_refl _) (Nat.le_refl _) ⟨true, u60, g38, rfl, rfl, (bd_r (congrFun (fr61 162 (by decide)) 8) h39), (bd_r (congrFun (fr61 162 (by decide)) 12) h40), (bd_r (congrFun (fr61 162 (by decide)) 17) h41), (ab_c (fr61 171 (by decide)) (ab_i fc48 (ab_s e34 (ab_c ((fr31 171 (by decide)).trans (fr20 171 (by decide))) hp4) (bd_w (l := (-1)) (h := 999) (bd_c (v := (-1)) (lo := (-1)) (hi := (-1)) (by decide)) (by decide))) (bd_w (l := (-1)) (h := 999) h42 (by decide)))), rf63, (fun _ => (gv_r rfl (congrFun (fr61 162 (by decide)) 8) (congrFun (fr61 162 (by decide)) 11) (gv_t (gv_r (fc21 8 (by decide) (by decide)).symm rfl rfl h30) (gv_r (congrFun (ms_c e34 (by decide)) 8).symm rfl rfl (h43 c49))))), (fun c k0_ k1_ k2_ => ((fr61 c k1_).trans ((fr46 c k0_ k2_).trans ((ms_c e34 k2_).trans ((fr31 c k0_).trans (fr20 c k0_)))))), (fun j k8_ k10_ k11_ k12_ k14_ k15_ k16_ k17_ k18_ => ((congrFun (fr61 162 (by decide)) j).trans ((fc47 j k8_ k10_ k11_ k12_ k14_ k15_ k16_ k17_ k18_).trans ((congrFun (ms_c e34 (by decide)) j).trans ((fc32 j k8_ k10_ k11_ k12_).trans (fc21 j k15_ k16_))))))⟩
              refine J_icmp_ge (tgt := 248) dX11_workLine_188 (by decide) (fun c51 => ?_) (fun c51 => ?_)
              · refine J_lv [] rfl ?_
                exact jn64 u37 (fun c k0_ => rfl) (ab_c ((fr46 170 (by decide) (by decide)).trans ((ms_c e34 (by decide)).trans ((fr31 170 (by decide)).trans (fr20 170 (by decide))))) (hp5).1) (rp_c ((fr46 170 (by decide) (by decide)).trans ((ms_c e34 (by decide)).trans ((fr31 170 (by decide)).trans (fr20 170 (by decide))))) hp5)
              · refine J_aload_n (i := 0) (j := 0) dX11_workLine_191 rfl rfl ?_
                refine J_get (C := RX11) (T := TX11) (Z := 43) (ci := 11) (f := 19) dX11_workLine_192 inG11 rfl (by decide) k1283 wc_162 rfl ?_
                refine J_iconst (v := 1) dX11_workLine_195 (by decide) ?_
                refine J_iconst (v := 3) dX11_workLine_196 (by decide) ?_
                refine J_iload (i := 5) (j := 2) dX11_workLine_197 rfl ?_
                refine J_imul dX11_workLine_199 ?_
                refine J_iadd dX11_workLine_200 ?_
                refine J_iload (i := 4) (j := 1) dX11_workLine_201 rfl ?_
                obtain ⟨u65, e66⟩ : ∃ z, z = ms u37 170 (((1 : Int32) + ((3 : Int32) * (u 170 0))).toNatClampNeg) w10 := ⟨_, rfl⟩
                refine J_iast dX11_workLine_203 wc_170 (vin (bd_add (l := 1) (h := 34) (bd_c (v := 1) (lo := 1) (hi := 1) (by decide)) (bd_mul (l := 0) (h := 33) (bd_c (v := 3) (lo := 3) (hi := 3) (by decide)) (bd_lt_hi (hp5).2.1 (i_nle c51) (bd_c (v := 12) (lo := 12) (hi := 12) (by decide))) (by decide)) (by decide)) (by decide)) (ws e66 wk_170 rfl) ?_
                refine J_aload_n (i := 0) (j := 0) dX11_workLine_204 rfl rfl ?_
                refine J_get (C := RX11) (T := TX11) (Z := 43) (ci := 11) (f := 19) dX11_workLine_205 inG11 rfl (by decide) k1283 wc_162 rfl ?_
                refine J_iconst (v := 2) dX11_workLine_208 (by decide) ?_
                refine J_iconst (v := 3) dX11_workLine_209 (by decide) ?_
                refine J_iload (i := 5) (j := 2) dX11_workLine_210 rfl ?_
                refine J_imul dX11_workLine_212 ?_
                refine J_iadd dX11_workLine_213 ?_
                refine J_aload_n (i := 0) (j := 0) dX11_workLine_214 rfl rfl ?_
                refine J_get (C := RX11) (T := TX11) (Z := 43) (ci := 11) (f := 20) dX11_workLine_215 inG11 rfl (by decide) k1284 wc_162 rfl ?_
                refine J_iconst (v := 0) dX11_workLine_218 (by decide) ?_
                refine J_iald dX11_workLine_219 wc_171 (vin (bd_c (v := 0) (lo := 0) (hi := 0) (by decide)) (by decide)) ?_
                refine J_ci (v := u37 171 0) (congrFun (ms_c e66 (by decide)) 0) ?_
                obtain ⟨u67, e68⟩ : ∃ z, z = ms u65 170 (((2 : Int32) + ((3 : Int32) * (u 170 0))).toNatClampNeg) (u37 171 0) := ⟨_, rfl⟩
                refine J_iast dX11_workLine_220 wc_170 (vin (bd_add (l := 2) (h := 35) (bd_c (v := 2) (lo := 2) (hi := 2) (by decide)) (bd_mul (l := 0) (h := 33) (bd_c (v := 3) (lo := 3) (hi := 3) (by decide)) (bd_lt_hi (hp5).2.1 (i_nle c51) (bd_c (v := 12) (lo := 12) (hi := 12) (by decide))) (by decide)) (by decide)) (by decide)) (ws e68 wk_170 rfl) ?_
                refine J_aload_n (i := 0) (j := 0) dX11_workLine_221 rfl rfl ?_
                refine J_get (C := RX11) (T := TX11) (Z := 43) (ci := 11) (f := 19) dX11_workLine_222 inG11 rfl (by decide) k1283 wc_162 rfl ?_
                refine J_iconst (v := 3) dX11_workLine_225 (by decide) ?_
                refine J_iconst (v := 3) dX11_workLine_226 (by decide) ?_
                refine J_iload (i := 5) (j := 2) dX11_workLine_227 rfl ?_
                refine J_imul dX11_workLine_229 ?_
                refine J_iadd dX11_workLine_230 ?_
                refine J_aload_n (i := 0) (j := 0) dX11_workLine_231 rfl rfl ?_
                refine J_get (C := RX11) (T := TX11) (Z := 43) (ci := 11) (f := 20) dX11_workLine_232 inG11 rfl (by decide) k1284 wc_162 rfl ?_
                refine J_iconst (v := 1) dX11_workLine_235 (by decide) ?_
                refine J_iald dX11_workLine_236 wc_171 (vin (bd_c (v := 1) (lo := 1) (hi := 1) (by decide)) (by decide)) ?_
                refine J_ci (v := (-1)) ((congrFun (ms_c e68 (by decide)) 1).trans ((congrFun (ms_c e66 (by decide)) 1).trans ((fc48 1 (by decide)).trans (ms_e e34)))) ?_
                obtain ⟨u69, e70⟩ : ∃ z, z = ms u67 170 (((3 : Int32) + ((3 : Int32) * (u 170 0))).toNatClampNeg) (-1) := ⟨_, rfl⟩
                refine J_iast dX11_workLine_237 wc_170 (vin (bd_add (l := 3) (h := 36) (bd_c (v := 3) (lo := 3) (hi := 3) (by decide)) (bd_mul (l := 0) (h := 33) (bd_c (v := 3) (lo := 3) (hi := 3) (by decide)) (bd_lt_hi (hp5).2.1 (i_nle c51) (bd_c (v := 12) (lo := 12) (hi := 12) (by decide))) (by decide)) (by decide)) (by decide)) (ws e70 wk_170 rfl) ?_
                refine J_aload_n (i := 0) (j := 0) dX11_workLine_238 rfl rfl ?_
                refine J_get (C := RX11) (T := TX11) (Z := 43) (ci := 11) (f := 19) dX11_workLine_239 inG11 rfl (by decide) k1283 wc_162 rfl ?_
                refine J_iconst (v := 0) dX11_workLine_242 (by decide) ?_
                refine J_dup2_11 dX11_workLine_243 rfl rfl ?_
                refine J_iald dX11_workLine_244 wc_170 (vin (bd_c (v := 0) (lo := 0) (hi := 0) (by decide)) (by decide)) ?_
                refine J_ci (v := u 170 0) ((ms_i e70 (ixne (bd_add (l := 3) (h := 36) (bd_c (v := 3) (lo := 3) (hi := 3) (by decide)) (bd_mul (l := 0) (h := 33) (bd_c (v := 3) (lo := 3) (hi := 3) (by decide)) (bd_lt_hi (hp5).2.1 (i_nle c51) (bd_c (v := 12) (lo := 12) (hi := 12) (by decide))) (by decide)) (by decide)) (by decide))).trans ((ms_i e68 (ixne (bd_add (l := 2) (h := 35) (bd_c (v := 2) (lo := 2) (hi := 2) (by decide)) (bd_mul (l := 0) (h := 33) (bd_c (v := 3) (lo := 3) (hi := 3) (by decide)) (bd_lt_hi (hp5).2.1 (i_nle c51) (bd_c (v := 12) (lo := 12) (hi := 12) (by decide))) (by decide)) (by decide)) (by decide))).trans ((ms_i e66 (ixne (bd_add (l := 1) (h := 34) (bd_c (v := 1) (lo := 1) (hi := 1) (by decide)) (bd_mul (l := 0) (h := 33) (bd_c (v := 3) (lo := 3) (hi := 3) (by decide)) (bd_lt_hi (hp5).2.1 (i_nle c51) (bd_c (v := 12) (lo := 12) (hi := 12) (by decide))) (by decide)) (by decide)) (by decide))).trans ((congrFun (fr46 170 (by decide) (by decide)) 0).trans ((congrFun (ms_c e34 (by decide)) 0).trans ((congrFun (fr31 170 (by decide)) 0).trans (congrFun (fr20 170 (by decide)) 0))))))) ?_
                refine J_iconst (v := 1) dX11_workLine_245 (by decide) ?_
                refine J_iadd dX11_workLine_246 ?_
                obtain ⟨u71, e72⟩ : ∃ z, z = ms u69 170 0 ((u 170 0) + 1) := ⟨_, rfl⟩
                refine J_iast dX11_workLine_247 wc_170 (vin (bd_c (v := 0) (lo := 0) (hi := 0) (by decide)) (by decide)) (ws e72 wk_170 rfl) ?_
                refine J_lv [] rfl ?_
                exact jn64 u71 (fun c k0_ => ((ms_c e72 k0_).trans ((ms_c e70 k0_).trans ((ms_c e68 k0_).trans (ms_c e66 k0_))))) (ab_s e72 (ab_s e70 (ab_s e68 (ab_s e66 (ab_c ((fr46 170 (by decide) (by decide)).trans ((ms_c e34 (by decide)).trans ((fr31 170 (by decide)).trans (fr20 170 (by decide))))) (hp5).1) (bd_w (l := (-1)) (h := 999) (bd_r c50 (bd_c (v := 4) (lo := 4) (hi := 4) (by decide))) (by decide))) (bd_w (l := (-1)) (h := 999) h42 (by decide))) (bd_w (l := (-1)) (h := 999) (bd_c (v := (-1)) (lo := (-1)) (hi := (-1)) (by decide)) (by decide))) (bd_w (l := (-1)) (h := 999) (bd_add (l := 1) (h := 12) (bd_lt_hi (hp5).2.1 (i_nle c51) (bd_c (v := 12) (lo := 12) (hi := 12) (by decide))) (bd_c (v := 1) (lo := 1) (hi := 1) (by decide)) (by decide)) (by decide))) (rp_add e66 e68 e70 e72 (bd_lt_hi (hp5).2.1 (i_nle c51) (bd_c (v := 12) (lo := 12) (hi := 12) (by decide))) (bd_w (l := (-1)) (h := 999) (bd_r c50 (bd_c (v := 4) (lo := 4) (hi := 4) (by decide))) (by decide)) h42 (bd_w (l := (-1)) (h := 999) (bd_c (v := (-1)) (lo := (-1)) (hi := (-1)) (by decide)) (by decide)) (Or.inl c50) (bd_w (l := 0) (h := 12) (bd_add (l := 1) (h := 12) (bd_lt_hi (hp5).2.1 (i_nle c51) (bd_c (v := 12) (lo := 12) (hi := 12) (by decide))) (bd_c (v := 1) (lo := 1) (hi := 1) (by decide)) (by decide)) (by decide)) (rp_c ((fr46 170 (by decide) (by decide)).trans ((ms_c e34 (by decide)).trans ((fr31 170 (by decide)).trans (fr20 170 (by decide))))) hp5))
            · refine J_aload_n (i := 0) (j := 0) dX11_workLine_140 rfl rfl ?_
              refine J_iconst (v := 1) dX11_workLine_141 (by decide) ?_
              refine J_iload (i := 4) (j := 1) dX11_workLine_142 rfl ?_
              refine J_iconst (v := 3) dX11_workLine_144 (by decide) ?_
              have jn75 : ∀ (w74 : Int32), Bd 0 1 w74 → J x yX11_workLine cX11_workLine 6 (some .boolean) d 0 0 (Wd u g ex).length 153 [(0, .ref 162), (4, .int w10), (5, .int (u 170 0))] [.int w74, .int 1, .ref 162] (Wd u37 g38 ex) 0 0 := by
                intro w74 bw74
                refine J_iload (i := 4) (j := 1) dX11_workLine_153 rfl ?_
                have jn79 : ∀ (w78 : Int32), Bd 8 24 w78 → J x yX11_workLine cX11_workLine 6 (some .boolean) d 0 0 (Wd u g ex).length 176 [(0, .ref 162), (4, .int w10), (5, .int (u 170 0))] [.int w78, .int w74, .int 1, .ref 162] (Wd u37 g38 ex) 0 0 := by
                  intro w78 bw78
                  refine J_callV (As := [.int 1, .int w74, .int w78]) (rest := []) dX11_workLine_176 (c_M_take1 (d := 3) (u := u37) (g := g38) (ex := ex) (low := w74) (high := w78)  (by decide) h39 (bd_r ((fc47 9 (by decide) (by decide) (by decide) (by decide) (by decide) (by decide) (by decide) (by decide) (by decide)).trans ((congrFun (ms_c e34 (by decide)) 9).trans ((fc32 9 (by decide) (by decide) (by decide) (by decide)).trans (fc21 9 (by decide) (by decide))))) hp1) h40 h41) hq.n k1456 k1458 k44 wc_162 rfl rfl k97 k1459 np_X11_take (Nat.le_trans (by decide) hd) (by decide) (Nat.le_refl _) (Nat.le_refl _) wlen rfl (Nat.le_of_ble_eq_true rfl) (fun r_ h_ p80 => ?_)
                  obtain ⟨t81, u82, g83, rfl, rfl, h84, h85, h86, h87, h88, h89, h90, fr91, fc92, fc93⟩ := p80
                  refine J_ifB_ne (tgt := 184) dX11_workLine_179 (by decide) (fun c94 => ?_) (fun c94 => ?_)
                  · refine J_iload (i := 5) (j := 2) dX11_workLine_184 rfl ?_
                    refine J_bipush (v := 12) dX11_workLine_186 (by decide) ?_
                    have jn108 : ∀ (u104 : Nat → Nat → Int32), (∀ c, c ≠ 170 → u104 c = u82 c) → AB u104 170 (-1) 999 → RP u104 → J x yX11_workLine cX11_workLine 6 (some .boolean) d 0 0 (Wd u g ex).length 248 [] [] (Wd u104 g83 ex) 0 0 := by
                      intro u104 fr105 ab106 rf107
                      refine J_iconst (v := 1) dX11_workLine_248 (by decide) ?_
                      exact J_zret hq dX11_workLine_249 rfl rfl wlen (Nat.le_refl _) (Nat.le_refl _) ⟨true, u104, g83, rfl, rfl, (bd_r (congrFun (fr105 162 (by decide)) 8) h84), (bd_r (congrFun (fr105 162 (by decide)) 12) h85), (bd_r (congrFun (fr105 162 (by decide)) 17) h86), (ab_c (fr105 171 (by decide)) (ab_i fc93 (ab_i fc48 (ab_s e34 (ab_c ((fr31 171 (by decide)).trans (fr20 171 (by decide))) hp4) (bd_w (l := (-1)) (h := 999) (bd_c (v := (-1)) (lo := (-1)) (hi := (-1)) (by decide)) (by decide))) (bd_w (l := (-1)) (h := 999) h42 (by decide))) (bd_w (l := (-1)) (h := 999) h87 (by decide)))), rf107, (fun _ => (gv_r rfl (congrFun (fr105 162 (by decide)) 8) (congrFun (fr105 162 (by decide)) 11) (gv_t (gv_t (gv_r (fc21 8 (by decide) (by decide)).symm rfl rfl h30) (gv_r (congrFun (ms_c e34 (by decide)) 8).symm rfl rfl (h43 c49))) (h88 c94)))), (fun c k0_ k1_ k2_ => ((fr105 c k1_).trans ((fr91 c k0_ k2_).trans ((fr46 c k0_ k2_).trans ((ms_c e34 k2_).trans ((fr31 c k0_).trans (fr20 c k0_))))))), (fun j k8_ k10_ k11_ k12_ k14_ k15_ k16_ k17_ k18_ => ((congrFun (fr105 162 (by decide)) j).trans ((fc92 j k8_ k10_ k11_ k12_ k14_ k15_ k16_ k17_ k18_).trans ((fc47 j k8_ k10_ k11_ k12_ k14_ k15_ k16_ k17_ k18_).trans ((congrFun (ms_c e34 (by decide)) j).trans ((fc32 j k8_ k10_ k11_ k12_).trans (fc21 j k15_ k16_)))))))⟩
                    refine J_icmp_ge (tgt := 248) dX11_workLine_188 (by decide) (fun c95 => ?_) (fun c95 => ?_)
                    · refine J_lv [] rfl ?_
                      exact jn108 u82 (fun c k0_ => rfl) (ab_c ((fr91 170 (by decide) (by decide)).trans ((fr46 170 (by decide) (by decide)).trans ((ms_c e34 (by decide)).trans ((fr31 170 (by decide)).trans (fr20 170 (by decide)))))) (hp5).1) (rp_c ((fr91 170 (by decide) (by decide)).trans ((fr46 170 (by decide) (by decide)).trans ((ms_c e34 (by decide)).trans ((fr31 170 (by decide)).trans (fr20 170 (by decide)))))) hp5)
                    · refine J_aload_n (i := 0) (j := 0) dX11_workLine_191 rfl rfl ?_
                      refine J_get (C := RX11) (T := TX11) (Z := 43) (ci := 11) (f := 19) dX11_workLine_192 inG11 rfl (by decide) k1283 wc_162 rfl ?_
                      refine J_iconst (v := 1) dX11_workLine_195 (by decide) ?_
                      refine J_iconst (v := 3) dX11_workLine_196 (by decide) ?_
                      refine J_iload (i := 5) (j := 2) dX11_workLine_197 rfl ?_
                      refine J_imul dX11_workLine_199 ?_
                      refine J_iadd dX11_workLine_200 ?_
                      refine J_iload (i := 4) (j := 1) dX11_workLine_201 rfl ?_
                      obtain ⟨u109, e110⟩ : ∃ z, z = ms u82 170 (((1 : Int32) + ((3 : Int32) * (u 170 0))).toNatClampNeg) w10 := ⟨_, rfl⟩
                      refine J_iast dX11_workLine_203 wc_170 (vin (bd_add (l := 1) (h := 34) (bd_c (v := 1) (lo := 1) (hi := 1) (by decide)) (bd_mul (l := 0) (h := 33) (bd_c (v := 3) (lo := 3) (hi := 3) (by decide)) (bd_lt_hi (hp5).2.1 (i_nle c95) (bd_c (v := 12) (lo := 12) (hi := 12) (by decide))) (by decide)) (by decide)) (by decide)) (ws e110 wk_170 rfl) ?_
                      refine J_aload_n (i := 0) (j := 0) dX11_workLine_204 rfl rfl ?_
                      refine J_get (C := RX11) (T := TX11) (Z := 43) (ci := 11) (f := 19) dX11_workLine_205 inG11 rfl (by decide) k1283 wc_162 rfl ?_
                      refine J_iconst (v := 2) dX11_workLine_208 (by decide) ?_
                      refine J_iconst (v := 3) dX11_workLine_209 (by decide) ?_
                      refine J_iload (i := 5) (j := 2) dX11_workLine_210 rfl ?_
                      refine J_imul dX11_workLine_212 ?_
                      refine J_iadd dX11_workLine_213 ?_
                      refine J_aload_n (i := 0) (j := 0) dX11_workLine_214 rfl rfl ?_
                      refine J_get (C := RX11) (T := TX11) (Z := 43) (ci := 11) (f := 20) dX11_workLine_215 inG11 rfl (by decide) k1284 wc_162 rfl ?_
                      refine J_iconst (v := 0) dX11_workLine_218 (by decide) ?_
                      refine J_iald dX11_workLine_219 wc_171 (vin (bd_c (v := 0) (lo := 0) (hi := 0) (by decide)) (by decide)) ?_
                      refine J_ci (v := u37 171 0) ((congrFun (ms_c e110 (by decide)) 0).trans (fc93 0 (by decide))) ?_
                      obtain ⟨u111, e112⟩ : ∃ z, z = ms u109 170 (((2 : Int32) + ((3 : Int32) * (u 170 0))).toNatClampNeg) (u37 171 0) := ⟨_, rfl⟩
                      refine J_iast dX11_workLine_220 wc_170 (vin (bd_add (l := 2) (h := 35) (bd_c (v := 2) (lo := 2) (hi := 2) (by decide)) (bd_mul (l := 0) (h := 33) (bd_c (v := 3) (lo := 3) (hi := 3) (by decide)) (bd_lt_hi (hp5).2.1 (i_nle c95) (bd_c (v := 12) (lo := 12) (hi := 12) (by decide))) (by decide)) (by decide)) (by decide)) (ws e112 wk_170 rfl) ?_
                      refine J_aload_n (i := 0) (j := 0) dX11_workLine_221 rfl rfl ?_
                      refine J_get (C := RX11) (T := TX11) (Z := 43) (ci := 11) (f := 19) dX11_workLine_222 inG11 rfl (by decide) k1283 wc_162 rfl ?_
                      refine J_iconst (v := 3) dX11_workLine_225 (by decide) ?_
                      refine J_iconst (v := 3) dX11_workLine_226 (by decide) ?_
                      refine J_iload (i := 5) (j := 2) dX11_workLine_227 rfl ?_
                      refine J_imul dX11_workLine_229 ?_
                      refine J_iadd dX11_workLine_230 ?_
                      refine J_aload_n (i := 0) (j := 0) dX11_workLine_231 rfl rfl ?_
                      refine J_get (C := RX11) (T := TX11) (Z := 43) (ci := 11) (f := 20) dX11_workLine_232 inG11 rfl (by decide) k1284 wc_162 rfl ?_
                      refine J_iconst (v := 1) dX11_workLine_235 (by decide) ?_
                      refine J_iald dX11_workLine_236 wc_171 (vin (bd_c (v := 1) (lo := 1) (hi := 1) (by decide)) (by decide)) ?_
                      refine J_ci (v := u82 171 1) ((congrFun (ms_c e112 (by decide)) 1).trans (congrFun (ms_c e110 (by decide)) 1)) ?_
                      obtain ⟨u113, e114⟩ : ∃ z, z = ms u111 170 (((3 : Int32) + ((3 : Int32) * (u 170 0))).toNatClampNeg) (u82 171 1) := ⟨_, rfl⟩
                      refine J_iast dX11_workLine_237 wc_170 (vin (bd_add (l := 3) (h := 36) (bd_c (v := 3) (lo := 3) (hi := 3) (by decide)) (bd_mul (l := 0) (h := 33) (bd_c (v := 3) (lo := 3) (hi := 3) (by decide)) (bd_lt_hi (hp5).2.1 (i_nle c95) (bd_c (v := 12) (lo := 12) (hi := 12) (by decide))) (by decide)) (by decide)) (by decide)) (ws e114 wk_170 rfl) ?_
                      refine J_aload_n (i := 0) (j := 0) dX11_workLine_238 rfl rfl ?_
                      refine J_get (C := RX11) (T := TX11) (Z := 43) (ci := 11) (f := 19) dX11_workLine_239 inG11 rfl (by decide) k1283 wc_162 rfl ?_
                      refine J_iconst (v := 0) dX11_workLine_242 (by decide) ?_
                      refine J_dup2_11 dX11_workLine_243 rfl rfl ?_
                      refine J_iald dX11_workLine_244 wc_170 (vin (bd_c (v := 0) (lo := 0) (hi := 0) (by decide)) (by decide)) ?_
                      refine J_ci (v := u 170 0) ((ms_i e114 (ixne (bd_add (l := 3) (h := 36) (bd_c (v := 3) (lo := 3) (hi := 3) (by decide)) (bd_mul (l := 0) (h := 33) (bd_c (v := 3) (lo := 3) (hi := 3) (by decide)) (bd_lt_hi (hp5).2.1 (i_nle c95) (bd_c (v := 12) (lo := 12) (hi := 12) (by decide))) (by decide)) (by decide)) (by decide))).trans ((ms_i e112 (ixne (bd_add (l := 2) (h := 35) (bd_c (v := 2) (lo := 2) (hi := 2) (by decide)) (bd_mul (l := 0) (h := 33) (bd_c (v := 3) (lo := 3) (hi := 3) (by decide)) (bd_lt_hi (hp5).2.1 (i_nle c95) (bd_c (v := 12) (lo := 12) (hi := 12) (by decide))) (by decide)) (by decide)) (by decide))).trans ((ms_i e110 (ixne (bd_add (l := 1) (h := 34) (bd_c (v := 1) (lo := 1) (hi := 1) (by decide)) (bd_mul (l := 0) (h := 33) (bd_c (v := 3) (lo := 3) (hi := 3) (by decide)) (bd_lt_hi (hp5).2.1 (i_nle c95) (bd_c (v := 12) (lo := 12) (hi := 12) (by decide))) (by decide)) (by decide)) (by decide))).trans ((congrFun (fr91 170 (by decide) (by decide)) 0).trans ((congrFun (fr46 170 (by decide) (by decide)) 0).trans ((congrFun (ms_c e34 (by decide)) 0).trans ((congrFun (fr31 170 (by decide)) 0).trans (congrFun (fr20 170 (by decide)) 0)))))))) ?_
                      refine J_iconst (v := 1) dX11_workLine_245 (by decide) ?_
                      refine J_iadd dX11_workLine_246 ?_
                      obtain ⟨u115, e116⟩ : ∃ z, z = ms u113 170 0 ((u 170 0) + 1) := ⟨_, rfl⟩
                      refine J_iast dX11_workLine_247 wc_170 (vin (bd_c (v := 0) (lo := 0) (hi := 0) (by decide)) (by decide)) (ws e116 wk_170 rfl) ?_
                      refine J_lv [] rfl ?_
                      exact jn108 u115 (fun c k0_ => ((ms_c e116 k0_).trans ((ms_c e114 k0_).trans ((ms_c e112 k0_).trans (ms_c e110 k0_))))) (ab_s e116 (ab_s e114 (ab_s e112 (ab_s e110 (ab_c ((fr91 170 (by decide) (by decide)).trans ((fr46 170 (by decide) (by decide)).trans ((ms_c e34 (by decide)).trans ((fr31 170 (by decide)).trans (fr20 170 (by decide)))))) (hp5).1) (bd_w (l := (-1)) (h := 999) (bd_ne_hi (bd_ne_lo bw10 c12 (by decide)) c50 (by decide)) (by decide))) (bd_w (l := (-1)) (h := 999) h42 (by decide))) (bd_w (l := (-1)) (h := 999) h87 (by decide))) (bd_w (l := (-1)) (h := 999) (bd_add (l := 1) (h := 12) (bd_lt_hi (hp5).2.1 (i_nle c95) (bd_c (v := 12) (lo := 12) (hi := 12) (by decide))) (bd_c (v := 1) (lo := 1) (hi := 1) (by decide)) (by decide)) (by decide))) (rp_add e110 e112 e114 e116 (bd_lt_hi (hp5).2.1 (i_nle c95) (bd_c (v := 12) (lo := 12) (hi := 12) (by decide))) (bd_w (l := (-1)) (h := 999) (bd_ne_hi (bd_ne_lo bw10 c12 (by decide)) c50 (by decide)) (by decide)) h42 (bd_w (l := (-1)) (h := 999) h87 (by decide)) (Or.inr h87) (bd_w (l := 0) (h := 12) (bd_add (l := 1) (h := 12) (bd_lt_hi (hp5).2.1 (i_nle c95) (bd_c (v := 12) (lo := 12) (hi := 12) (by decide))) (bd_c (v := 1) (lo := 1) (hi := 1) (by decide)) (by decide)) (by decide)) (rp_c ((fr91 170 (by decide) (by decide)).trans ((fr46 170 (by decide) (by decide)).trans ((ms_c e34 (by decide)).trans ((fr31 170 (by decide)).trans (fr20 170 (by decide)))))) hp5))
                  · refine J_iconst (v := 0) dX11_workLine_182 (by decide) ?_
                    exact J_zret hq dX11_workLine_183 rfl rfl wlen (Nat.le_refl _) (Nat.le_refl _) ⟨false, u82, g83, rfl, rfl, h84, h85, h86, (ab_i fc93 (ab_i fc48 (ab_s e34 (ab_c ((fr31 171 (by decide)).trans (fr20 171 (by decide))) hp4) (bd_w (l := (-1)) (h := 999) (bd_c (v := (-1)) (lo := (-1)) (hi := (-1)) (by decide)) (by decide))) (bd_w (l := (-1)) (h := 999) h42 (by decide))) (bd_w (l := (-1)) (h := 999) h87 (by decide))), (rp_c ((fr91 170 (by decide) (by decide)).trans ((fr46 170 (by decide) (by decide)).trans ((ms_c e34 (by decide)).trans ((fr31 170 (by decide)).trans (fr20 170 (by decide)))))) hp5), (fun q => absurd q (by decide)), (fun c k0_ k1_ k2_ => ((fr91 c k0_ k2_).trans ((fr46 c k0_ k2_).trans ((ms_c e34 k2_).trans ((fr31 c k0_).trans (fr20 c k0_)))))), (fun j k8_ k10_ k11_ k12_ k14_ k15_ k16_ k17_ k18_ => ((fc92 j k8_ k10_ k11_ k12_ k14_ k15_ k16_ k17_ k18_).trans ((fc47 j k8_ k10_ k11_ k12_ k14_ k15_ k16_ k17_ k18_).trans ((congrFun (ms_c e34 (by decide)) j).trans ((fc32 j k8_ k10_ k11_ k12_).trans (fc21 j k15_ k16_))))))⟩
                refine J_if_ne (tgt := 163) dX11_workLine_155 (by decide) (fun c76 => ?_) (fun c76 => ?_)
                · refine J_iload (i := 4) (j := 1) dX11_workLine_163 rfl ?_
                  refine J_iconst (v := 3) dX11_workLine_165 (by decide) ?_
                  refine J_icmp_ne (tgt := 174) dX11_workLine_166 (by decide) (fun c117 => ?_) (fun c117 => ?_)
                  · refine J_bipush (v := 24) dX11_workLine_174 (by decide) ?_
                    refine J_lv [0, 1, 2] rfl ?_
                    exact jn79 (24 : Int32) (bd_w (l := 8) (h := 24) (bd_c (v := 24) (lo := 24) (hi := 24) (by decide)) (by decide))
                  · refine J_bipush (v := 8) dX11_workLine_169 (by decide) ?_
                    refine J_goto (tgt := 176) dX11_workLine_171 (by decide) ?_
                    refine J_lv [0, 1, 2] rfl ?_
                    exact jn79 (8 : Int32) (bd_w (l := 8) (h := 24) (bd_c (v := 8) (lo := 8) (hi := 8) (by decide)) (by decide))
                · refine J_bipush (v := 10) dX11_workLine_158 (by decide) ?_
                  refine J_goto (tgt := 176) dX11_workLine_160 (by decide) ?_
                  refine J_lv [0, 1, 2] rfl ?_
                  exact jn79 (10 : Int32) (bd_w (l := 8) (h := 24) (bd_c (v := 10) (lo := 10) (hi := 10) (by decide)) (by decide))
              refine J_icmp_ne (tgt := 152) dX11_workLine_145 (by decide) (fun c73 => ?_) (fun c73 => ?_)
              · refine J_iconst (v := 1) dX11_workLine_152 (by decide) ?_
                refine J_lv [0, 1, 2] rfl ?_
                exact jn75 (1 : Int32) (bd_w (l := 0) (h := 1) (bd_c (v := 1) (lo := 1) (hi := 1) (by decide)) (by decide))
              · refine J_iconst (v := 0) dX11_workLine_148 (by decide) ?_
                refine J_goto (tgt := 153) dX11_workLine_149 (by decide) ?_
                refine J_lv [0, 1, 2] rfl ?_
                exact jn75 (0 : Int32) (bd_w (l := 0) (h := 1) (bd_c (v := 0) (lo := 0) (hi := 0) (by decide)) (by decide))
        refine J_icmp_ne (tgt := 112) dX11_workLine_103 (by decide) (fun c13 => ?_) (fun c13 => ?_)
        · refine J_lv [2, 1, 0] rfl ?_
          exact jn22 u (fun c k0_ => rfl) (fun j k15_ k16_ => rfl)
        · refine J_aload_n (i := 0) (j := 2) dX11_workLine_106 rfl rfl ?_
          refine J_iconst (v := 3) dX11_workLine_107 (by decide) ?_
          refine J_iload_n (i := 1) (j := 3) dX11_workLine_108 rfl rfl ?_
          refine J_callV (As := [.int 3, .int at0]) (rest := []) dX11_workLine_109 (c_M_later (d := 0) (u := u) (g := g) (ex := ex) (f := 3) (place := at0)  (by decide) ) hq.n k1452 k1454 k43 wc_162 rfl rfl k97 k1455 np_X11_later (Nat.le_trans (by decide) hd) (by decide) (Nat.le_refl _) (Nat.le_refl _) wlen rfl (Nat.le_of_ble_eq_true rfl) (fun r_ h_ p118 => ?_)
          obtain ⟨u119, rfl, rfl, h120, fr121, fc122⟩ := p118
          refine J_lv [2, 1, 0] rfl ?_
          exact jn22 u119 (fun c k0_ => (fr121 c k0_)) (fun j k15_ k16_ => (fc122 j k15_ k16_))
      · refine J_aload_n (i := 0) (j := 1) dX11_workLine_86 rfl rfl ?_
        refine J_callV (As := []) (rest := []) dX11_workLine_87 (c_M_stops (d := 0) (u := u) (g := g) (ex := ex)   (by decide) ) hq.n k1444 k1446 k41 wc_162 rfl rfl k97 k1447 np_X11_stops (Nat.le_trans (by decide) hd) (by decide) (Nat.le_refl _) (Nat.le_refl _) wlen rfl (Nat.le_of_ble_eq_true rfl) (fun r_ h_ p123 => ?_)
        obtain ⟨u124, rfl, rfl, fr125, fc126⟩ := p123
        exact J_zret hq dX11_workLine_90 rfl rfl wlen (Nat.le_refl _) (Nat.le_refl _) ⟨false, u124, g, rfl, rfl, (bd_r (fc126 8 (by decide)) hp0), (bd_r (fc126 12 (by decide)) hp2), (bd_r (fc126 17 (by decide)) hp3), (ab_c (fr125 171 (by decide)) hp4), (rp_c (fr125 170 (by decide)) hp5), (fun q => absurd q (by decide)), (fun c k0_ k1_ k2_ => (fr125 c k0_)), (fun j k8_ k10_ k11_ k12_ k14_ k15_ k16_ k17_ k18_ => (fc126 j k14_))⟩
    refine J_if_ne (tgt := 29) dX11_workLine_22 (by decide) (fun c5 => ?_) (fun c5 => ?_)
    · refine J_lload_n (i := 2) (j := 0) dX11_workLine_29 rfl rfl ?_
      refine J_ldc2 (v := 7106423) dX11_workLine_30 k1480 ?_
      refine J_lcmp dX11_workLine_33 ?_
      refine J_if_ne (tgt := 41) dX11_workLine_34 (by decide) (fun c127 => ?_) (fun c127 => ?_)
      · refine J_lload_n (i := 2) (j := 0) dX11_workLine_41 rfl rfl ?_
        refine J_ldc2 (v := 512869295470) dX11_workLine_42 k1481 ?_
        refine J_lcmp dX11_workLine_45 ?_
        refine J_if_ne (tgt := 53) dX11_workLine_46 (by decide) (fun c128 => ?_) (fun c128 => ?_)
        · refine J_lload_n (i := 2) (j := 0) dX11_workLine_53 rfl rfl ?_
          refine J_ldc2 (v := 491496238692) dX11_workLine_54 k1431 ?_
          refine J_lcmp dX11_workLine_57 ?_
          refine J_if_ne (tgt := 65) dX11_workLine_58 (by decide) (fun c129 => ?_) (fun c129 => ?_)
          · refine J_lload_n (i := 2) (j := 0) dX11_workLine_65 rfl rfl ?_
            refine J_ldc2 (v := 7304564) dX11_workLine_66 k1482 ?_
            refine J_lcmp dX11_workLine_69 ?_
            refine J_if_ne (tgt := 77) dX11_workLine_70 (by decide) (fun c130 => ?_) (fun c130 => ?_)
            · refine J_iconst (v := (-1)) dX11_workLine_77 (by decide) ?_
              refine J_lv [1, 2] rfl ?_
              exact jn11 ((-1) : Int32) (bd_w (l := (-1)) (h := 4) (bd_c (v := (-1)) (lo := (-1)) (hi := (-1)) (by decide)) (by decide))
            · refine J_iconst (v := 4) dX11_workLine_73 (by decide) ?_
              refine J_goto (tgt := 78) dX11_workLine_74 (by decide) ?_
              refine J_lv [1, 2] rfl ?_
              exact jn11 (4 : Int32) (bd_w (l := (-1)) (h := 4) (bd_c (v := 4) (lo := 4) (hi := 4) (by decide)) (by decide))
          · refine J_iconst (v := 3) dX11_workLine_61 (by decide) ?_
            refine J_goto (tgt := 78) dX11_workLine_62 (by decide) ?_
            refine J_lv [1, 2] rfl ?_
            exact jn11 (3 : Int32) (bd_w (l := (-1)) (h := 4) (bd_c (v := 3) (lo := 3) (hi := 3) (by decide)) (by decide))
        · refine J_iconst (v := 2) dX11_workLine_49 (by decide) ?_
          refine J_goto (tgt := 78) dX11_workLine_50 (by decide) ?_
          refine J_lv [1, 2] rfl ?_
          exact jn11 (2 : Int32) (bd_w (l := (-1)) (h := 4) (bd_c (v := 2) (lo := 2) (hi := 2) (by decide)) (by decide))
      · refine J_iconst (v := 1) dX11_workLine_37 (by decide) ?_
        refine J_goto (tgt := 78) dX11_workLine_38 (by decide) ?_
        refine J_lv [1, 2] rfl ?_
        exact jn11 (1 : Int32) (bd_w (l := (-1)) (h := 4) (bd_c (v := 1) (lo := 1) (hi := 1) (by decide)) (by decide))
    · refine J_iconst (v := 0) dX11_workLine_25 (by decide) ?_
      refine J_goto (tgt := 78) dX11_workLine_26 (by decide) ?_
      refine J_lv [1, 2] rfl ?_
      exact jn11 (0 : Int32) (bd_w (l := (-1)) (h := 4) (bd_c (v := 0) (lo := 0) (hi := 0) (by decide)) (by decide))
  refine J_icmp_ne (tgt := 15) dX11_workLine_5 (by decide) (fun c1 => ?_) (fun c1 => ?_)
  · refine J_lconst (v := 0) dX11_workLine_15 (by decide) ?_
    refine J_lv [0, 1] rfl ?_
    exact jn4 (0 : Int64) 
  · refine J_aload_n (i := 0) (j := 0) dX11_workLine_8 rfl rfl ?_
    refine J_get (C := RX11) (T := TX11) (Z := 43) (ci := 11) (f := 13) dX11_workLine_9 inG11 rfl (by decide) k1277 wc_162 rfl ?_
    refine J_topl (fun l131 _ => ?_)
    refine J_goto (tgt := 16) dX11_workLine_12 (by decide) ?_
    refine J_lv [0, 1] rfl ?_
    exact jn4 l131 
