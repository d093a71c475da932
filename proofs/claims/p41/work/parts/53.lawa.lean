theorem k454 : Cond.methodLink RL 13 yX10_feed ∈ gt := gt_2_5 (i := 8) rfl rfl
theorem k455 : Cond.instanceMethod yX10_feed ∈ gt := gt_2_5 (i := 9) rfl rfl
theorem k456 : Cond.selects RX10 yX10_feed yX10_feed ∈ gt := gt_2_5 (i := 10) rfl rfl
theorem k457 : Cond.code yX10_feed cX10_feed 6 (some .int) ∈ gt := gt_2_5 (i := 11) rfl rfl
theorem np_X10_feed : yX10_feed.cls ≠ "java/lang/invoke/MethodHandle" ∧ yX10_feed.cls ≠ "java/lang/invoke/VarHandle" ∧ (parseMethodDescriptor yX10_feed.desc).map (fun d => d.parameters.length) = some 5 := ⟨cq_RX10.1, cq_RX10.2, pd_23⟩
theorem k1394 : Cond.methodLink RL 17 yX11_feed ∈ gt := gt_6_4 (i := 12) rfl rfl
theorem k1395 : Cond.instanceMethod yX11_feed ∈ gt := gt_6_4 (i := 13) rfl rfl
theorem k1396 : Cond.selects RX11 yX11_feed yX11_feed ∈ gt := gt_6_4 (i := 14) rfl rfl
theorem k1397 : Cond.code yX11_feed cX11_feed 6 (some .int) ∈ gt := gt_6_4 (i := 15) rfl rfl
theorem np_X11_feed : yX11_feed.cls ≠ "java/lang/invoke/MethodHandle" ∧ yX11_feed.cls ≠ "java/lang/invoke/VarHandle" ∧ (parseMethodDescriptor yX11_feed.desc).map (fun d => d.parameters.length) = some 5 := ⟨cq_RX11.1, cq_RX11.2, pd_23⟩
theorem k462 : Cond.methodLink RL 18 yX10_end ∈ gt := gt_2_5 (i := 16) rfl rfl
theorem k463 : Cond.instanceMethod yX10_end ∈ gt := gt_2_5 (i := 17) rfl rfl
theorem k464 : Cond.selects RX10 yX10_end yX10_end ∈ gt := gt_2_5 (i := 18) rfl rfl
theorem k465 : Cond.code yX10_end cX10_end 2 (some .int) ∈ gt := gt_2_5 (i := 19) rfl rfl
theorem np_X10_end : yX10_end.cls ≠ "java/lang/invoke/MethodHandle" ∧ yX10_end.cls ≠ "java/lang/invoke/VarHandle" ∧ (parseMethodDescriptor yX10_end.desc).map (fun d => d.parameters.length) = some 1 := ⟨cq_RX10.1, cq_RX10.2, pd_6⟩
theorem k1402 : Cond.methodLink RL 22 yX11_end ∈ gt := gt_6_4 (i := 20) rfl rfl
theorem k1403 : Cond.instanceMethod yX11_end ∈ gt := gt_6_4 (i := 21) rfl rfl
theorem k1404 : Cond.selects RX11 yX11_end yX11_end ∈ gt := gt_6_4 (i := 22) rfl rfl
theorem k1405 : Cond.code yX11_end cX11_end 2 (some .int) ∈ gt := gt_6_4 (i := 23) rfl rfl
theorem np_X11_end : yX11_end.cls ≠ "java/lang/invoke/MethodHandle" ∧ yX11_end.cls ≠ "java/lang/invoke/VarHandle" ∧ (parseMethodDescriptor yX11_end.desc).map (fun d => d.parameters.length) = some 1 := ⟨cq_RX11.1, cq_RX11.2, pd_6⟩
theorem k466 : Cond.methodLink RL 23 yX10_text ∈ gt := gt_2_5 (i := 20) rfl rfl
theorem k467 : Cond.instanceMethod yX10_text ∈ gt := gt_2_5 (i := 21) rfl rfl
theorem k468 : Cond.selects RX10 yX10_text yX10_text ∈ gt := gt_2_5 (i := 22) rfl rfl
theorem k469 : Cond.code yX10_text cX10_text 5 (some .int) ∈ gt := gt_2_5 (i := 23) rfl rfl
theorem np_X10_text : yX10_text.cls ≠ "java/lang/invoke/MethodHandle" ∧ yX10_text.cls ≠ "java/lang/invoke/VarHandle" ∧ (parseMethodDescriptor yX10_text.desc).map (fun d => d.parameters.length) = some 2 := ⟨cq_RX10.1, cq_RX10.2, pd_11⟩
theorem k1409 : Cond.methodLink RL 27 yX11_text ∈ gt := gt_6_5 (i := 3) rfl rfl
theorem k1410 : Cond.instanceMethod yX11_text ∈ gt := gt_6_5 (i := 4) rfl rfl
theorem k1411 : Cond.selects RX11 yX11_text yX11_text ∈ gt := gt_6_5 (i := 5) rfl rfl
theorem k1412 : Cond.code yX11_text cX11_text 5 (some .int) ∈ gt := gt_6_5 (i := 6) rfl rfl
theorem np_X11_text : yX11_text.cls ≠ "java/lang/invoke/MethodHandle" ∧ yX11_text.cls ≠ "java/lang/invoke/VarHandle" ∧ (parseMethodDescriptor yX11_text.desc).map (fun d => d.parameters.length) = some 2 := ⟨cq_RX11.1, cq_RX11.2, pd_11⟩
theorem k695 : Cond.methodLink RL 28 yX10_fault ∈ gt := gt_3_5 (i := 9) rfl rfl
theorem k696 : Cond.instanceMethod yX10_fault ∈ gt := gt_3_5 (i := 10) rfl rfl
theorem k697 : Cond.selects RX10 yX10_fault yX10_fault ∈ gt := gt_3_5 (i := 11) rfl rfl
theorem k698 : Cond.code yX10_fault cX10_fault 2 (some .int) ∈ gt := gt_3_5 (i := 12) rfl rfl
theorem np_X10_fault : yX10_fault.cls ≠ "java/lang/invoke/MethodHandle" ∧ yX10_fault.cls ≠ "java/lang/invoke/VarHandle" ∧ (parseMethodDescriptor yX10_fault.desc).map (fun d => d.parameters.length) = some 1 := ⟨cq_RX10.1, cq_RX10.2, pd_6⟩
theorem k1487 : Cond.methodLink RL 31 yX11_fault ∈ gt := gt_6_8 (i := 9) rfl rfl
theorem k1488 : Cond.instanceMethod yX11_fault ∈ gt := gt_6_8 (i := 10) rfl rfl
theorem k1489 : Cond.selects RX11 yX11_fault yX11_fault ∈ gt := gt_6_8 (i := 11) rfl rfl
theorem k1490 : Cond.code yX11_fault cX11_fault 2 (some .int) ∈ gt := gt_6_8 (i := 12) rfl rfl
theorem np_X11_fault : yX11_fault.cls ≠ "java/lang/invoke/MethodHandle" ∧ yX11_fault.cls ≠ "java/lang/invoke/VarHandle" ∧ (parseMethodDescriptor yX11_fault.desc).map (fun d => d.parameters.length) = some 1 := ⟨cq_RX11.1, cq_RX11.2, pd_6⟩
theorem k699 : Cond.methodLink RL 32 yX10_hill ∈ gt := gt_3_5 (i := 13) rfl rfl
theorem k700 : Cond.instanceMethod yX10_hill ∈ gt := gt_3_5 (i := 14) rfl rfl
theorem k701 : Cond.selects RX10 yX10_hill yX10_hill ∈ gt := gt_3_5 (i := 15) rfl rfl
theorem k702 : Cond.code yX10_hill cX10_hill 3 (some .int) ∈ gt := gt_3_5 (i := 16) rfl rfl
theorem np_X10_hill : yX10_hill.cls ≠ "java/lang/invoke/MethodHandle" ∧ yX10_hill.cls ≠ "java/lang/invoke/VarHandle" ∧ (parseMethodDescriptor yX10_hill.desc).map (fun d => d.parameters.length) = some 2 := ⟨cq_RX10.1, cq_RX10.2, pd_11⟩
theorem k1491 : Cond.methodLink RL 35 yX11_hill ∈ gt := gt_6_8 (i := 13) rfl rfl
theorem k1492 : Cond.instanceMethod yX11_hill ∈ gt := gt_6_8 (i := 14) rfl rfl
theorem k1493 : Cond.selects RX11 yX11_hill yX11_hill ∈ gt := gt_6_8 (i := 15) rfl rfl
theorem k1494 : Cond.code yX11_hill cX11_hill 4 (some .int) ∈ gt := gt_6_8 (i := 16) rfl rfl
theorem np_X11_hill : yX11_hill.cls ≠ "java/lang/invoke/MethodHandle" ∧ yX11_hill.cls ≠ "java/lang/invoke/VarHandle" ∧ (parseMethodDescriptor yX11_hill.desc).map (fun d => d.parameters.length) = some 2 := ⟨cq_RX11.1, cq_RX11.2, pd_11⟩
theorem k719 : Cond.methodLink RL 36 yX10_pond ∈ gt := gt_3_6 (i := 9) rfl rfl
theorem k720 : Cond.instanceMethod yX10_pond ∈ gt := gt_3_6 (i := 10) rfl rfl
theorem k721 : Cond.selects RX10 yX10_pond yX10_pond ∈ gt := gt_3_6 (i := 11) rfl rfl
theorem k722 : Cond.code yX10_pond cX10_pond 5 (some .int) ∈ gt := gt_3_6 (i := 12) rfl rfl
theorem np_X10_pond : yX10_pond.cls ≠ "java/lang/invoke/MethodHandle" ∧ yX10_pond.cls ≠ "java/lang/invoke/VarHandle" ∧ (parseMethodDescriptor yX10_pond.desc).map (fun d => d.parameters.length) = some 4 := ⟨cq_RX10.1, cq_RX10.2, pd_19⟩
theorem k1499 : Cond.methodLink RL 40 yX11_pond ∈ gt := gt_6_8 (i := 21) rfl rfl
theorem k1500 : Cond.instanceMethod yX11_pond ∈ gt := gt_6_8 (i := 22) rfl rfl
theorem k1501 : Cond.selects RX11 yX11_pond yX11_pond ∈ gt := gt_6_8 (i := 23) rfl rfl
theorem k1502 : Cond.code yX11_pond cX11_pond 5 (some .int) ∈ gt := gt_6_9 (i := 0) rfl rfl
theorem np_X11_pond : yX11_pond.cls ≠ "java/lang/invoke/MethodHandle" ∧ yX11_pond.cls ≠ "java/lang/invoke/VarHandle" ∧ (parseMethodDescriptor yX11_pond.desc).map (fun d => d.parameters.length) = some 4 := ⟨cq_RX11.1, cq_RX11.2, pd_19⟩
theorem k776 : Cond.methodLink RL 41 yX10_work ∈ gt := gt_3_8 (i := 18) rfl rfl
theorem k777 : Cond.instanceMethod yX10_work ∈ gt := gt_3_8 (i := 19) rfl rfl
theorem k778 : Cond.selects RX10 yX10_work yX10_work ∈ gt := gt_3_8 (i := 20) rfl rfl
theorem k779 : Cond.code yX10_work cX10_work 4 (some .int) ∈ gt := gt_3_8 (i := 21) rfl rfl
theorem np_X10_work : yX10_work.cls ≠ "java/lang/invoke/MethodHandle" ∧ yX10_work.cls ≠ "java/lang/invoke/VarHandle" ∧ (parseMethodDescriptor yX10_work.desc).map (fun d => d.parameters.length) = some 3 := ⟨cq_RX10.1, cq_RX10.2, pd_15⟩
theorem k1527 : Cond.methodLink RL 45 yX11_work ∈ gt := gt_7_0 (i := 1) rfl rfl
theorem k1528 : Cond.instanceMethod yX11_work ∈ gt := gt_7_0 (i := 2) rfl rfl
theorem k1529 : Cond.selects RX11 yX11_work yX11_work ∈ gt := gt_7_0 (i := 3) rfl rfl
theorem k1530 : Cond.code yX11_work cX11_work 4 (some .int) ∈ gt := gt_7_0 (i := 4) rfl rfl
theorem np_X11_work : yX11_work.cls ≠ "java/lang/invoke/MethodHandle" ∧ yX11_work.cls ≠ "java/lang/invoke/VarHandle" ∧ (parseMethodDescriptor yX11_work.desc).map (fun d => d.parameters.length) = some 3 := ⟨cq_RX11.1, cq_RX11.2, pd_15⟩
theorem k784 : Cond.methodLink RL 46 yX10_plan ∈ gt := gt_3_9 (i := 2) rfl rfl
theorem k785 : Cond.instanceMethod yX10_plan ∈ gt := gt_3_9 (i := 3) rfl rfl
theorem k786 : Cond.selects RX10 yX10_plan yX10_plan ∈ gt := gt_3_9 (i := 4) rfl rfl
theorem k787 : Cond.code yX10_plan cX10_plan 4 (some .int) ∈ gt := gt_3_9 (i := 5) rfl rfl
theorem np_X10_plan : yX10_plan.cls ≠ "java/lang/invoke/MethodHandle" ∧ yX10_plan.cls ≠ "java/lang/invoke/VarHandle" ∧ (parseMethodDescriptor yX10_plan.desc).map (fun d => d.parameters.length) = some 3 := ⟨cq_RX10.1, cq_RX10.2, pd_15⟩
theorem k1531 : Cond.methodLink RL 49 yX11_plan ∈ gt := gt_7_0 (i := 5) rfl rfl
theorem k1532 : Cond.instanceMethod yX11_plan ∈ gt := gt_7_0 (i := 6) rfl rfl
theorem k1533 : Cond.selects RX11 yX11_plan yX11_plan ∈ gt := gt_7_0 (i := 7) rfl rfl
theorem k1534 : Cond.code yX11_plan cX11_plan 4 (some .int) ∈ gt := gt_7_0 (i := 8) rfl rfl
theorem np_X11_plan : yX11_plan.cls ≠ "java/lang/invoke/MethodHandle" ∧ yX11_plan.cls ≠ "java/lang/invoke/VarHandle" ∧ (parseMethodDescriptor yX11_plan.desc).map (fun d => d.parameters.length) = some 3 := ⟨cq_RX11.1, cq_RX11.2, pd_15⟩
theorem k788 : Cond.methodLink RL 50 yX10_storm ∈ gt := gt_3_9 (i := 6) rfl rfl
theorem k789 : Cond.instanceMethod yX10_storm ∈ gt := gt_3_9 (i := 7) rfl rfl
theorem k790 : Cond.selects RX10 yX10_storm yX10_storm ∈ gt := gt_3_9 (i := 8) rfl rfl
theorem k791 : Cond.code yX10_storm cX10_storm 6 (some .int) ∈ gt := gt_3_9 (i := 9) rfl rfl
theorem np_X10_storm : yX10_storm.cls ≠ "java/lang/invoke/MethodHandle" ∧ yX10_storm.cls ≠ "java/lang/invoke/VarHandle" ∧ (parseMethodDescriptor yX10_storm.desc).map (fun d => d.parameters.length) = some 5 := ⟨cq_RX10.1, cq_RX10.2, pd_23⟩
theorem k1535 : Cond.methodLink RL 53 yX11_storm ∈ gt := gt_7_0 (i := 9) rfl rfl
theorem k1536 : Cond.instanceMethod yX11_storm ∈ gt := gt_7_0 (i := 10) rfl rfl
theorem k1537 : Cond.selects RX11 yX11_storm yX11_storm ∈ gt := gt_7_0 (i := 11) rfl rfl
theorem k1538 : Cond.code yX11_storm cX11_storm 6 (some .int) ∈ gt := gt_7_0 (i := 12) rfl rfl
theorem np_X11_storm : yX11_storm.cls ≠ "java/lang/invoke/MethodHandle" ∧ yX11_storm.cls ≠ "java/lang/invoke/VarHandle" ∧ (parseMethodDescriptor yX11_storm.desc).map (fun d => d.parameters.length) = some 5 := ⟨cq_RX11.1, cq_RX11.2, pd_23⟩
theorem k848 : Cond.methodLink RL 54 yX10_likely ∈ gt := gt_4_1 (i := 18) rfl rfl
theorem k849 : Cond.instanceMethod yX10_likely ∈ gt := gt_4_1 (i := 19) rfl rfl
theorem k850 : Cond.selects RX10 yX10_likely yX10_likely ∈ gt := gt_4_1 (i := 20) rfl rfl
theorem k851 : Cond.code yX10_likely cX10_likely 4 (some .long) ∈ gt := gt_4_1 (i := 21) rfl rfl
theorem np_X10_likely : yX10_likely.cls ≠ "java/lang/invoke/MethodHandle" ∧ yX10_likely.cls ≠ "java/lang/invoke/VarHandle" ∧ (parseMethodDescriptor yX10_likely.desc).map (fun d => d.parameters.length) = some 3 := ⟨cq_RX10.1, cq_RX10.2, pd_16⟩
theorem k1574 : Cond.methodLink RL 58 yX11_likely ∈ gt := gt_7_2 (i := 0) rfl rfl
theorem k1575 : Cond.instanceMethod yX11_likely ∈ gt := gt_7_2 (i := 1) rfl rfl
theorem k1576 : Cond.selects RX11 yX11_likely yX11_likely ∈ gt := gt_7_2 (i := 2) rfl rfl
theorem k1577 : Cond.code yX11_likely cX11_likely 10 (some .long) ∈ gt := gt_7_2 (i := 3) rfl rfl
theorem np_X11_likely : yX11_likely.cls ≠ "java/lang/invoke/MethodHandle" ∧ yX11_likely.cls ≠ "java/lang/invoke/VarHandle" ∧ (parseMethodDescriptor yX11_likely.desc).map (fun d => d.parameters.length) = some 3 := ⟨cq_RX11.1, cq_RX11.2, pd_16⟩
theorem k895 : Cond.methodLink RL 59 yX10_mean ∈ gt := gt_4_3 (i := 17) rfl rfl
theorem k896 : Cond.instanceMethod yX10_mean ∈ gt := gt_4_3 (i := 18) rfl rfl
theorem k897 : Cond.selects RX10 yX10_mean yX10_mean ∈ gt := gt_4_3 (i := 19) rfl rfl
theorem k898 : Cond.code yX10_mean cX10_mean 4 (some .long) ∈ gt := gt_4_3 (i := 20) rfl rfl
theorem np_X10_mean : yX10_mean.cls ≠ "java/lang/invoke/MethodHandle" ∧ yX10_mean.cls ≠ "java/lang/invoke/VarHandle" ∧ (parseMethodDescriptor yX10_mean.desc).map (fun d => d.parameters.length) = some 3 := ⟨cq_RX10.1, cq_RX10.2, pd_16⟩
theorem k1589 : Cond.methodLink RL 62 yX11_mean ∈ gt := gt_7_2 (i := 15) rfl rfl
theorem k1590 : Cond.instanceMethod yX11_mean ∈ gt := gt_7_2 (i := 16) rfl rfl
theorem k1591 : Cond.selects RX11 yX11_mean yX11_mean ∈ gt := gt_7_2 (i := 17) rfl rfl
theorem k1592 : Cond.code yX11_mean cX11_mean 4 (some .long) ∈ gt := gt_7_2 (i := 18) rfl rfl
theorem np_X11_mean : yX11_mean.cls ≠ "java/lang/invoke/MethodHandle" ∧ yX11_mean.cls ≠ "java/lang/invoke/VarHandle" ∧ (parseMethodDescriptor yX11_mean.desc).map (fun d => d.parameters.length) = some 3 := ⟨cq_RX11.1, cq_RX11.2, pd_16⟩
theorem k911 : Cond.methodLink RL 63 yX10_rows ∈ gt := gt_4_4 (i := 9) rfl rfl
theorem k912 : Cond.instanceMethod yX10_rows ∈ gt := gt_4_4 (i := 10) rfl rfl
theorem k913 : Cond.selects RX10 yX10_rows yX10_rows ∈ gt := gt_4_4 (i := 11) rfl rfl
theorem k914 : Cond.code yX10_rows cX10_rows 5 (some .long) ∈ gt := gt_4_4 (i := 12) rfl rfl
theorem np_X10_rows : yX10_rows.cls ≠ "java/lang/invoke/MethodHandle" ∧ yX10_rows.cls ≠ "java/lang/invoke/VarHandle" ∧ (parseMethodDescriptor yX10_rows.desc).map (fun d => d.parameters.length) = some 3 := ⟨cq_RX10.1, cq_RX10.2, pd_33⟩
theorem k1600 : Cond.methodLink RL 67 yX11_rows ∈ gt := gt_7_3 (i := 2) rfl rfl
theorem k1601 : Cond.instanceMethod yX11_rows ∈ gt := gt_7_3 (i := 3) rfl rfl
theorem k1602 : Cond.selects RX11 yX11_rows yX11_rows ∈ gt := gt_7_3 (i := 4) rfl rfl
theorem k1603 : Cond.code yX11_rows cX11_rows 8 (some .long) ∈ gt := gt_7_3 (i := 5) rfl rfl
theorem np_X11_rows : yX11_rows.cls ≠ "java/lang/invoke/MethodHandle" ∧ yX11_rows.cls ≠ "java/lang/invoke/VarHandle" ∧ (parseMethodDescriptor yX11_rows.desc).map (fun d => d.parameters.length) = some 3 := ⟨cq_RX11.1, cq_RX11.2, pd_33⟩
theorem k922 : Cond.methodLink RL 68 yX10_brings ∈ gt := gt_4_4 (i := 20) rfl rfl
theorem k923 : Cond.instanceMethod yX10_brings ∈ gt := gt_4_4 (i := 21) rfl rfl
theorem k924 : Cond.selects RX10 yX10_brings yX10_brings ∈ gt := gt_4_4 (i := 22) rfl rfl
theorem k925 : Cond.code yX10_brings cX10_brings 7 (some .int) ∈ gt := gt_4_4 (i := 23) rfl rfl
theorem np_X10_brings : yX10_brings.cls ≠ "java/lang/invoke/MethodHandle" ∧ yX10_brings.cls ≠ "java/lang/invoke/VarHandle" ∧ (parseMethodDescriptor yX10_brings.desc).map (fun d => d.parameters.length) = some 4 := ⟨cq_RX10.1, cq_RX10.2, pd_19⟩
theorem k1604 : Cond.methodLink RL 71 yX11_brings ∈ gt := gt_7_3 (i := 6) rfl rfl
theorem k1605 : Cond.instanceMethod yX11_brings ∈ gt := gt_7_3 (i := 7) rfl rfl
theorem k1606 : Cond.selects RX11 yX11_brings yX11_brings ∈ gt := gt_7_3 (i := 8) rfl rfl
theorem k1607 : Cond.code yX11_brings cX11_brings 7 (some .int) ∈ gt := gt_7_3 (i := 9) rfl rfl
theorem np_X11_brings : yX11_brings.cls ≠ "java/lang/invoke/MethodHandle" ∧ yX11_brings.cls ≠ "java/lang/invoke/VarHandle" ∧ (parseMethodDescriptor yX11_brings.desc).map (fun d => d.parameters.length) = some 4 := ⟨cq_RX11.1, cq_RX11.2, pd_19⟩
theorem k934 : Cond.methodLink RL 72 yX10_best ∈ gt := gt_4_5 (i := 8) rfl rfl
theorem k935 : Cond.instanceMethod yX10_best ∈ gt := gt_4_5 (i := 9) rfl rfl
theorem k936 : Cond.selects RX10 yX10_best yX10_best ∈ gt := gt_4_5 (i := 10) rfl rfl
theorem k937 : Cond.code yX10_best cX10_best 5 (some .int) ∈ gt := gt_4_5 (i := 11) rfl rfl
theorem np_X10_best : yX10_best.cls ≠ "java/lang/invoke/MethodHandle" ∧ yX10_best.cls ≠ "java/lang/invoke/VarHandle" ∧ (parseMethodDescriptor yX10_best.desc).map (fun d => d.parameters.length) = some 4 := ⟨cq_RX10.1, cq_RX10.2, pd_19⟩
theorem k1611 : Cond.methodLink RL 75 yX11_best ∈ gt := gt_7_3 (i := 13) rfl rfl
theorem k1612 : Cond.instanceMethod yX11_best ∈ gt := gt_7_3 (i := 14) rfl rfl
theorem k1613 : Cond.selects RX11 yX11_best yX11_best ∈ gt := gt_7_3 (i := 15) rfl rfl
theorem k1614 : Cond.code yX11_best cX11_best 11 (some .int) ∈ gt := gt_7_3 (i := 16) rfl rfl
theorem np_X11_best : yX11_best.cls ≠ "java/lang/invoke/MethodHandle" ∧ yX11_best.cls ≠ "java/lang/invoke/VarHandle" ∧ (parseMethodDescriptor yX11_best.desc).map (fun d => d.parameters.length) = some 4 := ⟨cq_RX11.1, cq_RX11.2, pd_19⟩
theorem k960 : Cond.methodLink RL 76 yX10_steps ∈ gt := gt_4_6 (i := 10) rfl rfl
theorem k961 : Cond.instanceMethod yX10_steps ∈ gt := gt_4_6 (i := 11) rfl rfl
theorem k962 : Cond.selects RX10 yX10_steps yX10_steps ∈ gt := gt_4_6 (i := 12) rfl rfl
theorem k963 : Cond.code yX10_steps cX10_steps 5 (some .int) ∈ gt := gt_4_6 (i := 13) rfl rfl
theorem np_X10_steps : yX10_steps.cls ≠ "java/lang/invoke/MethodHandle" ∧ yX10_steps.cls ≠ "java/lang/invoke/VarHandle" ∧ (parseMethodDescriptor yX10_steps.desc).map (fun d => d.parameters.length) = some 4 := ⟨cq_RX10.1, cq_RX10.2, pd_19⟩
theorem k1635 : Cond.methodLink RL 79 yX11_steps ∈ gt := gt_7_4 (i := 13) rfl rfl
theorem k1636 : Cond.instanceMethod yX11_steps ∈ gt := gt_7_4 (i := 14) rfl rfl
theorem k1637 : Cond.selects RX11 yX11_steps yX11_steps ∈ gt := gt_7_4 (i := 15) rfl rfl
theorem k1638 : Cond.code yX11_steps cX11_steps 8 (some .int) ∈ gt := gt_7_4 (i := 16) rfl rfl
theorem np_X11_steps : yX11_steps.cls ≠ "java/lang/invoke/MethodHandle" ∧ yX11_steps.cls ≠ "java/lang/invoke/VarHandle" ∧ (parseMethodDescriptor yX11_steps.desc).map (fun d => d.parameters.length) = some 4 := ⟨cq_RX11.1, cq_RX11.2, pd_19⟩
theorem k981 : Cond.methodLink RL 80 yX10_mended ∈ gt := gt_4_7 (i := 7) rfl rfl
theorem k982 : Cond.instanceMethod yX10_mended ∈ gt := gt_4_7 (i := 8) rfl rfl
theorem k983 : Cond.selects RX10 yX10_mended yX10_mended ∈ gt := gt_4_7 (i := 9) rfl rfl
theorem k984 : Cond.code yX10_mended cX10_mended 4 (some .long) ∈ gt := gt_4_7 (i := 10) rfl rfl
theorem np_X10_mended : yX10_mended.cls ≠ "java/lang/invoke/MethodHandle" ∧ yX10_mended.cls ≠ "java/lang/invoke/VarHandle" ∧ (parseMethodDescriptor yX10_mended.desc).map (fun d => d.parameters.length) = some 3 := ⟨cq_RX10.1, cq_RX10.2, pd_16⟩
theorem k1646 : Cond.methodLink RL 83 yX11_mended ∈ gt := gt_7_5 (i := 0) rfl rfl
theorem k1647 : Cond.instanceMethod yX11_mended ∈ gt := gt_7_5 (i := 1) rfl rfl
theorem k1648 : Cond.selects RX11 yX11_mended yX11_mended ∈ gt := gt_7_5 (i := 2) rfl rfl
theorem k1649 : Cond.code yX11_mended cX11_mended 4 (some .long) ∈ gt := gt_7_5 (i := 3) rfl rfl
theorem np_X11_mended : yX11_mended.cls ≠ "java/lang/invoke/MethodHandle" ∧ yX11_mended.cls ≠ "java/lang/invoke/VarHandle" ∧ (parseMethodDescriptor yX11_mended.desc).map (fun d => d.parameters.length) = some 3 := ⟨cq_RX11.1, cq_RX11.2, pd_16⟩
theorem k986 : Cond.methodLink RL 84 yX10_one ∈ gt := gt_4_7 (i := 12) rfl rfl
theorem k987 : Cond.instanceMethod yX10_one ∈ gt := gt_4_7 (i := 13) rfl rfl
theorem k988 : Cond.selects RX10 yX10_one yX10_one ∈ gt := gt_4_7 (i := 14) rfl rfl
theorem k989 : Cond.code yX10_one cX10_one 4 (some .long) ∈ gt := gt_4_7 (i := 15) rfl rfl
theorem np_X10_one : yX10_one.cls ≠ "java/lang/invoke/MethodHandle" ∧ yX10_one.cls ≠ "java/lang/invoke/VarHandle" ∧ (parseMethodDescriptor yX10_one.desc).map (fun d => d.parameters.length) = some 3 := ⟨cq_RX10.1, cq_RX10.2, pd_33⟩
theorem k1650 : Cond.methodLink RL 87 yX11_one ∈ gt := gt_7_5 (i := 4) rfl rfl
theorem k1651 : Cond.instanceMethod yX11_one ∈ gt := gt_7_5 (i := 5) rfl rfl
theorem k1652 : Cond.selects RX11 yX11_one yX11_one ∈ gt := gt_7_5 (i := 6) rfl rfl
theorem k1653 : Cond.code yX11_one cX11_one 10 (some .long) ∈ gt := gt_7_5 (i := 7) rfl rfl
theorem np_X11_one : yX11_one.cls ≠ "java/lang/invoke/MethodHandle" ∧ yX11_one.cls ≠ "java/lang/invoke/VarHandle" ∧ (parseMethodDescriptor yX11_one.desc).map (fun d => d.parameters.length) = some 3 := ⟨cq_RX11.1, cq_RX11.2, pd_33⟩
theorem k1001 : Cond.methodLink RL 88 yX10_low ∈ gt := gt_4_8 (i := 3) rfl rfl
theorem k1002 : Cond.instanceMethod yX10_low ∈ gt := gt_4_8 (i := 4) rfl rfl
theorem k1003 : Cond.selects RX10 yX10_low yX10_low ∈ gt := gt_4_8 (i := 5) rfl rfl
theorem k1004 : Cond.code yX10_low cX10_low 4 (some .int) ∈ gt := gt_4_8 (i := 6) rfl rfl
theorem np_X10_low : yX10_low.cls ≠ "java/lang/invoke/MethodHandle" ∧ yX10_low.cls ≠ "java/lang/invoke/VarHandle" ∧ (parseMethodDescriptor yX10_low.desc).map (fun d => d.parameters.length) = some 3 := ⟨cq_RX10.1, cq_RX10.2, pd_15⟩
theorem k1654 : Cond.methodLink RL 91 yX11_low ∈ gt := gt_7_5 (i := 8) rfl rfl
theorem k1655 : Cond.instanceMethod yX11_low ∈ gt := gt_7_5 (i := 9) rfl rfl
theorem k1656 : Cond.selects RX11 yX11_low yX11_low ∈ gt := gt_7_5 (i := 10) rfl rfl
theorem k1657 : Cond.code yX11_low cX11_low 11 (some .int) ∈ gt := gt_7_5 (i := 11) rfl rfl
theorem np_X11_low : yX11_low.cls ≠ "java/lang/invoke/MethodHandle" ∧ yX11_low.cls ≠ "java/lang/invoke/VarHandle" ∧ (parseMethodDescriptor yX11_low.desc).map (fun d => d.parameters.length) = some 3 := ⟨cq_RX11.1, cq_RX11.2, pd_15⟩
theorem k1016 : Cond.methodLink RL 92 yX10_helps ∈ gt := gt_4_8 (i := 18) rfl rfl
theorem k1017 : Cond.instanceMethod yX10_helps ∈ gt := gt_4_8 (i := 19) rfl rfl
theorem k1018 : Cond.selects RX10 yX10_helps yX10_helps ∈ gt := gt_4_8 (i := 20) rfl rfl
theorem k1019 : Cond.code yX10_helps cX10_helps 8 (some .long) ∈ gt := gt_4_8 (i := 21) rfl rfl
theorem np_X10_helps : yX10_helps.cls ≠ "java/lang/invoke/MethodHandle" ∧ yX10_helps.cls ≠ "java/lang/invoke/VarHandle" ∧ (parseMethodDescriptor yX10_helps.desc).map (fun d => d.parameters.length) = some 4 := ⟨cq_RX10.1, cq_RX10.2, pd_20⟩
theorem k1658 : Cond.methodLink RL 96 yX11_helps ∈ gt := gt_7_5 (i := 12) rfl rfl
theorem k1659 : Cond.instanceMethod yX11_helps ∈ gt := gt_7_5 (i := 13) rfl rfl
theorem k1660 : Cond.selects RX11 yX11_helps yX11_helps ∈ gt := gt_7_5 (i := 14) rfl rfl
theorem k1661 : Cond.code yX11_helps cX11_helps 5 (some .long) ∈ gt := gt_7_5 (i := 15) rfl rfl
theorem np_X11_helps : yX11_helps.cls ≠ "java/lang/invoke/MethodHandle" ∧ yX11_helps.cls ≠ "java/lang/invoke/VarHandle" ∧ (parseMethodDescriptor yX11_helps.desc).map (fun d => d.parameters.length) = some 4 := ⟨cq_RX11.1, cq_RX11.2, pd_20⟩
theorem k1020 : Cond.methodLink RL 97 yX10_alone ∈ gt := gt_4_8 (i := 22) rfl rfl
theorem k1021 : Cond.instanceMethod yX10_alone ∈ gt := gt_4_8 (i := 23) rfl rfl
theorem k1022 : Cond.selects RX10 yX10_alone yX10_alone ∈ gt := gt_4_9 (i := 0) rfl rfl
theorem k1023 : Cond.code yX10_alone cX10_alone 5 (some .long) ∈ gt := gt_4_9 (i := 1) rfl rfl
theorem np_X10_alone : yX10_alone.cls ≠ "java/lang/invoke/MethodHandle" ∧ yX10_alone.cls ≠ "java/lang/invoke/VarHandle" ∧ (parseMethodDescriptor yX10_alone.desc).map (fun d => d.parameters.length) = some 3 := ⟨cq_RX10.1, cq_RX10.2, pd_16⟩
theorem k1666 : Cond.methodLink RL 100 yX11_alone ∈ gt := gt_7_5 (i := 20) rfl rfl
theorem k1667 : Cond.instanceMethod yX11_alone ∈ gt := gt_7_5 (i := 21) rfl rfl
theorem k1668 : Cond.selects RX11 yX11_alone yX11_alone ∈ gt := gt_7_5 (i := 22) rfl rfl
theorem k1669 : Cond.code yX11_alone cX11_alone 4 (some .long) ∈ gt := gt_7_5 (i := 23) rfl rfl
theorem np_X11_alone : yX11_alone.cls ≠ "java/lang/invoke/MethodHandle" ∧ yX11_alone.cls ≠ "java/lang/invoke/VarHandle" ∧ (parseMethodDescriptor yX11_alone.desc).map (fun d => d.parameters.length) = some 3 := ⟨cq_RX11.1, cq_RX11.2, pd_16⟩
theorem k1024 : Cond.methodLink RL 101 yX10_hear ∈ gt := gt_4_9 (i := 2) rfl rfl
theorem k1025 : Cond.instanceMethod yX10_hear ∈ gt := gt_4_9 (i := 3) rfl rfl
theorem k1026 : Cond.selects RX10 yX10_hear yX10_hear ∈ gt := gt_4_9 (i := 4) rfl rfl
theorem k1027 : Cond.code yX10_hear cX10_hear 7 (some .long) ∈ gt := gt_4_9 (i := 5) rfl rfl
theorem np_X10_hear : yX10_hear.cls ≠ "java/lang/invoke/MethodHandle" ∧ yX10_hear.cls ≠ "java/lang/invoke/VarHandle" ∧ (parseMethodDescriptor yX10_hear.desc).map (fun d => d.parameters.length) = some 4 := ⟨cq_RX10.1, cq_RX10.2, pd_20⟩
theorem k1670 : Cond.methodLink RL 104 yX11_hear ∈ gt := gt_7_6 (i := 0) rfl rfl
theorem k1671 : Cond.instanceMethod yX11_hear ∈ gt := gt_7_6 (i := 1) rfl rfl
theorem k1672 : Cond.selects RX11 yX11_hear yX11_hear ∈ gt := gt_7_6 (i := 2) rfl rfl
theorem k1673 : Cond.code yX11_hear cX11_hear 7 (some .long) ∈ gt := gt_7_6 (i := 3) rfl rfl
theorem np_X11_hear : yX11_hear.cls ≠ "java/lang/invoke/MethodHandle" ∧ yX11_hear.cls ≠ "java/lang/invoke/VarHandle" ∧ (parseMethodDescriptor yX11_hear.desc).map (fun d => d.parameters.length) = some 4 := ⟨cq_RX11.1, cq_RX11.2, pd_20⟩
theorem k1032 : Cond.methodLink RL 105 yX10_may ∈ gt := gt_4_9 (i := 10) rfl rfl
theorem k1033 : Cond.instanceMethod yX10_may ∈ gt := gt_4_9 (i := 11) rfl rfl
theorem k1034 : Cond.selects RX10 yX10_may yX10_may ∈ gt := gt_4_9 (i := 12) rfl rfl
theorem k1035 : Cond.code yX10_may cX10_may 5 (some .long) ∈ gt := gt_4_9 (i := 13) rfl rfl
theorem np_X10_may : yX10_may.cls ≠ "java/lang/invoke/MethodHandle" ∧ yX10_may.cls ≠ "java/lang/invoke/VarHandle" ∧ (parseMethodDescriptor yX10_may.desc).map (fun d => d.parameters.length) = some 4 := ⟨cq_RX10.1, cq_RX10.2, pd_29⟩
theorem k1675 : Cond.methodLink RL 109 yX11_may ∈ gt := gt_7_6 (i := 5) rfl rfl
theorem k1676 : Cond.instanceMethod yX11_may ∈ gt := gt_7_6 (i := 6) rfl rfl
theorem k1677 : Cond.selects RX11 yX11_may yX11_may ∈ gt := gt_7_6 (i := 7) rfl rfl
theorem k1678 : Cond.code yX11_may cX11_may 7 (some .long) ∈ gt := gt_7_6 (i := 8) rfl rfl
theorem np_X11_may : yX11_may.cls ≠ "java/lang/invoke/MethodHandle" ∧ yX11_may.cls ≠ "java/lang/invoke/VarHandle" ∧ (parseMethodDescriptor yX11_may.desc).map (fun d => d.parameters.length) = some 4 := ⟨cq_RX11.1, cq_RX11.2, pd_29⟩
set_option maxHeartbeats 4000000 in
set_option maxRecDepth 100000 in
theorem law_0 {x : JX} {bb L k n : Nat} {xs : Nat → Int32} {i : Int32} {u : Nat → Nat → Int32} {g : Nat → Nat → Int64} {ex : List MC} (hq : LQ x bb) (hcon : x.2.2.2.2.2.2.2.2.2.2.2.2.2.2.1 0 = some (L, xs)) (hi : LI i L) (hI : INX u) (hk : k = 182 + ex.length) (hb : k + 1 ≤ 600000 ∧ n + 1 ≤ 7302250) (hd : 11 ≤ 11) (K : ∀ (u2 : Nat → Nat → Int32) (g2 : Nat → Nat → Int64) (ex2 : List MC) (k2 n2 : Nat), INX u2 → k2 = 182 + ex2.length → k2 ≤ k + 1 → n2 ≤ n + 1 → J x yL_law code 4 ret 11 600000 7302250 0 2255 [(3, .int i), (2, .ref 162), (1, .ref 0), (0, .retAddr 0)] [] (Wd u2 g2 ex2) k2 n2) : J x yL_law code 4 ret 11 600000 7302250 0 220 [(3, .int i), (2, .ref 162), (1, .ref 0), (0, .retAddr 0)] [] (Wd u g ex) k n := by
  obtain ⟨hI, hR⟩ := hI
  obtain ⟨H0, H1, H2, H3, H4, H5, H6, f0, f1, f2, f3⟩ := hI
  have X0 := H0
  obtain ⟨a0_0, a0_1, a0_2, a0_3, a0_4, a0_5, a0_6, a0_7, a0_8, a0_9, a0_10, a0_11, a0_12, a0_13, a0_14, a0_15⟩ := X0
  have X1 := H1
  obtain ⟨a1_0, a1_1, a1_2, a1_3, a1_4, a1_5, a1_6, a1_7, a1_8, a1_9, a1_10, a1_11, a1_12, a1_13, a1_14, a1_15, a1_16, a1_17, a1_18, a1_19, a1_20, a1_21, a1_22, a1_23, a1_24, a1_25, a1_26, a1_27, a1_28, a1_29, a1_30, a1_31, a1_32, a1_33, a1_34, a1_35, a1_36, a1_37, a1_38, a1_39, a1_40, a1_41, a1_42, a1_43, a1_44, a1_45, a1_46, a1_47⟩ := X1
  have X2 := H2
  obtain ⟨a2_0, a2_1, a2_2, a2_3, a2_4, a2_5⟩ := X2
  have X3 := H3
  obtain ⟨a3_0, a3_1, a3_2, a3_3, a3_4, a3_5, a3_6, a3_7, a3_8, a3_9, a3_10, a3_11, a3_12, a3_13, a3_14, a3_15, a3_16⟩ := X3
  have X4 := H4
  obtain ⟨a4_0, a4_1, a4_2, a4_3, a4_4, a4_5, a4_6⟩ := X4
  have X5 := H5
  obtain ⟨a5_0, a5_1⟩ := X5
  have X6 := H6
  obtain ⟨a6_0, a6_1, a6_2, a6_3, a6_4⟩ := X6
  refine J_aload_n (i := 1) (j := 2) dL_law_220 rfl rfl ?_
  refine J_aload_nC (i := 0) (j := 3) dL_law_221 rfl rfl ?_
  refine J_iload_n (i := 3) (j := 0) dL_law_222 rfl rfl ?_
  refine J_iconst (v := 1) dL_law_223 (by decide) ?_
  refine J_iadd dL_law_224 ?_
  refine J_cald (z := L) (f := xs) dL_law_225 hcon (li_in hi (by decide)) ?_
  refine J_aload_nC (i := 0) (j := 3) dL_law_226 rfl rfl ?_
  refine J_iload_n (i := 3) (j := 0) dL_law_227 rfl rfl ?_
  refine J_iconst (v := 2) dL_law_228 (by decide) ?_
  refine J_iadd dL_law_229 ?_
  refine J_cald (z := L) (f := xs) dL_law_230 hcon (li_in hi (by decide)) ?_
  refine J_aload_nC (i := 0) (j := 3) dL_law_231 rfl rfl ?_
  refine J_iload_n (i := 3) (j := 0) dL_law_232 rfl rfl ?_
  refine J_iconst (v := 3) dL_law_233 (by decide) ?_
  refine J_iadd dL_law_234 ?_
  refine J_cald (z := L) (f := xs) dL_law_235 hcon (li_in hi (by decide)) ?_
  refine J_aload_nC (i := 0) (j := 3) dL_law_236 rfl rfl ?_
  refine J_iload_n (i := 3) (j := 0) dL_law_237 rfl rfl ?_
  refine J_iconst (v := 4) dL_law_238 (by decide) ?_
  refine J_iadd dL_law_239 ?_
  refine J_cald (z := L) (f := xs) dL_law_240 hcon (li_in hi (by decide)) ?_
  refine J_aload_nC (i := 0) (j := 3) dL_law_241 rfl rfl ?_
  refine J_iload_n (i := 3) (j := 0) dL_law_242 rfl rfl ?_
  refine J_iconst (v := 5) dL_law_243 (by decide) ?_
  refine J_iadd dL_law_244 ?_
  refine J_cald (z := L) (f := xs) dL_law_245 hcon (li_in hi (by decide)) ?_
  refine J_callV (As := [.int (xs (i + 1).toNatClampNeg), .int (xs (i + 2).toNatClampNeg), .int (xs (i + 3).toNatClampNeg), .int (xs (i + 4).toNatClampNeg), .int (xs (i + 5).toNatClampNeg)]) (rest := []) dL_law_246 (c_P_feedRX (d := 1) (u := u) (g := g) (ex := ex) (a := (xs (i + 1).toNatClampNeg)) (b := (xs (i + 2).toNatClampNeg)) (c := (xs (i + 3).toNatClampNeg)) (d0 := (xs (i + 4).toNatClampNeg)) (e := (xs (i + 5).toNatClampNeg))  (by decide) a0_14 a0_15) hq.n k454 k455 k456 wc_0 rfl rfl k87 k457 np_X10_feed (Nat.le_trans (by decide) hd) (by decide) (lk1 hb) (ln1 hb) (wlk hk) rfl (Nat.le_of_ble_eq_true rfl) (fun r_ h_ p1 => ?_)
  obtain ⟨v2, u3, rfl, rfl, h4, h5, h6, hx7, fr8, fc9⟩ := p1
  refine J_pop dL_law_249 rfl ?_
  refine J_aload_n (i := 2) (j := 1) dL_law_250 rfl rfl ?_
  refine J_aload_nC (i := 0) (j := 3) dL_law_251 rfl rfl ?_
  refine J_iload_n (i := 3) (j := 0) dL_law_252 rfl rfl ?_
  refine J_iconst (v := 1) dL_law_253 (by decide) ?_
  refine J_iadd dL_law_254 ?_
  refine J_cald (z := L) (f := xs) dL_law_255 hcon (li_in hi (by decide)) ?_
  refine J_aload_nC (i := 0) (j := 3) dL_law_256 rfl rfl ?_
  refine J_iload_n (i := 3) (j := 0) dL_law_257 rfl rfl ?_
  refine J_iconst (v := 2) dL_law_258 (by decide) ?_
  refine J_iadd dL_law_259 ?_
  refine J_cald (z := L) (f := xs) dL_law_260 hcon (li_in hi (by decide)) ?_
  refine J_aload_nC (i := 0) (j := 3) dL_law_261 rfl rfl ?_
  refine J_iload_n (i := 3) (j := 0) dL_law_262 rfl rfl ?_
  refine J_iconst (v := 3) dL_law_263 (by decide) ?_
  refine J_iadd dL_law_264 ?_
  refine J_cald (z := L) (f := xs) dL_law_265 hcon (li_in hi (by decide)) ?_
  refine J_aload_nC (i := 0) (j := 3) dL_law_266 rfl rfl ?_
  refine J_iload_n (i := 3) (j := 0) dL_law_267 rfl rfl ?_
  refine J_iconst (v := 4) dL_law_268 (by decide) ?_
  refine J_iadd dL_law_269 ?_
  refine J_cald (z := L) (f := xs) dL_law_270 hcon (li_in hi (by decide)) ?_
  refine J_aload_nC (i := 0) (j := 3) dL_law_271 rfl rfl ?_
  refine J_iload_n (i := 3) (j := 0) dL_law_272 rfl rfl ?_
  refine J_iconst (v := 5) dL_law_273 (by decide) ?_
  refine J_iadd dL_law_274 ?_
  refine J_cald (z := L) (f := xs) dL_law_275 hcon (li_in hi (by decide)) ?_
  refine J_callV (As := [.int (xs (i + 1).toNatClampNeg), .int (xs (i + 2).toNatClampNeg), .int (xs (i + 3).toNatClampNeg), .int (xs (i + 4).toNatClampNeg), .int (xs (i + 5).toNatClampNeg)]) (rest := []) dL_law_276 (c_M_feedRX (d := 1) (u := u3) (g := g) (ex := ex) (a := (xs (i + 1).toNatClampNeg)) (b := (xs (i + 2).toNatClampNeg)) (c := (xs (i + 3).toNatClampNeg)) (d0 := (xs (i + 4).toNatClampNeg)) (e := (xs (i + 5).toNatClampNeg))  (by decide) (ab_c (fr8 164 (Nat.ne_of_beq_eq_false rfl) (Nat.ne_of_beq_eq_false rfl)) a4_5)) hq.n k1394 k1395 k1396 wc_162 rfl rfl k97 k1397 np_X11_feed (Nat.le_trans (by decide) hd) (by decide) (lk1 hb) (ln1 hb) (wlk hk) rfl (Nat.le_of_ble_eq_true rfl) (fun r_ h_ p10 => ?_)
  obtain ⟨v11, u12, rfl, rfl, h13, h14, hx15, fr16, fc17, fc18⟩ := p10
  refine J_pop dL_law_279 rfl ?_
  refine J_goto (tgt := 2255) dL_law_280 (by decide) ?_
  have fe := R4_feed (rly_v (fun c hc => (fr8 c (rn_v hc (by decide)) (rn_v hc (by decide)))) hR) a0_14 hx7 fr8 hx15 (fun c h1 h2 h3 => fr16 c (nin_3 h1 h2 h3)) fc18
  exact K u12 g ex k n ⟨⟨⟨(bd_r ((congrFun (fr16 1 rfl) 5).trans (fc9 5 (Nat.ne_of_beq_eq_false rfl))) a0_0), (bd_r ((congrFun (fr16 5 rfl) 0).trans (congrFun (fr8 5 (Nat.ne_of_beq_eq_false rfl) (Nat.ne_of_beq_eq_false rfl)) 0)) a0_1), (bd_r ((congrFun (fr16 5 rfl) 2).trans (congrFun (fr8 5 (Nat.ne_of_beq_eq_false rfl) (Nat.ne_of_beq_eq_false rfl)) 2)) a0_2), (bd_r ((congrFun (fr16 10 rfl) 0).trans (congrFun (fr8 10 (Nat.ne_of_beq_eq_false rfl) (Nat.ne_of_beq_eq_false rfl)) 0)) a0_3), (bd_r ((congrFun (fr16 10 rfl) 2).trans (congrFun (fr8 10 (Nat.ne_of_beq_eq_false rfl) (Nat.ne_of_beq_eq_false rfl)) 2)) a0_4), (bd_r ((congrFun (fr16 1 rfl) 7).trans (fc9 7 (Nat.ne_of_beq_eq_false rfl))) a0_5), (bd_r ((congrFun (fr16 15 rfl) 0).trans (congrFun (fr8 15 (Nat.ne_of_beq_eq_false rfl) (Nat.ne_of_beq_eq_false rfl)) 0)) a0_6), (bd_r ((congrFun (fr16 19 rfl) 0).trans (congrFun (fr8 19 (Nat.ne_of_beq_eq_false rfl) (Nat.ne_of_beq_eq_false rfl)) 0)) a0_7), (bd_r ((congrFun (fr16 23 rfl) 0).trans (congrFun (fr8 23 (Nat.ne_of_beq_eq_false rfl) (Nat.ne_of_beq_eq_false rfl)) 0)) a0_8), (ab_c ((fr16 6 rfl).trans (fr8 6 (Nat.ne_of_beq_eq_false rfl) (Nat.ne_of_beq_eq_false rfl))) a0_9), (ab_c ((fr16 11 rfl).trans (fr8 11 (Nat.ne_of_beq_eq_false rfl) (Nat.ne_of_beq_eq_false rfl))) a0_10), (km_c ((fr16 16 rfl).trans (fr8 16 (Nat.ne_of_beq_eq_false rfl) (Nat.ne_of_beq_eq_false rfl))) ((fr16 18 rfl).trans (fr8 18 (Nat.ne_of_beq_eq_false rfl) (Nat.ne_of_beq_eq_false rfl))) a0_11), (km_c ((fr16 20 rfl).trans (fr8 20 (Nat.ne_of_beq_eq_false rfl) (Nat.ne_of_beq_eq_false rfl))) ((fr16 22 rfl).trans (fr8 22 (Nat.ne_of_beq_eq_false rfl) (Nat.ne_of_beq_eq_false rfl))) a0_12), (km_c ((fr16 24 rfl).trans (fr8 24 (Nat.ne_of_beq_eq_false rfl) (Nat.ne_of_beq_eq_false rfl))) ((fr16 26 rfl).trans (fr8 26 (Nat.ne_of_beq_eq_false rfl) (Nat.ne_of_beq_eq_false rfl))) a0_13), (bd_r (congrFun (fr16 1 rfl) 1) h4), (bf_c (fr16 2 rfl) h5)⟩, (ig1_c (fun c hc => ((fr16 c (nin_rg hc rfl)).trans (fr8 c (rne hc (by decide)) (rne hc (by decide))))) H1), (ig2_c (fun c hc => ((fr16 c (nin_rg hc rfl)).trans (fr8 c (rne hc (by decide)) (rne hc (by decide))))) H2), (ig3_c (fun c hc => ((fr16 c (nin_rg hc rfl)).trans (fr8 c (rne hc (by decide)) (rne hc (by decide))))) H3), ⟨(my_c ((fr16 167 rfl).trans (fr8 167 (Nat.ne_of_beq_eq_false rfl) (Nat.ne_of_beq_eq_false rfl))) a4_0), (ab_c ((fr16 168 rfl).trans (fr8 168 (Nat.ne_of_beq_eq_false rfl) (Nat.ne_of_beq_eq_false rfl))) a4_1), (hd_c ((fr16 168 rfl).trans (fr8 168 (Nat.ne_of_beq_eq_false rfl) (Nat.ne_of_beq_eq_false rfl))) a4_2), (hc_c ((fr16 167 rfl).trans (fr8 167 (Nat.ne_of_beq_eq_false rfl) (Nat.ne_of_beq_eq_false rfl))) ((fr16 168 rfl).trans (fr8 168 (Nat.ne_of_beq_eq_false rfl) (Nat.ne_of_beq_eq_false rfl))) a4_3), (pl_c ((fr16 169 rfl).trans (fr8 169 (Nat.ne_of_beq_eq_false rfl) (Nat.ne_of_beq_eq_false rfl))) a4_4), h13, (ab_c ((fr16 169 rfl).trans (fr8 169 (Nat.ne_of_beq_eq_false rfl) (Nat.ne_of_beq_eq_false rfl))) a4_6)⟩, (ig5_c (fun c hc => ((fr16 c (nin_rg hc rfl)).trans (fr8 c (rne hc (by decide)) (rne hc (by decide))))) H5), (ig6_c (fun c hc => ((fr16 c (nin_rg hc rfl)).trans (fr8 c (rne hc (by decide)) (rne hc (by decide))))) H6), (bd_r ((fc17 22 (Nat.ne_of_beq_eq_false rfl)).trans (congrFun (fr8 162 (Nat.ne_of_beq_eq_false rfl) (Nat.ne_of_beq_eq_false rfl)) 22)) f0), (bd_r ((fc17 31 (Nat.ne_of_beq_eq_false rfl)).trans (congrFun (fr8 162 (Nat.ne_of_beq_eq_false rfl) (Nat.ne_of_beq_eq_false rfl)) 31)) f1), (bd_r ((fc17 12 (Nat.ne_of_beq_eq_false rfl)).trans (congrFun (fr8 162 (Nat.ne_of_beq_eq_false rfl) (Nat.ne_of_beq_eq_false rfl)) 12)) f2), (bd_r ((fc17 17 (Nat.ne_of_beq_eq_false rfl)).trans (congrFun (fr8 162 (Nat.ne_of_beq_eq_false rfl) (Nat.ne_of_beq_eq_false rfl)) 17)) f3)⟩, (rly_u (fun c hc => (fr16 c (nin_yu hc rfl))) fe.2)⟩ hk (Nat.le_succ _) (Nat.le_succ _)
set_option maxHeartbeats 4000000 in
set_option maxRecDepth 100000 in
theorem law_1 {x : JX} {bb L k n : Nat} {xs : Nat → Int32} {i : Int32} {u : Nat → Nat → Int32} {g : Nat → Nat → Int64} {ex : List MC} (hq : LQ x bb) (hcon : x.2.2.2.2.2.2.2.2.2.2.2.2.2.2.1 0 = some (L, xs)) (hi : LI i L) (hI : INX u) (hk : k = 182 + ex.length) (hb : k + 1 ≤ 600000 ∧ n + 1 ≤ 7302250) (hd : 11 ≤ 11) (K : ∀ (u2 : Nat → Nat → Int32) (g2 : Nat → Nat → Int64) (ex2 : List MC) (k2 n2 : Nat), INX u2 → k2 = 182 + ex2.length → k2 ≤ k + 1 → n2 ≤ n + 1 → J x yL_law code 4 ret 11 600000 7302250 0 2255 [(3, .int i), (2, .ref 162), (1, .ref 0), (0, .retAddr 0)] [] (Wd u2 g2 ex2) k2 n2) : J x yL_law code 4 ret 11 600000 7302250 0 283 [(3, .int i), (2, .ref 162), (1, .ref 0), (0, .retAddr 0)] [] (Wd u g ex) k n := by
  obtain ⟨hI, hR⟩ := hI
  obtain ⟨H0, H1, H2, H3, H4, H5, H6, f0, f1, f2, f3⟩ := hI
  have X0 := H0
  obtain ⟨a0_0, a0_1, a0_2, a0_3, a0_4, a0_5, a0_6, a0_7, a0_8, a0_9, a0_10, a0_11, a0_12, a0_13, a0_14, a0_15⟩ := X0
  have X1 := H1
  obtain ⟨a1_0, a1_1, a1_2, a1_3, a1_4, a1_5, a1_6, a1_7, a1_8, a1_9, a1_10, a1_11, a1_12, a1_13, a1_14, a1_15, a1_16, a1_17, a1_18, a1_19, a1_20, a1_21, a1_22, a1_23, a1_24, a1_25, a1_26, a1_27, a1_28, a1_29, a1_30, a1_31, a1_32, a1_33, a1_34, a1_35, a1_36, a1_37, a1_38, a1_39, a1_40, a1_41, a1_42, a1_43, a1_44, a1_45, a1_46, a1_47⟩ := X1
  have X2 := H2
  obtain ⟨a2_0, a2_1, a2_2, a2_3, a2_4, a2_5⟩ := X2
  have X3 := H3
  obtain ⟨a3_0, a3_1, a3_2, a3_3, a3_4, a3_5, a3_6, a3_7, a3_8, a3_9, a3_10, a3_11, a3_12, a3_13, a3_14, a3_15, a3_16⟩ := X3
  have X4 := H4
  obtain ⟨a4_0, a4_1, a4_2, a4_3, a4_4, a4_5, a4_6⟩ := X4
  have X5 := H5
  obtain ⟨a5_0, a5_1⟩ := X5
  have X6 := H6
  obtain ⟨a6_0, a6_1, a6_2, a6_3, a6_4⟩ := X6
  refine J_aload_n (i := 1) (j := 2) dL_law_283 rfl rfl ?_
  refine J_aload_nC (i := 0) (j := 3) dL_law_284 rfl rfl ?_
  refine J_iload_n (i := 3) (j := 0) dL_law_285 rfl rfl ?_
  refine J_iconst (v := 1) dL_law_286 (by decide) ?_
  refine J_iadd dL_law_287 ?_
  refine J_cald (z := L) (f := xs) dL_law_288 hcon (li_in hi (by decide)) ?_
  refine J_callV (As := [.int (xs (i + 1).toNatClampNeg)]) (rest := []) dL_law_289 (c_P_endRX (d := 0) (u := u) (g := g) (ex := ex) (n := (xs (i + 1).toNatClampNeg))  (by decide) a0_14 a0_15) hq.n k462 k463 k464 wc_0 rfl rfl k87 k465 np_X10_end (Nat.le_trans (by decide) hd) (by decide) (lk1 hb) (ln1 hb) (wlk hk) rfl (Nat.le_of_ble_eq_true rfl) (fun r_ h_ p1 => ?_)
  obtain ⟨v2, u3, rfl, rfl, h4, h5, hx6, fr7, fc8⟩ := p1
  refine J_pop dL_law_292 rfl ?_
  refine J_aload_n (i := 2) (j := 1) dL_law_293 rfl rfl ?_
  refine J_aload_nC (i := 0) (j := 3) dL_law_294 rfl rfl ?_
  refine J_iload_n (i := 3) (j := 0) dL_law_295 rfl rfl ?_
  refine J_iconst (v := 1) dL_law_296 (by decide) ?_
  refine J_iadd dL_law_297 ?_
  refine J_cald (z := L) (f := xs) dL_law_298 hcon (li_in hi (by decide)) ?_
  refine J_callV (As := [.int (xs (i + 1).toNatClampNeg)]) (rest := []) dL_law_299 (c_M_endRX (d := 1) (u := u3) (g := g) (ex := ex) (n := (xs (i + 1).toNatClampNeg))  (by decide) (ab_c (fr7 164 (Nat.ne_of_beq_eq_false rfl)) a4_5)) hq.n k1402 k1403 k1404 wc_162 rfl rfl k97 k1405 np_X11_end (Nat.le_trans (by decide) hd) (by decide) (lk1 hb) (ln1 hb) (wlk hk) rfl (Nat.le_of_ble_eq_true rfl) (fun r_ h_ p9 => ?_)
  obtain ⟨v10, u11, rfl, rfl, h12, h13, hx14, fr15, fc16, fc17⟩ := p9
  refine J_pop dL_law_302 rfl ?_
  refine J_goto (tgt := 2255) dL_law_303 (by decide) ?_
  have fe := R4_end (rly_v (fun c hc => (fr7 c (rn_v hc (by decide)))) hR) hx6 fr7 fc8 hx14 fr15 fc17
  exact K u11 g ex k n ⟨⟨⟨(bd_r ((congrFun (fr15 1 (Nat.ne_of_beq_eq_false rfl) (Nat.ne_of_beq_eq_false rfl)) 5).trans (fc8 5 (Nat.ne_of_beq_eq_false rfl))) a0_0), (bd_r ((congrFun (fr15 5 (Nat.ne_of_beq_eq_false rfl) (Nat.ne_of_beq_eq_false rfl)) 0).trans (congrFun (fr7 5 (Nat.ne_of_beq_eq_false rfl)) 0)) a0_1), (bd_r ((congrFun (fr15 5 (Nat.ne_of_beq_eq_false rfl) (Nat.ne_of_beq_eq_false rfl)) 2).trans (congrFun (fr7 5 (Nat.ne_of_beq_eq_false rfl)) 2)) a0_2), (bd_r ((congrFun (fr15 10 (Nat.ne_of_beq_eq_false rfl) (Nat.ne_of_beq_eq_false rfl)) 0).trans (congrFun (fr7 10 (Nat.ne_of_beq_eq_false rfl)) 0)) a0_3), (bd_r ((congrFun (fr15 10 (Nat.ne_of_beq_eq_false rfl) (Nat.ne_of_beq_eq_false rfl)) 2).trans (congrFun (fr7 10 (Nat.ne_of_beq_eq_false rfl)) 2)) a0_4), (bd_r ((congrFun (fr15 1 (Nat.ne_of_beq_eq_false rfl) (Nat.ne_of_beq_eq_false rfl)) 7).trans (fc8 7 (Nat.ne_of_beq_eq_false rfl))) a0_5), (bd_r ((congrFun (fr15 15 (Nat.ne_of_beq_eq_false rfl) (Nat.ne_of_beq_eq_false rfl)) 0).trans (congrFun (fr7 15 (Nat.ne_of_beq_eq_false rfl)) 0)) a0_6), (bd_r ((congrFun (fr15 19 (Nat.ne_of_beq_eq_false rfl) (Nat.ne_of_beq_eq_false rfl)) 0).trans (congrFun (fr7 19 (Nat.ne_of_beq_eq_false rfl)) 0)) a0_7), (bd_r ((congrFun (fr15 23 (Nat.ne_of_beq_eq_false rfl) (Nat.ne_of_beq_eq_false rfl)) 0).trans (congrFun (fr7 23 (Nat.ne_of_beq_eq_false rfl)) 0)) a0_8), (ab_c ((fr15 6 (Nat.ne_of_beq_eq_false rfl) (Nat.ne_of_beq_eq_false rfl)).trans (fr7 6 (Nat.ne_of_beq_eq_false rfl))) a0_9), (ab_c ((fr15 11 (Nat.ne_of_beq_eq_false rfl) (Nat.ne_of_beq_eq_false rfl)).trans (fr7 11 (Nat.ne_of_beq_eq_false rfl))) a0_10), (km_c ((fr15 16 (Nat.ne_of_beq_eq_false rfl) (Nat.ne_of_beq_eq_false rfl)).trans (fr7 16 (Nat.ne_of_beq_eq_false rfl))) ((fr15 18 (Nat.ne_of_beq_eq_false rfl) (Nat.ne_of_beq_eq_false rfl)).trans (fr7 18 (Nat.ne_of_beq_eq_false rfl))) a0_11), (km_c ((fr15 20 (Nat.ne_of_beq_eq_false rfl) (Nat.ne_of_beq_eq_false rfl)).trans (fr7 20 (Nat.ne_of_beq_eq_false rfl))) ((fr15 22 (Nat.ne_of_beq_eq_false rfl) (Nat.ne_of_beq_eq_false rfl)).trans (fr7 22 (Nat.ne_of_beq_eq_false rfl))) a0_12), (km_c ((fr15 24 (Nat.ne_of_beq_eq_false rfl) (Nat.ne_of_beq_eq_false rfl)).trans (fr7 24 (Nat.ne_of_beq_eq_false rfl))) ((fr15 26 (Nat.ne_of_beq_eq_false rfl) (Nat.ne_of_beq_eq_false rfl)).trans (fr7 26 (Nat.ne_of_beq_eq_false rfl))) a0_13), (bd_r (congrFun (fr15 1 (Nat.ne_of_beq_eq_false rfl) (Nat.ne_of_beq_eq_false rfl)) 1) h4), (bf_c ((fr15 2 (Nat.ne_of_beq_eq_false rfl) (Nat.ne_of_beq_eq_false rfl)).trans (fr7 2 (Nat.ne_of_beq_eq_false rfl))) a0_15)⟩, (ig1_c (fun c hc => ((fr15 c (rne hc (by decide)) (rne hc (by decide))).trans (fr7 c (rne hc (by decide))))) H1), (ig2_c (fun c hc => ((fr15 c (rne hc (by decide)) (rne hc (by decide))).trans (fr7 c (rne hc (by decide))))) H2), (ig3_c (fun c hc => ((fr15 c (rne hc (by decide)) (rne hc (by decide))).trans (fr7 c (rne hc (by decide))))) H3), ⟨(my_c ((fr15 167 (Nat.ne_of_beq_eq_false rfl) (Nat.ne_of_beq_eq_false rfl)).trans (fr7 167 (Nat.ne_of_beq_eq_false rfl))) a4_0), (ab_c ((fr15 168 (Nat.ne_of_beq_eq_false rfl) (Nat.ne_of_beq_eq_false rfl)).trans (fr7 168 (Nat.ne_of_beq_eq_false rfl))) a4_1), (hd_c ((fr15 168 (Nat.ne_of_beq_eq_false rfl) (Nat.ne_of_beq_eq_false rfl)).trans (fr7 168 (Nat.ne_of_beq_eq_false rfl))) a4_2), (hc_c ((fr15 167 (Nat.ne_of_beq_eq_false rfl) (Nat.ne_of_beq_eq_false rfl)).trans (fr7 167 (Nat.ne_of_beq_eq_false rfl))) ((fr15 168 (Nat.ne_of_beq_eq_false rfl) (Nat.ne_of_beq_eq_false rfl)).trans (fr7 168 (Nat.ne_of_beq_eq_false rfl))) a4_3), (pl_c ((fr15 169 (Nat.ne_of_beq_eq_false rfl) (Nat.ne_of_beq_eq_false rfl)).trans (fr7 169 (Nat.ne_of_beq_eq_false rfl))) a4_4), h12, (ab_c ((fr15 169 (Nat.ne_of_beq_eq_false rfl) (Nat.ne_of_beq_eq_false rfl)).trans (fr7 169 (Nat.ne_of_beq_eq_false rfl))) a4_6)⟩, (ig5_c (fun c hc => ((fr15 c (rne hc (by decide)) (rne hc (by decide))).trans (fr7 c (rne hc (by decide))))) H5), (ig6_c (fun c hc => ((fr15 c (rne hc (by decide)) (rne hc (by decide))).trans (fr7 c (rne hc (by decide))))) H6), (bd_r ((fc16 22 (Nat.ne_of_beq_eq_false rfl)).trans (congrFun (fr7 162 (Nat.ne_of_beq_eq_false rfl)) 22)) f0), (bd_r ((fc16 31 (Nat.ne_of_beq_eq_false rfl)).trans (congrFun (fr7 162 (Nat.ne_of_beq_eq_false rfl)) 31)) f1), (bd_r ((fc16 12 (Nat.ne_of_beq_eq_false rfl)).trans (congrFun (fr7 162 (Nat.ne_of_beq_eq_false rfl)) 12)) f2), (bd_r ((fc16 17 (Nat.ne_of_beq_eq_false rfl)).trans (congrFun (fr7 162 (Nat.ne_of_beq_eq_false rfl)) 17)) f3)⟩, (rly_u (fun c hc => (fr15 c (rn_yu hc (by decide)) (rn_yu hc (by decide)))) fe.2)⟩ hk (Nat.le_succ _) (Nat.le_succ _)
set_option maxHeartbeats 4000000 in
set_option maxRecDepth 100000 in
theorem law_2 {x : JX} {bb L k n : Nat} {xs : Nat → Int32} {i : Int32} {u : Nat → Nat → Int32} {g : Nat → Nat → Int64} {ex : List MC} (hq : LQ x bb) (hcon : x.2.2.2.2.2.2.2.2.2.2.2.2.2.2.1 0 = some (L, xs)) (hi : LI i L) (hI : INX u) (hk : k = 182 + ex.length) (hb : k + 1 ≤ 600000 ∧ n + 1 ≤ 7302250) (hd : 11 ≤ 11) (K : ∀ (u2 : Nat → Nat → Int32) (g2 : Nat → Nat → Int64) (ex2 : List MC) (k2 n2 : Nat), INX u2 → k2 = 182 + ex2.length → k2 ≤ k + 1 → n2 ≤ n + 1 → J x yL_law code 4 ret 11 600000 7302250 0 2255 [(3, .int i), (2, .ref 162), (1, .ref 0), (0, .retAddr 0)] [] (Wd u2 g2 ex2) k2 n2) : J x yL_law code 4 ret 11 600000 7302250 0 306 [(3, .int i), (2, .ref 162), (1, .ref 0), (0, .retAddr 0)] [] (Wd u g ex) k n := by
  obtain ⟨hI, hR⟩ := hI
  obtain ⟨H0, H1, H2, H3, H4, H5, H6, f0, f1, f2, f3⟩ := hI
  have X0 := H0
  obtain ⟨a0_0, a0_1, a0_2, a0_3, a0_4, a0_5, a0_6, a0_7, a0_8, a0_9, a0_10, a0_11, a0_12, a0_13, a0_14, a0_15⟩ := X0
  have X1 := H1
  obtain ⟨a1_0, a1_1, a1_2, a1_3, a1_4, a1_5, a1_6, a1_7, a1_8, a1_9, a1_10, a1_11, a1_12, a1_13, a1_14, a1_15, a1_16, a1_17, a1_18, a1_19, a1_20, a1_21, a1_22, a1_23, a1_24, a1_25, a1_26, a1_27, a1_28, a1_29, a1_30, a1_31, a1_32, a1_33, a1_34, a1_35, a1_36, a1_37, a1_38, a1_39, a1_40, a1_41, a1_42, a1_43, a1_44, a1_45, a1_46, a1_47⟩ := X1
  have X2 := H2
  obtain ⟨a2_0, a2_1, a2_2, a2_3, a2_4, a2_5⟩ := X2
  have X3 := H3
  obtain ⟨a3_0, a3_1, a3_2, a3_3, a3_4, a3_5, a3_6, a3_7, a3_8, a3_9, a3_10, a3_11, a3_12, a3_13, a3_14, a3_15, a3_16⟩ := X3
  have X4 := H4
  obtain ⟨a4_0, a4_1, a4_2, a4_3, a4_4, a4_5, a4_6⟩ := X4
  have X5 := H5
  obtain ⟨a5_0, a5_1⟩ := X5
  have X6 := H6
  obtain ⟨a6_0, a6_1, a6_2, a6_3, a6_4⟩ := X6
  refine J_aload_n (i := 1) (j := 2) dL_law_306 rfl rfl ?_
  refine J_aload_nC (i := 0) (j := 3) dL_law_307 rfl rfl ?_
  refine J_iload_n (i := 3) (j := 0) dL_law_308 rfl rfl ?_
  refine J_iconst (v := 1) dL_law_309 (by decide) ?_
  refine J_iadd dL_law_310 ?_
  refine J_cald (z := L) (f := xs) dL_law_311 hcon (li_in hi (by decide)) ?_
  refine J_aload_nC (i := 0) (j := 3) dL_law_312 rfl rfl ?_
  refine J_iload_n (i := 3) (j := 0) dL_law_313 rfl rfl ?_
  refine J_iconst (v := 2) dL_law_314 (by decide) ?_
  refine J_iadd dL_law_315 ?_
  refine J_cald (z := L) (f := xs) dL_law_316 hcon (li_in hi (by decide)) ?_
  refine J_callV (As := [.int (xs (i + 1).toNatClampNeg), .int (xs (i + 2).toNatClampNeg)]) (rest := []) dL_law_317 (c_P_textRX (d := 8) (u := u) (g := g) (ex := ex) (sort := (xs (i + 1).toNatClampNeg)) (at0 := (xs (i + 2).toNatClampNeg))  (by decide) a0_14 a0_0 a0_5 a0_15 a0_1 a0_2 a0_3 a0_4 a0_9 a0_10 a0_6 a0_7 a0_8 a0_11 a0_12 a0_13 a2_0 a2_1 a2_2 a2_3 a2_4 a2_5) hq.n k466 k467 k468 wc_0 rfl rfl k87 k469 np_X10_text (Nat.le_trans (by decide) hd) (by decide) (lk1 hb) (ln1 hb) (wlk hk) rfl (Nat.le_of_ble_eq_true rfl) (fun r_ h_ p1 => ?_)
  obtain ⟨v2, u3, rfl, rfl, h4, h5, h6, h7, h8, h9, h10, h11, h12, h13, h14, h15, h16, h17, h18, h19, h20, h21, h22, h23, h24, h25, h26, hx27, fr28, fc29, fc30, fc31, fc32, fc33, fc34, fc35, fc36, fc37, fc38⟩ := p1
  refine J_pop dL_law_320 rfl ?_
  refine J_aload_n (i := 2) (j := 1) dL_law_321 rfl rfl ?_
  refine J_aload_nC (i := 0) (j := 3) dL_law_322 rfl rfl ?_
  refine J_iload_n (i := 3) (j := 0) dL_law_323 rfl rfl ?_
  refine J_iconst (v := 1) dL_law_324 (by decide) ?_
  refine J_iadd dL_law_325 ?_
  refine J_cald (z := L) (f := xs) dL_law_326 hcon (li_in hi (by decide)) ?_
  refine J_aload_nC (i := 0) (j := 3) dL_law_327 rfl rfl ?_
  refine J_iload_n (i := 3) (j := 0) dL_law_328 rfl rfl ?_
  refine J_iconst (v := 2) dL_law_329 (by decide) ?_
  refine J_iadd dL_law_330 ?_
  refine J_cald (z := L) (f := xs) dL_law_331 hcon (li_in hi (by decide)) ?_
  refine J_callV (As := [.int (xs (i + 1).toNatClampNeg), .int (xs (i + 2).toNatClampNeg)]) (rest := []) dL_law_332 (c_M_textRX (d := 7) (u := u3) (g := g) (ex := ex) (sort := (xs (i + 1).toNatClampNeg)) (at0 := (xs (i + 2).toNatClampNeg))  (by decide) (ab_c (fr28 164 rfl) a4_5) (ab_c (fr28 168 rfl) a4_1) (ab_c (fr28 169 rfl) a4_6) (my_c (fr28 167 rfl) a4_0) (hd_c (fr28 168 rfl) a4_2) (hc_c (fr28 167 rfl) (fr28 168 rfl) a4_3) (pl_c (fr28 169 rfl) a4_4) (bd_r (congrFun (fr28 162 rfl) 12) f2) (bd_r (congrFun (fr28 162 rfl) 17) f3) (ab_c (fr28 171 rfl) a5_0) (ab_c (fr28 170 rfl) a5_1)) hq.n k1409 k1410 k1411 wc_162 rfl rfl k97 k1412 np_X11_text (Nat.le_trans (by decide) hd) (by decide) (lk1 hb) (ln1 hb) (wlk hk) rfl (Nat.le_of_ble_eq_true rfl) (fun r_ h_ p39 => ?_)
  obtain ⟨v40, u41, g42, rfl, rfl, h43, h44, h45, h46, h47, h48, h49, h50, h51, h52, h53, h54, h55, hx56, fr57, fc58, fc59, fc60, fc61⟩ := p39
  refine J_pop dL_law_335 rfl ?_
  refine J_goto (tgt := 2255) dL_law_336 (by decide) ?_
  have fe := R4_text (rly_v (fun c hc => (fr28 c (nin_v hc rfl))) hR) a0_14 a0_0 a0_5 a0_15 h26 h55 hx27 (fr28 49 rfl) hx56 (fr57 163 rfl) fc59 h54 fc60 fc61 (fr57 181 rfl)
  exact K u41 g42 ex k n ⟨⟨⟨(bd_r (congrFun (fr57 1 rfl) 5) h5), (bd_r (congrFun (fr57 5 rfl) 0) h7), (bd_r (congrFun (fr57 5 rfl) 2) h8), (bd_r (congrFun (fr57 10 rfl) 0) h9), (bd_r (congrFun (fr57 10 rfl) 2) h10), (bd_r (congrFun (fr57 1 rfl) 7) h6), (bd_r (congrFun (fr57 15 rfl) 0) h13), (bd_r (congrFun (fr57 19 rfl) 0) h14), (bd_r (congrFun (fr57 23 rfl) 0) h15), (ab_c (fr57 6 rfl) h11), (ab_c (fr57 11 rfl) h12), (km_c (fr57 16 rfl) (fr57 18 rfl) h16), (km_c (fr57 20 rfl) (fr57 22 rfl) h17), (km_c (fr57 24 rfl) (fr57 26 rfl) h18), (bd_r (congrFun (fr57 1 rfl) 1) h4), (bf_c ((fr57 2 rfl).trans (fr28 2 rfl)) a0_15)⟩, (ig1_c (fun c hc => ((fr57 c (nin_rg hc rfl)).trans (fr28 c (nin_rg hc rfl)))) H1), ⟨(ab_c (fr57 33 rfl) h21), (km_c (fr57 38 rfl) (fr57 40 rfl) h23), (bd_r (congrFun (fr57 32 rfl) 0) h19), (bd_r (congrFun (fr57 32 rfl) 2) h20), (bd_r (congrFun (fr57 37 rfl) 0) h22), (ab_c (fr57 41 rfl) h24)⟩, (ig3_c (fun c hc => ((fr57 c (nin_rg hc rfl)).trans (fr28 c (nin_rg hc rfl)))) H3), ⟨h46, h44, h47, h48, h49, h43, h45⟩, ⟨h52, h53⟩, (ig6_c (fun c hc => ((fr57 c (nin_rg hc rfl)).trans (fr28 c (nin_rg hc rfl)))) H6), (bd_r ((fc58 22 (Nat.ne_of_beq_eq_false rfl) (Nat.ne_of_beq_eq_false rfl) (Nat.ne_of_beq_eq_false rfl) (Nat.ne_of_beq_eq_false rfl) (Nat.ne_of_beq_eq_false rfl) (Nat.ne_of_beq_eq_false rfl) (Nat.ne_of_beq_eq_false rfl) (Nat.ne_of_beq_eq_false rfl) (Nat.ne_of_beq_eq_false rfl) (Nat.ne_of_beq_eq_false rfl) (Nat.ne_of_beq_eq_false rfl)).trans (congrFun (fr28 162 rfl) 22)) f0), (bd_r ((fc58 31 (Nat.ne_of_beq_eq_false rfl) (Nat.ne_of_beq_eq_false rfl) (Nat.ne_of_beq_eq_false rfl) (Nat.ne_of_beq_eq_false rfl) (Nat.ne_of_beq_eq_false rfl) (Nat.ne_of_beq_eq_false rfl) (Nat.ne_of_beq_eq_false rfl) (Nat.ne_of_beq_eq_false rfl) (Nat.ne_of_beq_eq_false rfl) (Nat.ne_of_beq_eq_false rfl) (Nat.ne_of_beq_eq_false rfl)).trans (congrFun (fr28 162 rfl) 31)) f1), h50, h51⟩, (rly_u (fun c hc => (fr57 c (nin_yu hc rfl))) fe.2)⟩ hk (Nat.le_succ _) (Nat.le_succ _)
set_option maxHeartbeats 4000000 in
set_option maxRecDepth 100000 in
theorem law_3 {x : JX} {bb L k n : Nat} {xs : Nat → Int32} {i : Int32} {u : Nat → Nat → Int32} {g : Nat → Nat → Int64} {ex : List MC} (hq : LQ x bb) (hcon : x.2.2.2.2.2.2.2.2.2.2.2.2.2.2.1 0 = some (L, xs)) (hi : LI i L) (hI : INX u) (hk : k = 182 + ex.length) (hb : k + 1 ≤ 600000 ∧ n + 1 ≤ 7302250) (hd : 11 ≤ 11) (K : ∀ (u2 : Nat → Nat → Int32) (g2 : Nat → Nat → Int64) (ex2 : List MC) (k2 n2 : Nat), INX u2 → k2 = 182 + ex2.length → k2 ≤ k + 1 → n2 ≤ n + 1 → J x yL_law code 4 ret 11 600000 7302250 0 2255 [(3, .int i), (2, .ref 162), (1, .ref 0), (0, .retAddr 0)] [] (Wd u2 g2 ex2) k2 n2) : J x yL_law code 4 ret 11 600000 7302250 0 339 [(3, .int i), (2, .ref 162), (1, .ref 0), (0, .retAddr 0)] [] (Wd u g ex) k n := by
  obtain ⟨hI, hR⟩ := hI
  obtain ⟨H0, H1, H2, H3, H4, H5, H6, f0, f1, f2, f3⟩ := hI
  have X0 := H0
  obtain ⟨a0_0, a0_1, a0_2, a0_3, a0_4, a0_5, a0_6, a0_7, a0_8, a0_9, a0_10, a0_11, a0_12, a0_13, a0_14, a0_15⟩ := X0
  have X1 := H1
  obtain ⟨a1_0, a1_1, a1_2, a1_3, a1_4, a1_5, a1_6, a1_7, a1_8, a1_9, a1_10, a1_11, a1_12, a1_13, a1_14, a1_15, a1_16, a1_17, a1_18, a1_19, a1_20, a1_21, a1_22, a1_23, a1_24, a1_25, a1_26, a1_27, a1_28, a1_29, a1_30, a1_31, a1_32, a1_33, a1_34, a1_35, a1_36, a1_37, a1_38, a1_39, a1_40, a1_41, a1_42, a1_43, a1_44, a1_45, a1_46, a1_47⟩ := X1
  have X2 := H2
  obtain ⟨a2_0, a2_1, a2_2, a2_3, a2_4, a2_5⟩ := X2
  have X3 := H3
  obtain ⟨a3_0, a3_1, a3_2, a3_3, a3_4, a3_5, a3_6, a3_7, a3_8, a3_9, a3_10, a3_11, a3_12, a3_13, a3_14, a3_15, a3_16⟩ := X3
  have X4 := H4
  obtain ⟨a4_0, a4_1, a4_2, a4_3, a4_4, a4_5, a4_6⟩ := X4
  have X5 := H5
  obtain ⟨a5_0, a5_1⟩ := X5
  have X6 := H6
  obtain ⟨a6_0, a6_1, a6_2, a6_3, a6_4⟩ := X6
  refine J_aload_n (i := 1) (j := 2) dL_law_339 rfl rfl ?_
  refine J_aload_nC (i := 0) (j := 3) dL_law_340 rfl rfl ?_
  refine J_iload_n (i := 3) (j := 0) dL_law_341 rfl rfl ?_
  refine J_iconst (v := 1) dL_law_342 (by decide) ?_
  refine J_iadd dL_law_343 ?_
  refine J_cald (z := L) (f := xs) dL_law_344 hcon (li_in hi (by decide)) ?_
  refine J_callV (As := [.int (xs (i + 1).toNatClampNeg)]) (rest := []) dL_law_345 (c_P_fault (d := 0) (u := u) (g := g) (ex := ex) (what := (xs (i + 1).toNatClampNeg))  (by decide) ) hq.n k695 k696 k697 wc_0 rfl rfl k87 k698 np_X10_fault (Nat.le_trans (by decide) hd) (by decide) (lk1 hb) (ln1 hb) (wlk hk) rfl (Nat.le_of_ble_eq_true rfl) (fun r_ h_ p1 => ?_)
  obtain ⟨v2, rfl, rfl⟩ := p1
  refine J_pop dL_law_348 rfl ?_
  refine J_aload_n (i := 2) (j := 1) dL_law_349 rfl rfl ?_
  refine J_aload_nC (i := 0) (j := 3) dL_law_350 rfl rfl ?_
  refine J_iload_n (i := 3) (j := 0) dL_law_351 rfl rfl ?_
  refine J_iconst (v := 1) dL_law_352 (by decide) ?_
  refine J_iadd dL_law_353 ?_
  refine J_cald (z := L) (f := xs) dL_law_354 hcon (li_in hi (by decide)) ?_
  refine J_callV (As := [.int (xs (i + 1).toNatClampNeg)]) (rest := []) dL_law_355 (c_M_fault (d := 0) (u := u) (g := g) (ex := ex) (what := (xs (i + 1).toNatClampNeg))  (by decide) ) hq.n k1487 k1488 k1489 wc_162 rfl rfl k97 k1490 np_X11_fault (Nat.le_trans (by decide) hd) (by decide) (lk1 hb) (ln1 hb) (wlk hk) rfl (Nat.le_of_ble_eq_true rfl) (fun r_ h_ p3 => ?_)
  obtain ⟨v4, u5, rfl, rfl, fr6, fc7⟩ := p3
  refine J_pop dL_law_358 rfl ?_
  refine J_goto (tgt := 2255) dL_law_359 (by decide) ?_
  exact K u5 g ex k n ⟨⟨(ig0_c (fun c hc => (fr6 c (rne hc (by decide)))) H0), (ig1_c (fun c hc => (fr6 c (rne hc (by decide)))) H1), (ig2_c (fun c hc => (fr6 c (rne hc (by decide)))) H2), (ig3_c (fun c hc => (fr6 c (rne hc (by decide)))) H3), (ig4_c (fun c hc => (fr6 c (rne hc (by decide)))) H4), (ig5_c (fun c hc => (fr6 c (rne hc (by decide)))) H5), (ig6_c (fun c hc => (fr6 c (rne hc (by decide)))) H6), (bd_r (fc7 22 (Nat.ne_of_beq_eq_false rfl)) f0), (bd_r (fc7 31 (Nat.ne_of_beq_eq_false rfl)) f1), (bd_r (fc7 12 (Nat.ne_of_beq_eq_false rfl)) f2), (bd_r (fc7 17 (Nat.ne_of_beq_eq_false rfl)) f3)⟩, (rly_2 (fun c hc => (fr6 c (rn_y2 hc (by decide)))) hR)⟩ hk (Nat.le_succ _) (Nat.le_succ _)
set_option maxHeartbeats 4000000 in
set_option maxRecDepth 100000 in
theorem law_4 {x : JX} {bb L k n : Nat} {xs : Nat → Int32} {i : Int32} {u : Nat → Nat → Int32} {g : Nat → Nat → Int64} {ex : List MC} (hq : LQ x bb) (hcon : x.2.2.2.2.2.2.2.2.2.2.2.2.2.2.1 0 = some (L, xs)) (hi : LI i L) (hI : INX u) (hk : k = 182 + ex.length) (hb : k + 1 ≤ 600000 ∧ n + 1 ≤ 7302250) (hd : 11 ≤ 11) (K : ∀ (u2 : Nat → Nat → Int32) (g2 : Nat → Nat → Int64) (ex2 : List MC) (k2 n2 : Nat), INX u2 → k2 = 182 + ex2.length → k2 ≤ k + 1 → n2 ≤ n + 1 → J x yL_law code 4 ret 11 600000 7302250 0 2255 [(3, .int i), (2, .ref 162), (1, .ref 0), (0, .retAddr 0)] [] (Wd u2 g2 ex2) k2 n2) : J x yL_law code 4 ret 11 600000 7302250 0 362 [(3, .int i), (2, .ref 162), (1, .ref 0), (0, .retAddr 0)] [] (Wd u g ex) k n := by
  obtain ⟨hI, hR⟩ := hI
  obtain ⟨H0, H1, H2, H3, H4, H5, H6, f0, f1, f2, f3⟩ := hI
  have X0 := H0
  obtain ⟨a0_0, a0_1, a0_2, a0_3, a0_4, a0_5, a0_6, a0_7, a0_8, a0_9, a0_10, a0_11, a0_12, a0_13, a0_14, a0_15⟩ := X0
  have X1 := H1
  obtain ⟨a1_0, a1_1, a1_2, a1_3, a1_4, a1_5, a1_6, a1_7, a1_8, a1_9, a1_10, a1_11, a1_12, a1_13, a1_14, a1_15, a1_16, a1_17, a1_18, a1_19, a1_20, a1_21, a1_22, a1_23, a1_24, a1_25, a1_26, a1_27, a1_28, a1_29, a1_30, a1_31, a1_32, a1_33, a1_34, a1_35, a1_36, a1_37, a1_38, a1_39, a1_40, a1_41, a1_42, a1_43, a1_44, a1_45, a1_46, a1_47⟩ := X1
  have X2 := H2
  obtain ⟨a2_0, a2_1, a2_2, a2_3, a2_4, a2_5⟩ := X2
  have X3 := H3
  obtain ⟨a3_0, a3_1, a3_2, a3_3, a3_4, a3_5, a3_6, a3_7, a3_8, a3_9, a3_10, a3_11, a3_12, a3_13, a3_14, a3_15, a3_16⟩ := X3
  have X4 := H4
  obtain ⟨a4_0, a4_1, a4_2, a4_3, a4_4, a4_5, a4_6⟩ := X4
  have X5 := H5
  obtain ⟨a5_0, a5_1⟩ := X5
  have X6 := H6
  obtain ⟨a6_0, a6_1, a6_2, a6_3, a6_4⟩ := X6
  refine J_aload_n (i := 1) (j := 2) dL_law_362 rfl rfl ?_
  refine J_aload_nC (i := 0) (j := 3) dL_law_363 rfl rfl ?_
  refine J_iload_n (i := 3) (j := 0) dL_law_364 rfl rfl ?_
  refine J_iconst (v := 1) dL_law_365 (by decide) ?_
  refine J_iadd dL_law_366 ?_
  refine J_cald (z := L) (f := xs) dL_law_367 hcon (li_in hi (by decide)) ?_
  refine J_aload_nC (i := 0) (j := 3) dL_law_368 rfl rfl ?_
  refine J_iload_n (i := 3) (j := 0) dL_law_369 rfl rfl ?_
  refine J_iconst (v := 2) dL_law_370 (by decide) ?_
  refine J_iadd dL_law_371 ?_
  refine J_cald (z := L) (f := xs) dL_law_372 hcon (li_in hi (by decide)) ?_
  refine J_callV (As := [.int (xs (i + 1).toNatClampNeg), .int (xs (i + 2).toNatClampNeg)]) (rest := []) dL_law_373 (c_P_hill (d := 2) (u := u) (g := g) (ex := ex) (hill := (xs (i + 1).toNatClampNeg)) (what := (xs (i + 2).toNatClampNeg))  (by decide) a0_0 a0_1 a0_2 a0_3 a0_4) hq.n k699 k700 k701 wc_0 rfl rfl k87 k702 np_X10_hill (Nat.le_trans (by decide) hd) (by decide) (lk1 hb) (ln1 hb) (wlk hk) rfl (Nat.le_of_ble_eq_true rfl) (fun r_ h_ p1 => ?_)
  obtain ⟨v2, rfl, rfl⟩ := p1
  refine J_pop dL_law_376 rfl ?_
  refine J_aload_n (i := 2) (j := 1) dL_law_377 rfl rfl ?_
  refine J_aload_nC (i := 0) (j := 3) dL_law_378 rfl rfl ?_
  refine J_iload_n (i := 3) (j := 0) dL_law_379 rfl rfl ?_
  refine J_iconst (v := 1) dL_law_380 (by decide) ?_
  refine J_iadd dL_law_381 ?_
  refine J_cald (z := L) (f := xs) dL_law_382 hcon (li_in hi (by decide)) ?_
  refine J_aload_nC (i := 0) (j := 3) dL_law_383 rfl rfl ?_
  refine J_iload_n (i := 3) (j := 0) dL_law_384 rfl rfl ?_
  refine J_iconst (v := 2) dL_law_385 (by decide) ?_
  refine J_iadd dL_law_386 ?_
  refine J_cald (z := L) (f := xs) dL_law_387 hcon (li_in hi (by decide)) ?_
  refine J_callV (As := [.int (xs (i + 1).toNatClampNeg), .int (xs (i + 2).toNatClampNeg)]) (rest := []) dL_law_388 (c_M_hill (d := 2) (u := u) (g := g) (ex := ex) (hill := (xs (i + 1).toNatClampNeg)) (what := (xs (i + 2).toNatClampNeg))  (by decide) a4_0 a4_2) hq.n k1491 k1492 k1493 wc_162 rfl rfl k97 k1494 np_X11_hill (Nat.le_trans (by decide) hd) (by decide) (lk1 hb) (ln1 hb) (wlk hk) rfl (Nat.le_of_ble_eq_true rfl) (fun r_ h_ p3 => ?_)
  obtain ⟨v4, u5, rfl, rfl, fr6, fc7⟩ := p3
  refine J_pop dL_law_391 rfl ?_
  refine J_goto (tgt := 2255) dL_law_392 (by decide) ?_
  exact K u5 g ex k n ⟨⟨(ig0_c (fun c hc => (fr6 c (rne hc (by decide)))) H0), (ig1_c (fun c hc => (fr6 c (rne hc (by decide)))) H1), (ig2_c (fun c hc => (fr6 c (rne hc (by decide)))) H2), (ig3_c (fun c hc => (fr6 c (rne hc (by decide)))) H3), (ig4_c (fun c hc => (fr6 c (rne hc (by decide)))) H4), (ig5_c (fun c hc => (fr6 c (rne hc (by decide)))) H5), (ig6_c (fun c hc => (fr6 c (rne hc (by decide)))) H6), (bd_r (fc7 22 (Nat.ne_of_beq_eq_false rfl)) f0), (bd_r (fc7 31 (Nat.ne_of_beq_eq_false rfl)) f1), (bd_r (fc7 12 (Nat.ne_of_beq_eq_false rfl)) f2), (bd_r (fc7 17 (Nat.ne_of_beq_eq_false rfl)) f3)⟩, (rly_2 (fun c hc => (fr6 c (rn_y2 hc (by decide)))) hR)⟩ hk (Nat.le_succ _) (Nat.le_succ _)
set_option maxHeartbeats 4000000 in
set_option maxRecDepth 100000 in
theorem law_5 {x : JX} {bb L k n : Nat} {xs : Nat → Int32} {i : Int32} {u : Nat → Nat → Int32} {g : Nat → Nat → Int64} {ex : List MC} (hq : LQ x bb) (hcon : x.2.2.2.2.2.2.2.2.2.2.2.2.2.2.1 0 = some (L, xs)) (hi : LI i L) (hI : INX u) (hk : k = 182 + ex.length) (hb : k + 1 ≤ 600000 ∧ n + 1 ≤ 7302250) (hd : 11 ≤ 11) (K : ∀ (u2 : Nat → Nat → Int32) (g2 : Nat → Nat → Int64) (ex2 : List MC) (k2 n2 : Nat), INX u2 → k2 = 182 + ex2.length → k2 ≤ k + 1 → n2 ≤ n + 1 → J x yL_law code 4 ret 11 600000 7302250 0 2255 [(3, .int i), (2, .ref 162), (1, .ref 0), (0, .retAddr 0)] [] (Wd u2 g2 ex2) k2 n2) : J x yL_law code 4 ret 11 600000 7302250 0 395 [(3, .int i), (2, .ref 162), (1, .ref 0), (0, .retAddr 0)] [] (Wd u g ex) k n := by
  obtain ⟨hI, hR⟩ := hI
  obtain ⟨H0, H1, H2, H3, H4, H5, H6, f0, f1, f2, f3⟩ := hI
  have X0 := H0
  obtain ⟨a0_0, a0_1, a0_2, a0_3, a0_4, a0_5, a0_6, a0_7, a0_8, a0_9, a0_10, a0_11, a0_12, a0_13, a0_14, a0_15⟩ := X0
  have X1 := H1
  obtain ⟨a1_0, a1_1, a1_2, a1_3, a1_4, a1_5, a1_6, a1_7, a1_8, a1_9, a1_10, a1_11, a1_12, a1_13, a1_14, a1_15, a1_16, a1_17, a1_18, a1_19, a1_20, a1_21, a1_22, a1_23, a1_24, a1_25, a1_26, a1_27, a1_28, a1_29, a1_30, a1_31, a1_32, a1_33, a1_34, a1_35, a1_36, a1_37, a1_38, a1_39, a1_40, a1_41, a1_42, a1_43, a1_44, a1_45, a1_46, a1_47⟩ := X1
  have X2 := H2
  obtain ⟨a2_0, a2_1, a2_2, a2_3, a2_4, a2_5⟩ := X2
  have X3 := H3
  obtain ⟨a3_0, a3_1, a3_2, a3_3, a3_4, a3_5, a3_6, a3_7, a3_8, a3_9, a3_10, a3_11, a3_12, a3_13, a3_14, a3_15, a3_16⟩ := X3
  have X4 := H4
  obtain ⟨a4_0, a4_1, a4_2, a4_3, a4_4, a4_5, a4_6⟩ := X4
  have X5 := H5
  obtain ⟨a5_0, a5_1⟩ := X5
  have X6 := H6
  obtain ⟨a6_0, a6_1, a6_2, a6_3, a6_4⟩ := X6
  refine J_aload_n (i := 1) (j := 2) dL_law_395 rfl rfl ?_
  refine J_aload_nC (i := 0) (j := 3) dL_law_396 rfl rfl ?_
  refine J_iload_n (i := 3) (j := 0) dL_law_397 rfl rfl ?_
  refine J_iconst (v := 1) dL_law_398 (by decide) ?_
  refine J_iadd dL_law_399 ?_
  refine J_cald (z := L) (f := xs) dL_law_400 hcon (li_in hi (by decide)) ?_
  refine J_aload_nC (i := 0) (j := 3) dL_law_401 rfl rfl ?_
  refine J_iload_n (i := 3) (j := 0) dL_law_402 rfl rfl ?_
  refine J_iconst (v := 2) dL_law_403 (by decide) ?_
  refine J_iadd dL_law_404 ?_
  refine J_cald (z := L) (f := xs) dL_law_405 hcon (li_in hi (by decide)) ?_
  refine J_aload_nC (i := 0) (j := 3) dL_law_406 rfl rfl ?_
  refine J_iload_n (i := 3) (j := 0) dL_law_407 rfl rfl ?_
  refine J_iconst (v := 3) dL_law_408 (by decide) ?_
  refine J_iadd dL_law_409 ?_
  refine J_cald (z := L) (f := xs) dL_law_410 hcon (li_in hi (by decide)) ?_
  refine J_aload_nC (i := 0) (j := 3) dL_law_411 rfl rfl ?_
  refine J_iload_n (i := 3) (j := 0) dL_law_412 rfl rfl ?_
  refine J_iconst (v := 4) dL_law_413 (by decide) ?_
  refine J_iadd dL_law_414 ?_
  refine J_cald (z := L) (f := xs) dL_law_415 hcon (li_in hi (by decide)) ?_
  refine J_callV (As := [.int (xs (i + 1).toNatClampNeg), .int (xs (i + 2).toNatClampNeg), .int (xs (i + 3).toNatClampNeg), .int (xs (i + 4).toNatClampNeg)]) (rest := []) dL_law_416 (c_P_pond (d := 5) (u := u) (g := g) (ex := ex) (hill := (xs (i + 1).toNatClampNeg)) (plan := (xs (i + 2).toNatClampNeg)) (pond := (xs (i + 3).toNatClampNeg)) (what := (xs (i + 4).toNatClampNeg))  (by decide) a0_0 a0_5 a3_0 a3_1 a0_1 a0_2 a0_3 a0_4 a0_6 a0_7 a0_8 a3_2 a3_3 a0_9 a0_10 a0_11 a0_12 a0_13 a3_4) hq.n k719 k720 k721 wc_0 rfl rfl k87 k722 np_X10_pond (Nat.le_trans (by decide) hd) (by decide) (lk1 hb) (ln1 hb) (wlk hk) rfl (Nat.le_of_ble_eq_true rfl) (fun r_ h_ p1 => ?_)
  obtain ⟨v2, u3, rfl, rfl, h4, h5, h6, fr7, fc8, fc9⟩ := p1
  refine J_pop dL_law_419 rfl ?_
  refine J_aload_n (i := 2) (j := 1) dL_law_420 rfl rfl ?_
  refine J_aload_nC (i := 0) (j := 3) dL_law_421 rfl rfl ?_
  refine J_iload_n (i := 3) (j := 0) dL_law_422 rfl rfl ?_
  refine J_iconst (v := 1) dL_law_423 (by decide) ?_
  refine J_iadd dL_law_424 ?_
  refine J_cald (z := L) (f := xs) dL_law_425 hcon (li_in hi (by decide)) ?_
  refine J_aload_nC (i := 0) (j := 3) dL_law_426 rfl rfl ?_
  refine J_iload_n (i := 3) (j := 0) dL_law_427 rfl rfl ?_
  refine J_iconst (v := 2) dL_law_428 (by decide) ?_
  refine J_iadd dL_law_429 ?_
  refine J_cald (z := L) (f := xs) dL_law_430 hcon (li_in hi (by decide)) ?_
  refine J_aload_nC (i := 0) (j := 3) dL_law_431 rfl rfl ?_
  refine J_iload_n (i := 3) (j := 0) dL_law_432 rfl rfl ?_
  refine J_iconst (v := 3) dL_law_433 (by decide) ?_
  refine J_iadd dL_law_434 ?_
  refine J_cald (z := L) (f := xs) dL_law_435 hcon (li_in hi (by decide)) ?_
  refine J_aload_nC (i := 0) (j := 3) dL_law_436 rfl rfl ?_
  refine J_iload_n (i := 3) (j := 0) dL_law_437 rfl rfl ?_
  refine J_iconst (v := 4) dL_law_438 (by decide) ?_
  refine J_iadd dL_law_439 ?_
  refine J_cald (z := L) (f := xs) dL_law_440 hcon (li_in hi (by decide)) ?_
  refine J_callV (As := [.int (xs (i + 1).toNatClampNeg), .int (xs (i + 2).toNatClampNeg), .int (xs (i + 3).toNatClampNeg), .int (xs (i + 4).toNatClampNeg)]) (rest := []) dL_law_441 (c_M_pond (d := 3) (u := u3) (g := g) (ex := ex) (hill := (xs (i + 1).toNatClampNeg)) (plan := (xs (i + 2).toNatClampNeg)) (pond := (xs (i + 3).toNatClampNeg)) (what := (xs (i + 4).toNatClampNeg))  (by decide) (my_c (fr7 167 rfl) a4_0) (ab_c (fr7 168 rfl) a4_1) (hd_c (fr7 168 rfl) a4_2) (hc_c (fr7 167 rfl) (fr7 168 rfl) a4_3) (pl_c (fr7 169 rfl) a4_4) (n0_c (fr7 172 rfl) a6_0) (dn_c (fr7 172 rfl) a6_1) (bd_r (congrFun (fr7 162 rfl) 22) f0) (bd_r (congrFun (fr7 162 rfl) 31) f1) (ab_c (fr7 177 rfl) a6_2)) hq.n k1499 k1500 k1501 wc_162 rfl rfl k97 k1502 np_X11_pond (Nat.le_trans (by decide) hd) (by decide) (lk1 hb) (ln1 hb) (wlk hk) rfl (Nat.le_of_ble_eq_true rfl) (fun r_ h_ p10 => ?_)
  obtain ⟨v11, u12, rfl, rfl, h13, h14, h15, h16, fr17, fc18⟩ := p10
  refine J_pop dL_law_444 rfl ?_
  refine J_goto (tgt := 2255) dL_law_445 (by decide) ?_
  exact K u12 g ex k n ⟨⟨(ig0_c (fun c hc => ((fr17 c (nin_rg hc rfl)).trans (fr7 c (nin_rg hc rfl)))) H0), (ig1_c (fun c hc => ((fr17 c (nin_rg hc rfl)).trans (fr7 c (nin_rg hc rfl)))) H1), (ig2_c (fun c hc => ((fr17 c (nin_rg hc rfl)).trans (fr7 c (nin_rg hc rfl)))) H2), ⟨(bd_r (congrFun (fr17 44 rfl) 0) h4), (bd_r (congrFun (fr17 44 rfl) 2) h5), (bd_r ((congrFun (fr17 49 rfl) 0).trans (congrFun (fr7 49 rfl) 0)) a3_2), (ab_c (fr17 45 rfl) h6), (km_c ((fr17 50 rfl).trans (fr7 50 rfl)) ((fr17 52 rfl).trans (fr7 52 rfl)) a3_4), (bd_r ((congrFun (fr17 53 rfl) 0).trans (congrFun (fr7 53 rfl) 0)) a3_5), (bd_r ((congrFun (fr17 53 rfl) 1).trans (congrFun (fr7 53 rfl) 1)) a3_6), (bd_r ((congrFun (fr17 61 rfl) 0).trans (congrFun (fr7 61 rfl) 0)) a3_7), (bd_r ((congrFun (fr17 61 rfl) 2).trans (congrFun (fr7 61 rfl) 2)) a3_8), (ab_c ((fr17 66 rfl).trans (fr7 66 rfl)) a3_9), (bd_r ((congrFun (fr17 70 rfl) 0).trans (congrFun (fr7 70 rfl) 0)) a3_10), (bd_r ((congrFun (fr17 70 rfl) 2).trans (congrFun (fr7 70 rfl) 2)) a3_11), (bd_r ((congrFun (fr17 79 rfl) 0).trans (congrFun (fr7 79 rfl) 0)) a3_12), (bd_r ((congrFun (fr17 79 rfl) 2).trans (congrFun (fr7 79 rfl) 2)) a3_13), (bd_r ((congrFun (fr17 56 rfl) 5).trans (congrFun (fr7 56 rfl) 5)) a3_14), (ab_c ((fr17 77 rfl).trans (fr7 77 rfl)) a3_15), (ab_c ((fr17 76 rfl).trans (fr7 76 rfl)) a3_16)⟩, (ig4_c (fun c hc => ((fr17 c (nin_rg hc rfl)).trans (fr7 c (nin_rg hc rfl)))) H4), (ig5_c (fun c hc => ((fr17 c (nin_rg hc rfl)).trans (fr7 c (nin_rg hc rfl)))) H5), ⟨h15, h14, (ab_c ((fr17 177 rfl).trans (fr7 177 rfl)) a6_2), (ab_c ((fr17 178 rfl).trans (fr7 178 rfl)) a6_3), (ab_c ((fr17 179 rfl).trans (fr7 179 rfl)) a6_4)⟩, h13, h16, (bd_r ((fc18 12 (Nat.ne_of_beq_eq_false rfl) (Nat.ne_of_beq_eq_false rfl) (Nat.ne_of_beq_eq_false rfl) (Nat.ne_of_beq_eq_false rfl) (Nat.ne_of_beq_eq_false rfl) (Nat.ne_of_beq_eq_false rfl) (Nat.ne_of_beq_eq_false rfl) (Nat.ne_of_beq_eq_false rfl) (Nat.ne_of_beq_eq_false rfl) (Nat.ne_of_beq_eq_false rfl)).trans (congrFun (fr7 162 rfl) 12)) f2), (bd_r ((fc18 17 (Nat.ne_of_beq_eq_false rfl) (Nat.ne_of_beq_eq_false rfl) (Nat.ne_of_beq_eq_false rfl) (Nat.ne_of_beq_eq_false rfl) (Nat.ne_of_beq_eq_false rfl) (Nat.ne_of_beq_eq_false rfl) (Nat.ne_of_beq_eq_false rfl) (Nat.ne_of_beq_eq_false rfl) (Nat.ne_of_beq_eq_false rfl) (Nat.ne_of_beq_eq_false rfl)).trans (congrFun (fr7 162 rfl) 17)) f3)⟩, (rly_2 (fun c hc => ((fr17 c (nin_y2 hc rfl)).trans (fr7 c (nin_y2 hc rfl)))) hR)⟩ hk (Nat.le_succ _) (Nat.le_succ _)
set_option maxHeartbeats 4000000 in
set_option maxRecDepth 100000 in
theorem law_6 {x : JX} {bb L k n : Nat} {xs : Nat → Int32} {i : Int32} {u : Nat → Nat → Int32} {g : Nat → Nat → Int64} {ex : List MC} (hq : LQ x bb) (hcon : x.2.2.2.2.2.2.2.2.2.2.2.2.2.2.1 0 = some (L, xs)) (hi : LI i L) (hI : INX u) (hk : k = 182 + ex.length) (hb : k + 1 ≤ 600000 ∧ n + 1 ≤ 7302250) (hd : 11 ≤ 11) (K : ∀ (u2 : Nat → Nat → Int32) (g2 : Nat → Nat → Int64) (ex2 : List MC) (k2 n2 : Nat), INX u2 → k2 = 182 + ex2.length → k2 ≤ k + 1 → n2 ≤ n + 1 → J x yL_law code 4 ret 11 600000 7302250 0 2255 [(3, .int i), (2, .ref 162), (1, .ref 0), (0, .retAddr 0)] [] (Wd u2 g2 ex2) k2 n2) : J x yL_law code 4 ret 11 600000 7302250 0 448 [(3, .int i), (2, .ref 162), (1, .ref 0), (0, .retAddr 0)] [] (Wd u g ex) k n := by
  obtain ⟨hI, hR⟩ := hI
  obtain ⟨H0, H1, H2, H3, H4, H5, H6, f0, f1, f2, f3⟩ := hI
  have X0 := H0
  obtain ⟨a0_0, a0_1, a0_2, a0_3, a0_4, a0_5, a0_6, a0_7, a0_8, a0_9, a0_10, a0_11, a0_12, a0_13, a0_14, a0_15⟩ := X0
  have X1 := H1
  obtain ⟨a1_0, a1_1, a1_2, a1_3, a1_4, a1_5, a1_6, a1_7, a1_8, a1_9, a1_10, a1_11, a1_12, a1_13, a1_14, a1_15, a1_16, a1_17, a1_18, a1_19, a1_20, a1_21, a1_22, a1_23, a1_24, a1_25, a1_26, a1_27, a1_28, a1_29, a1_30, a1_31, a1_32, a1_33, a1_34, a1_35, a1_36, a1_37, a1_38, a1_39, a1_40, a1_41, a1_42, a1_43, a1_44, a1_45, a1_46, a1_47⟩ := X1
  have X2 := H2
  obtain ⟨a2_0, a2_1, a2_2, a2_3, a2_4, a2_5⟩ := X2
  have X3 := H3
  obtain ⟨a3_0, a3_1, a3_2, a3_3, a3_4, a3_5, a3_6, a3_7, a3_8, a3_9, a3_10, a3_11, a3_12, a3_13, a3_14, a3_15, a3_16⟩ := X3
  have X4 := H4
  obtain ⟨a4_0, a4_1, a4_2, a4_3, a4_4, a4_5, a4_6⟩ := X4
  have X5 := H5
  obtain ⟨a5_0, a5_1⟩ := X5
  have X6 := H6
  obtain ⟨a6_0, a6_1, a6_2, a6_3, a6_4⟩ := X6
  refine J_aload_n (i := 1) (j := 2) dL_law_448 rfl rfl ?_
  refine J_aload_nC (i := 0) (j := 3) dL_law_449 rfl rfl ?_
  refine J_iload_n (i := 3) (j := 0) dL_law_450 rfl rfl ?_
  refine J_iconst (v := 1) dL_law_451 (by decide) ?_
  refine J_iadd dL_law_452 ?_
  refine J_cald (z := L) (f := xs) dL_law_453 hcon (li_in hi (by decide)) ?_
  refine J_aload_nC (i := 0) (j := 3) dL_law_454 rfl rfl ?_
  refine J_iload_n (i := 3) (j := 0) dL_law_455 rfl rfl ?_
  refine J_iconst (v := 2) dL_law_456 (by decide) ?_
  refine J_iadd dL_law_457 ?_
  refine J_cald (z := L) (f := xs) dL_law_458 hcon (li_in hi (by decide)) ?_
  refine J_aload_nC (i := 0) (j := 3) dL_law_459 rfl rfl ?_
  refine J_iload_n (i := 3) (j := 0) dL_law_460 rfl rfl ?_
  refine J_iconst (v := 3) dL_law_461 (by decide) ?_
  refine J_iadd dL_law_462 ?_
  refine J_cald (z := L) (f := xs) dL_law_463 hcon (li_in hi (by decide)) ?_
  refine J_callV (As := [.int (xs (i + 1).toNatClampNeg), .int (xs (i + 2).toNatClampNeg), .int (xs (i + 3).toNatClampNeg)]) (rest := []) dL_law_464 (c_P_work (d := 1) (u := u) (g := g) (ex := ex) (plan := (xs (i + 1).toNatClampNeg)) (work := (xs (i + 2).toNatClampNeg)) (what := (xs (i + 3).toNatClampNeg))  (by decide) a0_5 a0_6 a0_7 a0_8) hq.n k776 k777 k778 wc_0 rfl rfl k87 k779 np_X10_work (Nat.le_trans (by decide) hd) (by decide) (lk1 hb) (ln1 hb) (wlk hk) rfl (Nat.le_of_ble_eq_true rfl) (fun r_ h_ p1 => ?_)
  obtain ⟨v2, rfl, rfl⟩ := p1
  refine J_pop dL_law_467 rfl ?_
  refine J_aload_n (i := 2) (j := 1) dL_law_468 rfl rfl ?_
  refine J_aload_nC (i := 0) (j := 3) dL_law_469 rfl rfl ?_
  refine J_iload_n (i := 3) (j := 0) dL_law_470 rfl rfl ?_
  refine J_iconst (v := 1) dL_law_471 (by decide) ?_
  refine J_iadd dL_law_472 ?_
  refine J_cald (z := L) (f := xs) dL_law_473 hcon (li_in hi (by decide)) ?_
  refine J_aload_nC (i := 0) (j := 3) dL_law_474 rfl rfl ?_
  refine J_iload_n (i := 3) (j := 0) dL_law_475 rfl rfl ?_
  refine J_iconst (v := 2) dL_law_476 (by decide) ?_
  refine J_iadd dL_law_477 ?_
  refine J_cald (z := L) (f := xs) dL_law_478 hcon (li_in hi (by decide)) ?_
  refine J_aload_nC (i := 0) (j := 3) dL_law_479 rfl rfl ?_
  refine J_iload_n (i := 3) (j := 0) dL_law_480 rfl rfl ?_
  refine J_iconst (v := 3) dL_law_481 (by decide) ?_
  refine J_iadd dL_law_482 ?_
  refine J_cald (z := L) (f := xs) dL_law_483 hcon (li_in hi (by decide)) ?_
  refine J_callV (As := [.int (xs (i + 1).toNatClampNeg), .int (xs (i + 2).toNatClampNeg), .int (xs (i + 3).toNatClampNeg)]) (rest := []) dL_law_484 (c_M_work (d := 2) (u := u) (g := g) (ex := ex) (plan := (xs (i + 1).toNatClampNeg)) (work := (xs (i + 2).toNatClampNeg)) (what := (xs (i + 3).toNatClampNeg))  (by decide) a4_0 a4_4) hq.n k1527 k1528 k1529 wc_162 rfl rfl k97 k1530 np_X11_work (Nat.le_trans (by decide) hd) (by decide) (lk1 hb) (ln1 hb) (wlk hk) rfl (Nat.le_of_ble_eq_true rfl) (fun r_ h_ p3 => ?_)
  obtain ⟨v4, u5, rfl, rfl, fr6, fc7⟩ := p3
  refine J_pop dL_law_487 rfl ?_
  refine J_goto (tgt := 2255) dL_law_488 (by decide) ?_
  exact K u5 g ex k n ⟨⟨(ig0_c (fun c hc => (fr6 c (rne hc (by decide)))) H0), (ig1_c (fun c hc => (fr6 c (rne hc (by decide)))) H1), (ig2_c (fun c hc => (fr6 c (rne hc (by decide)))) H2), (ig3_c (fun c hc => (fr6 c (rne hc (by decide)))) H3), (ig4_c (fun c hc => (fr6 c (rne hc (by decide)))) H4), (ig5_c (fun c hc => (fr6 c (rne hc (by decide)))) H5), (ig6_c (fun c hc => (fr6 c (rne hc (by decide)))) H6), (bd_r (fc7 22 (Nat.ne_of_beq_eq_false rfl)) f0), (bd_r (fc7 31 (Nat.ne_of_beq_eq_false rfl)) f1), (bd_r (fc7 12 (Nat.ne_of_beq_eq_false rfl)) f2), (bd_r (fc7 17 (Nat.ne_of_beq_eq_false rfl)) f3)⟩, (rly_2 (fun c hc => (fr6 c (rn_y2 hc (by decide)))) hR)⟩ hk (Nat.le_succ _) (Nat.le_succ _)
set_option maxHeartbeats 4000000 in
set_option maxRecDepth 100000 in
theorem law_7 {x : JX} {bb L k n : Nat} {xs : Nat → Int32} {i : Int32} {u : Nat → Nat → Int32} {g : Nat → Nat → Int64} {ex : List MC} (hq : LQ x bb) (hcon : x.2.2.2.2.2.2.2.2.2.2.2.2.2.2.1 0 = some (L, xs)) (hi : LI i L) (hI : INX u) (hk : k = 182 + ex.length) (hb : k + 1 ≤ 600000 ∧ n + 1 ≤ 7302250) (hd : 11 ≤ 11) (K : ∀ (u2 : Nat → Nat → Int32) (g2 : Nat → Nat → Int64) (ex2 : List MC) (k2 n2 : Nat), INX u2 → k2 = 182 + ex2.length → k2 ≤ k + 1 → n2 ≤ n + 1 → J x yL_law code 4 ret 11 600000 7302250 0 2255 [(3, .int i), (2, .ref 162), (1, .ref 0), (0, .retAddr 0)] [] (Wd u2 g2 ex2) k2 n2) : J x yL_law code 4 ret 11 600000 7302250 0 491 [(3, .int i), (2, .ref 162), (1, .ref 0), (0, .retAddr 0)] [] (Wd u g ex) k n := by
  obtain ⟨hI, hR⟩ := hI
  obtain ⟨H0, H1, H2, H3, H4, H5, H6, f0, f1, f2, f3⟩ := hI
  have X0 := H0
  obtain ⟨a0_0, a0_1, a0_2, a0_3, a0_4, a0_5, a0_6, a0_7, a0_8, a0_9, a0_10, a0_11, a0_12, a0_13, a0_14, a0_15⟩ := X0
  have X1 := H1
  obtain ⟨a1_0, a1_1, a1_2, a1_3, a1_4, a1_5, a1_6, a1_7, a1_8, a1_9, a1_10, a1_11, a1_12, a1_13, a1_14, a1_15, a1_16, a1_17, a1_18, a1_19, a1_20, a1_21, a1_22, a1_23, a1_24, a1_25, a1_26, a1_27, a1_28, a1_29, a1_30, a1_31, a1_32, a1_33, a1_34, a1_35, a1_36, a1_37, a1_38, a1_39, a1_40, a1_41, a1_42, a1_43, a1_44, a1_45, a1_46, a1_47⟩ := X1
  have X2 := H2
  obtain ⟨a2_0, a2_1, a2_2, a2_3, a2_4, a2_5⟩ := X2
  have X3 := H3
  obtain ⟨a3_0, a3_1, a3_2, a3_3, a3_4, a3_5, a3_6, a3_7, a3_8, a3_9, a3_10, a3_11, a3_12, a3_13, a3_14, a3_15, a3_16⟩ := X3
  have X4 := H4
  obtain ⟨a4_0, a4_1, a4_2, a4_3, a4_4, a4_5, a4_6⟩ := X4
  have X5 := H5
  obtain ⟨a5_0, a5_1⟩ := X5
  have X6 := H6
  obtain ⟨a6_0, a6_1, a6_2, a6_3, a6_4⟩ := X6
  refine J_aload_n (i := 1) (j := 2) dL_law_491 rfl rfl ?_
  refine J_aload_nC (i := 0) (j := 3) dL_law_492 rfl rfl ?_
  refine J_iload_n (i := 3) (j := 0) dL_law_493 rfl rfl ?_
  refine J_iconst (v := 1) dL_law_494 (by decide) ?_
  refine J_iadd dL_law_495 ?_
  refine J_cald (z := L) (f := xs) dL_law_496 hcon (li_in hi (by decide)) ?_
  refine J_aload_nC (i := 0) (j := 3) dL_law_497 rfl rfl ?_
  refine J_iload_n (i := 3) (j := 0) dL_law_498 rfl rfl ?_
  refine J_iconst (v := 2) dL_law_499 (by decide) ?_
  refine J_iadd dL_law_500 ?_
  refine J_cald (z := L) (f := xs) dL_law_501 hcon (li_in hi (by decide)) ?_
  refine J_aload_nC (i := 0) (j := 3) dL_law_502 rfl rfl ?_
  refine J_iload_n (i := 3) (j := 0) dL_law_503 rfl rfl ?_
  refine J_iconst (v := 3) dL_law_504 (by decide) ?_
  refine J_iadd dL_law_505 ?_
  refine J_cald (z := L) (f := xs) dL_law_506 hcon (li_in hi (by decide)) ?_
  refine J_callV (As := [.int (xs (i + 1).toNatClampNeg), .int (xs (i + 2).toNatClampNeg), .int (xs (i + 3).toNatClampNeg)]) (rest := []) dL_law_507 (c_P_plan (d := 5) (u := u) (g := g) (ex := ex) (hill := (xs (i + 1).toNatClampNeg)) (plan := (xs (i + 2).toNatClampNeg)) (what := (xs (i + 3).toNatClampNeg))  (by decide) a0_0 a0_5 a3_0 a3_1 a0_1 a0_2 a0_3 a0_4 a0_6 a0_7 a0_8 a3_2 a3_3 a0_9 a0_10 a0_11 a0_12 a0_13 a3_4) hq.n k784 k785 k786 wc_0 rfl rfl k87 k787 np_X10_plan (Nat.le_trans (by decide) hd) (by decide) (lk1 hb) (ln1 hb) (wlk hk) rfl (Nat.le_of_ble_eq_true rfl) (fun r_ h_ p1 => ?_)
  obtain ⟨v2, u3, rfl, rfl, h4, h5, h6, fr7, fc8, fc9⟩ := p1
  refine J_pop dL_law_510 rfl ?_
  refine J_aload_n (i := 2) (j := 1) dL_law_511 rfl rfl ?_
  refine J_aload_nC (i := 0) (j := 3) dL_law_512 rfl rfl ?_
  refine J_iload_n (i := 3) (j := 0) dL_law_513 rfl rfl ?_
  refine J_iconst (v := 1) dL_law_514 (by decide) ?_
  refine J_iadd dL_law_515 ?_
  refine J_cald (z := L) (f := xs) dL_law_516 hcon (li_in hi (by decide)) ?_
  refine J_aload_nC (i := 0) (j := 3) dL_law_517 rfl rfl ?_
  refine J_iload_n (i := 3) (j := 0) dL_law_518 rfl rfl ?_
  refine J_iconst (v := 2) dL_law_519 (by decide) ?_
  refine J_iadd dL_law_520 ?_
  refine J_cald (z := L) (f := xs) dL_law_521 hcon (li_in hi (by decide)) ?_
  refine J_aload_nC (i := 0) (j := 3) dL_law_522 rfl rfl ?_
  refine J_iload_n (i := 3) (j := 0) dL_law_523 rfl rfl ?_
  refine J_iconst (v := 3) dL_law_524 (by decide) ?_
  refine J_iadd dL_law_525 ?_
  refine J_cald (z := L) (f := xs) dL_law_526 hcon (li_in hi (by decide)) ?_
  refine J_callV (As := [.int (xs (i + 1).toNatClampNeg), .int (xs (i + 2).toNatClampNeg), .int (xs (i + 3).toNatClampNeg)]) (rest := []) dL_law_527 (c_M_plan (d := 3) (u := u3) (g := g) (ex := ex) (hill := (xs (i + 1).toNatClampNeg)) (plan := (xs (i + 2).toNatClampNeg)) (what := (xs (i + 3).toNatClampNeg))  (by decide) (my_c (fr7 167 rfl) a4_0) (ab_c (fr7 168 rfl) a4_1) (hd_c (fr7 168 rfl) a4_2) (hc_c (fr7 167 rfl) (fr7 168 rfl) a4_3) (pl_c (fr7 169 rfl) a4_4) (n0_c (fr7 172 rfl) a6_0) (dn_c (fr7 172 rfl) a6_1) (bd_r (congrFun (fr7 162 rfl) 22) f0) (bd_r (congrFun (fr7 162 rfl) 31) f1) (ab_c (fr7 177 rfl) a6_2)) hq.n k1531 k1532 k1533 wc_162 rfl rfl k97 k1534 np_X11_plan (Nat.le_trans (by decide) hd) (by decide) (lk1 hb) (ln1 hb) (wlk hk) rfl (Nat.le_of_ble_eq_true rfl) (fun r_ h_ p10 => ?_)
  obtain ⟨v11, u12, rfl, rfl, h13, h14, h15, h16, fr17, fc18⟩ := p10
  refine J_pop dL_law_530 rfl ?_
  refine J_goto (tgt := 2255) dL_law_531 (by decide) ?_
  exact K u12 g ex k n ⟨⟨(ig0_c (fun c hc => ((fr17 c (nin_rg hc rfl)).trans (fr7 c (nin_rg hc rfl)))) H0), (ig1_c (fun c hc => ((fr17 c (nin_rg hc rfl)).trans (fr7 c (nin_rg hc rfl)))) H1), (ig2_c (fun c hc => ((fr17 c (nin_rg hc rfl)).trans (fr7 c (nin_rg hc rfl)))) H2), ⟨(bd_r (congrFun (fr17 44 rfl) 0) h4), (bd_r (congrFun (fr17 44 rfl) 2) h5), (bd_r ((congrFun (fr17 49 rfl) 0).trans (congrFun (fr7 49 rfl) 0)) a3_2), (ab_c (fr17 45 rfl) h6), (km_c ((fr17 50 rfl).trans (fr7 50 rfl)) ((fr17 52 rfl).trans (fr7 52 rfl)) a3_4), (bd_r ((congrFun (fr17 53 rfl) 0).trans (congrFun (fr7 53 rfl) 0)) a3_5), (bd_r ((congrFun (fr17 53 rfl) 1).trans (congrFun (fr7 53 rfl) 1)) a3_6), (bd_r ((congrFun (fr17 61 rfl) 0).trans (congrFun (fr7 61 rfl) 0)) a3_7), (bd_r ((congrFun (fr17 61 rfl) 2).trans (congrFun (fr7 61 rfl) 2)) a3_8), (ab_c ((fr17 66 rfl).trans (fr7 66 rfl)) a3_9), (bd_r ((congrFun (fr17 70 rfl) 0).trans (congrFun (fr7 70 rfl) 0)) a3_10), (bd_r ((congrFun (fr17 70 rfl) 2).trans (congrFun (fr7 70 rfl) 2)) a3_11), (bd_r ((congrFun (fr17 79 rfl) 0).trans (congrFun (fr7 79 rfl) 0)) a3_12), (bd_r ((congrFun (fr17 79 rfl) 2).trans (congrFun (fr7 79 rfl) 2)) a3_13), (bd_r ((congrFun (fr17 56 rfl) 5).trans (congrFun (fr7 56 rfl) 5)) a3_14), (ab_c ((fr17 77 rfl).trans (fr7 77 rfl)) a3_15), (ab_c ((fr17 76 rfl).trans (fr7 76 rfl)) a3_16)⟩, (ig4_c (fun c hc => ((fr17 c (nin_rg hc rfl)).trans (fr7 c (nin_rg hc rfl)))) H4), (ig5_c (fun c hc => ((fr17 c (nin_rg hc rfl)).trans (fr7 c (nin_rg hc rfl)))) H5), ⟨h15, h14, (ab_c ((fr17 177 rfl).trans (fr7 177 rfl)) a6_2), (ab_c ((fr17 178 rfl).trans (fr7 178 rfl)) a6_3), (ab_c ((fr17 179 rfl).trans (fr7 179 rfl)) a6_4)⟩, h13, h16, (bd_r ((fc18 12 (Nat.ne_of_beq_eq_false rfl) (Nat.ne_of_beq_eq_false rfl) (Nat.ne_of_beq_eq_false rfl) (Nat.ne_of_beq_eq_false rfl) (Nat.ne_of_beq_eq_false rfl) (Nat.ne_of_beq_eq_false rfl) (Nat.ne_of_beq_eq_false rfl) (Nat.ne_of_beq_eq_false rfl) (Nat.ne_of_beq_eq_false rfl) (Nat.ne_of_beq_eq_false rfl)).trans (congrFun (fr7 162 rfl) 12)) f2), (bd_r ((fc18 17 (Nat.ne_of_beq_eq_false rfl) (Nat.ne_of_beq_eq_false rfl) (Nat.ne_of_beq_eq_false rfl) (Nat.ne_of_beq_eq_false rfl) (Nat.ne_of_beq_eq_false rfl) (Nat.ne_of_beq_eq_false rfl) (Nat.ne_of_beq_eq_false rfl) (Nat.ne_of_beq_eq_false rfl) (Nat.ne_of_beq_eq_false rfl) (Nat.ne_of_beq_eq_false rfl)).trans (congrFun (fr7 162 rfl) 17)) f3)⟩, (rly_2 (fun c hc => ((fr17 c (nin_y2 hc rfl)).trans (fr7 c (nin_y2 hc rfl)))) hR)⟩ hk (Nat.le_succ _) (Nat.le_succ _)
set_option maxHeartbeats 4000000 in
set_option maxRecDepth 100000 in
theorem law_8 {x : JX} {bb L k n : Nat} {xs : Nat → Int32} {i : Int32} {u : Nat → Nat → Int32} {g : Nat → Nat → Int64} {ex : List MC} (hq : LQ x bb) (hcon : x.2.2.2.2.2.2.2.2.2.2.2.2.2.2.1 0 = some (L, xs)) (hi : LI i L) (hI : INX u) (hk : k = 182 + ex.length) (hb : k + 1 ≤ 600000 ∧ n + 1 ≤ 7302250) (hd : 11 ≤ 11) (K : ∀ (u2 : Nat → Nat → Int32) (g2 : Nat → Nat → Int64) (ex2 : List MC) (k2 n2 : Nat), INX u2 → k2 = 182 + ex2.length → k2 ≤ k + 1 → n2 ≤ n + 1 → J x yL_law code 4 ret 11 600000 7302250 0 2255 [(3, .int i), (2, .ref 162), (1, .ref 0), (0, .retAddr 0)] [] (Wd u2 g2 ex2) k2 n2) : J x yL_law code 4 ret 11 600000 7302250 0 534 [(3, .int i), (2, .ref 162), (1, .ref 0), (0, .retAddr 0)] [] (Wd u g ex) k n := by
  obtain ⟨hI, hR⟩ := hI
  obtain ⟨H0, H1, H2, H3, H4, H5, H6, f0, f1, f2, f3⟩ := hI
  have X0 := H0
  obtain ⟨a0_0, a0_1, a0_2, a0_3, a0_4, a0_5, a0_6, a0_7, a0_8, a0_9, a0_10, a0_11, a0_12, a0_13, a0_14, a0_15⟩ := X0
  have X1 := H1
  obtain ⟨a1_0, a1_1, a1_2, a1_3, a1_4, a1_5, a1_6, a1_7, a1_8, a1_9, a1_10, a1_11, a1_12, a1_13, a1_14, a1_15, a1_16, a1_17, a1_18, a1_19, a1_20, a1_21, a1_22, a1_23, a1_24, a1_25, a1_26, a1_27, a1_28, a1_29, a1_30, a1_31, a1_32, a1_33, a1_34, a1_35, a1_36, a1_37, a1_38, a1_39, a1_40, a1_41, a1_42, a1_43, a1_44, a1_45, a1_46, a1_47⟩ := X1
  have X2 := H2
  obtain ⟨a2_0, a2_1, a2_2, a2_3, a2_4, a2_5⟩ := X2
  have X3 := H3
  obtain ⟨a3_0, a3_1, a3_2, a3_3, a3_4, a3_5, a3_6, a3_7, a3_8, a3_9, a3_10, a3_11, a3_12, a3_13, a3_14, a3_15, a3_16⟩ := X3
  have X4 := H4
  obtain ⟨a4_0, a4_1, a4_2, a4_3, a4_4, a4_5, a4_6⟩ := X4
  have X5 := H5
  obtain ⟨a5_0, a5_1⟩ := X5
  have X6 := H6
  obtain ⟨a6_0, a6_1, a6_2, a6_3, a6_4⟩ := X6
  refine J_aload_n (i := 1) (j := 2) dL_law_534 rfl rfl ?_
  refine J_aload_nC (i := 0) (j := 3) dL_law_535 rfl rfl ?_
  refine J_iload_n (i := 3) (j := 0) dL_law_536 rfl rfl ?_
  refine J_iconst (v := 1) dL_law_537 (by decide) ?_
  refine J_iadd dL_law_538 ?_
  refine J_cald (z := L) (f := xs) dL_law_539 hcon (li_in hi (by decide)) ?_
  refine J_aload_nC (i := 0) (j := 3) dL_law_540 rfl rfl ?_
  refine J_iload_n (i := 3) (j := 0) dL_law_541 rfl rfl ?_
  refine J_iconst (v := 2) dL_law_542 (by decide) ?_
  refine J_iadd dL_law_543 ?_
  refine J_cald (z := L) (f := xs) dL_law_544 hcon (li_in hi (by decide)) ?_
  refine J_aload_nC (i := 0) (j := 3) dL_law_545 rfl rfl ?_
  refine J_iload_n (i := 3) (j := 0) dL_law_546 rfl rfl ?_
  refine J_iconst (v := 3) dL_law_547 (by decide) ?_
  refine J_iadd dL_law_548 ?_
  refine J_cald (z := L) (f := xs) dL_law_549 hcon (li_in hi (by decide)) ?_
  refine J_aload_nC (i := 0) (j := 3) dL_law_550 rfl rfl ?_
  refine J_iload_n (i := 3) (j := 0) dL_law_551 rfl rfl ?_
  refine J_iconst (v := 4) dL_law_552 (by decide) ?_
  refine J_iadd dL_law_553 ?_
  refine J_cald (z := L) (f := xs) dL_law_554 hcon (li_in hi (by decide)) ?_
  refine J_aload_nC (i := 0) (j := 3) dL_law_555 rfl rfl ?_
  refine J_iload_n (i := 3) (j := 0) dL_law_556 rfl rfl ?_
  refine J_iconst (v := 5) dL_law_557 (by decide) ?_
  refine J_iadd dL_law_558 ?_
  refine J_cald (z := L) (f := xs) dL_law_559 hcon (li_in hi (by decide)) ?_
  refine J_callV (As := [.int (xs (i + 1).toNatClampNeg), .int (xs (i + 2).toNatClampNeg), .int (xs (i + 3).toNatClampNeg), .int (xs (i + 4).toNatClampNeg), .int (xs (i + 5).toNatClampNeg)]) (rest := []) dL_law_560 (c_P_storm (d := 5) (u := u) (g := g) (ex := ex) (hill := (xs (i + 1).toNatClampNeg)) (plan := (xs (i + 2).toNatClampNeg)) (rain := (xs (i + 3).toNatClampNeg)) (banks := (xs (i + 4).toNatClampNeg)) (what := (xs (i + 5).toNatClampNeg))  (by decide) a0_0 a0_5 a3_0 a3_1 a0_1 a0_2 a0_3 a0_4 a0_6 a0_7 a0_8 a3_2 a3_3 a0_9 a0_10 a0_11 a0_12 a0_13 a3_4 a3_5 a3_6) hq.n k788 k789 k790 wc_0 rfl rfl k87 k791 np_X10_storm (Nat.le_trans (by decide) hd) (by decide) (lk1 hb) (ln1 hb) (wlk hk) rfl (Nat.le_of_ble_eq_true rfl) (fun r_ h_ p1 => ?_)
  obtain ⟨v2, u3, rfl, rfl, h4, h5, h6, h7, h8, fr9, fc10, fc11, fc12⟩ := p1
  refine J_pop dL_law_563 rfl ?_
  refine J_aload_n (i := 2) (j := 1) dL_law_564 rfl rfl ?_
  refine J_aload_nC (i := 0) (j := 3) dL_law_565 rfl rfl ?_
  refine J_iload_n (i := 3) (j := 0) dL_law_566 rfl rfl ?_
  refine J_iconst (v := 1) dL_law_567 (by decide) ?_
  refine J_iadd dL_law_568 ?_
  refine J_cald (z := L) (f := xs) dL_law_569 hcon (li_in hi (by decide)) ?_
  refine J_aload_nC (i := 0) (j := 3) dL_law_570 rfl rfl ?_
  refine J_iload_n (i := 3) (j := 0) dL_law_571 rfl rfl ?_
  refine J_iconst (v := 2) dL_law_572 (by decide) ?_
  refine J_iadd dL_law_573 ?_
  refine J_cald (z := L) (f := xs) dL_law_574 hcon (li_in hi (by decide)) ?_
  refine J_aload_nC (i := 0) (j := 3) dL_law_575 rfl rfl ?_
  refine J_iload_n (i := 3) (j := 0) dL_law_576 rfl rfl ?_
  refine J_iconst (v := 3) dL_law_577 (by decide) ?_
  refine J_iadd dL_law_578 ?_
  refine J_cald (z := L) (f := xs) dL_law_579 hcon (li_in hi (by decide)) ?_
  refine J_aload_nC (i := 0) (j := 3) dL_law_580 rfl rfl ?_
  refine J_iload_n (i := 3) (j := 0) dL_law_581 rfl rfl ?_
  refine J_iconst (v := 4) dL_law_582 (by decide) ?_
  refine J_iadd dL_law_583 ?_
  refine J_cald (z := L) (f := xs) dL_law_584 hcon (li_in hi (by decide)) ?_
  refine J_aload_nC (i := 0) (j := 3) dL_law_585 rfl rfl ?_
  refine J_iload_n (i := 3) (j := 0) dL_law_586 rfl rfl ?_
  refine J_iconst (v := 5) dL_law_587 (by decide) ?_
  refine J_iadd dL_law_588 ?_
  refine J_cald (z := L) (f := xs) dL_law_589 hcon (li_in hi (by decide)) ?_
  refine J_callV (As := [.int (xs (i + 1).toNatClampNeg), .int (xs (i + 2).toNatClampNeg), .int (xs (i + 3).toNatClampNeg), .int (xs (i + 4).toNatClampNeg), .int (xs (i + 5).toNatClampNeg)]) (rest := []) dL_law_590 (c_M_storm (d := 4) (u := u3) (g := g) (ex := ex) (hill := (xs (i + 1).toNatClampNeg)) (plan := (xs (i + 2).toNatClampNeg)) (rain := (xs (i + 3).toNatClampNeg)) (banks := (xs (i + 4).toNatClampNeg)) (what := (xs (i + 5).toNatClampNeg))  (by decide) (my_c (fr9 167 rfl) a4_0) (ab_c (fr9 168 rfl) a4_1) (hd_c (fr9 168 rfl) a4_2) (hc_c (fr9 167 rfl) (fr9 168 rfl) a4_3) (pl_c (fr9 169 rfl) a4_4) (n0_c (fr9 172 rfl) a6_0) (dn_c (fr9 172 rfl) a6_1) (bd_r (congrFun (fr9 162 rfl) 22) f0) (bd_r (congrFun (fr9 162 rfl) 31) f1) (ab_c (fr9 177 rfl) a6_2)) hq.n k1535 k1536 k1537 wc_162 rfl rfl k97 k1538 np_X11_storm (Nat.le_trans (by decide) hd) (by decide) (lk1 hb) (ln1 hb) (wlk hk) rfl (Nat.le_of_ble_eq_true rfl) (fun r_ h_ p13 => ?_)
  obtain ⟨v14, u15, rfl, rfl, h16, h17, h18, h19, fr20, fc21⟩ := p13
  refine J_pop dL_law_593 rfl ?_
  refine J_goto (tgt := 2255) dL_law_594 (by decide) ?_
  exact K u15 g ex k n ⟨⟨(ig0_c (fun c hc => ((fr20 c (nin_rg hc rfl)).trans (fr9 c (nin_rg hc rfl)))) H0), (ig1_c (fun c hc => ((fr20 c (nin_rg hc rfl)).trans (fr9 c (nin_rg hc rfl)))) H1), (ig2_c (fun c hc => ((fr20 c (nin_rg hc rfl)).trans (fr9 c (nin_rg hc rfl)))) H2), ⟨(bd_r (congrFun (fr20 44 rfl) 0) h4), (bd_r (congrFun (fr20 44 rfl) 2) h5), (bd_r ((congrFun (fr20 49 rfl) 0).trans (congrFun (fr9 49 rfl) 0)) a3_2), (ab_c (fr20 45 rfl) h6), (km_c ((fr20 50 rfl).trans (fr9 50 rfl)) ((fr20 52 rfl).trans (fr9 52 rfl)) a3_4), (bd_r (congrFun (fr20 53 rfl) 0) h7), (bd_r (congrFun (fr20 53 rfl) 1) h8), (bd_r ((congrFun (fr20 61 rfl) 0).trans (congrFun (fr9 61 rfl) 0)) a3_7), (bd_r ((congrFun (fr20 61 rfl) 2).trans (congrFun (fr9 61 rfl) 2)) a3_8), (ab_c ((fr20 66 rfl).trans (fr9 66 rfl)) a3_9), (bd_r ((congrFun (fr20 70 rfl) 0).trans (congrFun (fr9 70 rfl) 0)) a3_10), (bd_r ((congrFun (fr20 70 rfl) 2).trans (congrFun (fr9 70 rfl) 2)) a3_11), (bd_r ((congrFun (fr20 79 rfl) 0).trans (congrFun (fr9 79 rfl) 0)) a3_12), (bd_r ((congrFun (fr20 79 rfl) 2).trans (congrFun (fr9 79 rfl) 2)) a3_13), (bd_r ((congrFun (fr20 56 rfl) 5).trans (congrFun (fr9 56 rfl) 5)) a3_14), (ab_c ((fr20 77 rfl).trans (fr9 77 rfl)) a3_15), (ab_c ((fr20 76 rfl).trans (fr9 76 rfl)) a3_16)⟩, (ig4_c (fun c hc => ((fr20 c (nin_rg hc rfl)).trans (fr9 c (nin_rg hc rfl)))) H4), (ig5_c (fun c hc => ((fr20 c (nin_rg hc rfl)).trans (fr9 c (nin_rg hc rfl)))) H5), ⟨h18, h17, (ab_c ((fr20 177 rfl).trans (fr9 177 rfl)) a6_2), (ab_c ((fr20 178 rfl).trans (fr9 178 rfl)) a6_3), (ab_c ((fr20 179 rfl).trans (fr9 179 rfl)) a6_4)⟩, h16, h19, (bd_r ((fc21 12 (Nat.ne_of_beq_eq_false rfl) (Nat.ne_of_beq_eq_false rfl) (Nat.ne_of_beq_eq_false rfl) (Nat.ne_of_beq_eq_false rfl) (Nat.ne_of_beq_eq_false rfl) (Nat.ne_of_beq_eq_false rfl) (Nat.ne_of_beq_eq_false rfl) (Nat.ne_of_beq_eq_false rfl) (Nat.ne_of_beq_eq_false rfl) (Nat.ne_of_beq_eq_false rfl)).trans (congrFun (fr9 162 rfl) 12)) f2), (bd_r ((fc21 17 (Nat.ne_of_beq_eq_false rfl) (Nat.ne_of_beq_eq_false rfl) (Nat.ne_of_beq_eq_false rfl) (Nat.ne_of_beq_eq_false rfl) (Nat.ne_of_beq_eq_false rfl) (Nat.ne_of_beq_eq_false rfl) (Nat.ne_of_beq_eq_false rfl) (Nat.ne_of_beq_eq_false rfl) (Nat.ne_of_beq_eq_false rfl) (Nat.ne_of_beq_eq_false rfl)).trans (congrFun (fr9 162 rfl) 17)) f3)⟩, (rly_2 (fun c hc => ((fr20 c (nin_y2 hc rfl)).trans (fr9 c (nin_y2 hc rfl)))) hR)⟩ hk (Nat.le_succ _) (Nat.le_succ _)
set_option maxHeartbeats 4000000 in
set_option maxRecDepth 100000 in
theorem law_9 {x : JX} {bb L k n : Nat} {xs : Nat → Int32} {i : Int32} {u : Nat → Nat → Int32} {g : Nat → Nat → Int64} {ex : List MC} (hq : LQ x bb) (hcon : x.2.2.2.2.2.2.2.2.2.2.2.2.2.2.1 0 = some (L, xs)) (hi : LI i L) (hI : INX u) (hk : k = 182 + ex.length) (hb : k + 1 ≤ 600000 ∧ n + 1 ≤ 7302250) (hd : 11 ≤ 11) (K : ∀ (u2 : Nat → Nat → Int32) (g2 : Nat → Nat → Int64) (ex2 : List MC) (k2 n2 : Nat), INX u2 → k2 = 182 + ex2.length → k2 ≤ k + 1 → n2 ≤ n + 1 → J x yL_law code 4 ret 11 600000 7302250 0 2255 [(3, .int i), (2, .ref 162), (1, .ref 0), (0, .retAddr 0)] [] (Wd u2 g2 ex2) k2 n2) : J x yL_law code 4 ret 11 600000 7302250 0 597 [(3, .int i), (2, .ref 162), (1, .ref 0), (0, .retAddr 0)] [] (Wd u g ex) k n := by
  obtain ⟨hI, hR⟩ := hI
  obtain ⟨H0, H1, H2, H3, H4, H5, H6, f0, f1, f2, f3⟩ := hI
  have X0 := H0
  obtain ⟨a0_0, a0_1, a0_2, a0_3, a0_4, a0_5, a0_6, a0_7, a0_8, a0_9, a0_10, a0_11, a0_12, a0_13, a0_14, a0_15⟩ := X0
  have X1 := H1
  obtain ⟨a1_0, a1_1, a1_2, a1_3, a1_4, a1_5, a1_6, a1_7, a1_8, a1_9, a1_10, a1_11, a1_12, a1_13, a1_14, a1_15, a1_16, a1_17, a1_18, a1_19, a1_20, a1_21, a1_22, a1_23, a1_24, a1_25, a1_26, a1_27, a1_28, a1_29, a1_30, a1_31, a1_32, a1_33, a1_34, a1_35, a1_36, a1_37, a1_38, a1_39, a1_40, a1_41, a1_42, a1_43, a1_44, a1_45, a1_46, a1_47⟩ := X1
  have X2 := H2
  obtain ⟨a2_0, a2_1, a2_2, a2_3, a2_4, a2_5⟩ := X2
  have X3 := H3
  obtain ⟨a3_0, a3_1, a3_2, a3_3, a3_4, a3_5, a3_6, a3_7, a3_8, a3_9, a3_10, a3_11, a3_12, a3_13, a3_14, a3_15, a3_16⟩ := X3
  have X4 := H4
  obtain ⟨a4_0, a4_1, a4_2, a4_3, a4_4, a4_5, a4_6⟩ := X4
  have X5 := H5
  obtain ⟨a5_0, a5_1⟩ := X5
  have X6 := H6
  obtain ⟨a6_0, a6_1, a6_2, a6_3, a6_4⟩ := X6
  refine J_aload_n (i := 1) (j := 2) dL_law_597 rfl rfl ?_
  refine J_aload_nC (i := 0) (j := 3) dL_law_598 rfl rfl ?_
  refine J_iload_n (i := 3) (j := 0) dL_law_599 rfl rfl ?_
  refine J_iconst (v := 1) dL_law_600 (by decide) ?_
  refine J_iadd dL_law_601 ?_
  refine J_cald (z := L) (f := xs) dL_law_602 hcon (li_in hi (by decide)) ?_
  refine J_aload_nC (i := 0) (j := 3) dL_law_603 rfl rfl ?_
  refine J_iload_n (i := 3) (j := 0) dL_law_604 rfl rfl ?_
  refine J_iconst (v := 2) dL_law_605 (by decide) ?_
  refine J_iadd dL_law_606 ?_
  refine J_cald (z := L) (f := xs) dL_law_607 hcon (li_in hi (by decide)) ?_
  refine J_aload_nC (i := 0) (j := 3) dL_law_608 rfl rfl ?_
  refine J_iload_n (i := 3) (j := 0) dL_law_609 rfl rfl ?_
  refine J_iconst (v := 3) dL_law_610 (by decide) ?_
  refine J_iadd dL_law_611 ?_
  refine J_cald (z := L) (f := xs) dL_law_612 hcon (li_in hi (by decide)) ?_
  refine J_callV (As := [.int (xs (i + 1).toNatClampNeg), .int (xs (i + 2).toNatClampNeg), .int (xs (i + 3).toNatClampNeg)]) (rest := []) dL_law_613 (c_P_likely (d := 6) (u := u) (g := g) (ex := ex) (hill := (xs (i + 1).toNatClampNeg)) (plan := (xs (i + 2).toNatClampNeg)) (pond := (xs (i + 3).toNatClampNeg))  (by decide) a0_0 a0_5 a3_0 a3_1 a0_1 a0_2 a0_3 a0_4 a0_6 a0_7 a0_8 a3_2 a3_3 a0_9 a0_10 a0_11 a0_12 a0_13 a3_4 a3_7 a3_8 a3_9) hq.n k848 k849 k850 wc_0 rfl rfl k87 k851 np_X10_likely (Nat.le_trans (by decide) hd) (by decide) (lk1 hb) (ln1 hb) (wlk hk) rfl (Nat.le_of_ble_eq_true rfl) (fun r_ h_ p1 => ?_)
  obtain ⟨l2, u3, g4, rfl, rfl, h5, h6, h7, h8, h9, h10, fr11, fc12, fc13, fc14, fc15⟩ := p1
  refine J_pop2_2 dL_law_616 rfl ?_
  refine J_aload_n (i := 2) (j := 1) dL_law_617 rfl rfl ?_
  refine J_aload_nC (i := 0) (j := 3) dL_law_618 rfl rfl ?_
  refine J_iload_n (i := 3) (j := 0) dL_law_619 rfl rfl ?_
  refine J_iconst (v := 1) dL_law_620 (by decide) ?_
  refine J_iadd dL_law_621 ?_
  refine J_cald (z := L) (f := xs) dL_law_622 hcon (li_in hi (by decide)) ?_
  refine J_aload_nC (i := 0) (j := 3) dL_law_623 rfl rfl ?_
  refine J_iload_n (i := 3) (j := 0) dL_law_624 rfl rfl ?_
  refine J_iconst (v := 2) dL_law_625 (by decide) ?_
  refine J_iadd dL_law_626 ?_
  refine J_cald (z := L) (f := xs) dL_law_627 hcon (li_in hi (by decide)) ?_
  refine J_aload_nC (i := 0) (j := 3) dL_law_628 rfl rfl ?_
  refine J_iload_n (i := 3) (j := 0) dL_law_629 rfl rfl ?_
  refine J_iconst (v := 3) dL_law_630 (by decide) ?_
  refine J_iadd dL_law_631 ?_
  refine J_cald (z := L) (f := xs) dL_law_632 hcon (li_in hi (by decide)) ?_
  refine J_callV (As := [.int (xs (i + 1).toNatClampNeg), .int (xs (i + 2).toNatClampNeg), .int (xs (i + 3).toNatClampNeg)]) (rest := []) dL_law_633 (c_M_likely (d := 4) (u := u3) (g := g4) (ex := ex) (hill := (xs (i + 1).toNatClampNeg)) (plan := (xs (i + 2).toNatClampNeg)) (pond := (xs (i + 3).toNatClampNeg))  (by decide) (my_c (fr11 167 rfl) a4_0) (ab_c (fr11 168 rfl) a4_1) (hd_c (fr11 168 rfl) a4_2) (hc_c (fr11 167 rfl) (fr11 168 rfl) a4_3) (pl_c (fr11 169 rfl) a4_4) (n0_c (fr11 172 rfl) a6_0) (dn_c (fr11 172 rfl) a6_1) (bd_r (congrFun (fr11 162 rfl) 22) f0) (bd_r (congrFun (fr11 162 rfl) 31) f1) (ab_c (fr11 177 rfl) a6_2)) hq.n k1574 k1575 k1576 wc_162 rfl rfl k97 k1577 np_X11_likely (Nat.le_trans (by decide) hd) (by decide) (lk1 hb) (ln1 hb) (wlk hk) rfl (Nat.le_of_ble_eq_true rfl) (fun r_ h_ p16 => ?_)
  obtain ⟨l17, u18, rfl, rfl, h19, h20, h21, h22, fr23, fc24⟩ := p16
  refine J_pop2_2 dL_law_636 rfl ?_
  refine J_goto (tgt := 2255) dL_law_637 (by decide) ?_
  exact K u18 g4 ex k n ⟨⟨(ig0_c (fun c hc => ((fr23 c (nin_rg hc rfl)).trans (fr11 c (nin_rg hc rfl)))) H0), (ig1_c (fun c hc => ((fr23 c (nin_rg hc rfl)).trans (fr11 c (nin_rg hc rfl)))) H1), (ig2_c (fun c hc => ((fr23 c (nin_rg hc rfl)).trans (fr11 c (nin_rg hc rfl)))) H2), ⟨(bd_r (congrFun (fr23 44 rfl) 0) h5), (bd_r (congrFun (fr23 44 rfl) 2) h6), (bd_r ((congrFun (fr23 49 rfl) 0).trans (congrFun (fr11 49 rfl) 0)) a3_2), (ab_c (fr23 45 rfl) h7), (km_c ((fr23 50 rfl).trans (fr11 50 rfl)) ((fr23 52 rfl).trans (fr11 52 rfl)) a3_4), (bd_r ((congrFun (fr23 53 rfl) 0).trans (congrFun (fr11 53 rfl) 0)) a3_5), (bd_r ((congrFun (fr23 53 rfl) 1).trans (congrFun (fr11 53 rfl) 1)) a3_6), (bd_r (congrFun (fr23 61 rfl) 0) h8), (bd_r (congrFun (fr23 61 rfl) 2) h9), (ab_c (fr23 66 rfl) h10), (bd_r ((congrFun (fr23 70 rfl) 0).trans (congrFun (fr11 70 rfl) 0)) a3_10), (bd_r ((congrFun (fr23 70 rfl) 2).trans (congrFun (fr11 70 rfl) 2)) a3_11), (bd_r ((congrFun (fr23 79 rfl) 0).trans (congrFun (fr11 79 rfl) 0)) a3_12), (bd_r ((congrFun (fr23 79 rfl) 2).trans (congrFun (fr11 79 rfl) 2)) a3_13), (bd_r ((congrFun (fr23 56 rfl) 5).trans (congrFun (fr11 56 rfl) 5)) a3_14), (ab_c ((fr23 77 rfl).trans (fr11 77 rfl)) a3_15), (ab_c ((fr23 76 rfl).trans (fr11 76 rfl)) a3_16)⟩, (ig4_c (fun c hc => ((fr23 c (nin_rg hc rfl)).trans (fr11 c (nin_rg hc rfl)))) H4), (ig5_c (fun c hc => ((fr23 c (nin_rg hc rfl)).trans (fr11 c (nin_rg hc rfl)))) H5), ⟨h21, h20, (ab_c ((fr23 177 rfl).trans (fr11 177 rfl)) a6_2), (ab_c ((fr23 178 rfl).trans (fr11 178 rfl)) a6_3), (ab_c ((fr23 179 rfl).trans (fr11 179 rfl)) a6_4)⟩, h19, h22, (bd_r ((fc24 12 (Nat.ne_of_beq_eq_false rfl) (Nat.ne_of_beq_eq_false rfl) (Nat.ne_of_beq_eq_false rfl) (Nat.ne_of_beq_eq_false rfl) (Nat.ne_of_beq_eq_false rfl) (Nat.ne_of_beq_eq_false rfl) (Nat.ne_of_beq_eq_false rfl) (Nat.ne_of_beq_eq_false rfl) (Nat.ne_of_beq_eq_false rfl) (Nat.ne_of_beq_eq_false rfl)).trans (congrFun (fr11 162 rfl) 12)) f2), (bd_r ((fc24 17 (Nat.ne_of_beq_eq_false rfl) (Nat.ne_of_beq_eq_false rfl) (Nat.ne_of_beq_eq_false rfl) (Nat.ne_of_beq_eq_false rfl) (Nat.ne_of_beq_eq_false rfl) (Nat.ne_of_beq_eq_false rfl) (Nat.ne_of_beq_eq_false rfl) (Nat.ne_of_beq_eq_false rfl) (Nat.ne_of_beq_eq_false rfl) (Nat.ne_of_beq_eq_false rfl)).trans (congrFun (fr11 162 rfl) 17)) f3)⟩, (rly_2 (fun c hc => ((fr23 c (nin_y2 hc rfl)).trans (fr11 c (nin_y2 hc rfl)))) hR)⟩ hk (Nat.le_succ _) (Nat.le_succ _)
set_option maxHeartbeats 4000000 in
set_option maxRecDepth 100000 in
theorem law_10 {x : JX} {bb L k n : Nat} {xs : Nat → Int32} {i : Int32} {u : Nat → Nat → Int32} {g : Nat → Nat → Int64} {ex : List MC} (hq : LQ x bb) (hcon : x.2.2.2.2.2.2.2.2.2.2.2.2.2.2.1 0 = some (L, xs)) (hi : LI i L) (hI : INX u) (hk : k = 182 + ex.length) (hb : k + 1 ≤ 600000 ∧ n + 1 ≤ 7302250) (hd : 11 ≤ 11) (K : ∀ (u2 : Nat → Nat → Int32) (g2 : Nat → Nat → Int64) (ex2 : List MC) (k2 n2 : Nat), INX u2 → k2 = 182 + ex2.length → k2 ≤ k + 1 → n2 ≤ n + 1 → J x yL_law code 4 ret 11 600000 7302250 0 2255 [(3, .int i), (2, .ref 162), (1, .ref 0), (0, .retAddr 0)] [] (Wd u2 g2 ex2) k2 n2) : J x yL_law code 4 ret 11 600000 7302250 0 640 [(3, .int i), (2, .ref 162), (1, .ref 0), (0, .retAddr 0)] [] (Wd u g ex) k n := by
  obtain ⟨hI, hR⟩ := hI
  obtain ⟨H0, H1, H2, H3, H4, H5, H6, f0, f1, f2, f3⟩ := hI
  have X0 := H0
  obtain ⟨a0_0, a0_1, a0_2, a0_3, a0_4, a0_5, a0_6, a0_7, a0_8, a0_9, a0_10, a0_11, a0_12, a0_13, a0_14, a0_15⟩ := X0
  have X1 := H1
  obtain ⟨a1_0, a1_1, a1_2, a1_3, a1_4, a1_5, a1_6, a1_7, a1_8, a1_9, a1_10, a1_11, a1_12, a1_13, a1_14, a1_15, a1_16, a1_17, a1_18, a1_19, a1_20, a1_21, a1_22, a1_23, a1_24, a1_25, a1_26, a1_27, a1_28, a1_29, a1_30, a1_31, a1_32, a1_33, a1_34, a1_35, a1_36, a1_37, a1_38, a1_39, a1_40, a1_41, a1_42, a1_43, a1_44, a1_45, a1_46, a1_47⟩ := X1
  have X2 := H2
  obtain ⟨a2_0, a2_1, a2_2, a2_3, a2_4, a2_5⟩ := X2
  have X3 := H3
  obtain ⟨a3_0, a3_1, a3_2, a3_3, a3_4, a3_5, a3_6, a3_7, a3_8, a3_9, a3_10, a3_11, a3_12, a3_13, a3_14, a3_15, a3_16⟩ := X3
  have X4 := H4
  obtain ⟨a4_0, a4_1, a4_2, a4_3, a4_4, a4_5, a4_6⟩ := X4
  have X5 := H5
  obtain ⟨a5_0, a5_1⟩ := X5
  have X6 := H6
  obtain ⟨a6_0, a6_1, a6_2, a6_3, a6_4⟩ := X6
  refine J_aload_n (i := 1) (j := 2) dL_law_640 rfl rfl ?_
  refine J_aload_nC (i := 0) (j := 3) dL_law_641 rfl rfl ?_
  refine J_iload_n (i := 3) (j := 0) dL_law_642 rfl rfl ?_
  refine J_iconst (v := 1) dL_law_643 (by decide) ?_
  refine J_iadd dL_law_644 ?_
  refine J_cald (z := L) (f := xs) dL_law_645 hcon (li_in hi (by decide)) ?_
  refine J_aload_nC (i := 0) (j := 3) dL_law_646 rfl rfl ?_
  refine J_iload_n (i := 3) (j := 0) dL_law_647 rfl rfl ?_
  refine J_iconst (v := 2) dL_law_648 (by decide) ?_
  refine J_iadd dL_law_649 ?_
  refine J_cald (z := L) (f := xs) dL_law_650 hcon (li_in hi (by decide)) ?_
  refine J_aload_nC (i := 0) (j := 3) dL_law_651 rfl rfl ?_
  refine J_iload_n (i := 3) (j := 0) dL_law_652 rfl rfl ?_
  refine J_iconst (v := 3) dL_law_653 (by decide) ?_
  refine J_iadd dL_law_654 ?_
  refine J_cald (z := L) (f := xs) dL_law_655 hcon (li_in hi (by decide)) ?_
  refine J_callV (As := [.int (xs (i + 1).toNatClampNeg), .int (xs (i + 2).toNatClampNeg), .int (xs (i + 3).toNatClampNeg)]) (rest := []) dL_law_656 (c_P_mean (d := 6) (u := u) (g := g) (ex := ex) (hill := (xs (i + 1).toNatClampNeg)) (plan := (xs (i + 2).toNatClampNeg)) (owner := (xs (i + 3).toNatClampNeg))  (by decide) a0_0 a0_5 a3_0 a3_1 a0_1 a0_2 a0_3 a0_4 a0_6 a0_7 a0_8 a3_2 a3_3 a0_9 a0_10 a0_11 a0_12 a0_13 a3_4 a3_7 a3_8 a3_9) hq.n k895 k896 k897 wc_0 rfl rfl k87 k898 np_X10_mean (Nat.le_trans (by decide) hd) (by decide) (lk1 hb) (ln1 hb) (wlk hk) rfl (Nat.le_of_ble_eq_true rfl) (fun r_ h_ p1 => ?_)
  obtain ⟨l2, u3, g4, rfl, rfl, h5, h6, h7, h8, h9, h10, fr11, fc12, fc13, fc14, fc15⟩ := p1
  refine J_pop2_2 dL_law_659 rfl ?_
  refine J_aload_n (i := 2) (j := 1) dL_law_660 rfl rfl ?_
  refine J_aload_nC (i := 0) (j := 3) dL_law_661 rfl rfl ?_
  refine J_iload_n (i := 3) (j := 0) dL_law_662 rfl rfl ?_
  refine J_iconst (v := 1) dL_law_663 (by decide) ?_
  refine J_iadd dL_law_664 ?_
  refine J_cald (z := L) (f := xs) dL_law_665 hcon (li_in hi (by decide)) ?_
  refine J_aload_nC (i := 0) (j := 3) dL_law_666 rfl rfl ?_
  refine J_iload_n (i := 3) (j := 0) dL_law_667 rfl rfl ?_
  refine J_iconst (v := 2) dL_law_668 (by decide) ?_
  refine J_iadd dL_law_669 ?_
  refine J_cald (z := L) (f := xs) dL_law_670 hcon (li_in hi (by decide)) ?_
  refine J_aload_nC (i := 0) (j := 3) dL_law_671 rfl rfl ?_
  refine J_iload_n (i := 3) (j := 0) dL_law_672 rfl rfl ?_
  refine J_iconst (v := 3) dL_law_673 (by decide) ?_
  refine J_iadd dL_law_674 ?_
  refine J_cald (z := L) (f := xs) dL_law_675 hcon (li_in hi (by decide)) ?_
  refine J_callV (As := [.int (xs (i + 1).toNatClampNeg), .int (xs (i + 2).toNatClampNeg), .int (xs (i + 3).toNatClampNeg)]) (rest := []) dL_law_676 (c_M_mean (d := 5) (u := u3) (g := g4) (ex := ex) (hill := (xs (i + 1).toNatClampNeg)) (plan := (xs (i + 2).toNatClampNeg)) (owner := (xs (i + 3).toNatClampNeg))  (by decide) (my_c (fr11 167 rfl) a4_0) (ab_c (fr11 168 rfl) a4_1) (hd_c (fr11 168 rfl) a4_2) (hc_c (fr11 167 rfl) (fr11 168 rfl) a4_3) (pl_c (fr11 169 rfl) a4_4) (n0_c (fr11 172 rfl) a6_0) (dn_c (fr11 172 rfl) a6_1) (bd_r (congrFun (fr11 162 rfl) 22) f0) (bd_r (congrFun (fr11 162 rfl) 31) f1) (ab_c (fr11 177 rfl) a6_2)) hq.n k1589 k1590 k1591 wc_162 rfl rfl k97 k1592 np_X11_mean (Nat.le_trans (by decide) hd) (by decide) (lk1 hb) (ln1 hb) (wlk hk) rfl (Nat.le_of_ble_eq_true rfl) (fun r_ h_ p16 => ?_)
  obtain ⟨l17, u18, rfl, rfl, h19, h20, h21, h22, fr23, fc24⟩ := p16
  refine J_pop2_2 dL_law_679 rfl ?_
  refine J_goto (tgt := 2255) dL_law_680 (by decide) ?_
  exact K u18 g4 ex k n ⟨⟨(ig0_c (fun c hc => ((fr23 c (nin_rg hc rfl)).trans (fr11 c (nin_rg hc rfl)))) H0), (ig1_c (fun c hc => ((fr23 c (nin_rg hc rfl)).trans (fr11 c (nin_rg hc rfl)))) H1), (ig2_c (fun c hc => ((fr23 c (nin_rg hc rfl)).trans (fr11 c (nin_rg hc rfl)))) H2), ⟨(bd_r (congrFun (fr23 44 rfl) 0) h5), (bd_r (congrFun (fr23 44 rfl) 2) h6), (bd_r ((congrFun (fr23 49 rfl) 0).trans (congrFun (fr11 49 rfl) 0)) a3_2), (ab_c (fr23 45 rfl) h7), (km_c ((fr23 50 rfl).trans (fr11 50 rfl)) ((fr23 52 rfl).trans (fr11 52 rfl)) a3_4), (bd_r ((congrFun (fr23 53 rfl) 0).trans (congrFun (fr11 53 rfl) 0)) a3_5), (bd_r ((congrFun (fr23 53 rfl) 1).trans (congrFun (fr11 53 rfl) 1)) a3_6), (bd_r (congrFun (fr23 61 rfl) 0) h8), (bd_r (congrFun (fr23 61 rfl) 2) h9), (ab_c (fr23 66 rfl) h10), (bd_r ((congrFun (fr23 70 rfl) 0).trans (congrFun (fr11 70 rfl) 0)) a3_10), (bd_r ((congrFun (fr23 70 rfl) 2).trans (congrFun (fr11 70 rfl) 2)) a3_11), (bd_r ((congrFun (fr23 79 rfl) 0).trans (congrFun (fr11 79 rfl) 0)) a3_12), (bd_r ((congrFun (fr23 79 rfl) 2).trans (congrFun (fr11 79 rfl) 2)) a3_13), (bd_r ((congrFun (fr23 56 rfl) 5).trans (congrFun (fr11 56 rfl) 5)) a3_14), (ab_c ((fr23 77 rfl).trans (fr11 77 rfl)) a3_15), (ab_c ((fr23 76 rfl).trans (fr11 76 rfl)) a3_16)⟩, (ig4_c (fun c hc => ((fr23 c (nin_rg hc rfl)).trans (fr11 c (nin_rg hc rfl)))) H4), (ig5_c (fun c hc => ((fr23 c (nin_rg hc rfl)).trans (fr11 c (nin_rg hc rfl)))) H5), ⟨h21, h20, (ab_c ((fr23 177 rfl).trans (fr11 177 rfl)) a6_2), (ab_c ((fr23 178 rfl).trans (fr11 178 rfl)) a6_3), (ab_c ((fr23 179 rfl).trans (fr11 179 rfl)) a6_4)⟩, h19, h22, (bd_r ((fc24 12 (Nat.ne_of_beq_eq_false rfl) (Nat.ne_of_beq_eq_false rfl) (Nat.ne_of_beq_eq_false rfl) (Nat.ne_of_beq_eq_false rfl) (Nat.ne_of_beq_eq_false rfl) (Nat.ne_of_beq_eq_false rfl) (Nat.ne_of_beq_eq_false rfl) (Nat.ne_of_beq_eq_false rfl) (Nat.ne_of_beq_eq_false rfl) (Nat.ne_of_beq_eq_false rfl)).trans (congrFun (fr11 162 rfl) 12)) f2), (bd_r ((fc24 17 (Nat.ne_of_beq_eq_false rfl) (Nat.ne_of_beq_eq_false rfl) (Nat.ne_of_beq_eq_false rfl) (Nat.ne_of_beq_eq_false rfl) (Nat.ne_of_beq_eq_false rfl) (Nat.ne_of_beq_eq_false rfl) (Nat.ne_of_beq_eq_false rfl) (Nat.ne_of_beq_eq_false rfl) (Nat.ne_of_beq_eq_false rfl) (Nat.ne_of_beq_eq_false rfl)).trans (congrFun (fr11 162 rfl) 17)) f3)⟩, (rly_2 (fun c hc => ((fr23 c (nin_y2 hc rfl)).trans (fr11 c (nin_y2 hc rfl)))) hR)⟩ hk (Nat.le_succ _) (Nat.le_succ _)
set_option maxHeartbeats 4000000 in
set_option maxRecDepth 100000 in
theorem law_11 {x : JX} {bb L k n : Nat} {xs : Nat → Int32} {i : Int32} {u : Nat → Nat → Int32} {g : Nat → Nat → Int64} {ex : List MC} (hq : LQ x bb) (hcon : x.2.2.2.2.2.2.2.2.2.2.2.2.2.2.1 0 = some (L, xs)) (hi : LI i L) (hI : INX u) (hk : k = 182 + ex.length) (hb : k + 1 ≤ 600000 ∧ n + 1 ≤ 7302250) (hd : 11 ≤ 11) (K : ∀ (u2 : Nat → Nat → Int32) (g2 : Nat → Nat → Int64) (ex2 : List MC) (k2 n2 : Nat), INX u2 → k2 = 182 + ex2.length → k2 ≤ k + 1 → n2 ≤ n + 1 → J x yL_law code 4 ret 11 600000 7302250 0 2255 [(3, .int i), (2, .ref 162), (1, .ref 0), (0, .retAddr 0)] [] (Wd u2 g2 ex2) k2 n2) : J x yL_law code 4 ret 11 600000 7302250 0 683 [(3, .int i), (2, .ref 162), (1, .ref 0), (0, .retAddr 0)] [] (Wd u g ex) k n := by
  obtain ⟨hI, hR⟩ := hI
  obtain ⟨H0, H1, H2, H3, H4, H5, H6, f0, f1, f2, f3⟩ := hI
  have X0 := H0
  obtain ⟨a0_0, a0_1, a0_2, a0_3, a0_4, a0_5, a0_6, a0_7, a0_8, a0_9, a0_10, a0_11, a0_12, a0_13, a0_14, a0_15⟩ := X0
  have X1 := H1
  obtain ⟨a1_0, a1_1, a1_2, a1_3, a1_4, a1_5, a1_6, a1_7, a1_8, a1_9, a1_10, a1_11, a1_12, a1_13, a1_14, a1_15, a1_16, a1_17, a1_18, a1_19, a1_20, a1_21, a1_22, a1_23, a1_24, a1_25, a1_26, a1_27, a1_28, a1_29, a1_30, a1_31, a1_32, a1_33, a1_34, a1_35, a1_36, a1_37, a1_38, a1_39, a1_40, a1_41, a1_42, a1_43, a1_44, a1_45, a1_46, a1_47⟩ := X1
  have X2 := H2
  obtain ⟨a2_0, a2_1, a2_2, a2_3, a2_4, a2_5⟩ := X2
  have X3 := H3
  obtain ⟨a3_0, a3_1, a3_2, a3_3, a3_4, a3_5, a3_6, a3_7, a3_8, a3_9, a3_10, a3_11, a3_12, a3_13, a3_14, a3_15, a3_16⟩ := X3
  have X4 := H4
  obtain ⟨a4_0, a4_1, a4_2, a4_3, a4_4, a4_5, a4_6⟩ := X4
  have X5 := H5
  obtain ⟨a5_0, a5_1⟩ := X5
  have X6 := H6
  obtain ⟨a6_0, a6_1, a6_2, a6_3, a6_4⟩ := X6
  refine J_aload_n (i := 1) (j := 2) dL_law_683 rfl rfl ?_
  refine J_aload_nC (i := 0) (j := 3) dL_law_684 rfl rfl ?_
  refine J_iload_n (i := 3) (j := 0) dL_law_685 rfl rfl ?_
  refine J_iconst (v := 1) dL_law_686 (by decide) ?_
  refine J_iadd dL_law_687 ?_
  refine J_cald (z := L) (f := xs) dL_law_688 hcon (li_in hi (by decide)) ?_
  refine J_aload_nC (i := 0) (j := 3) dL_law_689 rfl rfl ?_
  refine J_iload_n (i := 3) (j := 0) dL_law_690 rfl rfl ?_
  refine J_iconst (v := 2) dL_law_691 (by decide) ?_
  refine J_iadd dL_law_692 ?_
  refine J_cald (z := L) (f := xs) dL_law_693 hcon (li_in hi (by decide)) ?_
  refine J_aload_nC (i := 0) (j := 3) dL_law_694 rfl rfl ?_
  refine J_iload_n (i := 3) (j := 0) dL_law_695 rfl rfl ?_
  refine J_iconst (v := 3) dL_law_696 (by decide) ?_
  refine J_iadd dL_law_697 ?_
  refine J_cald (z := L) (f := xs) dL_law_698 hcon (li_in hi (by decide)) ?_
  have jn3 : ∀ (w2 : Int32), Bd 0 1 w2 → J x yL_law code 4 ret 11 600000 7302250 0 707 [(0, .retAddr 0), (1, .ref 0), (2, .ref 162), (3, .int i)] [.int w2, .int (xs (i + 2).toNatClampNeg), .int (xs (i + 1).toNatClampNeg), .ref 0] (Wd u g ex) k n := by
    intro w2 bw2
    refine J_callV (As := [.int (xs (i + 1).toNatClampNeg), .int (xs (i + 2).toNatClampNeg), .int w2]) (rest := []) dL_law_707 (c_P_rows (d := 6) (u := u) (g := g) (ex := ex) (hill := (xs (i + 1).toNatClampNeg)) (plan := (xs (i + 2).toNatClampNeg)) (parts := w2)  (by decide) a0_0 a0_5 a3_0 a3_1 a0_1 a0_2 a0_3 a0_4 a0_6 a0_7 a0_8 a3_2 a3_3 a0_9 a0_10 a0_11 a0_12 a0_13 a3_4 a3_7 a3_8 a3_9) hq.n k911 k912 k913 wc_0 rfl rfl k87 k914 np_X10_rows (Nat.le_trans (by decide) hd) (by decide) (lk1 hb) (ln1 hb) (wlk hk) rfl (Nat.le_of_ble_eq_true rfl) (fun r_ h_ p4 => ?_)
    obtain ⟨l5, u6, g7, rfl, rfl, h8, h9, h10, h11, h12, h13, fr14, fc15, fc16, fc17, fc18⟩ := p4
    refine J_pop2_2 dL_law_710 rfl ?_
    refine J_aload_n (i := 2) (j := 2) dL_law_711 rfl rfl ?_
    refine J_aload_nC (i := 0) (j := 0) dL_law_712 rfl rfl ?_
    refine J_iload_n (i := 3) (j := 3) dL_law_713 rfl rfl ?_
    refine J_iconst (v := 1) dL_law_714 (by decide) ?_
    refine J_iadd dL_law_715 ?_
    refine J_cald (z := L) (f := xs) dL_law_716 hcon (li_in hi (by decide)) ?_
    refine J_aload_nC (i := 0) (j := 0) dL_law_717 rfl rfl ?_
    refine J_iload_n (i := 3) (j := 3) dL_law_718 rfl rfl ?_
    refine J_iconst (v := 2) dL_law_719 (by decide) ?_
    refine J_iadd dL_law_720 ?_
    refine J_cald (z := L) (f := xs) dL_law_721 hcon (li_in hi (by decide)) ?_
    refine J_aload_nC (i := 0) (j := 0) dL_law_722 rfl rfl ?_
    refine J_iload_n (i := 3) (j := 3) dL_law_723 rfl rfl ?_
    refine J_iconst (v := 3) dL_law_724 (by decide) ?_
    refine J_iadd dL_law_725 ?_
    refine J_cald (z := L) (f := xs) dL_law_726 hcon (li_in hi (by decide)) ?_
    have jn21 : ∀ (w20 : Int32), Bd 0 1 w20 → J x yL_law code 4 ret 11 600000 7302250 0 735 [(0, .retAddr 0), (1, .ref 0), (2, .ref 162), (3, .int i)] [.int w20, .int (xs (i + 2).toNatClampNeg), .int (xs (i + 1).toNatClampNeg), .ref 162] (Wd u6 g7 ex) k n := by
      intro w20 bw20
      refine J_callV (As := [.int (xs (i + 1).toNatClampNeg), .int (xs (i + 2).toNatClampNeg), .int w20]) (rest := []) dL_law_735 (c_M_rows (d := 4) (u := u6) (g := g7) (ex := ex) (hill := (xs (i + 1).toNatClampNeg)) (plan := (xs (i + 2).toNatClampNeg)) (parts := w20)  (by decide) (my_c (fr14 167 rfl) a4_0) (ab_c (fr14 168 rfl) a4_1) (hd_c (fr14 168 rfl) a4_2) (hc_c (fr14 167 rfl) (fr14 168 rfl) a4_3) (pl_c (fr14 169 rfl) a4_4) (n0_c (fr14 172 rfl) a6_0) (dn_c (fr14 172 rfl) a6_1) (bd_r (congrFun (fr14 162 rfl) 22) f0) (bd_r (congrFun (fr14 162 rfl) 31) f1) (ab_c (fr14 177 rfl) a6_2)) hq.n k1600 k1601 k1602 wc_162 rfl rfl k97 k1603 np_X11_rows (Nat.le_trans (by decide) hd) (by decide) (lk1 hb) (ln1 hb) (wlk hk) rfl (Nat.le_of_ble_eq_true rfl) (fun r_ h_ p22 => ?_)
      obtain ⟨l23, u24, g25, rfl, rfl, h26, h27, h28, h29, fr30, fc31⟩ := p22
      refine J_pop2_2 dL_law_738 rfl ?_
      refine J_goto (tgt := 2255) dL_law_739 (by decide) ?_
      refine J_lv [3, 2, 1, 0] rfl ?_
      exact K u24 g25 ex k n ⟨⟨(ig0_c (fun c hc => ((fr30 c (nin_rg hc rfl)).trans (fr14 c (nin_rg hc rfl)))) H0), (ig1_c (fun c hc => ((fr30 c (nin_rg hc rfl)).trans (fr14 c (nin_rg hc rfl)))) H1), (ig2_c (fun c hc => ((fr30 c (nin_rg hc rfl)).trans (fr14 c (nin_rg hc rfl)))) H2), ⟨(bd_r (congrFun (fr30 44 rfl) 0) h8), (bd_r (congrFun (fr30 44 rfl) 2) h9), (bd_r ((congrFun (fr30 49 rfl) 0).trans (congrFun (fr14 49 rfl) 0)) a3_2), (ab_c (fr30 45 rfl) h10), (km_c ((fr30 50 rfl).trans (fr14 50 rfl)) ((fr30 52 rfl).trans (fr14 52 rfl)) a3_4), (bd_r ((congrFun (fr30 53 rfl) 0).trans (congrFun (fr14 53 rfl) 0)) a3_5), (bd_r ((congrFun (fr30 53 rfl) 1).trans (congrFun (fr14 53 rfl) 1)) a3_6), (bd_r (congrFun (fr30 61 rfl) 0) h11), (bd_r (congrFun (fr30 61 rfl) 2) h12), (ab_c (fr30 66 rfl) h13), (bd_r ((congrFun (fr30 70 rfl) 0).trans (congrFun (fr14 70 rfl) 0)) a3_10), (bd_r ((congrFun (fr30 70 rfl) 2).trans (congrFun (fr14 70 rfl) 2)) a3_11), (bd_r ((congrFun (fr30 79 rfl) 0).trans (congrFun (fr14 79 rfl) 0)) a3_12), (bd_r ((congrFun (fr30 79 rfl) 2).trans (congrFun (fr14 79 rfl) 2)) a3_13), (bd_r ((congrFun (fr30 56 rfl) 5).trans (congrFun (fr14 56 rfl) 5)) a3_14), (ab_c ((fr30 77 rfl).trans (fr14 77 rfl)) a3_15), (ab_c ((fr30 76 rfl).trans (fr14 76 rfl)) a3_16)⟩, (ig4_c (fun c hc => ((fr30 c (nin_rg hc rfl)).trans (fr14 c (nin_rg hc rfl)))) H4), (ig5_c (fun c hc => ((fr30 c (nin_rg hc rfl)).trans (fr14 c (nin_rg hc rfl)))) H5), ⟨h28, h27, (ab_c ((fr30 177 rfl).trans (fr14 177 rfl)) a6_2), (ab_c ((fr30 178 rfl).trans (fr14 178 rfl)) a6_3), (ab_c ((fr30 179 rfl).trans (fr14 179 rfl)) a6_4)⟩, h26, h29, (bd_r ((fc31 12 (Nat.ne_of_beq_eq_false rfl) (Nat.ne_of_beq_eq_false rfl) (Nat.ne_of_beq_eq_false rfl) (Nat.ne_of_beq_eq_false rfl) (Nat.ne_of_beq_eq_false rfl) (Nat.ne_of_beq_eq_false rfl) (Nat.ne_of_beq_eq_false rfl) (Nat.ne_of_beq_eq_false rfl) (Nat.ne_of_beq_eq_false rfl) (Nat.ne_of_beq_eq_false rfl)).trans (congrFun (fr14 162 rfl) 12)) f2), (bd_r ((fc31 17 (Nat.ne_of_beq_eq_false rfl) (Nat.ne_of_beq_eq_false rfl) (Nat.ne_of_beq_eq_false rfl) (Nat.ne_of_beq_eq_false rfl) (Nat.ne_of_beq_eq_false rfl) (Nat.ne_of_beq_eq_false rfl) (Nat.ne_of_beq_eq_false rfl) (Nat.ne_of_beq_eq_false rfl) (Nat.ne_of_beq_eq_false rfl) (Nat.ne_of_beq_eq_false rfl)).trans (congrFun (fr14 162 rfl) 17)) f3)⟩, (rly_2 (fun c hc => ((fr30 c (nin_y2 hc rfl)).trans (fr14 c (nin_y2 hc rfl)))) hR)⟩ hk (Nat.le_succ _) (Nat.le_succ _)
    refine J_if_eq (tgt := 734) dL_law_727 (by decide) (fun c19 => ?_) (fun c19 => ?_)
    · refine J_iconst (v := 0) dL_law_734 (by decide) ?_
      refine J_lv [0, 1, 2, 3] rfl ?_
      exact jn21 (0 : Int32) (bd_w (l := 0) (h := 1) (bd_c (v := 0) (lo := 0) (hi := 0) (by decide)) (by decide))
    · refine J_iconst (v := 1) dL_law_730 (by decide) ?_
      refine J_goto (tgt := 735) dL_law_731 (by decide) ?_
      refine J_lv [0, 1, 2, 3] rfl ?_
      exact jn21 (1 : Int32) (bd_w (l := 0) (h := 1) (bd_c (v := 1) (lo := 1) (hi := 1) (by decide)) (by decide))
  refine J_if_eq (tgt := 706) dL_law_699 (by decide) (fun c1 => ?_) (fun c1 => ?_)
  · refine J_iconst (v := 0) dL_law_706 (by decide) ?_
    refine J_lv [3, 2, 1, 0] rfl ?_
    exact jn3 (0 : Int32) (bd_w (l := 0) (h := 1) (bd_c (v := 0) (lo := 0) (hi := 0) (by decide)) (by decide))
  · refine J_iconst (v := 1) dL_law_702 (by decide) ?_
    refine J_goto (tgt := 707) dL_law_703 (by decide) ?_
    refine J_lv [3, 2, 1, 0] rfl ?_
    exact jn3 (1 : Int32) (bd_w (l := 0) (h := 1) (bd_c (v := 1) (lo := 1) (hi := 1) (by decide)) (by decide))
set_option maxHeartbeats 4000000 in
set_option maxRecDepth 100000 in
theorem law_12 {x : JX} {bb L k n : Nat} {xs : Nat → Int32} {i : Int32} {u : Nat → Nat → Int32} {g : Nat → Nat → Int64} {ex : List MC} (hq : LQ x bb) (hcon : x.2.2.2.2.2.2.2.2.2.2.2.2.2.2.1 0 = some (L, xs)) (hi : LI i L) (hI : INX u) (hk : k = 182 + ex.length) (hb : k + 1 ≤ 600000 ∧ n + 1 ≤ 7302250) (hd : 11 ≤ 11) (K : ∀ (u2 : Nat → Nat → Int32) (g2 : Nat → Nat → Int64) (ex2 : List MC) (k2 n2 : Nat), INX u2 → k2 = 182 + ex2.length → k2 ≤ k + 1 → n2 ≤ n + 1 → J x yL_law code 4 ret 11 600000 7302250 0 2255 [(3, .int i), (2, .ref 162), (1, .ref 0), (0, .retAddr 0)] [] (Wd u2 g2 ex2) k2 n2) : J x yL_law code 4 ret 11 600000 7302250 0 742 [(3, .int i), (2, .ref 162), (1, .ref 0), (0, .retAddr 0)] [] (Wd u g ex) k n := by
  obtain ⟨hI, hR⟩ := hI
  obtain ⟨H0, H1, H2, H3, H4, H5, H6, f0, f1, f2, f3⟩ := hI
  have X0 := H0
  obtain ⟨a0_0, a0_1, a0_2, a0_3, a0_4, a0_5, a0_6, a0_7, a0_8, a0_9, a0_10, a0_11, a0_12, a0_13, a0_14, a0_15⟩ := X0
  have X1 := H1
  obtain ⟨a1_0, a1_1, a1_2, a1_3, a1_4, a1_5, a1_6, a1_7, a1_8, a1_9, a1_10, a1_11, a1_12, a1_13, a1_14, a1_15, a1_16, a1_17, a1_18, a1_19, a1_20, a1_21, a1_22, a1_23, a1_24, a1_25, a1_26, a1_27, a1_28, a1_29, a1_30, a1_31, a1_32, a1_33, a1_34, a1_35, a1_36, a1_37, a1_38, a1_39, a1_40, a1_41, a1_42, a1_43, a1_44, a1_45, a1_46, a1_47⟩ := X1
  have X2 := H2
  obtain ⟨a2_0, a2_1, a2_2, a2_3, a2_4, a2_5⟩ := X2
  have X3 := H3
  obtain ⟨a3_0, a3_1, a3_2, a3_3, a3_4, a3_5, a3_6, a3_7, a3_8, a3_9, a3_10, a3_11, a3_12, a3_13, a3_14, a3_15, a3_16⟩ := X3
  have X4 := H4
  obtain ⟨a4_0, a4_1, a4_2, a4_3, a4_4, a4_5, a4_6⟩ := X4
  have X5 := H5
  obtain ⟨a5_0, a5_1⟩ := X5
  have X6 := H6
  obtain ⟨a6_0, a6_1, a6_2, a6_3, a6_4⟩ := X6
  refine J_aload_n (i := 1) (j := 2) dL_law_742 rfl rfl ?_
  refine J_aload_nC (i := 0) (j := 3) dL_law_743 rfl rfl ?_
  refine J_iload_n (i := 3) (j := 0) dL_law_744 rfl rfl ?_
  refine J_iconst (v := 1) dL_law_745 (by decide) ?_
  refine J_iadd dL_law_746 ?_
  refine J_cald (z := L) (f := xs) dL_law_747 hcon (li_in hi (by decide)) ?_
  refine J_aload_nC (i := 0) (j := 3) dL_law_748 rfl rfl ?_
  refine J_iload_n (i := 3) (j := 0) dL_law_749 rfl rfl ?_
  refine J_iconst (v := 2) dL_law_750 (by decide) ?_
  refine J_iadd dL_law_751 ?_
  refine J_cald (z := L) (f := xs) dL_law_752 hcon (li_in hi (by decide)) ?_
  refine J_aload_nC (i := 0) (j := 3) dL_law_753 rfl rfl ?_
  refine J_iload_n (i := 3) (j := 0) dL_law_754 rfl rfl ?_
  refine J_iconst (v := 3) dL_law_755 (by decide) ?_
  refine J_iadd dL_law_756 ?_
  refine J_cald (z := L) (f := xs) dL_law_757 hcon (li_in hi (by decide)) ?_
  refine J_aload_nC (i := 0) (j := 3) dL_law_758 rfl rfl ?_
  refine J_iload_n (i := 3) (j := 0) dL_law_759 rfl rfl ?_
  refine J_iconst (v := 4) dL_law_760 (by decide) ?_
  refine J_iadd dL_law_761 ?_
  refine J_cald (z := L) (f := xs) dL_law_762 hcon (li_in hi (by decide)) ?_
  refine J_callV (As := [.int (xs (i + 1).toNatClampNeg), .int (xs (i + 2).toNatClampNeg), .int (xs (i + 3).toNatClampNeg), .int (xs (i + 4).toNatClampNeg)]) (rest := []) dL_law_763 (c_P_brings (d := 5) (u := u) (g := g) (ex := ex) (hill := (xs (i + 1).toNatClampNeg)) (plan := (xs (i + 2).toNatClampNeg)) (rain := (xs (i + 3).toNatClampNeg)) (pond := (xs (i + 4).toNatClampNeg))  (by decide) a0_0 a0_5 a3_0 a3_1 a0_1 a0_2 a0_3 a0_4 a0_6 a0_7 a0_8 a3_2 a3_3 a0_9 a0_10 a0_11 a0_12 a0_13 a3_4 a3_5 a3_6) hq.n k922 k923 k924 wc_0 rfl rfl k87 k925 np_X10_brings (Nat.le_trans (by decide) hd) (by decide) (lk1 hb) (ln1 hb) (wlk hk) rfl (Nat.le_of_ble_eq_true rfl) (fun r_ h_ p1 => ?_)
  obtain ⟨v2, u3, rfl, rfl, h4, h5, h6, h7, h8, fr9, fc10, fc11, fc12⟩ := p1
  refine J_pop dL_law_766 rfl ?_
  refine J_aload_n (i := 2) (j := 1) dL_law_767 rfl rfl ?_
  refine J_aload_nC (i := 0) (j := 3) dL_law_768 rfl rfl ?_
  refine J_iload_n (i := 3) (j := 0) dL_law_769 rfl rfl ?_
  refine J_iconst (v := 1) dL_law_770 (by decide) ?_
  refine J_iadd dL_law_771 ?_
  refine J_cald (z := L) (f := xs) dL_law_772 hcon (li_in hi (by decide)) ?_
  refine J_aload_nC (i := 0) (j := 3) dL_law_773 rfl rfl ?_
  refine J_iload_n (i := 3) (j := 0) dL_law_774 rfl rfl ?_
  refine J_iconst (v := 2) dL_law_775 (by decide) ?_
  refine J_iadd dL_law_776 ?_
  refine J_cald (z := L) (f := xs) dL_law_777 hcon (li_in hi (by decide)) ?_
  refine J_aload_nC (i := 0) (j := 3) dL_law_778 rfl rfl ?_
  refine J_iload_n (i := 3) (j := 0) dL_law_779 rfl rfl ?_
  refine J_iconst (v := 3) dL_law_780 (by decide) ?_
  refine J_iadd dL_law_781 ?_
  refine J_cald (z := L) (f := xs) dL_law_782 hcon (li_in hi (by decide)) ?_
  refine J_aload_nC (i := 0) (j := 3) dL_law_783 rfl rfl ?_
  refine J_iload_n (i := 3) (j := 0) dL_law_784 rfl rfl ?_
  refine J_iconst (v := 4) dL_law_785 (by decide) ?_
  refine J_iadd dL_law_786 ?_
  refine J_cald (z := L) (f := xs) dL_law_787 hcon (li_in hi (by decide)) ?_
  refine J_callV (As := [.int (xs (i + 1).toNatClampNeg), .int (xs (i + 2).toNatClampNeg), .int (xs (i + 3).toNatClampNeg), .int (xs (i + 4).toNatClampNeg)]) (rest := []) dL_law_788 (c_M_brings (d := 4) (u := u3) (g := g) (ex := ex) (hill := (xs (i + 1).toNatClampNeg)) (plan := (xs (i + 2).toNatClampNeg)) (rain := (xs (i + 3).toNatClampNeg)) (pond := (xs (i + 4).toNatClampNeg))  (by decide) (my_c (fr9 167 rfl) a4_0) (ab_c (fr9 168 rfl) a4_1) (hd_c (fr9 168 rfl) a4_2) (hc_c (fr9 167 rfl) (fr9 168 rfl) a4_3) (pl_c (fr9 169 rfl) a4_4) (n0_c (fr9 172 rfl) a6_0) (dn_c (fr9 172 rfl) a6_1) (bd_r (congrFun (fr9 162 rfl) 22) f0) (bd_r (congrFun (fr9 162 rfl) 31) f1) (ab_c (fr9 177 rfl) a6_2)) hq.n k1604 k1605 k1606 wc_162 rfl rfl k97 k1607 np_X11_brings (Nat.le_trans (by decide) hd) (by decide) (lk1 hb) (ln1 hb) (wlk hk) rfl (Nat.le_of_ble_eq_true rfl) (fun r_ h_ p13 => ?_)
  obtain ⟨v14, u15, rfl, rfl, h16, h17, h18, h19, fr20, fc21⟩ := p13
  refine J_pop dL_law_791 rfl ?_
  refine J_goto (tgt := 2255) dL_law_792 (by decide) ?_
  exact K u15 g ex k n ⟨⟨(ig0_c (fun c hc => ((fr20 c (nin_rg hc rfl)).trans (fr9 c (nin_rg hc rfl)))) H0), (ig1_c (fun c hc => ((fr20 c (nin_rg hc rfl)).trans (fr9 c (nin_rg hc rfl)))) H1), (ig2_c (fun c hc => ((fr20 c (nin_rg hc rfl)).trans (fr9 c (nin_rg hc rfl)))) H2), ⟨(bd_r (congrFun (fr20 44 rfl) 0) h4), (bd_r (congrFun (fr20 44 rfl) 2) h5), (bd_r ((congrFun (fr20 49 rfl) 0).trans (congrFun (fr9 49 rfl) 0)) a3_2), (ab_c (fr20 45 rfl) h6), (km_c ((fr20 50 rfl).trans (fr9 50 rfl)) ((fr20 52 rfl).trans (fr9 52 rfl)) a3_4), (bd_r (congrFun (fr20 53 rfl) 0) h7), (bd_r (congrFun (fr20 53 rfl) 1) h8), (bd_r ((congrFun (fr20 61 rfl) 0).trans (congrFun (fr9 61 rfl) 0)) a3_7), (bd_r ((congrFun (fr20 61 rfl) 2).trans (congrFun (fr9 61 rfl) 2)) a3_8), (ab_c ((fr20 66 rfl).trans (fr9 66 rfl)) a3_9), (bd_r ((congrFun (fr20 70 rfl) 0).trans (congrFun (fr9 70 rfl) 0)) a3_10), (bd_r ((congrFun (fr20 70 rfl) 2).trans (congrFun (fr9 70 rfl) 2)) a3_11), (bd_r ((congrFun (fr20 79 rfl) 0).trans (congrFun (fr9 79 rfl) 0)) a3_12), (bd_r ((congrFun (fr20 79 rfl) 2).trans (congrFun (fr9 79 rfl) 2)) a3_13), (bd_r ((congrFun (fr20 56 rfl) 5).trans (congrFun (fr9 56 rfl) 5)) a3_14), (ab_c ((fr20 77 rfl).trans (fr9 77 rfl)) a3_15), (ab_c ((fr20 76 rfl).trans (fr9 76 rfl)) a3_16)⟩, (ig4_c (fun c hc => ((fr20 c (nin_rg hc rfl)).trans (fr9 c (nin_rg hc rfl)))) H4), (ig5_c (fun c hc => ((fr20 c (nin_rg hc rfl)).trans (fr9 c (nin_rg hc rfl)))) H5), ⟨h18, h17, (ab_c ((fr20 177 rfl).trans (fr9 177 rfl)) a6_2), (ab_c ((fr20 178 rfl).trans (fr9 178 rfl)) a6_3), (ab_c ((fr20 179 rfl).trans (fr9 179 rfl)) a6_4)⟩, h16, h19, (bd_r ((fc21 12 (Nat.ne_of_beq_eq_false rfl) (Nat.ne_of_beq_eq_false rfl) (Nat.ne_of_beq_eq_false rfl) (Nat.ne_of_beq_eq_false rfl) (Nat.ne_of_beq_eq_false rfl) (Nat.ne_of_beq_eq_false rfl) (Nat.ne_of_beq_eq_false rfl) (Nat.ne_of_beq_eq_false rfl) (Nat.ne_of_beq_eq_false rfl) (Nat.ne_of_beq_eq_false rfl)).trans (congrFun (fr9 162 rfl) 12)) f2), (bd_r ((fc21 17 (Nat.ne_of_beq_eq_false rfl) (Nat.ne_of_beq_eq_false rfl) (Nat.ne_of_beq_eq_false rfl) (Nat.ne_of_beq_eq_false rfl) (Nat.ne_of_beq_eq_false rfl) (Nat.ne_of_beq_eq_false rfl) (Nat.ne_of_beq_eq_false rfl) (Nat.ne_of_beq_eq_false rfl) (Nat.ne_of_beq_eq_false rfl) (Nat.ne_of_beq_eq_false rfl)).trans (congrFun (fr9 162 rfl) 17)) f3)⟩, (rly_2 (fun c hc => ((fr20 c (nin_y2 hc rfl)).trans (fr9 c (nin_y2 hc rfl)))) hR)⟩ hk (Nat.le_succ _) (Nat.le_succ _)
set_option maxHeartbeats 4000000 in
set_option maxRecDepth 100000 in
theorem law_13 {x : JX} {bb L k n : Nat} {xs : Nat → Int32} {i : Int32} {u : Nat → Nat → Int32} {g : Nat → Nat → Int64} {ex : List MC} (hq : LQ x bb) (hcon : x.2.2.2.2.2.2.2.2.2.2.2.2.2.2.1 0 = some (L, xs)) (hi : LI i L) (hI : INX u) (hk : k = 182 + ex.length) (hb : k + 1 ≤ 600000 ∧ n + 1 ≤ 7302250) (hd : 11 ≤ 11) (K : ∀ (u2 : Nat → Nat → Int32) (g2 : Nat → Nat → Int64) (ex2 : List MC) (k2 n2 : Nat), INX u2 → k2 = 182 + ex2.length → k2 ≤ k + 1 → n2 ≤ n + 1 → J x yL_law code 4 ret 11 600000 7302250 0 2255 [(3, .int i), (2, .ref 162), (1, .ref 0), (0, .retAddr 0)] [] (Wd u2 g2 ex2) k2 n2) : J x yL_law code 4 ret 11 600000 7302250 0 795 [(3, .int i), (2, .ref 162), (1, .ref 0), (0, .retAddr 0)] [] (Wd u g ex) k n := by
  obtain ⟨hI, hR⟩ := hI
  obtain ⟨H0, H1, H2, H3, H4, H5, H6, f0, f1, f2, f3⟩ := hI
  have X0 := H0
  obtain ⟨a0_0, a0_1, a0_2, a0_3, a0_4, a0_5, a0_6, a0_7, a0_8, a0_9, a0_10, a0_11, a0_12, a0_13, a0_14, a0_15⟩ := X0
  have X1 := H1
  obtain ⟨a1_0, a1_1, a1_2, a1_3, a1_4, a1_5, a1_6, a1_7, a1_8, a1_9, a1_10, a1_11, a1_12, a1_13, a1_14, a1_15, a1_16, a1_17, a1_18, a1_19, a1_20, a1_21, a1_22, a1_23, a1_24, a1_25, a1_26, a1_27, a1_28, a1_29, a1_30, a1_31, a1_32, a1_33, a1_34, a1_35, a1_36, a1_37, a1_38, a1_39, a1_40, a1_41, a1_42, a1_43, a1_44, a1_45, a1_46, a1_47⟩ := X1
  have X2 := H2
  obtain ⟨a2_0, a2_1, a2_2, a2_3, a2_4, a2_5⟩ := X2
  have X3 := H3
  obtain ⟨a3_0, a3_1, a3_2, a3_3, a3_4, a3_5, a3_6, a3_7, a3_8, a3_9, a3_10, a3_11, a3_12, a3_13, a3_14, a3_15, a3_16⟩ := X3
  have X4 := H4
  obtain ⟨a4_0, a4_1, a4_2, a4_3, a4_4, a4_5, a4_6⟩ := X4
  have X5 := H5
  obtain ⟨a5_0, a5_1⟩ := X5
  have X6 := H6
  obtain ⟨a6_0, a6_1, a6_2, a6_3, a6_4⟩ := X6
  refine J_aload_n (i := 1) (j := 2) dL_law_795 rfl rfl ?_
  refine J_aload_nC (i := 0) (j := 3) dL_law_796 rfl rfl ?_
  refine J_iload_n (i := 3) (j := 0) dL_law_797 rfl rfl ?_
  refine J_iconst (v := 1) dL_law_798 (by decide) ?_
  refine J_iadd dL_law_799 ?_
  refine J_cald (z := L) (f := xs) dL_law_800 hcon (li_in hi (by decide)) ?_
  refine J_aload_nC (i := 0) (j := 3) dL_law_801 rfl rfl ?_
  refine J_iload_n (i := 3) (j := 0) dL_law_802 rfl rfl ?_
  refine J_iconst (v := 2) dL_law_803 (by decide) ?_
  refine J_iadd dL_law_804 ?_
  refine J_cald (z := L) (f := xs) dL_law_805 hcon (li_in hi (by decide)) ?_
  refine J_aload_nC (i := 0) (j := 3) dL_law_806 rfl rfl ?_
  refine J_iload_n (i := 3) (j := 0) dL_law_807 rfl rfl ?_
  refine J_iconst (v := 3) dL_law_808 (by decide) ?_
  refine J_iadd dL_law_809 ?_
  refine J_cald (z := L) (f := xs) dL_law_810 hcon (li_in hi (by decide)) ?_
  refine J_aload_nC (i := 0) (j := 3) dL_law_811 rfl rfl ?_
  refine J_iload_n (i := 3) (j := 0) dL_law_812 rfl rfl ?_
  refine J_iconst (v := 4) dL_law_813 (by decide) ?_
  refine J_iadd dL_law_814 ?_
  refine J_cald (z := L) (f := xs) dL_law_815 hcon (li_in hi (by decide)) ?_
  refine J_callV (As := [.int (xs (i + 1).toNatClampNeg), .int (xs (i + 2).toNatClampNeg), .int (xs (i + 3).toNatClampNeg), .int (xs (i + 4).toNatClampNeg)]) (rest := []) dL_law_816 (c_P_best (d := 6) (u := u) (g := g) (ex := ex) (hill := (xs (i + 1).toNatClampNeg)) (plan := (xs (i + 2).toNatClampNeg)) (ponds := (xs (i + 3).toNatClampNeg)) (days := (xs (i + 4).toNatClampNeg))  (by decide) a0_0 a0_5 a3_0 a3_1 a0_1 a0_2 a0_3 a0_4 a0_6 a0_7 a0_8 a3_2 a3_3 a0_9 a0_10 a0_11 a0_12 a0_13 a3_4 a3_7 a3_8 a3_9) hq.n k934 k935 k936 wc_0 rfl rfl k87 k937 np_X10_best (Nat.le_trans (by decide) hd) (by decide) (lk1 hb) (ln1 hb) (wlk hk) rfl (Nat.le_of_ble_eq_true rfl) (fun r_ h_ p1 => ?_)
  obtain ⟨v2, u3, g4, rfl, rfl, h5, h6, h7, h8, h9, h10, fr11, fc12, fc13, fc14, fc15⟩ := p1
  refine J_pop dL_law_819 rfl ?_
  refine J_aload_n (i := 2) (j := 1) dL_law_820 rfl rfl ?_
  refine J_aload_nC (i := 0) (j := 3) dL_law_821 rfl rfl ?_
  refine J_iload_n (i := 3) (j := 0) dL_law_822 rfl rfl ?_
  refine J_iconst (v := 1) dL_law_823 (by decide) ?_
  refine J_iadd dL_law_824 ?_
  refine J_cald (z := L) (f := xs) dL_law_825 hcon (li_in hi (by decide)) ?_
  refine J_aload_nC (i := 0) (j := 3) dL_law_826 rfl rfl ?_
  refine J_iload_n (i := 3) (j := 0) dL_law_827 rfl rfl ?_
  refine J_iconst (v := 2) dL_law_828 (by decide) ?_
  refine J_iadd dL_law_829 ?_
  refine J_cald (z := L) (f := xs) dL_law_830 hcon (li_in hi (by decide)) ?_
  refine J_aload_nC (i := 0) (j := 3) dL_law_831 rfl rfl ?_
  refine J_iload_n (i := 3) (j := 0) dL_law_832 rfl rfl ?_
  refine J_iconst (v := 3) dL_law_833 (by decide) ?_
  refine J_iadd dL_law_834 ?_
  refine J_cald (z := L) (f := xs) dL_law_835 hcon (li_in hi (by decide)) ?_
  refine J_aload_nC (i := 0) (j := 3) dL_law_836 rfl rfl ?_
  refine J_iload_n (i := 3) (j := 0) dL_law_837 rfl rfl ?_
  refine J_iconst (v := 4) dL_law_838 (by decide) ?_
  refine J_iadd dL_law_839 ?_
  refine J_cald (z := L) (f := xs) dL_law_840 hcon (li_in hi (by decide)) ?_
  refine J_callV (As := [.int (xs (i + 1).toNatClampNeg), .int (xs (i + 2).toNatClampNeg), .int (xs (i + 3).toNatClampNeg), .int (xs (i + 4).toNatClampNeg)]) (rest := []) dL_law_841 (c_M_best (d := 6) (u := u3) (g := g4) (ex := ex) (hill := (xs (i + 1).toNatClampNeg)) (plan := (xs (i + 2).toNatClampNeg)) (ponds := (xs (i + 3).toNatClampNeg)) (days := (xs (i + 4).toNatClampNeg))  (by decide) (my_c (fr11 167 rfl) a4_0) (ab_c (fr11 168 rfl) a4_1) (hd_c (fr11 168 rfl) a4_2) (hc_c (fr11 167 rfl) (fr11 168 rfl) a4_3) (pl_c (fr11 169 rfl) a4_4) (n0_c (fr11 172 rfl) a6_0) (dn_c (fr11 172 rfl) a6_1) (bd_r (congrFun (fr11 162 rfl) 22) f0) (bd_r (congrFun (fr11 162 rfl) 31) f1) (ab_c (fr11 177 rfl) a6_2)) hq.n k1611 k1612 k1613 wc_162 rfl rfl k97 k1614 np_X11_best (Nat.le_trans (by decide) hd) (by decide) (lk1 hb) (ln1 hb) (wlk hk) rfl (Nat.le_of_ble_eq_true rfl) (fun r_ h_ p16 => ?_)
  obtain ⟨v17, u18, rfl, rfl, h19, h20, h21, h22, h23, fr24, fc25⟩ := p16
  refine J_pop dL_law_844 rfl ?_
  refine J_goto (tgt := 2255) dL_law_845 (by decide) ?_
  exact K u18 g4 ex k n ⟨⟨(ig0_c (fun c hc => ((fr24 c (nin_rg hc rfl)).trans (fr11 c (nin_rg hc rfl)))) H0), (ig1_c (fun c hc => ((fr24 c (nin_rg hc rfl)).trans (fr11 c (nin_rg hc rfl)))) H1), (ig2_c (fun c hc => ((fr24 c (nin_rg hc rfl)).trans (fr11 c (nin_rg hc rfl)))) H2), ⟨(bd_r (congrFun (fr24 44 rfl) 0) h5), (bd_r (congrFun (fr24 44 rfl) 2) h6), (bd_r ((congrFun (fr24 49 rfl) 0).trans (congrFun (fr11 49 rfl) 0)) a3_2), (ab_c (fr24 45 rfl) h7), (km_c ((fr24 50 rfl).trans (fr11 50 rfl)) ((fr24 52 rfl).trans (fr11 52 rfl)) a3_4), (bd_r ((congrFun (fr24 53 rfl) 0).trans (congrFun (fr11 53 rfl) 0)) a3_5), (bd_r ((congrFun (fr24 53 rfl) 1).trans (congrFun (fr11 53 rfl) 1)) a3_6), (bd_r (congrFun (fr24 61 rfl) 0) h8), (bd_r (congrFun (fr24 61 rfl) 2) h9), (ab_c (fr24 66 rfl) h10), (bd_r ((congrFun (fr24 70 rfl) 0).trans (congrFun (fr11 70 rfl) 0)) a3_10), (bd_r ((congrFun (fr24 70 rfl) 2).trans (congrFun (fr11 70 rfl) 2)) a3_11), (bd_r ((congrFun (fr24 79 rfl) 0).trans (congrFun (fr11 79 rfl) 0)) a3_12), (bd_r ((congrFun (fr24 79 rfl) 2).trans (congrFun (fr11 79 rfl) 2)) a3_13), (bd_r ((congrFun (fr24 56 rfl) 5).trans (congrFun (fr11 56 rfl) 5)) a3_14), (ab_c ((fr24 77 rfl).trans (fr11 77 rfl)) a3_15), (ab_c ((fr24 76 rfl).trans (fr11 76 rfl)) a3_16)⟩, (ig4_c (fun c hc => ((fr24 c (nin_rg hc rfl)).trans (fr11 c (nin_rg hc rfl)))) H4), (ig5_c (fun c hc => ((fr24 c (nin_rg hc rfl)).trans (fr11 c (nin_rg hc rfl)))) H5), ⟨h21, h20, h23, (ab_c ((fr24 178 rfl).trans (fr11 178 rfl)) a6_3), (ab_c ((fr24 179 rfl).trans (fr11 179 rfl)) a6_4)⟩, h19, h22, (bd_r ((fc25 12 (Nat.ne_of_beq_eq_false rfl) (Nat.ne_of_beq_eq_false rfl) (Nat.ne_of_beq_eq_false rfl) (Nat.ne_of_beq_eq_false rfl) (Nat.ne_of_beq_eq_false rfl) (Nat.ne_of_beq_eq_false rfl) (Nat.ne_of_beq_eq_false rfl) (Nat.ne_of_beq_eq_false rfl) (Nat.ne_of_beq_eq_false rfl) (Nat.ne_of_beq_eq_false rfl)).trans (congrFun (fr11 162 rfl) 12)) f2), (bd_r ((fc25 17 (Nat.ne_of_beq_eq_false rfl) (Nat.ne_of_beq_eq_false rfl) (Nat.ne_of_beq_eq_false rfl) (Nat.ne_of_beq_eq_false rfl) (Nat.ne_of_beq_eq_false rfl) (Nat.ne_of_beq_eq_false rfl) (Nat.ne_of_beq_eq_false rfl) (Nat.ne_of_beq_eq_false rfl) (Nat.ne_of_beq_eq_false rfl) (Nat.ne_of_beq_eq_false rfl)).trans (congrFun (fr11 162 rfl) 17)) f3)⟩, (rly_2 (fun c hc => ((fr24 c (nin_y2 hc rfl)).trans (fr11 c (nin_y2 hc rfl)))) hR)⟩ hk (Nat.le_succ _) (Nat.le_succ _)
set_option maxHeartbeats 4000000 in
set_option maxRecDepth 100000 in
theorem law_14 {x : JX} {bb L k n : Nat} {xs : Nat → Int32} {i : Int32} {u : Nat → Nat → Int32} {g : Nat → Nat → Int64} {ex : List MC} (hq : LQ x bb) (hcon : x.2.2.2.2.2.2.2.2.2.2.2.2.2.2.1 0 = some (L, xs)) (hi : LI i L) (hI : INX u) (hk : k = 182 + ex.length) (hb : k + 1 ≤ 600000 ∧ n + 1 ≤ 7302250) (hd : 11 ≤ 11) (K : ∀ (u2 : Nat → Nat → Int32) (g2 : Nat → Nat → Int64) (ex2 : List MC) (k2 n2 : Nat), INX u2 → k2 = 182 + ex2.length → k2 ≤ k + 1 → n2 ≤ n + 1 → J x yL_law code 4 ret 11 600000 7302250 0 2255 [(3, .int i), (2, .ref 162), (1, .ref 0), (0, .retAddr 0)] [] (Wd u2 g2 ex2) k2 n2) : J x yL_law code 4 ret 11 600000 7302250 0 848 [(3, .int i), (2, .ref 162), (1, .ref 0), (0, .retAddr 0)] [] (Wd u g ex) k n := by
  obtain ⟨hI, hR⟩ := hI
  obtain ⟨H0, H1, H2, H3, H4, H5, H6, f0, f1, f2, f3⟩ := hI
  have X0 := H0
  obtain ⟨a0_0, a0_1, a0_2, a0_3, a0_4, a0_5, a0_6, a0_7, a0_8, a0_9, a0_10, a0_11, a0_12, a0_13, a0_14, a0_15⟩ := X0
  have X1 := H1
  obtain ⟨a1_0, a1_1, a1_2, a1_3, a1_4, a1_5, a1_6, a1_7, a1_8, a1_9, a1_10, a1_11, a1_12, a1_13, a1_14, a1_15, a1_16, a1_17, a1_18, a1_19, a1_20, a1_21, a1_22, a1_23, a1_24, a1_25, a1_26, a1_27, a1_28, a1_29, a1_30, a1_31, a1_32, a1_33, a1_34, a1_35, a1_36, a1_37, a1_38, a1_39, a1_40, a1_41, a1_42, a1_43, a1_44, a1_45, a1_46, a1_47⟩ := X1
  have X2 := H2
  obtain ⟨a2_0, a2_1, a2_2, a2_3, a2_4, a2_5⟩ := X2
  have X3 := H3
  obtain ⟨a3_0, a3_1, a3_2, a3_3, a3_4, a3_5, a3_6, a3_7, a3_8, a3_9, a3_10, a3_11, a3_12, a3_13, a3_14, a3_15, a3_16⟩ := X3
  have X4 := H4
  obtain ⟨a4_0, a4_1, a4_2, a4_3, a4_4, a4_5, a4_6⟩ := X4
  have X5 := H5
  obtain ⟨a5_0, a5_1⟩ := X5
  have X6 := H6
  obtain ⟨a6_0, a6_1, a6_2, a6_3, a6_4⟩ := X6
  refine J_aload_n (i := 1) (j := 2) dL_law_848 rfl rfl ?_
  refine J_aload_nC (i := 0) (j := 3) dL_law_849 rfl rfl ?_
  refine J_iload_n (i := 3) (j := 0) dL_law_850 rfl rfl ?_
  refine J_iconst (v := 1) dL_law_851 (by decide) ?_
  refine J_iadd dL_law_852 ?_
  refine J_cald (z := L) (f := xs) dL_law_853 hcon (li_in hi (by decide)) ?_
  refine J_aload_nC (i := 0) (j := 3) dL_law_854 rfl rfl ?_
  refine J_iload_n (i := 3) (j := 0) dL_law_855 rfl rfl ?_
  refine J_iconst (v := 2) dL_law_856 (by decide) ?_
  refine J_iadd dL_law_857 ?_
  refine J_cald (z := L) (f := xs) dL_law_858 hcon (li_in hi (by decide)) ?_
  refine J_aload_nC (i := 0) (j := 3) dL_law_859 rfl rfl ?_
  refine J_iload_n (i := 3) (j := 0) dL_law_860 rfl rfl ?_
  refine J_iconst (v := 3) dL_law_861 (by decide) ?_
  refine J_iadd dL_law_862 ?_
  refine J_cald (z := L) (f := xs) dL_law_863 hcon (li_in hi (by decide)) ?_
  refine J_aload_nC (i := 0) (j := 3) dL_law_864 rfl rfl ?_
  refine J_iload_n (i := 3) (j := 0) dL_law_865 rfl rfl ?_
  refine J_iconst (v := 4) dL_law_866 (by decide) ?_
  refine J_iadd dL_law_867 ?_
  refine J_cald (z := L) (f := xs) dL_law_868 hcon (li_in hi (by decide)) ?_
  refine J_callV (As := [.int (xs (i + 1).toNatClampNeg), .int (xs (i + 2).toNatClampNeg), .int (xs (i + 3).toNatClampNeg), .int (xs (i + 4).toNatClampNeg)]) (rest := []) dL_law_869 (c_P_steps (d := 6) (u := u) (g := g) (ex := ex) (hill := (xs (i + 1).toNatClampNeg)) (plan := (xs (i + 2).toNatClampNeg)) (ponds := (xs (i + 3).toNatClampNeg)) (days := (xs (i + 4).toNatClampNeg))  (by decide) a0_0 a0_5 a3_0 a3_1 a0_1 a0_2 a0_3 a0_4 a0_6 a0_7 a0_8 a3_2 a3_3 a0_9 a0_10 a0_11 a0_12 a0_13 a3_4 a3_7 a3_8 a3_9) hq.n k960 k961 k962 wc_0 rfl rfl k87 k963 np_X10_steps (Nat.le_trans (by decide) hd) (by decide) (lk1 hb) (ln1 hb) (wlk hk) rfl (Nat.le_of_ble_eq_true rfl) (fun r_ h_ p1 => ?_)
  obtain ⟨v2, u3, g4, rfl, rfl, h5, h6, h7, h8, h9, h10, fr11, fc12, fc13, fc14, fc15⟩ := p1
  refine J_pop dL_law_872 rfl ?_
  refine J_aload_n (i := 2) (j := 1) dL_law_873 rfl rfl ?_
  refine J_aload_nC (i := 0) (j := 3) dL_law_874 rfl rfl ?_
  refine J_iload_n (i := 3) (j := 0) dL_law_875 rfl rfl ?_
  refine J_iconst (v := 1) dL_law_876 (by decide) ?_
  refine J_iadd dL_law_877 ?_
  refine J_cald (z := L) (f := xs) dL_law_878 hcon (li_in hi (by decide)) ?_
  refine J_aload_nC (i := 0) (j := 3) dL_law_879 rfl rfl ?_
  refine J_iload_n (i := 3) (j := 0) dL_law_880 rfl rfl ?_
  refine J_iconst (v := 2) dL_law_881 (by decide) ?_
  refine J_iadd dL_law_882 ?_
  refine J_cald (z := L) (f := xs) dL_law_883 hcon (li_in hi (by decide)) ?_
  refine J_aload_nC (i := 0) (j := 3) dL_law_884 rfl rfl ?_
  refine J_iload_n (i := 3) (j := 0) dL_law_885 rfl rfl ?_
  refine J_iconst (v := 3) dL_law_886 (by decide) ?_
  refine J_iadd dL_law_887 ?_
  refine J_cald (z := L) (f := xs) dL_law_888 hcon (li_in hi (by decide)) ?_
  refine J_aload_nC (i := 0) (j := 3) dL_law_889 rfl rfl ?_
  refine J_iload_n (i := 3) (j := 0) dL_law_890 rfl rfl ?_
  refine J_iconst (v := 4) dL_law_891 (by decide) ?_
  refine J_iadd dL_law_892 ?_
  refine J_cald (z := L) (f := xs) dL_law_893 hcon (li_in hi (by decide)) ?_
  refine J_callV (As := [.int (xs (i + 1).toNatClampNeg), .int (xs (i + 2).toNatClampNeg), .int (xs (i + 3).toNatClampNeg), .int (xs (i + 4).toNatClampNeg)]) (rest := []) dL_law_894 (c_M_steps (d := 7) (u := u3) (g := g4) (ex := ex) (hill := (xs (i + 1).toNatClampNeg)) (plan := (xs (i + 2).toNatClampNeg)) (ponds := (xs (i + 3).toNatClampNeg)) (days := (xs (i + 4).toNatClampNeg))  (by decide) (my_c (fr11 167 rfl) a4_0) (ab_c (fr11 168 rfl) a4_1) (hd_c (fr11 168 rfl) a4_2) (hc_c (fr11 167 rfl) (fr11 168 rfl) a4_3) (pl_c (fr11 169 rfl) a4_4) (n0_c (fr11 172 rfl) a6_0) (dn_c (fr11 172 rfl) a6_1) (bd_r (congrFun (fr11 162 rfl) 22) f0) (bd_r (congrFun (fr11 162 rfl) 31) f1) (ab_c (fr11 177 rfl) a6_2)) hq.n k1635 k1636 k1637 wc_162 rfl rfl k97 k1638 np_X11_steps (Nat.le_trans (by decide) hd) (by decide) (lk1 hb) (ln1 hb) (wlk hk) rfl (Nat.le_of_ble_eq_true rfl) (fun r_ h_ p16 => ?_)
  obtain ⟨v17, u18, rfl, rfl, h19, h20, h21, h22, h23, fr24, fc25⟩ := p16
  refine J_pop dL_law_897 rfl ?_
  refine J_goto (tgt := 2255) dL_law_898 (by decide) ?_
  exact K u18 g4 ex k n ⟨⟨(ig0_c (fun c hc => ((fr24 c (nin_rg hc rfl)).trans (fr11 c (nin_rg hc rfl)))) H0), (ig1_c (fun c hc => ((fr24 c (nin_rg hc rfl)).trans (fr11 c (nin_rg hc rfl)))) H1), (ig2_c (fun c hc => ((fr24 c (nin_rg hc rfl)).trans (fr11 c (nin_rg hc rfl)))) H2), ⟨(bd_r (congrFun (fr24 44 rfl) 0) h5), (bd_r (congrFun (fr24 44 rfl) 2) h6), (bd_r ((congrFun (fr24 49 rfl) 0).trans (congrFun (fr11 49 rfl) 0)) a3_2), (ab_c (fr24 45 rfl) h7), (km_c ((fr24 50 rfl).trans (fr11 50 rfl)) ((fr24 52 rfl).trans (fr11 52 rfl)) a3_4), (bd_r ((congrFun (fr24 53 rfl) 0).trans (congrFun (fr11 53 rfl) 0)) a3_5), (bd_r ((congrFun (fr24 53 rfl) 1).trans (congrFun (fr11 53 rfl) 1)) a3_6), (bd_r (congrFun (fr24 61 rfl) 0) h8), (bd_r (congrFun (fr24 61 rfl) 2) h9), (ab_c (fr24 66 rfl) h10), (bd_r ((congrFun (fr24 70 rfl) 0).trans (congrFun (fr11 70 rfl) 0)) a3_10), (bd_r ((congrFun (fr24 70 rfl) 2).trans (congrFun (fr11 70 rfl) 2)) a3_11), (bd_r ((congrFun (fr24 79 rfl) 0).trans (congrFun (fr11 79 rfl) 0)) a3_12), (bd_r ((congrFun (fr24 79 rfl) 2).trans (congrFun (fr11 79 rfl) 2)) a3_13), (bd_r ((congrFun (fr24 56 rfl) 5).trans (congrFun (fr11 56 rfl) 5)) a3_14), (ab_c ((fr24 77 rfl).trans (fr11 77 rfl)) a3_15), (ab_c ((fr24 76 rfl).trans (fr11 76 rfl)) a3_16)⟩, (ig4_c (fun c hc => ((fr24 c (nin_rg hc rfl)).trans (fr11 c (nin_rg hc rfl)))) H4), (ig5_c (fun c hc => ((fr24 c (nin_rg hc rfl)).trans (fr11 c (nin_rg hc rfl)))) H5), ⟨h21, h20, h23, (ab_c ((fr24 178 rfl).trans (fr11 178 rfl)) a6_3), (ab_c ((fr24 179 rfl).trans (fr11 179 rfl)) a6_4)⟩, h19, h22, (bd_r ((fc25 12 (Nat.ne_of_beq_eq_false rfl) (Nat.ne_of_beq_eq_false rfl) (Nat.ne_of_beq_eq_false rfl) (Nat.ne_of_beq_eq_false rfl) (Nat.ne_of_beq_eq_false rfl) (Nat.ne_of_beq_eq_false rfl) (Nat.ne_of_beq_eq_false rfl) (Nat.ne_of_beq_eq_false rfl) (Nat.ne_of_beq_eq_false rfl) (Nat.ne_of_beq_eq_false rfl)).trans (congrFun (fr11 162 rfl) 12)) f2), (bd_r ((fc25 17 (Nat.ne_of_beq_eq_false rfl) (Nat.ne_of_beq_eq_false rfl) (Nat.ne_of_beq_eq_false rfl) (Nat.ne_of_beq_eq_false rfl) (Nat.ne_of_beq_eq_false rfl) (Nat.ne_of_beq_eq_false rfl) (Nat.ne_of_beq_eq_false rfl) (Nat.ne_of_beq_eq_false rfl) (Nat.ne_of_beq_eq_false rfl) (Nat.ne_of_beq_eq_false rfl)).trans (congrFun (fr11 162 rfl) 17)) f3)⟩, (rly_2 (fun c hc => ((fr24 c (nin_y2 hc rfl)).trans (fr11 c (nin_y2 hc rfl)))) hR)⟩ hk (Nat.le_succ _) (Nat.le_succ _)
set_option maxHeartbeats 4000000 in
set_option maxRecDepth 100000 in
theorem law_15 {x : JX} {bb L k n : Nat} {xs : Nat → Int32} {i : Int32} {u : Nat → Nat → Int32} {g : Nat → Nat → Int64} {ex : List MC} (hq : LQ x bb) (hcon : x.2.2.2.2.2.2.2.2.2.2.2.2.2.2.1 0 = some (L, xs)) (hi : LI i L) (hI : INX u) (hk : k = 182 + ex.length) (hb : k + 1 ≤ 600000 ∧ n + 1 ≤ 7302250) (hd : 11 ≤ 11) (K : ∀ (u2 : Nat → Nat → Int32) (g2 : Nat → Nat → Int64) (ex2 : List MC) (k2 n2 : Nat), INX u2 → k2 = 182 + ex2.length → k2 ≤ k + 1 → n2 ≤ n + 1 → J x yL_law code 4 ret 11 600000 7302250 0 2255 [(3, .int i), (2, .ref 162), (1, .ref 0), (0, .retAddr 0)] [] (Wd u2 g2 ex2) k2 n2) : J x yL_law code 4 ret 11 600000 7302250 0 901 [(3, .int i), (2, .ref 162), (1, .ref 0), (0, .retAddr 0)] [] (Wd u g ex) k n := by
  obtain ⟨hI, hR⟩ := hI
  obtain ⟨H0, H1, H2, H3, H4, H5, H6, f0, f1, f2, f3⟩ := hI
  have X0 := H0
  obtain ⟨a0_0, a0_1, a0_2, a0_3, a0_4, a0_5, a0_6, a0_7, a0_8, a0_9, a0_10, a0_11, a0_12, a0_13, a0_14, a0_15⟩ := X0
  have X1 := H1
  obtain ⟨a1_0, a1_1, a1_2, a1_3, a1_4, a1_5, a1_6, a1_7, a1_8, a1_9, a1_10, a1_11, a1_12, a1_13, a1_14, a1_15, a1_16, a1_17, a1_18, a1_19, a1_20, a1_21, a1_22, a1_23, a1_24, a1_25, a1_26, a1_27, a1_28, a1_29, a1_30, a1_31, a1_32, a1_33, a1_34, a1_35, a1_36, a1_37, a1_38, a1_39, a1_40, a1_41, a1_42, a1_43, a1_44, a1_45, a1_46, a1_47⟩ := X1
  have X2 := H2
  obtain ⟨a2_0, a2_1, a2_2, a2_3, a2_4, a2_5⟩ := X2
  have X3 := H3
  obtain ⟨a3_0, a3_1, a3_2, a3_3, a3_4, a3_5, a3_6, a3_7, a3_8, a3_9, a3_10, a3_11, a3_12, a3_13, a3_14, a3_15, a3_16⟩ := X3
  have X4 := H4
  obtain ⟨a4_0, a4_1, a4_2, a4_3, a4_4, a4_5, a4_6⟩ := X4
  have X5 := H5
  obtain ⟨a5_0, a5_1⟩ := X5
  have X6 := H6
  obtain ⟨a6_0, a6_1, a6_2, a6_3, a6_4⟩ := X6
  refine J_aload_n (i := 1) (j := 2) dL_law_901 rfl rfl ?_
  refine J_aload_nC (i := 0) (j := 3) dL_law_902 rfl rfl ?_
  refine J_iload_n (i := 3) (j := 0) dL_law_903 rfl rfl ?_
  refine J_iconst (v := 1) dL_law_904 (by decide) ?_
  refine J_iadd dL_law_905 ?_
  refine J_cald (z := L) (f := xs) dL_law_906 hcon (li_in hi (by decide)) ?_
  refine J_aload_nC (i := 0) (j := 3) dL_law_907 rfl rfl ?_
  refine J_iload_n (i := 3) (j := 0) dL_law_908 rfl rfl ?_
  refine J_iconst (v := 2) dL_law_909 (by decide) ?_
  refine J_iadd dL_law_910 ?_
  refine J_cald (z := L) (f := xs) dL_law_911 hcon (li_in hi (by decide)) ?_
  refine J_aload_nC (i := 0) (j := 3) dL_law_912 rfl rfl ?_
  refine J_iload_n (i := 3) (j := 0) dL_law_913 rfl rfl ?_
  refine J_iconst (v := 3) dL_law_914 (by decide) ?_
  refine J_iadd dL_law_915 ?_
  refine J_cald (z := L) (f := xs) dL_law_916 hcon (li_in hi (by decide)) ?_
  refine J_callV (As := [.int (xs (i + 1).toNatClampNeg), .int (xs (i + 2).toNatClampNeg), .int (xs (i + 3).toNatClampNeg)]) (rest := []) dL_law_917 (c_P_mended (d := 6) (u := u) (g := g) (ex := ex) (hill := (xs (i + 1).toNatClampNeg)) (plan := (xs (i + 2).toNatClampNeg)) (ponds := (xs (i + 3).toNatClampNeg))  (by decide) a0_0 a0_5 a3_0 a3_1 a0_1 a0_2 a0_3 a0_4 a0_6 a0_7 a0_8 a3_2 a3_3 a0_9 a0_10 a0_11 a0_12 a0_13 a3_4 a3_7 a3_8 a3_9) hq.n k981 k982 k983 wc_0 rfl rfl k87 k984 np_X10_mended (Nat.le_trans (by decide) hd) (by decide) (lk1 hb) (ln1 hb) (wlk hk) rfl (Nat.le_of_ble_eq_true rfl) (fun r_ h_ p1 => ?_)
  obtain ⟨l2, u3, g4, rfl, rfl, h5, h6, h7, h8, h9, h10, fr11, fc12, fc13, fc14, fc15⟩ := p1
  refine J_pop2_2 dL_law_920 rfl ?_
  refine J_aload_n (i := 2) (j := 1) dL_law_921 rfl rfl ?_
  refine J_aload_nC (i := 0) (j := 3) dL_law_922 rfl rfl ?_
  refine J_iload_n (i := 3) (j := 0) dL_law_923 rfl rfl ?_
  refine J_iconst (v := 1) dL_law_924 (by decide) ?_
  refine J_iadd dL_law_925 ?_
  refine J_cald (z := L) (f := xs) dL_law_926 hcon (li_in hi (by decide)) ?_
  refine J_aload_nC (i := 0) (j := 3) dL_law_927 rfl rfl ?_
  refine J_iload_n (i := 3) (j := 0) dL_law_928 rfl rfl ?_
  refine J_iconst (v := 2) dL_law_929 (by decide) ?_
  refine J_iadd dL_law_930 ?_
  refine J_cald (z := L) (f := xs) dL_law_931 hcon (li_in hi (by decide)) ?_
  refine J_aload_nC (i := 0) (j := 3) dL_law_932 rfl rfl ?_
  refine J_iload_n (i := 3) (j := 0) dL_law_933 rfl rfl ?_
  refine J_iconst (v := 3) dL_law_934 (by decide) ?_
  refine J_iadd dL_law_935 ?_
  refine J_cald (z := L) (f := xs) dL_law_936 hcon (li_in hi (by decide)) ?_
  refine J_callV (As := [.int (xs (i + 1).toNatClampNeg), .int (xs (i + 2).toNatClampNeg), .int (xs (i + 3).toNatClampNeg)]) (rest := []) dL_law_937 (c_M_mended (d := 6) (u := u3) (g := g4) (ex := ex) (hill := (xs (i + 1).toNatClampNeg)) (plan := (xs (i + 2).toNatClampNeg)) (ponds := (xs (i + 3).toNatClampNeg))  (by decide) (my_c (fr11 167 rfl) a4_0) (ab_c (fr11 168 rfl) a4_1) (hd_c (fr11 168 rfl) a4_2) (hc_c (fr11 167 rfl) (fr11 168 rfl) a4_3) (pl_c (fr11 169 rfl) a4_4) (n0_c (fr11 172 rfl) a6_0) (dn_c (fr11 172 rfl) a6_1) (bd_r (congrFun (fr11 162 rfl) 22) f0) (bd_r (congrFun (fr11 162 rfl) 31) f1) (ab_c (fr11 177 rfl) a6_2)) hq.n k1646 k1647 k1648 wc_162 rfl rfl k97 k1649 np_X11_mended (Nat.le_trans (by decide) hd) (by decide) (lk1 hb) (ln1 hb) (wlk hk) rfl (Nat.le_of_ble_eq_true rfl) (fun r_ h_ p16 => ?_)
  obtain ⟨l17, u18, rfl, rfl, h19, h20, h21, h22, h23, fr24, fc25⟩ := p16
  refine J_pop2_2 dL_law_940 rfl ?_
  refine J_goto (tgt := 2255) dL_law_941 (by decide) ?_
  exact K u18 g4 ex k n ⟨⟨(ig0_c (fun c hc => ((fr24 c (nin_rg hc rfl)).trans (fr11 c (nin_rg hc rfl)))) H0), (ig1_c (fun c hc => ((fr24 c (nin_rg hc rfl)).trans (fr11 c (nin_rg hc rfl)))) H1), (ig2_c (fun c hc => ((fr24 c (nin_rg hc rfl)).trans (fr11 c (nin_rg hc rfl)))) H2), ⟨(bd_r (congrFun (fr24 44 rfl) 0) h5), (bd_r (congrFun (fr24 44 rfl) 2) h6), (bd_r ((congrFun (fr24 49 rfl) 0).trans (congrFun (fr11 49 rfl) 0)) a3_2), (ab_c (fr24 45 rfl) h7), (km_c ((fr24 50 rfl).trans (fr11 50 rfl)) ((fr24 52 rfl).trans (fr11 52 rfl)) a3_4), (bd_r ((congrFun (fr24 53 rfl) 0).trans (congrFun (fr11 53 rfl) 0)) a3_5), (bd_r ((congrFun (fr24 53 rfl) 1).trans (congrFun (fr11 53 rfl) 1)) a3_6), (bd_r (congrFun (fr24 61 rfl) 0) h8), (bd_r (congrFun (fr24 61 rfl) 2) h9), (ab_c (fr24 66 rfl) h10), (bd_r ((congrFun (fr24 70 rfl) 0).trans (congrFun (fr11 70 rfl) 0)) a3_10), (bd_r ((congrFun (fr24 70 rfl) 2).trans (congrFun (fr11 70 rfl) 2)) a3_11), (bd_r ((congrFun (fr24 79 rfl) 0).trans (congrFun (fr11 79 rfl) 0)) a3_12), (bd_r ((congrFun (fr24 79 rfl) 2).trans (congrFun (fr11 79 rfl) 2)) a3_13), (bd_r ((congrFun (fr24 56 rfl) 5).trans (congrFun (fr11 56 rfl) 5)) a3_14), (ab_c ((fr24 77 rfl).trans (fr11 77 rfl)) a3_15), (ab_c ((fr24 76 rfl).trans (fr11 76 rfl)) a3_16)⟩, (ig4_c (fun c hc => ((fr24 c (nin_rg hc rfl)).trans (fr11 c (nin_rg hc rfl)))) H4), (ig5_c (fun c hc => ((fr24 c (nin_rg hc rfl)).trans (fr11 c (nin_rg hc rfl)))) H5), ⟨h21, h20, h23, (ab_c ((fr24 178 rfl).trans (fr11 178 rfl)) a6_3), (ab_c ((fr24 179 rfl).trans (fr11 179 rfl)) a6_4)⟩, h19, h22, (bd_r ((fc25 12 (Nat.ne_of_beq_eq_false rfl) (Nat.ne_of_beq_eq_false rfl) (Nat.ne_of_beq_eq_false rfl) (Nat.ne_of_beq_eq_false rfl) (Nat.ne_of_beq_eq_false rfl) (Nat.ne_of_beq_eq_false rfl) (Nat.ne_of_beq_eq_false rfl) (Nat.ne_of_beq_eq_false rfl) (Nat.ne_of_beq_eq_false rfl) (Nat.ne_of_beq_eq_false rfl)).trans (congrFun (fr11 162 rfl) 12)) f2), (bd_r ((fc25 17 (Nat.ne_of_beq_eq_false rfl) (Nat.ne_of_beq_eq_false rfl) (Nat.ne_of_beq_eq_false rfl) (Nat.ne_of_beq_eq_false rfl) (Nat.ne_of_beq_eq_false rfl) (Nat.ne_of_beq_eq_false rfl) (Nat.ne_of_beq_eq_false rfl) (Nat.ne_of_beq_eq_false rfl) (Nat.ne_of_beq_eq_false rfl) (Nat.ne_of_beq_eq_false rfl)).trans (congrFun (fr11 162 rfl) 17)) f3)⟩, (rly_2 (fun c hc => ((fr24 c (nin_y2 hc rfl)).trans (fr11 c (nin_y2 hc rfl)))) hR)⟩ hk (Nat.le_succ _) (Nat.le_succ _)
set_option maxHeartbeats 4000000 in
set_option maxRecDepth 100000 in
theorem law_16 {x : JX} {bb L k n : Nat} {xs : Nat → Int32} {i : Int32} {u : Nat → Nat → Int32} {g : Nat → Nat → Int64} {ex : List MC} (hq : LQ x bb) (hcon : x.2.2.2.2.2.2.2.2.2.2.2.2.2.2.1 0 = some (L, xs)) (hi : LI i L) (hI : INX u) (hk : k = 182 + ex.length) (hb : k + 1 ≤ 600000 ∧ n + 1 ≤ 7302250) (hd : 11 ≤ 11) (K : ∀ (u2 : Nat → Nat → Int32) (g2 : Nat → Nat → Int64) (ex2 : List MC) (k2 n2 : Nat), INX u2 → k2 = 182 + ex2.length → k2 ≤ k + 1 → n2 ≤ n + 1 → J x yL_law code 4 ret 11 600000 7302250 0 2255 [(3, .int i), (2, .ref 162), (1, .ref 0), (0, .retAddr 0)] [] (Wd u2 g2 ex2) k2 n2) : J x yL_law code 4 ret 11 600000 7302250 0 944 [(3, .int i), (2, .ref 162), (1, .ref 0), (0, .retAddr 0)] [] (Wd u g ex) k n := by
  obtain ⟨hI, hR⟩ := hI
  obtain ⟨H0, H1, H2, H3, H4, H5, H6, f0, f1, f2, f3⟩ := hI
  have X0 := H0
  obtain ⟨a0_0, a0_1, a0_2, a0_3, a0_4, a0_5, a0_6, a0_7, a0_8, a0_9, a0_10, a0_11, a0_12, a0_13, a0_14, a0_15⟩ := X0
  have X1 := H1
  obtain ⟨a1_0, a1_1, a1_2, a1_3, a1_4, a1_5, a1_6, a1_7, a1_8, a1_9, a1_10, a1_11, a1_12, a1_13, a1_14, a1_15, a1_16, a1_17, a1_18, a1_19, a1_20, a1_21, a1_22, a1_23, a1_24, a1_25, a1_26, a1_27, a1_28, a1_29, a1_30, a1_31, a1_32, a1_33, a1_34, a1_35, a1_36, a1_37, a1_38, a1_39, a1_40, a1_41, a1_42, a1_43, a1_44, a1_45, a1_46, a1_47⟩ := X1
  have X2 := H2
  obtain ⟨a2_0, a2_1, a2_2, a2_3, a2_4, a2_5⟩ := X2
  have X3 := H3
  obtain ⟨a3_0, a3_1, a3_2, a3_3, a3_4, a3_5, a3_6, a3_7, a3_8, a3_9, a3_10, a3_11, a3_12, a3_13, a3_14, a3_15, a3_16⟩ := X3
  have X4 := H4
  obtain ⟨a4_0, a4_1, a4_2, a4_3, a4_4, a4_5, a4_6⟩ := X4
  have X5 := H5
  obtain ⟨a5_0, a5_1⟩ := X5
  have X6 := H6
  obtain ⟨a6_0, a6_1, a6_2, a6_3, a6_4⟩ := X6
  refine J_aload_n (i := 1) (j := 2) dL_law_944 rfl rfl ?_
  refine J_aload_nC (i := 0) (j := 3) dL_law_945 rfl rfl ?_
  refine J_iload_n (i := 3) (j := 0) dL_law_946 rfl rfl ?_
  refine J_iconst (v := 1) dL_law_947 (by decide) ?_
  refine J_iadd dL_law_948 ?_
  refine J_cald (z := L) (f := xs) dL_law_949 hcon (li_in hi (by decide)) ?_
  refine J_aload_nC (i := 0) (j := 3) dL_law_950 rfl rfl ?_
  refine J_iload_n (i := 3) (j := 0) dL_law_951 rfl rfl ?_
  refine J_iconst (v := 2) dL_law_952 (by decide) ?_
  refine J_iadd dL_law_953 ?_
  refine J_cald (z := L) (f := xs) dL_law_954 hcon (li_in hi (by decide)) ?_
  refine J_aload_nC (i := 0) (j := 3) dL_law_955 rfl rfl ?_
  refine J_iload_n (i := 3) (j := 0) dL_law_956 rfl rfl ?_
  refine J_iconst (v := 3) dL_law_957 (by decide) ?_
  refine J_iadd dL_law_958 ?_
  refine J_cald (z := L) (f := xs) dL_law_959 hcon (li_in hi (by decide)) ?_
  have jn3 : ∀ (w2 : Int32), Bd 0 1 w2 → J x yL_law code 4 ret 11 600000 7302250 0 968 [(0, .retAddr 0), (1, .ref 0), (2, .ref 162), (3, .int i)] [.int w2, .int (xs (i + 2).toNatClampNeg), .int (xs (i + 1).toNatClampNeg), .ref 0] (Wd u g ex) k n := by
    intro w2 bw2
    refine J_callV (As := [.int (xs (i + 1).toNatClampNeg), .int (xs (i + 2).toNatClampNeg), .int w2]) (rest := []) dL_law_968 (c_P_one (d := 6) (u := u) (g := g) (ex := ex) (hill := (xs (i + 1).toNatClampNeg)) (plan := (xs (i + 2).toNatClampNeg)) (much := w2)  (by decide) a0_0 a0_5 a3_0 a3_1 a0_1 a0_2 a0_3 a0_4 a0_6 a0_7 a0_8 a3_2 a3_3 a0_9 a0_10 a0_11 a0_12 a0_13 a3_4 a3_7 a3_8 a3_9) hq.n k986 k987 k988 wc_0 rfl rfl k87 k989 np_X10_one (Nat.le_trans (by decide) hd) (by decide) (lk1 hb) (ln1 hb) (wlk hk) rfl (Nat.le_of_ble_eq_true rfl) (fun r_ h_ p4 => ?_)
    obtain ⟨l5, u6, g7, rfl, rfl, h8, h9, h10, h11, h12, h13, fr14, fc15, fc16, fc17, fc18, fc19⟩ := p4
    refine J_pop2_2 dL_law_971 rfl ?_
    refine J_aload_n (i := 2) (j := 2) dL_law_972 rfl rfl ?_
    refine J_aload_nC (i := 0) (j := 0) dL_law_973 rfl rfl ?_
    refine J_iload_n (i := 3) (j := 3) dL_law_974 rfl rfl ?_
    refine J_iconst (v := 1) dL_law_975 (by decide) ?_
    refine J_iadd dL_law_976 ?_
    refine J_cald (z := L) (f := xs) dL_law_977 hcon (li_in hi (by decide)) ?_
    refine J_aload_nC (i := 0) (j := 0) dL_law_978 rfl rfl ?_
    refine J_iload_n (i := 3) (j := 3) dL_law_979 rfl rfl ?_
    refine J_iconst (v := 2) dL_law_980 (by decide) ?_
    refine J_iadd dL_law_981 ?_
    refine J_cald (z := L) (f := xs) dL_law_982 hcon (li_in hi (by decide)) ?_
    refine J_aload_nC (i := 0) (j := 0) dL_law_983 rfl rfl ?_
    refine J_iload_n (i := 3) (j := 3) dL_law_984 rfl rfl ?_
    refine J_iconst (v := 3) dL_law_985 (by decide) ?_
    refine J_iadd dL_law_986 ?_
    refine J_cald (z := L) (f := xs) dL_law_987 hcon (li_in hi (by decide)) ?_
    have jn22 : ∀ (w21 : Int32), Bd 0 1 w21 → J x yL_law code 4 ret 11 600000 7302250 0 996 [(0, .retAddr 0), (1, .ref 0), (2, .ref 162), (3, .int i)] [.int w21, .int (xs (i + 2).toNatClampNeg), .int (xs (i + 1).toNatClampNeg), .ref 162] (Wd u6 g7 ex) k n := by
      intro w21 bw21
      refine J_callV (As := [.int (xs (i + 1).toNatClampNeg), .int (xs (i + 2).toNatClampNeg), .int w21]) (rest := []) dL_law_996 (c_M_one (d := 5) (u := u6) (g := g7) (ex := ex) (hill := (xs (i + 1).toNatClampNeg)) (plan := (xs (i + 2).toNatClampNeg)) (much := w21)  (by decide) (my_c (fr14 167 rfl) a4_0) (ab_c (fr14 168 rfl) a4_1) (hd_c (fr14 168 rfl) a4_2) (hc_c (fr14 167 rfl) (fr14 168 rfl) a4_3) (pl_c (fr14 169 rfl) a4_4) (n0_c (fr14 172 rfl) a6_0) (dn_c (fr14 172 rfl) a6_1) (bd_r (congrFun (fr14 162 rfl) 22) f0) (bd_r (congrFun (fr14 162 rfl) 31) f1) (ab_c (fr14 177 rfl) a6_2)) hq.n k1650 k1651 k1652 wc_162 rfl rfl k97 k1653 np_X11_one (Nat.le_trans (by decide) hd) (by decide) (lk1 hb) (ln1 hb) (wlk hk) rfl (Nat.le_of_ble_eq_true rfl) (fun r_ h_ p23 => ?_)
      obtain ⟨l24, u25, rfl, rfl, h26, h27, h28, h29, fr30, fc31⟩ := p23
      refine J_pop2_2 dL_law_999 rfl ?_
      refine J_goto (tgt := 2255) dL_law_1000 (by decide) ?_
      refine J_lv [3, 2, 1, 0] rfl ?_
      exact K u25 g7 ex k n ⟨⟨(ig0_c (fun c hc => ((fr30 c (nin_rg hc rfl)).trans (fr14 c (nin_rg hc rfl)))) H0), (ig1_c (fun c hc => ((fr30 c (nin_rg hc rfl)).trans (fr14 c (nin_rg hc rfl)))) H1), (ig2_c (fun c hc => ((fr30 c (nin_rg hc rfl)).trans (fr14 c (nin_rg hc rfl)))) H2), ⟨(bd_r (congrFun (fr30 44 rfl) 0) h8), (bd_r (congrFun (fr30 44 rfl) 2) h9), (bd_r ((congrFun (fr30 49 rfl) 0).trans (congrFun (fr14 49 rfl) 0)) a3_2), (ab_c (fr30 45 rfl) h10), (km_c ((fr30 50 rfl).trans (fr14 50 rfl)) ((fr30 52 rfl).trans (fr14 52 rfl)) a3_4), (bd_r ((congrFun (fr30 53 rfl) 0).trans (congrFun (fr14 53 rfl) 0)) a3_5), (bd_r ((congrFun (fr30 53 rfl) 1).trans (congrFun (fr14 53 rfl) 1)) a3_6), (bd_r (congrFun (fr30 61 rfl) 0) h11), (bd_r (congrFun (fr30 61 rfl) 2) h12), (ab_c (fr30 66 rfl) h13), (bd_r ((congrFun (fr30 70 rfl) 0).trans (congrFun (fr14 70 rfl) 0)) a3_10), (bd_r ((congrFun (fr30 70 rfl) 2).trans (congrFun (fr14 70 rfl) 2)) a3_11), (bd_r ((congrFun (fr30 79 rfl) 0).trans (congrFun (fr14 79 rfl) 0)) a3_12), (bd_r ((congrFun (fr30 79 rfl) 2).trans (congrFun (fr14 79 rfl) 2)) a3_13), (bd_r ((congrFun (fr30 56 rfl) 5).trans (fc17 5 (Nat.ne_of_beq_eq_false rfl))) a3_14), (ab_c ((fr30 77 rfl).trans (fr14 77 rfl)) a3_15), (ab_c ((fr30 76 rfl).trans (fr14 76 rfl)) a3_16)⟩, (ig4_c (fun c hc => ((fr30 c (nin_rg hc rfl)).trans (fr14 c (nin_rg hc rfl)))) H4), (ig5_c (fun c hc => ((fr30 c (nin_rg hc rfl)).trans (fr14 c (nin_rg hc rfl)))) H5), ⟨h28, h27, (ab_c ((fr30 177 rfl).trans (fr14 177 rfl)) a6_2), (ab_c ((fr30 178 rfl).trans (fr14 178 rfl)) a6_3), (ab_c ((fr30 179 rfl).trans (fr14 179 rfl)) a6_4)⟩, h26, h29, (bd_r ((fc31 12 (Nat.ne_of_beq_eq_false rfl) (Nat.ne_of_beq_eq_false rfl) (Nat.ne_of_beq_eq_false rfl) (Nat.ne_of_beq_eq_false rfl) (Nat.ne_of_beq_eq_false rfl) (Nat.ne_of_beq_eq_false rfl) (Nat.ne_of_beq_eq_false rfl) (Nat.ne_of_beq_eq_false rfl) (Nat.ne_of_beq_eq_false rfl) (Nat.ne_of_beq_eq_false rfl)).trans (congrFun (fr14 162 rfl) 12)) f2), (bd_r ((fc31 17 (Nat.ne_of_beq_eq_false rfl) (Nat.ne_of_beq_eq_false rfl) (Nat.ne_of_beq_eq_false rfl) (Nat.ne_of_beq_eq_false rfl) (Nat.ne_of_beq_eq_false rfl) (Nat.ne_of_beq_eq_false rfl) (Nat.ne_of_beq_eq_false rfl) (Nat.ne_of_beq_eq_false rfl) (Nat.ne_of_beq_eq_false rfl) (Nat.ne_of_beq_eq_false rfl)).trans (congrFun (fr14 162 rfl) 17)) f3)⟩, (rly_2 (fun c hc => ((fr30 c (nin_y2 hc rfl)).trans (fr14 c (nin_y2 hc rfl)))) hR)⟩ hk (Nat.le_succ _) (Nat.le_succ _)
    refine J_if_eq (tgt := 995) dL_law_988 (by decide) (fun c20 => ?_) (fun c20 => ?_)
    · refine J_iconst (v := 0) dL_law_995 (by decide) ?_
      refine J_lv [0, 1, 2, 3] rfl ?_
      exact jn22 (0 : Int32) (bd_w (l := 0) (h := 1) (bd_c (v := 0) (lo := 0) (hi := 0) (by decide)) (by decide))
    · refine J_iconst (v := 1) dL_law_991 (by decide) ?_
      refine J_goto (tgt := 996) dL_law_992 (by decide) ?_
      refine J_lv [0, 1, 2, 3] rfl ?_
      exact jn22 (1 : Int32) (bd_w (l := 0) (h := 1) (bd_c (v := 1) (lo := 1) (hi := 1) (by decide)) (by decide))
  refine J_if_eq (tgt := 967) dL_law_960 (by decide) (fun c1 => ?_) (fun c1 => ?_)
  · refine J_iconst (v := 0) dL_law_967 (by decide) ?_
    refine J_lv [3, 2, 1, 0] rfl ?_
    exact jn3 (0 : Int32) (bd_w (l := 0) (h := 1) (bd_c (v := 0) (lo := 0) (hi := 0) (by decide)) (by decide))
  · refine J_iconst (v := 1) dL_law_963 (by decide) ?_
    refine J_goto (tgt := 968) dL_law_964 (by decide) ?_
    refine J_lv [3, 2, 1, 0] rfl ?_
    exact jn3 (1 : Int32) (bd_w (l := 0) (h := 1) (bd_c (v := 1) (lo := 1) (hi := 1) (by decide)) (by decide))
set_option maxHeartbeats 4000000 in
set_option maxRecDepth 100000 in
theorem law_17 {x : JX} {bb L k n : Nat} {xs : Nat → Int32} {i : Int32} {u : Nat → Nat → Int32} {g : Nat → Nat → Int64} {ex : List MC} (hq : LQ x bb) (hcon : x.2.2.2.2.2.2.2.2.2.2.2.2.2.2.1 0 = some (L, xs)) (hi : LI i L) (hI : INX u) (hk : k = 182 + ex.length) (hb : k + 1 ≤ 600000 ∧ n + 1 ≤ 7302250) (hd : 11 ≤ 11) (K : ∀ (u2 : Nat → Nat → Int32) (g2 : Nat → Nat → Int64) (ex2 : List MC) (k2 n2 : Nat), INX u2 → k2 = 182 + ex2.length → k2 ≤ k + 1 → n2 ≤ n + 1 → J x yL_law code 4 ret 11 600000 7302250 0 2255 [(3, .int i), (2, .ref 162), (1, .ref 0), (0, .retAddr 0)] [] (Wd u2 g2 ex2) k2 n2) : J x yL_law code 4 ret 11 600000 7302250 0 1003 [(3, .int i), (2, .ref 162), (1, .ref 0), (0, .retAddr 0)] [] (Wd u g ex) k n := by
  obtain ⟨hI, hR⟩ := hI
  obtain ⟨H0, H1, H2, H3, H4, H5, H6, f0, f1, f2, f3⟩ := hI
  have X0 := H0
  obtain ⟨a0_0, a0_1, a0_2, a0_3, a0_4, a0_5, a0_6, a0_7, a0_8, a0_9, a0_10, a0_11, a0_12, a0_13, a0_14, a0_15⟩ := X0
  have X1 := H1
  obtain ⟨a1_0, a1_1, a1_2, a1_3, a1_4, a1_5, a1_6, a1_7, a1_8, a1_9, a1_10, a1_11, a1_12, a1_13, a1_14, a1_15, a1_16, a1_17, a1_18, a1_19, a1_20, a1_21, a1_22, a1_23, a1_24, a1_25, a1_26, a1_27, a1_28, a1_29, a1_30, a1_31, a1_32, a1_33, a1_34, a1_35, a1_36, a1_37, a1_38, a1_39, a1_40, a1_41, a1_42, a1_43, a1_44, a1_45, a1_46, a1_47⟩ := X1
  have X2 := H2
  obtain ⟨a2_0, a2_1, a2_2, a2_3, a2_4, a2_5⟩ := X2
  have X3 := H3
  obtain ⟨a3_0, a3_1, a3_2, a3_3, a3_4, a3_5, a3_6, a3_7, a3_8, a3_9, a3_10, a3_11, a3_12, a3_13, a3_14, a3_15, a3_16⟩ := X3
  have X4 := H4
  obtain ⟨a4_0, a4_1, a4_2, a4_3, a4_4, a4_5, a4_6⟩ := X4
  have X5 := H5
  obtain ⟨a5_0, a5_1⟩ := X5
  have X6 := H6
  obtain ⟨a6_0, a6_1, a6_2, a6_3, a6_4⟩ := X6
  refine J_aload_n (i := 1) (j := 2) dL_law_1003 rfl rfl ?_
  refine J_aload_nC (i := 0) (j := 3) dL_law_1004 rfl rfl ?_
  refine J_iload_n (i := 3) (j := 0) dL_law_1005 rfl rfl ?_
  refine J_iconst (v := 1) dL_law_1006 (by decide) ?_
  refine J_iadd dL_law_1007 ?_
  refine J_cald (z := L) (f := xs) dL_law_1008 hcon (li_in hi (by decide)) ?_
  refine J_aload_nC (i := 0) (j := 3) dL_law_1009 rfl rfl ?_
  refine J_iload_n (i := 3) (j := 0) dL_law_1010 rfl rfl ?_
  refine J_iconst (v := 2) dL_law_1011 (by decide) ?_
  refine J_iadd dL_law_1012 ?_
  refine J_cald (z := L) (f := xs) dL_law_1013 hcon (li_in hi (by decide)) ?_
  refine J_aload_nC (i := 0) (j := 3) dL_law_1014 rfl rfl ?_
  refine J_iload_n (i := 3) (j := 0) dL_law_1015 rfl rfl ?_
  refine J_iconst (v := 3) dL_law_1016 (by decide) ?_
  refine J_iadd dL_law_1017 ?_
  refine J_cald (z := L) (f := xs) dL_law_1018 hcon (li_in hi (by decide)) ?_
  refine J_callV (As := [.int (xs (i + 1).toNatClampNeg), .int (xs (i + 2).toNatClampNeg), .int (xs (i + 3).toNatClampNeg)]) (rest := []) dL_law_1019 (c_P_low (d := 6) (u := u) (g := g) (ex := ex) (hill := (xs (i + 1).toNatClampNeg)) (plan := (xs (i + 2).toNatClampNeg)) (pond := (xs (i + 3).toNatClampNeg))  (by decide) a0_0 a0_5 a3_0 a3_1 a0_1 a0_2 a0_3 a0_4 a0_6 a0_7 a0_8 a3_2 a3_3 a0_9 a0_10 a0_11 a0_12 a0_13 a3_4 a3_7 a3_8 a3_9 a3_10 a3_11) hq.n k1001 k1002 k1003 wc_0 rfl rfl k87 k1004 np_X10_low (Nat.le_trans (by decide) hd) (by decide) (lk1 hb) (ln1 hb) (wlk hk) rfl (Nat.le_of_ble_eq_true rfl) (fun r_ h_ p1 => ?_)
  obtain ⟨v2, u3, g4, rfl, rfl, h5, h6, h7, h8, h9, h10, h11, h12, fr13, fc14, fc15, fc16, fc17, fc18⟩ := p1
  refine J_pop dL_law_1022 rfl ?_
  refine J_aload_n (i := 2) (j := 1) dL_law_1023 rfl rfl ?_
  refine J_aload_nC (i := 0) (j := 3) dL_law_1024 rfl rfl ?_
  refine J_iload_n (i := 3) (j := 0) dL_law_1025 rfl rfl ?_
  refine J_iconst (v := 1) dL_law_1026 (by decide) ?_
  refine J_iadd dL_law_1027 ?_
  refine J_cald (z := L) (f := xs) dL_law_1028 hcon (li_in hi (by decide)) ?_
  refine J_aload_nC (i := 0) (j := 3) dL_law_1029 rfl rfl ?_
  refine J_iload_n (i := 3) (j := 0) dL_law_1030 rfl rfl ?_
  refine J_iconst (v := 2) dL_law_1031 (by decide) ?_
  refine J_iadd dL_law_1032 ?_
  refine J_cald (z := L) (f := xs) dL_law_1033 hcon (li_in hi (by decide)) ?_
  refine J_aload_nC (i := 0) (j := 3) dL_law_1034 rfl rfl ?_
  refine J_iload_n (i := 3) (j := 0) dL_law_1035 rfl rfl ?_
  refine J_iconst (v := 3) dL_law_1036 (by decide) ?_
  refine J_iadd dL_law_1037 ?_
  refine J_cald (z := L) (f := xs) dL_law_1038 hcon (li_in hi (by decide)) ?_
  refine J_callV (As := [.int (xs (i + 1).toNatClampNeg), .int (xs (i + 2).toNatClampNeg), .int (xs (i + 3).toNatClampNeg)]) (rest := []) dL_law_1039 (c_M_low (d := 5) (u := u3) (g := g4) (ex := ex) (hill := (xs (i + 1).toNatClampNeg)) (plan := (xs (i + 2).toNatClampNeg)) (pond := (xs (i + 3).toNatClampNeg))  (by decide) (my_c (fr13 167 rfl) a4_0) (ab_c (fr13 168 rfl) a4_1) (hd_c (fr13 168 rfl) a4_2) (hc_c (fr13 167 rfl) (fr13 168 rfl) a4_3) (pl_c (fr13 169 rfl) a4_4) (n0_c (fr13 172 rfl) a6_0) (dn_c (fr13 172 rfl) a6_1) (bd_r (congrFun (fr13 162 rfl) 22) f0) (bd_r (congrFun (fr13 162 rfl) 31) f1) (ab_c (fr13 177 rfl) a6_2)) hq.n k1654 k1655 k1656 wc_162 rfl rfl k97 k1657 np_X11_low (Nat.le_trans (by decide) hd) (by decide) (lk1 hb) (ln1 hb) (wlk hk) rfl (Nat.le_of_ble_eq_true rfl) (fun r_ h_ p19 => ?_)
  obtain ⟨v20, u21, rfl, rfl, h22, h23, h24, h25, fr26, fc27⟩ := p19
  refine J_pop dL_law_1042 rfl ?_
  refine J_goto (tgt := 2255) dL_law_1043 (by decide) ?_
  exact K u21 g4 ex k n ⟨⟨(ig0_c (fun c hc => ((fr26 c (nin_rg hc rfl)).trans (fr13 c (nin_rg hc rfl)))) H0), (ig1_c (fun c hc => ((fr26 c (nin_rg hc rfl)).trans (fr13 c (nin_rg hc rfl)))) H1), (ig2_c (fun c hc => ((fr26 c (nin_rg hc rfl)).trans (fr13 c (nin_rg hc rfl)))) H2), ⟨(bd_r (congrFun (fr26 44 rfl) 0) h5), (bd_r (congrFun (fr26 44 rfl) 2) h6), (bd_r ((congrFun (fr26 49 rfl) 0).trans (congrFun (fr13 49 rfl) 0)) a3_2), (ab_c (fr26 45 rfl) h7), (km_c ((fr26 50 rfl).trans (fr13 50 rfl)) ((fr26 52 rfl).trans (fr13 52 rfl)) a3_4), (bd_r ((congrFun (fr26 53 rfl) 0).trans (congrFun (fr13 53 rfl) 0)) a3_5), (bd_r ((congrFun (fr26 53 rfl) 1).trans (congrFun (fr13 53 rfl) 1)) a3_6), (bd_r (congrFun (fr26 61 rfl) 0) h8), (bd_r (congrFun (fr26 61 rfl) 2) h9), (ab_c (fr26 66 rfl) h10), (bd_r (congrFun (fr26 70 rfl) 0) h11), (bd_r (congrFun (fr26 70 rfl) 2) h12), (bd_r ((congrFun (fr26 79 rfl) 0).trans (congrFun (fr13 79 rfl) 0)) a3_12), (bd_r ((congrFun (fr26 79 rfl) 2).trans (congrFun (fr13 79 rfl) 2)) a3_13), (bd_r ((congrFun (fr26 56 rfl) 5).trans (congrFun (fr13 56 rfl) 5)) a3_14), (ab_c ((fr26 77 rfl).trans (fr13 77 rfl)) a3_15), (ab_c ((fr26 76 rfl).trans (fr13 76 rfl)) a3_16)⟩, (ig4_c (fun c hc => ((fr26 c (nin_rg hc rfl)).trans (fr13 c (nin_rg hc rfl)))) H4), (ig5_c (fun c hc => ((fr26 c (nin_rg hc rfl)).trans (fr13 c (nin_rg hc rfl)))) H5), ⟨h24, h23, (ab_c ((fr26 177 rfl).trans (fr13 177 rfl)) a6_2), (ab_c ((fr26 178 rfl).trans (fr13 178 rfl)) a6_3), (ab_c ((fr26 179 rfl).trans (fr13 179 rfl)) a6_4)⟩, h22, h25, (bd_r ((fc27 12 (Nat.ne_of_beq_eq_false rfl) (Nat.ne_of_beq_eq_false rfl) (Nat.ne_of_beq_eq_false rfl) (Nat.ne_of_beq_eq_false rfl) (Nat.ne_of_beq_eq_false rfl) (Nat.ne_of_beq_eq_false rfl) (Nat.ne_of_beq_eq_false rfl) (Nat.ne_of_beq_eq_false rfl) (Nat.ne_of_beq_eq_false rfl) (Nat.ne_of_beq_eq_false rfl)).trans (congrFun (fr13 162 rfl) 12)) f2), (bd_r ((fc27 17 (Nat.ne_of_beq_eq_false rfl) (Nat.ne_of_beq_eq_false rfl) (Nat.ne_of_beq_eq_false rfl) (Nat.ne_of_beq_eq_false rfl) (Nat.ne_of_beq_eq_false rfl) (Nat.ne_of_beq_eq_false rfl) (Nat.ne_of_beq_eq_false rfl) (Nat.ne_of_beq_eq_false rfl) (Nat.ne_of_beq_eq_false rfl) (Nat.ne_of_beq_eq_false rfl)).trans (congrFun (fr13 162 rfl) 17)) f3)⟩, (rly_2 (fun c hc => ((fr26 c (nin_y2 hc rfl)).trans (fr13 c (nin_y2 hc rfl)))) hR)⟩ hk (Nat.le_succ _) (Nat.le_succ _)
set_option maxHeartbeats 4000000 in
set_option maxRecDepth 100000 in
theorem law_18 {x : JX} {bb L k n : Nat} {xs : Nat → Int32} {i : Int32} {u : Nat → Nat → Int32} {g : Nat → Nat → Int64} {ex : List MC} (hq : LQ x bb) (hcon : x.2.2.2.2.2.2.2.2.2.2.2.2.2.2.1 0 = some (L, xs)) (hi : LI i L) (hI : INX u) (hk : k = 182 + ex.length) (hb : k + 1 ≤ 600000 ∧ n + 1 ≤ 7302250) (hd : 11 ≤ 11) (K : ∀ (u2 : Nat → Nat → Int32) (g2 : Nat → Nat → Int64) (ex2 : List MC) (k2 n2 : Nat), INX u2 → k2 = 182 + ex2.length → k2 ≤ k + 1 → n2 ≤ n + 1 → J x yL_law code 4 ret 11 600000 7302250 0 2255 [(3, .int i), (2, .ref 162), (1, .ref 0), (0, .retAddr 0)] [] (Wd u2 g2 ex2) k2 n2) : J x yL_law code 4 ret 11 600000 7302250 0 1046 [(3, .int i), (2, .ref 162), (1, .ref 0), (0, .retAddr 0)] [] (Wd u g ex) k n := by
  obtain ⟨hI, hR⟩ := hI
  obtain ⟨H0, H1, H2, H3, H4, H5, H6, f0, f1, f2, f3⟩ := hI
  have X0 := H0
  obtain ⟨a0_0, a0_1, a0_2, a0_3, a0_4, a0_5, a0_6, a0_7, a0_8, a0_9, a0_10, a0_11, a0_12, a0_13, a0_14, a0_15⟩ := X0
  have X1 := H1
  obtain ⟨a1_0, a1_1, a1_2, a1_3, a1_4, a1_5, a1_6, a1_7, a1_8, a1_9, a1_10, a1_11, a1_12, a1_13, a1_14, a1_15, a1_16, a1_17, a1_18, a1_19, a1_20, a1_21, a1_22, a1_23, a1_24, a1_25, a1_26, a1_27, a1_28, a1_29, a1_30, a1_31, a1_32, a1_33, a1_34, a1_35, a1_36, a1_37, a1_38, a1_39, a1_40, a1_41, a1_42, a1_43, a1_44, a1_45, a1_46, a1_47⟩ := X1
  have X2 := H2
  obtain ⟨a2_0, a2_1, a2_2, a2_3, a2_4, a2_5⟩ := X2
  have X3 := H3
  obtain ⟨a3_0, a3_1, a3_2, a3_3, a3_4, a3_5, a3_6, a3_7, a3_8, a3_9, a3_10, a3_11, a3_12, a3_13, a3_14, a3_15, a3_16⟩ := X3
  have X4 := H4
  obtain ⟨a4_0, a4_1, a4_2, a4_3, a4_4, a4_5, a4_6⟩ := X4
  have X5 := H5
  obtain ⟨a5_0, a5_1⟩ := X5
  have X6 := H6
  obtain ⟨a6_0, a6_1, a6_2, a6_3, a6_4⟩ := X6
  refine J_aload_n (i := 1) (j := 2) dL_law_1046 rfl rfl ?_
  refine J_aload_nC (i := 0) (j := 3) dL_law_1047 rfl rfl ?_
  refine J_iload_n (i := 3) (j := 0) dL_law_1048 rfl rfl ?_
  refine J_iconst (v := 1) dL_law_1049 (by decide) ?_
  refine J_iadd dL_law_1050 ?_
  refine J_cald (z := L) (f := xs) dL_law_1051 hcon (li_in hi (by decide)) ?_
  refine J_aload_nC (i := 0) (j := 3) dL_law_1052 rfl rfl ?_
  refine J_iload_n (i := 3) (j := 0) dL_law_1053 rfl rfl ?_
  refine J_iconst (v := 2) dL_law_1054 (by decide) ?_
  refine J_iadd dL_law_1055 ?_
  refine J_cald (z := L) (f := xs) dL_law_1056 hcon (li_in hi (by decide)) ?_
  refine J_aload_nC (i := 0) (j := 3) dL_law_1057 rfl rfl ?_
  refine J_iload_n (i := 3) (j := 0) dL_law_1058 rfl rfl ?_
  refine J_iconst (v := 3) dL_law_1059 (by decide) ?_
  refine J_iadd dL_law_1060 ?_
  refine J_cald (z := L) (f := xs) dL_law_1061 hcon (li_in hi (by decide)) ?_
  refine J_aload_nC (i := 0) (j := 3) dL_law_1062 rfl rfl ?_
  refine J_iload_n (i := 3) (j := 0) dL_law_1063 rfl rfl ?_
  refine J_iconst (v := 4) dL_law_1064 (by decide) ?_
  refine J_iadd dL_law_1065 ?_
  refine J_cald (z := L) (f := xs) dL_law_1066 hcon (li_in hi (by decide)) ?_
  refine J_callV (As := [.int (xs (i + 1).toNatClampNeg), .int (xs (i + 2).toNatClampNeg), .int (xs (i + 3).toNatClampNeg), .int (xs (i + 4).toNatClampNeg)]) (rest := []) dL_law_1067 (c_P_helps (d := 6) (u := u) (g := g) (ex := ex) (hill := (xs (i + 1).toNatClampNeg)) (plan := (xs (i + 2).toNatClampNeg)) (owner := (xs (i + 3).toNatClampNeg)) (other := (xs (i + 4).toNatClampNeg))  (by decide) a0_0 a0_5 a3_0 a3_1 a0_1 a0_2 a0_3 a0_4 a0_6 a0_7 a0_8 a3_2 a3_3 a0_9 a0_10 a0_11 a0_12 a0_13 a3_4 a3_7 a3_8 a3_9) hq.n k1016 k1017 k1018 wc_0 rfl rfl k87 k1019 np_X10_helps (Nat.le_trans (by decide) hd) (by decide) (lk1 hb) (ln1 hb) (wlk hk) rfl (Nat.le_of_ble_eq_true rfl) (fun r_ h_ p1 => ?_)
  obtain ⟨l2, u3, g4, rfl, rfl, h5, h6, h7, h8, h9, h10, fr11, fc12, fc13, fc14, fc15⟩ := p1
  refine J_pop2_2 dL_law_1070 rfl ?_
  refine J_aload_n (i := 2) (j := 1) dL_law_1071 rfl rfl ?_
  refine J_aload_nC (i := 0) (j := 3) dL_law_1072 rfl rfl ?_
  refine J_iload_n (i := 3) (j := 0) dL_law_1073 rfl rfl ?_
  refine J_iconst (v := 1) dL_law_1074 (by decide) ?_
  refine J_iadd dL_law_1075 ?_
  refine J_cald (z := L) (f := xs) dL_law_1076 hcon (li_in hi (by decide)) ?_
  refine J_aload_nC (i := 0) (j := 3) dL_law_1077 rfl rfl ?_
  refine J_iload_n (i := 3) (j := 0) dL_law_1078 rfl rfl ?_
  refine J_iconst (v := 2) dL_law_1079 (by decide) ?_
  refine J_iadd dL_law_1080 ?_
  refine J_cald (z := L) (f := xs) dL_law_1081 hcon (li_in hi (by decide)) ?_
  refine J_aload_nC (i := 0) (j := 3) dL_law_1082 rfl rfl ?_
  refine J_iload_n (i := 3) (j := 0) dL_law_1083 rfl rfl ?_
  refine J_iconst (v := 3) dL_law_1084 (by decide) ?_
  refine J_iadd dL_law_1085 ?_
  refine J_cald (z := L) (f := xs) dL_law_1086 hcon (li_in hi (by decide)) ?_
  refine J_aload_nC (i := 0) (j := 3) dL_law_1087 rfl rfl ?_
  refine J_iload_n (i := 3) (j := 0) dL_law_1088 rfl rfl ?_
  refine J_iconst (v := 4) dL_law_1089 (by decide) ?_
  refine J_iadd dL_law_1090 ?_
  refine J_cald (z := L) (f := xs) dL_law_1091 hcon (li_in hi (by decide)) ?_
  refine J_callV (As := [.int (xs (i + 1).toNatClampNeg), .int (xs (i + 2).toNatClampNeg), .int (xs (i + 3).toNatClampNeg), .int (xs (i + 4).toNatClampNeg)]) (rest := []) dL_law_1092 (c_M_helps (d := 6) (u := u3) (g := g4) (ex := ex) (hill := (xs (i + 1).toNatClampNeg)) (plan := (xs (i + 2).toNatClampNeg)) (owner := (xs (i + 3).toNatClampNeg)) (other := (xs (i + 4).toNatClampNeg))  (by decide) (my_c (fr11 167 rfl) a4_0) (ab_c (fr11 168 rfl) a4_1) (hd_c (fr11 168 rfl) a4_2) (hc_c (fr11 167 rfl) (fr11 168 rfl) a4_3) (pl_c (fr11 169 rfl) a4_4) (n0_c (fr11 172 rfl) a6_0) (dn_c (fr11 172 rfl) a6_1) (bd_r (congrFun (fr11 162 rfl) 22) f0) (bd_r (congrFun (fr11 162 rfl) 31) f1) (ab_c (fr11 177 rfl) a6_2)) hq.n k1658 k1659 k1660 wc_162 rfl rfl k97 k1661 np_X11_helps (Nat.le_trans (by decide) hd) (by decide) (lk1 hb) (ln1 hb) (wlk hk) rfl (Nat.le_of_ble_eq_true rfl) (fun r_ h_ p16 => ?_)
  obtain ⟨l17, u18, rfl, rfl, h19, h20, h21, h22, h23, fr24, fc25⟩ := p16
  refine J_pop2_2 dL_law_1095 rfl ?_
  refine J_goto (tgt := 2255) dL_law_1096 (by decide) ?_
  exact K u18 g4 ex k n ⟨⟨(ig0_c (fun c hc => ((fr24 c (nin_rg hc rfl)).trans (fr11 c (nin_rg hc rfl)))) H0), (ig1_c (fun c hc => ((fr24 c (nin_rg hc rfl)).trans (fr11 c (nin_rg hc rfl)))) H1), (ig2_c (fun c hc => ((fr24 c (nin_rg hc rfl)).trans (fr11 c (nin_rg hc rfl)))) H2), ⟨(bd_r (congrFun (fr24 44 rfl) 0) h5), (bd_r (congrFun (fr24 44 rfl) 2) h6), (bd_r ((congrFun (fr24 49 rfl) 0).trans (congrFun (fr11 49 rfl) 0)) a3_2), (ab_c (fr24 45 rfl) h7), (km_c ((fr24 50 rfl).trans (fr11 50 rfl)) ((fr24 52 rfl).trans (fr11 52 rfl)) a3_4), (bd_r ((congrFun (fr24 53 rfl) 0).trans (congrFun (fr11 53 rfl) 0)) a3_5), (bd_r ((congrFun (fr24 53 rfl) 1).trans (congrFun (fr11 53 rfl) 1)) a3_6), (bd_r (congrFun (fr24 61 rfl) 0) h8), (bd_r (congrFun (fr24 61 rfl) 2) h9), (ab_c (fr24 66 rfl) h10), (bd_r ((congrFun (fr24 70 rfl) 0).trans (congrFun (fr11 70 rfl) 0)) a3_10), (bd_r ((congrFun (fr24 70 rfl) 2).trans (congrFun (fr11 70 rfl) 2)) a3_11), (bd_r ((congrFun (fr24 79 rfl) 0).trans (congrFun (fr11 79 rfl) 0)) a3_12), (bd_r ((congrFun (fr24 79 rfl) 2).trans (congrFun (fr11 79 rfl) 2)) a3_13), (bd_r ((congrFun (fr24 56 rfl) 5).trans (congrFun (fr11 56 rfl) 5)) a3_14), (ab_c ((fr24 77 rfl).trans (fr11 77 rfl)) a3_15), (ab_c ((fr24 76 rfl).trans (fr11 76 rfl)) a3_16)⟩, (ig4_c (fun c hc => ((fr24 c (nin_rg hc rfl)).trans (fr11 c (nin_rg hc rfl)))) H4), (ig5_c (fun c hc => ((fr24 c (nin_rg hc rfl)).trans (fr11 c (nin_rg hc rfl)))) H5), ⟨h21, h20, h23, (ab_c ((fr24 178 rfl).trans (fr11 178 rfl)) a6_3), (ab_c ((fr24 179 rfl).trans (fr11 179 rfl)) a6_4)⟩, h19, h22, (bd_r ((fc25 12 (Nat.ne_of_beq_eq_false rfl) (Nat.ne_of_beq_eq_false rfl) (Nat.ne_of_beq_eq_false rfl) (Nat.ne_of_beq_eq_false rfl) (Nat.ne_of_beq_eq_false rfl) (Nat.ne_of_beq_eq_false rfl) (Nat.ne_of_beq_eq_false rfl) (Nat.ne_of_beq_eq_false rfl) (Nat.ne_of_beq_eq_false rfl) (Nat.ne_of_beq_eq_false rfl)).trans (congrFun (fr11 162 rfl) 12)) f2), (bd_r ((fc25 17 (Nat.ne_of_beq_eq_false rfl) (Nat.ne_of_beq_eq_false rfl) (Nat.ne_of_beq_eq_false rfl) (Nat.ne_of_beq_eq_false rfl) (Nat.ne_of_beq_eq_false rfl) (Nat.ne_of_beq_eq_false rfl) (Nat.ne_of_beq_eq_false rfl) (Nat.ne_of_beq_eq_false rfl) (Nat.ne_of_beq_eq_false rfl) (Nat.ne_of_beq_eq_false rfl)).trans (congrFun (fr11 162 rfl) 17)) f3)⟩, (rly_2 (fun c hc => ((fr24 c (nin_y2 hc rfl)).trans (fr11 c (nin_y2 hc rfl)))) hR)⟩ hk (Nat.le_succ _) (Nat.le_succ _)
set_option maxHeartbeats 4000000 in
set_option maxRecDepth 100000 in
theorem law_19 {x : JX} {bb L k n : Nat} {xs : Nat → Int32} {i : Int32} {u : Nat → Nat → Int32} {g : Nat → Nat → Int64} {ex : List MC} (hq : LQ x bb) (hcon : x.2.2.2.2.2.2.2.2.2.2.2.2.2.2.1 0 = some (L, xs)) (hi : LI i L) (hI : INX u) (hk : k = 182 + ex.length) (hb : k + 1 ≤ 600000 ∧ n + 1 ≤ 7302250) (hd : 11 ≤ 11) (K : ∀ (u2 : Nat → Nat → Int32) (g2 : Nat → Nat → Int64) (ex2 : List MC) (k2 n2 : Nat), INX u2 → k2 = 182 + ex2.length → k2 ≤ k + 1 → n2 ≤ n + 1 → J x yL_law code 4 ret 11 600000 7302250 0 2255 [(3, .int i), (2, .ref 162), (1, .ref 0), (0, .retAddr 0)] [] (Wd u2 g2 ex2) k2 n2) : J x yL_law code 4 ret 11 600000 7302250 0 1099 [(3, .int i), (2, .ref 162), (1, .ref 0), (0, .retAddr 0)] [] (Wd u g ex) k n := by
  obtain ⟨hI, hR⟩ := hI
  obtain ⟨H0, H1, H2, H3, H4, H5, H6, f0, f1, f2, f3⟩ := hI
  have X0 := H0
  obtain ⟨a0_0, a0_1, a0_2, a0_3, a0_4, a0_5, a0_6, a0_7, a0_8, a0_9, a0_10, a0_11, a0_12, a0_13, a0_14, a0_15⟩ := X0
  have X1 := H1
  obtain ⟨a1_0, a1_1, a1_2, a1_3, a1_4, a1_5, a1_6, a1_7, a1_8, a1_9, a1_10, a1_11, a1_12, a1_13, a1_14, a1_15, a1_16, a1_17, a1_18, a1_19, a1_20, a1_21, a1_22, a1_23, a1_24, a1_25, a1_26, a1_27, a1_28, a1_29, a1_30, a1_31, a1_32, a1_33, a1_34, a1_35, a1_36, a1_37, a1_38, a1_39, a1_40, a1_41, a1_42, a1_43, a1_44, a1_45, a1_46, a1_47⟩ := X1
  have X2 := H2
  obtain ⟨a2_0, a2_1, a2_2, a2_3, a2_4, a2_5⟩ := X2
  have X3 := H3
  obtain ⟨a3_0, a3_1, a3_2, a3_3, a3_4, a3_5, a3_6, a3_7, a3_8, a3_9, a3_10, a3_11, a3_12, a3_13, a3_14, a3_15, a3_16⟩ := X3
  have X4 := H4
  obtain ⟨a4_0, a4_1, a4_2, a4_3, a4_4, a4_5, a4_6⟩ := X4
  have X5 := H5
  obtain ⟨a5_0, a5_1⟩ := X5
  have X6 := H6
  obtain ⟨a6_0, a6_1, a6_2, a6_3, a6_4⟩ := X6
  refine J_aload_n (i := 1) (j := 2) dL_law_1099 rfl rfl ?_
  refine J_aload_nC (i := 0) (j := 3) dL_law_1100 rfl rfl ?_
  refine J_iload_n (i := 3) (j := 0) dL_law_1101 rfl rfl ?_
  refine J_iconst (v := 1) dL_law_1102 (by decide) ?_
  refine J_iadd dL_law_1103 ?_
  refine J_cald (z := L) (f := xs) dL_law_1104 hcon (li_in hi (by decide)) ?_
  refine J_aload_nC (i := 0) (j := 3) dL_law_1105 rfl rfl ?_
  refine J_iload_n (i := 3) (j := 0) dL_law_1106 rfl rfl ?_
  refine J_iconst (v := 2) dL_law_1107 (by decide) ?_
  refine J_iadd dL_law_1108 ?_
  refine J_cald (z := L) (f := xs) dL_law_1109 hcon (li_in hi (by decide)) ?_
  refine J_aload_nC (i := 0) (j := 3) dL_law_1110 rfl rfl ?_
  refine J_iload_n (i := 3) (j := 0) dL_law_1111 rfl rfl ?_
  refine J_iconst (v := 3) dL_law_1112 (by decide) ?_
  refine J_iadd dL_law_1113 ?_
  refine J_cald (z := L) (f := xs) dL_law_1114 hcon (li_in hi (by decide)) ?_
  refine J_callV (As := [.int (xs (i + 1).toNatClampNeg), .int (xs (i + 2).toNatClampNeg), .int (xs (i + 3).toNatClampNeg)]) (rest := []) dL_law_1115 (c_P_alone (d := 6) (u := u) (g := g) (ex := ex) (hill := (xs (i + 1).toNatClampNeg)) (plan := (xs (i + 2).toNatClampNeg)) (owner := (xs (i + 3).toNatClampNeg))  (by decide) a0_0 a0_5 a3_0 a3_1 a0_1 a0_2 a0_3 a0_4 a0_6 a0_7 a0_8 a3_2 a3_3 a0_9 a0_10 a0_11 a0_12 a0_13 a3_4 a3_7 a3_8 a3_9) hq.n k1020 k1021 k1022 wc_0 rfl rfl k87 k1023 np_X10_alone (Nat.le_trans (by decide) hd) (by decide) (lk1 hb) (ln1 hb) (wlk hk) rfl (Nat.le_of_ble_eq_true rfl) (fun r_ h_ p1 => ?_)
  obtain ⟨l2, u3, g4, rfl, rfl, h5, h6, h7, h8, h9, h10, fr11, fc12, fc13, fc14, fc15⟩ := p1
  refine J_pop2_2 dL_law_1118 rfl ?_
  refine J_aload_n (i := 2) (j := 1) dL_law_1119 rfl rfl ?_
  refine J_aload_nC (i := 0) (j := 3) dL_law_1120 rfl rfl ?_
  refine J_iload_n (i := 3) (j := 0) dL_law_1121 rfl rfl ?_
  refine J_iconst (v := 1) dL_law_1122 (by decide) ?_
  refine J_iadd dL_law_1123 ?_
  refine J_cald (z := L) (f := xs) dL_law_1124 hcon (li_in hi (by decide)) ?_
  refine J_aload_nC (i := 0) (j := 3) dL_law_1125 rfl rfl ?_
  refine J_iload_n (i := 3) (j := 0) dL_law_1126 rfl rfl ?_
  refine J_iconst (v := 2) dL_law_1127 (by decide) ?_
  refine J_iadd dL_law_1128 ?_
  refine J_cald (z := L) (f := xs) dL_law_1129 hcon (li_in hi (by decide)) ?_
  refine J_aload_nC (i := 0) (j := 3) dL_law_1130 rfl rfl ?_
  refine J_iload_n (i := 3) (j := 0) dL_law_1131 rfl rfl ?_
  refine J_iconst (v := 3) dL_law_1132 (by decide) ?_
  refine J_iadd dL_law_1133 ?_
  refine J_cald (z := L) (f := xs) dL_law_1134 hcon (li_in hi (by decide)) ?_
  refine J_callV (As := [.int (xs (i + 1).toNatClampNeg), .int (xs (i + 2).toNatClampNeg), .int (xs (i + 3).toNatClampNeg)]) (rest := []) dL_law_1135 (c_M_alone (d := 6) (u := u3) (g := g4) (ex := ex) (hill := (xs (i + 1).toNatClampNeg)) (plan := (xs (i + 2).toNatClampNeg)) (owner := (xs (i + 3).toNatClampNeg))  (by decide) (my_c (fr11 167 rfl) a4_0) (ab_c (fr11 168 rfl) a4_1) (hd_c (fr11 168 rfl) a4_2) (hc_c (fr11 167 rfl) (fr11 168 rfl) a4_3) (pl_c (fr11 169 rfl) a4_4) (n0_c (fr11 172 rfl) a6_0) (dn_c (fr11 172 rfl) a6_1) (bd_r (congrFun (fr11 162 rfl) 22) f0) (bd_r (congrFun (fr11 162 rfl) 31) f1) (ab_c (fr11 177 rfl) a6_2)) hq.n k1666 k1667 k1668 wc_162 rfl rfl k97 k1669 np_X11_alone (Nat.le_trans (by decide) hd) (by decide) (lk1 hb) (ln1 hb) (wlk hk) rfl (Nat.le_of_ble_eq_true rfl) (fun r_ h_ p16 => ?_)
  obtain ⟨l17, u18, rfl, rfl, h19, h20, h21, h22, h23, fr24, fc25⟩ := p16
  refine J_pop2_2 dL_law_1138 rfl ?_
  refine J_goto (tgt := 2255) dL_law_1139 (by decide) ?_
  exact K u18 g4 ex k n ⟨⟨(ig0_c (fun c hc => ((fr24 c (nin_rg hc rfl)).trans (fr11 c (nin_rg hc rfl)))) H0), (ig1_c (fun c hc => ((fr24 c (nin_rg hc rfl)).trans (fr11 c (nin_rg hc rfl)))) H1), (ig2_c (fun c hc => ((fr24 c (nin_rg hc rfl)).trans (fr11 c (nin_rg hc rfl)))) H2), ⟨(bd_r (congrFun (fr24 44 rfl) 0) h5), (bd_r (congrFun (fr24 44 rfl) 2) h6), (bd_r ((congrFun (fr24 49 rfl) 0).trans (congrFun (fr11 49 rfl) 0)) a3_2), (ab_c (fr24 45 rfl) h7), (km_c ((fr24 50 rfl).trans (fr11 50 rfl)) ((fr24 52 rfl).trans (fr11 52 rfl)) a3_4), (bd_r ((congrFun (fr24 53 rfl) 0).trans (congrFun (fr11 53 rfl) 0)) a3_5), (bd_r ((congrFun (fr24 53 rfl) 1).trans (congrFun (fr11 53 rfl) 1)) a3_6), (bd_r (congrFun (fr24 61 rfl) 0) h8), (bd_r (congrFun (fr24 61 rfl) 2) h9), (ab_c (fr24 66 rfl) h10), (bd_r ((congrFun (fr24 70 rfl) 0).trans (congrFun (fr11 70 rfl) 0)) a3_10), (bd_r ((congrFun (fr24 70 rfl) 2).trans (congrFun (fr11 70 rfl) 2)) a3_11), (bd_r ((congrFun (fr24 79 rfl) 0).trans (congrFun (fr11 79 rfl) 0)) a3_12), (bd_r ((congrFun (fr24 79 rfl) 2).trans (congrFun (fr11 79 rfl) 2)) a3_13), (bd_r ((congrFun (fr24 56 rfl) 5).trans (congrFun (fr11 56 rfl) 5)) a3_14), (ab_c ((fr24 77 rfl).trans (fr11 77 rfl)) a3_15), (ab_c ((fr24 76 rfl).trans (fr11 76 rfl)) a3_16)⟩, (ig4_c (fun c hc => ((fr24 c (nin_rg hc rfl)).trans (fr11 c (nin_rg hc rfl)))) H4), (ig5_c (fun c hc => ((fr24 c (nin_rg hc rfl)).trans (fr11 c (nin_rg hc rfl)))) H5), ⟨h21, h20, h23, (ab_c ((fr24 178 rfl).trans (fr11 178 rfl)) a6_3), (ab_c ((fr24 179 rfl).trans (fr11 179 rfl)) a6_4)⟩, h19, h22, (bd_r ((fc25 12 (Nat.ne_of_beq_eq_false rfl) (Nat.ne_of_beq_eq_false rfl) (Nat.ne_of_beq_eq_false rfl) (Nat.ne_of_beq_eq_false rfl) (Nat.ne_of_beq_eq_false rfl) (Nat.ne_of_beq_eq_false rfl) (Nat.ne_of_beq_eq_false rfl) (Nat.ne_of_beq_eq_false rfl) (Nat.ne_of_beq_eq_false rfl) (Nat.ne_of_beq_eq_false rfl)).trans (congrFun (fr11 162 rfl) 12)) f2), (bd_r ((fc25 17 (Nat.ne_of_beq_eq_false rfl) (Nat.ne_of_beq_eq_false rfl) (Nat.ne_of_beq_eq_false rfl) (Nat.ne_of_beq_eq_false rfl) (Nat.ne_of_beq_eq_false rfl) (Nat.ne_of_beq_eq_false rfl) (Nat.ne_of_beq_eq_false rfl) (Nat.ne_of_beq_eq_false rfl) (Nat.ne_of_beq_eq_false rfl) (Nat.ne_of_beq_eq_false rfl)).trans (congrFun (fr11 162 rfl) 17)) f3)⟩, (rly_2 (fun c hc => ((fr24 c (nin_y2 hc rfl)).trans (fr11 c (nin_y2 hc rfl)))) hR)⟩ hk (Nat.le_succ _) (Nat.le_succ _)
set_option maxHeartbeats 4000000 in
set_option maxRecDepth 100000 in
theorem law_20 {x : JX} {bb L k n : Nat} {xs : Nat → Int32} {i : Int32} {u : Nat → Nat → Int32} {g : Nat → Nat → Int64} {ex : List MC} (hq : LQ x bb) (hcon : x.2.2.2.2.2.2.2.2.2.2.2.2.2.2.1 0 = some (L, xs)) (hi : LI i L) (hI : INX u) (hk : k = 182 + ex.length) (hb : k + 1 ≤ 600000 ∧ n + 1 ≤ 7302250) (hd : 11 ≤ 11) (K : ∀ (u2 : Nat → Nat → Int32) (g2 : Nat → Nat → Int64) (ex2 : List MC) (k2 n2 : Nat), INX u2 → k2 = 182 + ex2.length → k2 ≤ k + 1 → n2 ≤ n + 1 → J x yL_law code 4 ret 11 600000 7302250 0 2255 [(3, .int i), (2, .ref 162), (1, .ref 0), (0, .retAddr 0)] [] (Wd u2 g2 ex2) k2 n2) : J x yL_law code 4 ret 11 600000 7302250 0 1142 [(3, .int i), (2, .ref 162), (1, .ref 0), (0, .retAddr 0)] [] (Wd u g ex) k n := by
  obtain ⟨hI, hR⟩ := hI
  obtain ⟨H0, H1, H2, H3, H4, H5, H6, f0, f1, f2, f3⟩ := hI
  have X0 := H0
  obtain ⟨a0_0, a0_1, a0_2, a0_3, a0_4, a0_5, a0_6, a0_7, a0_8, a0_9, a0_10, a0_11, a0_12, a0_13, a0_14, a0_15⟩ := X0
  have X1 := H1
  obtain ⟨a1_0, a1_1, a1_2, a1_3, a1_4, a1_5, a1_6, a1_7, a1_8, a1_9, a1_10, a1_11, a1_12, a1_13, a1_14, a1_15, a1_16, a1_17, a1_18, a1_19, a1_20, a1_21, a1_22, a1_23, a1_24, a1_25, a1_26, a1_27, a1_28, a1_29, a1_30, a1_31, a1_32, a1_33, a1_34, a1_35, a1_36, a1_37, a1_38, a1_39, a1_40, a1_41, a1_42, a1_43, a1_44, a1_45, a1_46, a1_47⟩ := X1
  have X2 := H2
  obtain ⟨a2_0, a2_1, a2_2, a2_3, a2_4, a2_5⟩ := X2
  have X3 := H3
  obtain ⟨a3_0, a3_1, a3_2, a3_3, a3_4, a3_5, a3_6, a3_7, a3_8, a3_9, a3_10, a3_11, a3_12, a3_13, a3_14, a3_15, a3_16⟩ := X3
  have X4 := H4
  obtain ⟨a4_0, a4_1, a4_2, a4_3, a4_4, a4_5, a4_6⟩ := X4
  have X5 := H5
  obtain ⟨a5_0, a5_1⟩ := X5
  have X6 := H6
  obtain ⟨a6_0, a6_1, a6_2, a6_3, a6_4⟩ := X6
  refine J_aload_n (i := 1) (j := 2) dL_law_1142 rfl rfl ?_
  refine J_aload_nC (i := 0) (j := 3) dL_law_1143 rfl rfl ?_
  refine J_iload_n (i := 3) (j := 0) dL_law_1144 rfl rfl ?_
  refine J_iconst (v := 1) dL_law_1145 (by decide) ?_
  refine J_iadd dL_law_1146 ?_
  refine J_cald (z := L) (f := xs) dL_law_1147 hcon (li_in hi (by decide)) ?_
  refine J_aload_nC (i := 0) (j := 3) dL_law_1148 rfl rfl ?_
  refine J_iload_n (i := 3) (j := 0) dL_law_1149 rfl rfl ?_
  refine J_iconst (v := 2) dL_law_1150 (by decide) ?_
  refine J_iadd dL_law_1151 ?_
  refine J_cald (z := L) (f := xs) dL_law_1152 hcon (li_in hi (by decide)) ?_
  refine J_aload_nC (i := 0) (j := 3) dL_law_1153 rfl rfl ?_
  refine J_iload_n (i := 3) (j := 0) dL_law_1154 rfl rfl ?_
  refine J_iconst (v := 3) dL_law_1155 (by decide) ?_
  refine J_iadd dL_law_1156 ?_
  refine J_cald (z := L) (f := xs) dL_law_1157 hcon (li_in hi (by decide)) ?_
  refine J_aload_nC (i := 0) (j := 3) dL_law_1158 rfl rfl ?_
  refine J_iload_n (i := 3) (j := 0) dL_law_1159 rfl rfl ?_
  refine J_iconst (v := 4) dL_law_1160 (by decide) ?_
  refine J_iadd dL_law_1161 ?_
  refine J_cald (z := L) (f := xs) dL_law_1162 hcon (li_in hi (by decide)) ?_
  refine J_callV (As := [.int (xs (i + 1).toNatClampNeg), .int (xs (i + 2).toNatClampNeg), .int (xs (i + 3).toNatClampNeg), .int (xs (i + 4).toNatClampNeg)]) (rest := []) dL_law_1163 (c_P_hear (d := 6) (u := u) (g := g) (ex := ex) (hill := (xs (i + 1).toNatClampNeg)) (plan := (xs (i + 2).toNatClampNeg)) (pond := (xs (i + 3).toNatClampNeg)) (mm := (xs (i + 4).toNatClampNeg))  (by decide) a0_0 a0_5 a3_0 a3_1 a0_1 a0_2 a0_3 a0_4 a0_6 a0_7 a0_8 a3_2 a3_3 a0_9 a0_10 a0_11 a0_12 a0_13 a3_4 a3_7 a3_8 a3_9 a3_12 a3_13) hq.n k1024 k1025 k1026 wc_0 rfl rfl k87 k1027 np_X10_hear (Nat.le_trans (by decide) hd) (by decide) (lk1 hb) (ln1 hb) (wlk hk) rfl (Nat.le_of_ble_eq_true rfl) (fun r_ h_ p1 => ?_)
  obtain ⟨l2, u3, g4, rfl, rfl, h5, h6, h7, h8, h9, h10, h11, h12, fr13, fc14, fc15, fc16, fc17, fc18⟩ := p1
  refine J_pop2_2 dL_law_1166 rfl ?_
  refine J_aload_n (i := 2) (j := 1) dL_law_1167 rfl rfl ?_
  refine J_aload_nC (i := 0) (j := 3) dL_law_1168 rfl rfl ?_
  refine J_iload_n (i := 3) (j := 0) dL_law_1169 rfl rfl ?_
  refine J_iconst (v := 1) dL_law_1170 (by decide) ?_
  refine J_iadd dL_law_1171 ?_
  refine J_cald (z := L) (f := xs) dL_law_1172 hcon (li_in hi (by decide)) ?_
  refine J_aload_nC (i := 0) (j := 3) dL_law_1173 rfl rfl ?_
  refine J_iload_n (i := 3) (j := 0) dL_law_1174 rfl rfl ?_
  refine J_iconst (v := 2) dL_law_1175 (by decide) ?_
  refine J_iadd dL_law_1176 ?_
  refine J_cald (z := L) (f := xs) dL_law_1177 hcon (li_in hi (by decide)) ?_
  refine J_aload_nC (i := 0) (j := 3) dL_law_1178 rfl rfl ?_
  refine J_iload_n (i := 3) (j := 0) dL_law_1179 rfl rfl ?_
  refine J_iconst (v := 3) dL_law_1180 (by decide) ?_
  refine J_iadd dL_law_1181 ?_
  refine J_cald (z := L) (f := xs) dL_law_1182 hcon (li_in hi (by decide)) ?_
  refine J_aload_nC (i := 0) (j := 3) dL_law_1183 rfl rfl ?_
  refine J_iload_n (i := 3) (j := 0) dL_law_1184 rfl rfl ?_
  refine J_iconst (v := 4) dL_law_1185 (by decide) ?_
  refine J_iadd dL_law_1186 ?_
  refine J_cald (z := L) (f := xs) dL_law_1187 hcon (li_in hi (by decide)) ?_
  refine J_callV (As := [.int (xs (i + 1).toNatClampNeg), .int (xs (i + 2).toNatClampNeg), .int (xs (i + 3).toNatClampNeg), .int (xs (i + 4).toNatClampNeg)]) (rest := []) dL_law_1188 (c_M_hear (d := 5) (u := u3) (g := g4) (ex := ex) (hill := (xs (i + 1).toNatClampNeg)) (plan := (xs (i + 2).toNatClampNeg)) (pond := (xs (i + 3).toNatClampNeg)) (mm := (xs (i + 4).toNatClampNeg))  (by decide) (my_c (fr13 167 rfl) a4_0) (ab_c (fr13 168 rfl) a4_1) (hd_c (fr13 168 rfl) a4_2) (hc_c (fr13 167 rfl) (fr13 168 rfl) a4_3) (pl_c (fr13 169 rfl) a4_4) (n0_c (fr13 172 rfl) a6_0) (dn_c (fr13 172 rfl) a6_1) (bd_r (congrFun (fr13 162 rfl) 22) f0) (bd_r (congrFun (fr13 162 rfl) 31) f1) (ab_c (fr13 177 rfl) a6_2)) hq.n k1670 k1671 k1672 wc_162 rfl rfl k97 k1673 np_X11_hear (Nat.le_trans (by decide) hd) (by decide) (lk1 hb) (ln1 hb) (wlk hk) rfl (Nat.le_of_ble_eq_true rfl) (fun r_ h_ p19 => ?_)
  obtain ⟨l20, u21, rfl, rfl, h22, h23, h24, h25, fr26, fc27⟩ := p19
  refine J_pop2_2 dL_law_1191 rfl ?_
  refine J_goto (tgt := 2255) dL_law_1192 (by decide) ?_
  exact K u21 g4 ex k n ⟨⟨(ig0_c (fun c hc => ((fr26 c (nin_rg hc rfl)).trans (fr13 c (nin_rg hc rfl)))) H0), (ig1_c (fun c hc => ((fr26 c (nin_rg hc rfl)).trans (fr13 c (nin_rg hc rfl)))) H1), (ig2_c (fun c hc => ((fr26 c (nin_rg hc rfl)).trans (fr13 c (nin_rg hc rfl)))) H2), ⟨(bd_r (congrFun (fr26 44 rfl) 0) h5), (bd_r (congrFun (fr26 44 rfl) 2) h6), (bd_r ((congrFun (fr26 49 rfl) 0).trans (congrFun (fr13 49 rfl) 0)) a3_2), (ab_c (fr26 45 rfl) h7), (km_c ((fr26 50 rfl).trans (fr13 50 rfl)) ((fr26 52 rfl).trans (fr13 52 rfl)) a3_4), (bd_r ((congrFun (fr26 53 rfl) 0).trans (congrFun (fr13 53 rfl) 0)) a3_5), (bd_r ((congrFun (fr26 53 rfl) 1).trans (congrFun (fr13 53 rfl) 1)) a3_6), (bd_r (congrFun (fr26 61 rfl) 0) h8), (bd_r (congrFun (fr26 61 rfl) 2) h9), (ab_c (fr26 66 rfl) h10), (bd_r ((congrFun (fr26 70 rfl) 0).trans (congrFun (fr13 70 rfl) 0)) a3_10), (bd_r ((congrFun (fr26 70 rfl) 2).trans (congrFun (fr13 70 rfl) 2)) a3_11), (bd_r (congrFun (fr26 79 rfl) 0) h11), (bd_r (congrFun (fr26 79 rfl) 2) h12), (bd_r ((congrFun (fr26 56 rfl) 5).trans (congrFun (fr13 56 rfl) 5)) a3_14), (ab_c ((fr26 77 rfl).trans (fr13 77 rfl)) a3_15), (ab_c ((fr26 76 rfl).trans (fr13 76 rfl)) a3_16)⟩, (ig4_c (fun c hc => ((fr26 c (nin_rg hc rfl)).trans (fr13 c (nin_rg hc rfl)))) H4), (ig5_c (fun c hc => ((fr26 c (nin_rg hc rfl)).trans (fr13 c (nin_rg hc rfl)))) H5), ⟨h24, h23, (ab_c ((fr26 177 rfl).trans (fr13 177 rfl)) a6_2), (ab_c ((fr26 178 rfl).trans (fr13 178 rfl)) a6_3), (ab_c ((fr26 179 rfl).trans (fr13 179 rfl)) a6_4)⟩, h22, h25, (bd_r ((fc27 12 (Nat.ne_of_beq_eq_false rfl) (Nat.ne_of_beq_eq_false rfl) (Nat.ne_of_beq_eq_false rfl) (Nat.ne_of_beq_eq_false rfl) (Nat.ne_of_beq_eq_false rfl) (Nat.ne_of_beq_eq_false rfl) (Nat.ne_of_beq_eq_false rfl) (Nat.ne_of_beq_eq_false rfl) (Nat.ne_of_beq_eq_false rfl) (Nat.ne_of_beq_eq_false rfl)).trans (congrFun (fr13 162 rfl) 12)) f2), (bd_r ((fc27 17 (Nat.ne_of_beq_eq_false rfl) (Nat.ne_of_beq_eq_false rfl) (Nat.ne_of_beq_eq_false rfl) (Nat.ne_of_beq_eq_false rfl) (Nat.ne_of_beq_eq_false rfl) (Nat.ne_of_beq_eq_false rfl) (Nat.ne_of_beq_eq_false rfl) (Nat.ne_of_beq_eq_false rfl) (Nat.ne_of_beq_eq_false rfl) (Nat.ne_of_beq_eq_false rfl)).trans (congrFun (fr13 162 rfl) 17)) f3)⟩, (rly_2 (fun c hc => ((fr26 c (nin_y2 hc rfl)).trans (fr13 c (nin_y2 hc rfl)))) hR)⟩ hk (Nat.le_succ _) (Nat.le_succ _)
set_option maxHeartbeats 4000000 in
set_option maxRecDepth 100000 in
theorem law_21 {x : JX} {bb L k n : Nat} {xs : Nat → Int32} {i : Int32} {u : Nat → Nat → Int32} {g : Nat → Nat → Int64} {ex : List MC} (hq : LQ x bb) (hcon : x.2.2.2.2.2.2.2.2.2.2.2.2.2.2.1 0 = some (L, xs)) (hi : LI i L) (hI : INX u) (hk : k = 182 + ex.length) (hb : k + 1 ≤ 600000 ∧ n + 1 ≤ 7302250) (hd : 11 ≤ 11) (K : ∀ (u2 : Nat → Nat → Int32) (g2 : Nat → Nat → Int64) (ex2 : List MC) (k2 n2 : Nat), INX u2 → k2 = 182 + ex2.length → k2 ≤ k + 1 → n2 ≤ n + 1 → J x yL_law code 4 ret 11 600000 7302250 0 2255 [(3, .int i), (2, .ref 162), (1, .ref 0), (0, .retAddr 0)] [] (Wd u2 g2 ex2) k2 n2) : J x yL_law code 4 ret 11 600000 7302250 0 1195 [(3, .int i), (2, .ref 162), (1, .ref 0), (0, .retAddr 0)] [] (Wd u g ex) k n := by
  obtain ⟨hI, hR⟩ := hI
  obtain ⟨H0, H1, H2, H3, H4, H5, H6, f0, f1, f2, f3⟩ := hI
  have X0 := H0
  obtain ⟨a0_0, a0_1, a0_2, a0_3, a0_4, a0_5, a0_6, a0_7, a0_8, a0_9, a0_10, a0_11, a0_12, a0_13, a0_14, a0_15⟩ := X0
  have X1 := H1
  obtain ⟨a1_0, a1_1, a1_2, a1_3, a1_4, a1_5, a1_6, a1_7, a1_8, a1_9, a1_10, a1_11, a1_12, a1_13, a1_14, a1_15, a1_16, a1_17, a1_18, a1_19, a1_20, a1_21, a1_22, a1_23, a1_24, a1_25, a1_26, a1_27, a1_28, a1_29, a1_30, a1_31, a1_32, a1_33, a1_34, a1_35, a1_36, a1_37, a1_38, a1_39, a1_40, a1_41, a1_42, a1_43, a1_44, a1_45, a1_46, a1_47⟩ := X1
  have X2 := H2
  obtain ⟨a2_0, a2_1, a2_2, a2_3, a2_4, a2_5⟩ := X2
  have X3 := H3
  obtain ⟨a3_0, a3_1, a3_2, a3_3, a3_4, a3_5, a3_6, a3_7, a3_8, a3_9, a3_10, a3_11, a3_12, a3_13, a3_14, a3_15, a3_16⟩ := X3
  have X4 := H4
  obtain ⟨a4_0, a4_1, a4_2, a4_3, a4_4, a4_5, a4_6⟩ := X4
  have X5 := H5
  obtain ⟨a5_0, a5_1⟩ := X5
  have X6 := H6
  obtain ⟨a6_0, a6_1, a6_2, a6_3, a6_4⟩ := X6
  refine J_aload_n (i := 1) (j := 2) dL_law_1195 rfl rfl ?_
  refine J_aload_nC (i := 0) (j := 3) dL_law_1196 rfl rfl ?_
  refine J_iload_n (i := 3) (j := 0) dL_law_1197 rfl rfl ?_
  refine J_iconst (v := 1) dL_law_1198 (by decide) ?_
  refine J_iadd dL_law_1199 ?_
  refine J_cald (z := L) (f := xs) dL_law_1200 hcon (li_in hi (by decide)) ?_
  refine J_aload_nC (i := 0) (j := 3) dL_law_1201 rfl rfl ?_
  refine J_iload_n (i := 3) (j := 0) dL_law_1202 rfl rfl ?_
  refine J_iconst (v := 2) dL_law_1203 (by decide) ?_
  refine J_iadd dL_law_1204 ?_
  refine J_cald (z := L) (f := xs) dL_law_1205 hcon (li_in hi (by decide)) ?_
  refine J_aload_nC (i := 0) (j := 3) dL_law_1206 rfl rfl ?_
  refine J_iload_n (i := 3) (j := 0) dL_law_1207 rfl rfl ?_
  refine J_iconst (v := 3) dL_law_1208 (by decide) ?_
  refine J_iadd dL_law_1209 ?_
  refine J_cald (z := L) (f := xs) dL_law_1210 hcon (li_in hi (by decide)) ?_
  refine J_aload_nC (i := 0) (j := 3) dL_law_1211 rfl rfl ?_
  refine J_iload_n (i := 3) (j := 0) dL_law_1212 rfl rfl ?_
  refine J_iconst (v := 4) dL_law_1213 (by decide) ?_
  refine J_iadd dL_law_1214 ?_
  refine J_cald (z := L) (f := xs) dL_law_1215 hcon (li_in hi (by decide)) ?_
  have jn3 : ∀ (w2 : Int32), Bd 0 1 w2 → J x yL_law code 4 ret 11 600000 7302250 0 1224 [(0, .retAddr 0), (1, .ref 0), (2, .ref 162), (3, .int i)] [.int w2, .int (xs (i + 3).toNatClampNeg), .int (xs (i + 2).toNatClampNeg), .int (xs (i + 1).toNatClampNeg), .ref 0] (Wd u g ex) k n := by
    intro w2 bw2
    refine J_callV (As := [.int (xs (i + 1).toNatClampNeg), .int (xs (i + 2).toNatClampNeg), .int (xs (i + 3).toNatClampNeg), .int w2]) (rest := []) dL_law_1224 (c_P_may (d := 6) (u := u) (g := g) (ex := ex) (hill := (xs (i + 1).toNatClampNeg)) (plan := (xs (i + 2).toNatClampNeg)) (ponds := (xs (i + 3).toNatClampNeg)) (first := w2)  (by decide) a0_0 a0_5 a3_0 a3_1 a0_1 a0_2 a0_3 a0_4 a0_6 a0_7 a0_8 a3_2 a3_3 a0_9 a0_10 a0_11 a0_12 a0_13 a3_4 a3_7 a3_8 a3_9 a3_10 a3_11 a3_14 a3_15 a3_16) hq.n k1032 k1033 k1034 wc_0 rfl rfl k87 k1035 np_X10_may (Nat.le_trans (by decide) hd) (by decide) (lk1 hb) (ln1 hb) (wlk hk) rfl (Nat.le_of_ble_eq_true rfl) (fun r_ h_ p4 => ?_)
    obtain ⟨l5, u6, g7, rfl, rfl, h8, h9, h10, h11, h12, h13, h14, h15, h16, h17, h18, fr19, fc20, fc21, fc22, fc23, fc24, fc25⟩ := p4
    refine J_pop2_2 dL_law_1227 rfl ?_
    refine J_aload_n (i := 2) (j := 2) dL_law_1228 rfl rfl ?_
    refine J_aload_nC (i := 0) (j := 0) dL_law_1229 rfl rfl ?_
    refine J_iload_n (i := 3) (j := 3) dL_law_1230 rfl rfl ?_
    refine J_iconst (v := 1) dL_law_1231 (by decide) ?_
    refine J_iadd dL_law_1232 ?_
    refine J_cald (z := L) (f := xs) dL_law_1233 hcon (li_in hi (by decide)) ?_
    refine J_aload_nC (i := 0) (j := 0) dL_law_1234 rfl rfl ?_
    refine J_iload_n (i := 3) (j := 3) dL_law_1235 rfl rfl ?_
    refine J_iconst (v := 2) dL_law_1236 (by decide) ?_
    refine J_iadd dL_law_1237 ?_
    refine J_cald (z := L) (f := xs) dL_law_1238 hcon (li_in hi (by decide)) ?_
    refine J_aload_nC (i := 0) (j := 0) dL_law_1239 rfl rfl ?_
    refine J_iload_n (i := 3) (j := 3) dL_law_1240 rfl rfl ?_
    refine J_iconst (v := 3) dL_law_1241 (by decide) ?_
    refine J_iadd dL_law_1242 ?_
    refine J_cald (z := L) (f := xs) dL_law_1243 hcon (li_in hi (by decide)) ?_
    refine J_aload_nC (i := 0) (j := 0) dL_law_1244 rfl rfl ?_
    refine J_iload_n (i := 3) (j := 3) dL_law_1245 rfl rfl ?_
    refine J_iconst (v := 4) dL_law_1246 (by decide) ?_
    refine J_iadd dL_law_1247 ?_
    refine J_cald (z := L) (f := xs) dL_law_1248 hcon (li_in hi (by decide)) ?_
    have jn28 : ∀ (w27 : Int32), Bd 0 1 w27 → J x yL_law code 4 ret 11 600000 7302250 0 1257 [(0, .retAddr 0), (1, .ref 0), (2, .ref 162), (3, .int i)] [.int w27, .int (xs (i + 3).toNatClampNeg), .int (xs (i + 2).toNatClampNeg), .int (xs (i + 1).toNatClampNeg), .ref 162] (Wd u6 g7 ex) k n := by
      intro w27 bw27
      refine J_callV (As := [.int (xs (i + 1).toNatClampNeg), .int (xs (i + 2).toNatClampNeg), .int (xs (i + 3).toNatClampNeg), .int w27]) (rest := []) dL_law_1257 (c_M_may (d := 7) (u := u6) (g := g7) (ex := ex) (hill := (xs (i + 1).toNatClampNeg)) (plan := (xs (i + 2).toNatClampNeg)) (ponds := (xs (i + 3).toNatClampNeg)) (first := w27)  (by decide) (my_c (fr19 167 rfl) a4_0) (ab_c (fr19 168 rfl) a4_1) (hd_c (fr19 168 rfl) a4_2) (hc_c (fr19 167 rfl) (fr19 168 rfl) a4_3) (pl_c (fr19 169 rfl) a4_4) (n0_c (fr19 172 rfl) a6_0) (dn_c (fr19 172 rfl) a6_1) (bd_r (congrFun (fr19 162 rfl) 22) f0) (bd_r (congrFun (fr19 162 rfl) 31) f1) (ab_c (fr19 177 rfl) a6_2) (ab_c (fr19 178 rfl) a6_3) (ab_c (fr19 179 rfl) a6_4)) hq.n k1675 k1676 k1677 wc_162 rfl rfl k97 k1678 np_X11_may (Nat.le_trans (by decide) hd) (by decide) (lk1 hb) (ln1 hb) (wlk hk) rfl (Nat.le_of_ble_eq_true rfl) (fun r_ h_ p29 => ?_)
      obtain ⟨l30, u31, g32, rfl, rfl, h33, h34, h35, h36, h37, h38, fr39, fc40⟩ := p29
      refine J_pop2_2 dL_law_1260 rfl ?_
      refine J_goto (tgt := 2255) dL_law_1261 (by decide) ?_
      refine J_lv [3, 2, 1, 0] rfl ?_
      exact K u31 g32 ex k n ⟨⟨(ig0_c (fun c hc => ((fr39 c (nin_rg hc rfl)).trans (fr19 c (nin_rg hc rfl)))) H0), (ig1_c (fun c hc => ((fr39 c (nin_rg hc rfl)).trans (fr19 c (nin_rg hc rfl)))) H1), (ig2_c (fun c hc => ((fr39 c (nin_rg hc rfl)).trans (fr19 c (nin_rg hc rfl)))) H2), ⟨(bd_r (congrFun (fr39 44 rfl) 0) h8), (bd_r (congrFun (fr39 44 rfl) 2) h9), (bd_r ((congrFun (fr39 49 rfl) 0).trans (congrFun (fr19 49 rfl) 0)) a3_2), (ab_c (fr39 45 rfl) h10), (km_c ((fr39 50 rfl).trans (fr19 50 rfl)) ((fr39 52 rfl).trans (fr19 52 rfl)) a3_4), (bd_r ((congrFun (fr39 53 rfl) 0).trans (congrFun (fr19 53 rfl) 0)) a3_5), (bd_r ((congrFun (fr39 53 rfl) 1).trans (congrFun (fr19 53 rfl) 1)) a3_6), (bd_r (congrFun (fr39 61 rfl) 0) h11), (bd_r (congrFun (fr39 61 rfl) 2) h12), (ab_c (fr39 66 rfl) h13), (bd_r (congrFun (fr39 70 rfl) 0) h14), (bd_r (congrFun (fr39 70 rfl) 2) h15), (bd_r ((congrFun (fr39 79 rfl) 0).trans (congrFun (fr19 79 rfl) 0)) a3_12), (bd_r ((congrFun (fr39 79 rfl) 2).trans (congrFun (fr19 79 rfl) 2)) a3_13), (bd_r (congrFun (fr39 56 rfl) 5) h16), (ab_c (fr39 77 rfl) h17), (ab_c (fr39 76 rfl) h18)⟩, (ig4_c (fun c hc => ((fr39 c (nin_rg hc rfl)).trans (fr19 c (nin_rg hc rfl)))) H4), (ig5_c (fun c hc => ((fr39 c (nin_rg hc rfl)).trans (fr19 c (nin_rg hc rfl)))) H5), ⟨h35, h34, (ab_c ((fr39 177 rfl).trans (fr19 177 rfl)) a6_2), h37, h38⟩, h33, h36, (bd_r ((fc40 12 (Nat.ne_of_beq_eq_false rfl) (Nat.ne_of_beq_eq_false rfl) (Nat.ne_of_beq_eq_false rfl) (Nat.ne_of_beq_eq_false rfl) (Nat.ne_of_beq_eq_false rfl) (Nat.ne_of_beq_eq_false rfl) (Nat.ne_of_beq_eq_false rfl) (Nat.ne_of_beq_eq_false rfl) (Nat.ne_of_beq_eq_false rfl) (Nat.ne_of_beq_eq_false rfl) (Nat.ne_of_beq_eq_false rfl)).trans (congrFun (fr19 162 rfl) 12)) f2), (bd_r ((fc40 17 (Nat.ne_of_beq_eq_false rfl) (Nat.ne_of_beq_eq_false rfl) (Nat.ne_of_beq_eq_false rfl) (Nat.ne_of_beq_eq_false rfl) (Nat.ne_of_beq_eq_false rfl) (Nat.ne_of_beq_eq_false rfl) (Nat.ne_of_beq_eq_false rfl) (Nat.ne_of_beq_eq_false rfl) (Nat.ne_of_beq_eq_false rfl) (Nat.ne_of_beq_eq_false rfl) (Nat.ne_of_beq_eq_false rfl)).trans (congrFun (fr19 162 rfl) 17)) f3)⟩, (rly_2 (fun c hc => ((fr39 c (nin_y2 hc rfl)).trans (fr19 c (nin_y2 hc rfl)))) hR)⟩ hk (Nat.le_succ _) (Nat.le_succ _)
    refine J_if_eq (tgt := 1256) dL_law_1249 (by decide) (fun c26 => ?_) (fun c26 => ?_)
    · refine J_iconst (v := 0) dL_law_1256 (by decide) ?_
      refine J_lv [0, 1, 2, 3] rfl ?_
      exact jn28 (0 : Int32) (bd_w (l := 0) (h := 1) (bd_c (v := 0) (lo := 0) (hi := 0) (by decide)) (by decide))
    · refine J_iconst (v := 1) dL_law_1252 (by decide) ?_
      refine J_goto (tgt := 1257) dL_law_1253 (by decide) ?_
      refine J_lv [0, 1, 2, 3] rfl ?_
      exact jn28 (1 : Int32) (bd_w (l := 0) (h := 1) (bd_c (v := 1) (lo := 1) (hi := 1) (by decide)) (by decide))
  refine J_if_eq (tgt := 1223) dL_law_1216 (by decide) (fun c1 => ?_) (fun c1 => ?_)
  · refine J_iconst (v := 0) dL_law_1223 (by decide) ?_
    refine J_lv [3, 2, 1, 0] rfl ?_
    exact jn3 (0 : Int32) (bd_w (l := 0) (h := 1) (bd_c (v := 0) (lo := 0) (hi := 0) (by decide)) (by decide))
  · refine J_iconst (v := 1) dL_law_1219 (by decide) ?_
    refine J_goto (tgt := 1224) dL_law_1220 (by decide) ?_
    refine J_lv [3, 2, 1, 0] rfl ?_
    exact jn3 (1 : Int32) (bd_w (l := 0) (h := 1) (bd_c (v := 1) (lo := 1) (hi := 1) (by decide)) (by decide))
