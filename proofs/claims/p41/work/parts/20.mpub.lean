theorem k1264 : Cond.fieldLink RX11 70 "PondStairModel" "code" "I" ∈ gt := gt_5_9 (i := 2) rfl rfl
theorem k1503 : Cond.methodLink RX11 240 yX11_lay ∈ gt := gt_6_9 (i := 1) rfl rfl
theorem k1505 : Cond.instanceMethod yX11_lay ∈ gt := gt_6_9 (i := 3) rfl rfl
theorem k52 : Cond.selects RX11 yX11_lay yX11_lay ∈ gt := gs_4 (i := 4) rfl rfl
theorem k1506 : Cond.code yX11_lay cX11_lay 5 (some .boolean) ∈ gt := gt_6_9 (i := 4) rfl rfl
theorem np_X11_lay : yX11_lay.cls ≠ "java/lang/invoke/MethodHandle" ∧ yX11_lay.cls ≠ "java/lang/invoke/VarHandle" ∧ (parseMethodDescriptor yX11_lay.desc).map (fun d => d.parameters.length) = some 2 := ⟨cq_RX11.1, cq_RX11.2, pd_14⟩
theorem k1523 : Cond.methodLink RX11 243 yX11_isPond ∈ gt := gt_6_9 (i := 21) rfl rfl
theorem k1525 : Cond.instanceMethod yX11_isPond ∈ gt := gt_6_9 (i := 23) rfl rfl
theorem k57 : Cond.selects RX11 yX11_isPond yX11_isPond ∈ gt := gs_4 (i := 9) rfl rfl
theorem k1526 : Cond.code yX11_isPond cX11_isPond 2 (some .boolean) ∈ gt := gt_7_0 (i := 0) rfl rfl
theorem np_X11_isPond : yX11_isPond.cls ≠ "java/lang/invoke/MethodHandle" ∧ yX11_isPond.cls ≠ "java/lang/invoke/VarHandle" ∧ (parseMethodDescriptor yX11_isPond.desc).map (fun d => d.parameters.length) = some 1 := ⟨cq_RX11.1, cq_RX11.2, pd_10⟩
theorem k1539 : Cond.methodLink RX11 265 yX11_isRain ∈ gt := gt_7_0 (i := 13) rfl rfl
theorem k1541 : Cond.instanceMethod yX11_isRain ∈ gt := gt_7_0 (i := 15) rfl rfl
theorem k58 : Cond.selects RX11 yX11_isRain yX11_isRain ∈ gt := gs_4 (i := 10) rfl rfl
theorem k1542 : Cond.code yX11_isRain cX11_isRain 2 (some .boolean) ∈ gt := gt_7_0 (i := 16) rfl rfl
theorem np_X11_isRain : yX11_isRain.cls ≠ "java/lang/invoke/MethodHandle" ∧ yX11_isRain.cls ≠ "java/lang/invoke/VarHandle" ∧ (parseMethodDescriptor yX11_isRain.desc).map (fun d => d.parameters.length) = some 1 := ⟨cq_RX11.1, cq_RX11.2, pd_10⟩
theorem k1543 : Cond.methodLink RX11 268 yX11_arePonds ∈ gt := gt_7_0 (i := 17) rfl rfl
theorem k1545 : Cond.instanceMethod yX11_arePonds ∈ gt := gt_7_0 (i := 19) rfl rfl
theorem k59 : Cond.selects RX11 yX11_arePonds yX11_arePonds ∈ gt := gs_4 (i := 11) rfl rfl
theorem k1546 : Cond.code yX11_arePonds cX11_arePonds 2 (some .boolean) ∈ gt := gt_7_0 (i := 20) rfl rfl
theorem np_X11_arePonds : yX11_arePonds.cls ≠ "java/lang/invoke/MethodHandle" ∧ yX11_arePonds.cls ≠ "java/lang/invoke/VarHandle" ∧ (parseMethodDescriptor yX11_arePonds.desc).map (fun d => d.parameters.length) = some 1 := ⟨cq_RX11.1, cq_RX11.2, pd_10⟩
theorem k1566 : Cond.methodLink RX11 278 yX11_told ∈ gt := gt_7_1 (i := 16) rfl rfl
theorem k1568 : Cond.instanceMethod yX11_told ∈ gt := gt_7_1 (i := 18) rfl rfl
theorem k64 : Cond.selects RX11 yX11_told yX11_told ∈ gt := gs_5 (i := 0) rfl rfl
theorem k1569 : Cond.code yX11_told cX11_told 2 (some .int) ∈ gt := gt_7_1 (i := 19) rfl rfl
theorem np_X11_told : yX11_told.cls ≠ "java/lang/invoke/MethodHandle" ∧ yX11_told.cls ≠ "java/lang/invoke/VarHandle" ∧ (parseMethodDescriptor yX11_told.desc).map (fun d => d.parameters.length) = some 1 := ⟨cq_RX11.1, cq_RX11.2, pd_6⟩
theorem k1578 : Cond.constantLong RX11 292 (-1) ∈ gt := gt_7_2 (i := 4) rfl rfl
theorem k1583 : Cond.methodLink RX11 294 yX11_allParts ∈ gt := gt_7_2 (i := 9) rfl rfl
theorem k1585 : Cond.instanceMethod yX11_allParts ∈ gt := gt_7_2 (i := 11) rfl rfl
theorem k67 : Cond.selects RX11 yX11_allParts yX11_allParts ∈ gt := gs_5 (i := 3) rfl rfl
theorem k1586 : Cond.code yX11_allParts cX11_allParts 4 (some .long) ∈ gt := gt_7_2 (i := 12) rfl rfl
theorem np_X11_allParts : yX11_allParts.cls ≠ "java/lang/invoke/MethodHandle" ∧ yX11_allParts.cls ≠ "java/lang/invoke/VarHandle" ∧ (parseMethodDescriptor yX11_allParts.desc).map (fun d => d.parameters.length) = some 0 := ⟨cq_RX11.1, cq_RX11.2, pd_2⟩
theorem k1593 : Cond.methodLink RX11 298 yX11_isOwner ∈ gt := gt_7_2 (i := 19) rfl rfl
theorem k1594 : Cond.static yX11_isOwner ∈ gt := gt_7_2 (i := 20) rfl rfl
theorem k1595 : Cond.code yX11_isOwner cX11_isOwner 1 (some .boolean) ∈ gt := gt_7_2 (i := 21) rfl rfl
theorem np_X11_isOwner : yX11_isOwner.cls ≠ "java/lang/invoke/MethodHandle" ∧ yX11_isOwner.cls ≠ "java/lang/invoke/VarHandle" ∧ (parseMethodDescriptor yX11_isOwner.desc).map (fun d => d.parameters.length) = some 1 := ⟨cq_RX11.1, cq_RX11.2, pd_10⟩
theorem k1608 : Cond.methodLink RX11 305 yX11_ones ∈ gt := gt_7_3 (i := 10) rfl rfl
theorem k1609 : Cond.static yX11_ones ∈ gt := gt_7_3 (i := 11) rfl rfl
theorem k1610 : Cond.code yX11_ones cX11_ones 3 (some .int) ∈ gt := gt_7_3 (i := 12) rfl rfl
theorem np_X11_ones : yX11_ones.cls ≠ "java/lang/invoke/MethodHandle" ∧ yX11_ones.cls ≠ "java/lang/invoke/VarHandle" ∧ (parseMethodDescriptor yX11_ones.desc).map (fun d => d.parameters.length) = some 1 := ⟨cq_RX11.1, cq_RX11.2, pd_6⟩
theorem k1619 : Cond.methodLink RX11 311 yX11_keepChances ∈ gt := gt_7_3 (i := 21) rfl rfl
theorem k1621 : Cond.instanceMethod yX11_keepChances ∈ gt := gt_7_3 (i := 23) rfl rfl
theorem k70 : Cond.selects RX11 yX11_keepChances yX11_keepChances ∈ gt := gs_5 (i := 6) rfl rfl
theorem k1622 : Cond.code yX11_keepChances cX11_keepChances 2 none ∈ gt := gt_7_4 (i := 0) rfl rfl
theorem np_X11_keepChances : yX11_keepChances.cls ≠ "java/lang/invoke/MethodHandle" ∧ yX11_keepChances.cls ≠ "java/lang/invoke/VarHandle" ∧ (parseMethodDescriptor yX11_keepChances.desc).map (fun d => d.parameters.length) = some 0 := ⟨cq_RX11.1, cq_RX11.2, pd_3⟩
theorem k1615 : Cond.methodLink RX11 314 yX11_canMend ∈ gt := gt_7_3 (i := 17) rfl rfl
theorem k1617 : Cond.instanceMethod yX11_canMend ∈ gt := gt_7_3 (i := 19) rfl rfl
theorem k69 : Cond.selects RX11 yX11_canMend yX11_canMend ∈ gt := gs_5 (i := 5) rfl rfl
theorem k1618 : Cond.code yX11_canMend cX11_canMend 5 (some .boolean) ∈ gt := gt_7_3 (i := 20) rfl rfl
theorem np_X11_canMend : yX11_canMend.cls ≠ "java/lang/invoke/MethodHandle" ∧ yX11_canMend.cls ≠ "java/lang/invoke/VarHandle" ∧ (parseMethodDescriptor yX11_canMend.desc).map (fun d => d.parameters.length) = some 4 := ⟨cq_RX11.1, cq_RX11.2, pd_22⟩
theorem k1623 : Cond.methodLink RX11 318 yX11_costOf ∈ gt := gt_7_4 (i := 1) rfl rfl
theorem k1625 : Cond.instanceMethod yX11_costOf ∈ gt := gt_7_4 (i := 3) rfl rfl
theorem k71 : Cond.selects RX11 yX11_costOf yX11_costOf ∈ gt := gs_5 (i := 7) rfl rfl
theorem k1626 : Cond.code yX11_costOf cX11_costOf 4 (some .int) ∈ gt := gt_7_4 (i := 4) rfl rfl
theorem np_X11_costOf : yX11_costOf.cls ≠ "java/lang/invoke/MethodHandle" ∧ yX11_costOf.cls ≠ "java/lang/invoke/VarHandle" ∧ (parseMethodDescriptor yX11_costOf.desc).map (fun d => d.parameters.length) = some 1 := ⟨cq_RX11.1, cq_RX11.2, pd_6⟩
theorem k1627 : Cond.methodLink RX11 321 yX11_meanMended ∈ gt := gt_7_4 (i := 5) rfl rfl
theorem k1629 : Cond.instanceMethod yX11_meanMended ∈ gt := gt_7_4 (i := 7) rfl rfl
theorem k72 : Cond.selects RX11 yX11_meanMended yX11_meanMended ∈ gt := gs_5 (i := 8) rfl rfl
theorem k1630 : Cond.code yX11_meanMended cX11_meanMended 5 (some .long) ∈ gt := gt_7_4 (i := 8) rfl rfl
theorem np_X11_meanMended : yX11_meanMended.cls ≠ "java/lang/invoke/MethodHandle" ∧ yX11_meanMended.cls ≠ "java/lang/invoke/VarHandle" ∧ (parseMethodDescriptor yX11_meanMended.desc).map (fun d => d.parameters.length) = some 2 := ⟨cq_RX11.1, cq_RX11.2, pd_12⟩
theorem k1662 : Cond.methodLink RX11 332 yX11_pondsOf ∈ gt := gt_7_5 (i := 16) rfl rfl
theorem k1664 : Cond.instanceMethod yX11_pondsOf ∈ gt := gt_7_5 (i := 18) rfl rfl
theorem k75 : Cond.selects RX11 yX11_pondsOf yX11_pondsOf ∈ gt := gs_5 (i := 11) rfl rfl
theorem k1665 : Cond.code yX11_pondsOf cX11_pondsOf 4 (some .int) ∈ gt := gt_7_5 (i := 19) rfl rfl
theorem np_X11_pondsOf : yX11_pondsOf.cls ≠ "java/lang/invoke/MethodHandle" ∧ yX11_pondsOf.cls ≠ "java/lang/invoke/VarHandle" ∧ (parseMethodDescriptor yX11_pondsOf.desc).map (fun d => d.parameters.length) = some 1 := ⟨cq_RX11.1, cq_RX11.2, pd_6⟩
theorem k1674 : Cond.constantLong RX11 335 (-9223372036854775808) ∈ gt := gt_7_6 (i := 4) rfl rfl
theorem k1703 : Cond.methodLink RX11 355 yX11_seenAll ∈ gt := gt_7_7 (i := 9) rfl rfl
theorem k1705 : Cond.instanceMethod yX11_seenAll ∈ gt := gt_7_7 (i := 11) rfl rfl
theorem k80 : Cond.selects RX11 yX11_seenAll yX11_seenAll ∈ gt := gs_6 (i := 0) rfl rfl
theorem k1706 : Cond.code yX11_seenAll cX11_seenAll 2 (some .int) ∈ gt := gt_7_7 (i := 12) rfl rfl
theorem np_X11_seenAll : yX11_seenAll.cls ≠ "java/lang/invoke/MethodHandle" ∧ yX11_seenAll.cls ≠ "java/lang/invoke/VarHandle" ∧ (parseMethodDescriptor yX11_seenAll.desc).map (fun d => d.parameters.length) = some 1 := ⟨cq_RX11.1, cq_RX11.2, pd_6⟩
theorem k1747 : Cond.methodLink RX11 371 yX11_leads ∈ gt := gt_7_9 (i := 5) rfl rfl
theorem k1749 : Cond.instanceMethod yX11_leads ∈ gt := gt_7_9 (i := 7) rfl rfl
theorem k83 : Cond.selects RX11 yX11_leads yX11_leads ∈ gt := gs_6 (i := 3) rfl rfl
theorem k1750 : Cond.code yX11_leads cX11_leads 3 (some .boolean) ∈ gt := gt_7_9 (i := 8) rfl rfl
theorem np_X11_leads : yX11_leads.cls ≠ "java/lang/invoke/MethodHandle" ∧ yX11_leads.cls ≠ "java/lang/invoke/VarHandle" ∧ (parseMethodDescriptor yX11_leads.desc).map (fun d => d.parameters.length) = some 2 := ⟨cq_RX11.1, cq_RX11.2, pd_14⟩
theorem k1759 : Cond.methodLink RX11 374 yX11_together ∈ gt := gt_7_9 (i := 17) rfl rfl
theorem k1761 : Cond.instanceMethod yX11_together ∈ gt := gt_7_9 (i := 19) rfl rfl
theorem k84 : Cond.selects RX11 yX11_together yX11_together ∈ gt := gs_6 (i := 4) rfl rfl
theorem k1762 : Cond.code yX11_together cX11_together 8 (some .long) ∈ gt := gt_7_9 (i := 20) rfl rfl
theorem np_X11_together : yX11_together.cls ≠ "java/lang/invoke/MethodHandle" ∧ yX11_together.cls ≠ "java/lang/invoke/VarHandle" ∧ (parseMethodDescriptor yX11_together.desc).map (fun d => d.parameters.length) = some 1 := ⟨cq_RX11.1, cq_RX11.2, pd_7⟩
theorem dX11_pond_0 : decode cX11_pond 0 = .ok (.aload_n 0, 1) := dqn_42 (k := 45) qh_cX11_pond rfl rfl
theorem dX11_pond_1 : decode cX11_pond 1 = .ok (.iconst 0, 1) := dqn_3 (k := 44) qh_cX11_pond rfl rfl
theorem dX11_pond_2 : decode cX11_pond 2 = .ok (.putfield 70, 3) := dqn_181 (k := 41) qh_cX11_pond rfl rfl rfl
theorem dX11_pond_5 : decode cX11_pond 5 = .ok (.aload_n 0, 1) := dqn_42 (k := 40) qh_cX11_pond rfl rfl
theorem dX11_pond_6 : decode cX11_pond 6 = .ok (.iload_n 1, 1) := dqn_27 (k := 39) qh_cX11_pond rfl rfl
theorem dX11_pond_7 : decode cX11_pond 7 = .ok (.iload_n 2, 1) := dqn_28 (k := 38) qh_cX11_pond rfl rfl
theorem dX11_pond_8 : decode cX11_pond 8 = .ok (.invokevirtual 240, 3) := dqn_182 (k := 35) qh_cX11_pond rfl rfl rfl
theorem dX11_pond_11 : decode cX11_pond 11 = .ok (.ifCond .eq 32, 3) := dqn_153 (k := 32) (u := 32) qh_cX11_pond rfl rfl rfl (sg_p rfl rfl)
theorem dX11_pond_14 : decode cX11_pond 14 = .ok (.aload_n 0, 1) := dqn_42 (k := 31) qh_cX11_pond rfl rfl
theorem dX11_pond_15 : decode cX11_pond 15 = .ok (.iload_n 3, 1) := dqn_29 (k := 30) qh_cX11_pond rfl rfl
theorem dX11_pond_16 : decode cX11_pond 16 = .ok (.invokevirtual 243, 3) := dqn_182 (k := 27) qh_cX11_pond rfl rfl rfl
theorem dX11_pond_19 : decode cX11_pond 19 = .ok (.ifCond .eq 24, 3) := dqn_153 (k := 24) (u := 24) qh_cX11_pond rfl rfl rfl (sg_p rfl rfl)
theorem dX11_pond_22 : decode cX11_pond 22 = .ok (.iload 4, 2) := dqn_21 (k := 22) qh_cX11_pond rfl rfl rfl
theorem dX11_pond_24 : decode cX11_pond 24 = .ok (.iconst 0, 1) := dqn_3 (k := 21) qh_cX11_pond rfl rfl
theorem dX11_pond_25 : decode cX11_pond 25 = .ok (.bipush 15, 2) := dqn_16 (k := 19) (u := 15) qh_cX11_pond rfl rfl rfl (by decide)
theorem dX11_pond_27 : decode cX11_pond 27 = .ok (.invokestatic 78, 3) := dqn_184 (k := 16) qh_cX11_pond rfl rfl rfl
theorem dX11_pond_30 : decode cX11_pond 30 = .ok (.ifCond .eq 13, 3) := dqn_153 (k := 13) (u := 13) qh_cX11_pond rfl rfl rfl (sg_p rfl rfl)
theorem dX11_pond_33 : decode cX11_pond 33 = .ok (.aload_n 0, 1) := dqn_42 (k := 12) qh_cX11_pond rfl rfl
theorem dX11_pond_34 : decode cX11_pond 34 = .ok (.iload_n 3, 1) := dqn_29 (k := 11) qh_cX11_pond rfl rfl
theorem dX11_pond_35 : decode cX11_pond 35 = .ok (.iload 4, 2) := dqn_21 (k := 9) qh_cX11_pond rfl rfl rfl
theorem dX11_pond_37 : decode cX11_pond 37 = .ok (.invokevirtual 211, 3) := dqn_182 (k := 6) qh_cX11_pond rfl rfl rfl
theorem dX11_pond_40 : decode cX11_pond 40 = .ok (.goto 5, 3) := dqn_167 (k := 3) (u := 5) qh_cX11_pond rfl rfl rfl (sg_p rfl rfl)
theorem dX11_pond_43 : decode cX11_pond 43 = .ok (.bipush (-2), 2) := dqn_16 (k := 1) (u := 254) qh_cX11_pond rfl rfl rfl (by decide)
theorem dX11_pond_45 : decode cX11_pond 45 = .ok (.ireturn, 1) := dqn_172 (k := 0) qh_cX11_pond rfl rfl
theorem dX11_plan_0 : decode cX11_plan 0 = .ok (.aload_n 0, 1) := dqn_42 (k := 60) qh_cX11_plan rfl rfl
theorem dX11_plan_1 : decode cX11_plan 1 = .ok (.iconst 0, 1) := dqn_3 (k := 59) qh_cX11_plan rfl rfl
theorem dX11_plan_2 : decode cX11_plan 2 = .ok (.putfield 70, 3) := dqn_181 (k := 56) qh_cX11_plan rfl rfl rfl
theorem dX11_plan_5 : decode cX11_plan 5 = .ok (.aload_n 0, 1) := dqn_42 (k := 55) qh_cX11_plan rfl rfl
theorem dX11_plan_6 : decode cX11_plan 6 = .ok (.iload_n 2, 1) := dqn_28 (k := 54) qh_cX11_plan rfl rfl
theorem dX11_plan_7 : decode cX11_plan 7 = .ok (.invokevirtual 225, 3) := dqn_182 (k := 51) qh_cX11_plan rfl rfl rfl
theorem dX11_plan_10 : decode cX11_plan 10 = .ok (.ifCond .eq 12, 3) := dqn_153 (k := 48) (u := 12) qh_cX11_plan rfl rfl rfl (sg_p rfl rfl)
theorem dX11_plan_13 : decode cX11_plan 13 = .ok (.aload_n 0, 1) := dqn_42 (k := 47) qh_cX11_plan rfl rfl
theorem dX11_plan_14 : decode cX11_plan 14 = .ok (.iload_n 1, 1) := dqn_27 (k := 46) qh_cX11_plan rfl rfl
theorem dX11_plan_15 : decode cX11_plan 15 = .ok (.iload_n 2, 1) := dqn_28 (k := 45) qh_cX11_plan rfl rfl
theorem dX11_plan_16 : decode cX11_plan 16 = .ok (.invokevirtual 240, 3) := dqn_182 (k := 42) qh_cX11_plan rfl rfl rfl
theorem dX11_plan_19 : decode cX11_plan 19 = .ok (.ifCond .ne 5, 3) := dqn_154 (k := 39) (u := 5) qh_cX11_plan rfl rfl rfl (sg_p rfl rfl)
theorem dX11_plan_22 : decode cX11_plan 22 = .ok (.iconst (-1), 1) := dqn_2 (k := 38) qh_cX11_plan rfl rfl
theorem dX11_plan_23 : decode cX11_plan 23 = .ok (.ireturn, 1) := dqn_172 (k := 37) qh_cX11_plan rfl rfl
theorem dX11_plan_24 : decode cX11_plan 24 = .ok (.iload_n 3, 1) := dqn_29 (k := 36) qh_cX11_plan rfl rfl
theorem dX11_plan_25 : decode cX11_plan 25 = .ok (.ifCond .ne 10, 3) := dqn_154 (k := 33) (u := 10) qh_cX11_plan rfl rfl rfl (sg_p rfl rfl)
theorem dX11_plan_28 : decode cX11_plan 28 = .ok (.aload_n 0, 1) := dqn_42 (k := 32) qh_cX11_plan rfl rfl
theorem dX11_plan_29 : decode cX11_plan 29 = .ok (.getfield 228, 3) := dqn_180 (k := 29) qh_cX11_plan rfl rfl rfl
theorem dX11_plan_32 : decode cX11_plan 32 = .ok (.goto 28, 3) := dqn_167 (k := 26) (u := 28) qh_cX11_plan rfl rfl rfl (sg_p rfl rfl)
theorem dX11_plan_35 : decode cX11_plan 35 = .ok (.iload_n 3, 1) := dqn_29 (k := 25) qh_cX11_plan rfl rfl
theorem dX11_plan_36 : decode cX11_plan 36 = .ok (.iconst 1, 1) := dqn_4 (k := 24) qh_cX11_plan rfl rfl
theorem dX11_plan_37 : decode cX11_plan 37 = .ok (.if_icmp .ne 10, 3) := dqn_160 (k := 21) (u := 10) qh_cX11_plan rfl rfl rfl (sg_p rfl rfl)
theorem dX11_plan_40 : decode cX11_plan 40 = .ok (.aload_n 0, 1) := dqn_42 (k := 20) qh_cX11_plan rfl rfl
theorem dX11_plan_41 : decode cX11_plan 41 = .ok (.getfield 219, 3) := dqn_180 (k := 17) qh_cX11_plan rfl rfl rfl
theorem dX11_plan_44 : decode cX11_plan 44 = .ok (.goto 16, 3) := dqn_167 (k := 14) (u := 16) qh_cX11_plan rfl rfl rfl (sg_p rfl rfl)
theorem dX11_plan_47 : decode cX11_plan 47 = .ok (.iload_n 3, 1) := dqn_29 (k := 13) qh_cX11_plan rfl rfl
theorem dX11_plan_48 : decode cX11_plan 48 = .ok (.iconst 2, 1) := dqn_5 (k := 12) qh_cX11_plan rfl rfl
theorem dX11_plan_49 : decode cX11_plan 49 = .ok (.if_icmp .ne 10, 3) := dqn_160 (k := 9) (u := 10) qh_cX11_plan rfl rfl rfl (sg_p rfl rfl)
theorem dX11_plan_52 : decode cX11_plan 52 = .ok (.aload_n 0, 1) := dqn_42 (k := 8) qh_cX11_plan rfl rfl
theorem dX11_plan_53 : decode cX11_plan 53 = .ok (.getfield 222, 3) := dqn_180 (k := 5) qh_cX11_plan rfl rfl rfl
theorem dX11_plan_56 : decode cX11_plan 56 = .ok (.goto 4, 3) := dqn_167 (k := 2) (u := 4) qh_cX11_plan rfl rfl rfl (sg_p rfl rfl)
theorem dX11_plan_59 : decode cX11_plan 59 = .ok (.iconst (-1), 1) := dqn_2 (k := 1) qh_cX11_plan rfl rfl
theorem dX11_plan_60 : decode cX11_plan 60 = .ok (.ireturn, 1) := dqn_172 (k := 0) qh_cX11_plan rfl rfl
theorem dX11_storm_0 : decode cX11_storm 0 = .ok (.aload_n 0, 1) := dqn_42 (k := 50) qh_cX11_storm rfl rfl
theorem dX11_storm_1 : decode cX11_storm 1 = .ok (.iconst 0, 1) := dqn_3 (k := 49) qh_cX11_storm rfl rfl
theorem dX11_storm_2 : decode cX11_storm 2 = .ok (.putfield 70, 3) := dqn_181 (k := 46) qh_cX11_storm rfl rfl rfl
theorem dX11_storm_5 : decode cX11_storm 5 = .ok (.aload_n 0, 1) := dqn_42 (k := 45) qh_cX11_storm rfl rfl
theorem dX11_storm_6 : decode cX11_storm 6 = .ok (.iload_n 1, 1) := dqn_27 (k := 44) qh_cX11_storm rfl rfl
theorem dX11_storm_7 : decode cX11_storm 7 = .ok (.iload_n 2, 1) := dqn_28 (k := 43) qh_cX11_storm rfl rfl
theorem dX11_storm_8 : decode cX11_storm 8 = .ok (.invokevirtual 240, 3) := dqn_182 (k := 40) qh_cX11_storm rfl rfl rfl
theorem dX11_storm_11 : decode cX11_storm 11 = .ok (.ifCond .eq 20, 3) := dqn_153 (k := 37) (u := 20) qh_cX11_storm rfl rfl rfl (sg_p rfl rfl)
theorem dX11_storm_14 : decode cX11_storm 14 = .ok (.aload_n 0, 1) := dqn_42 (k := 36) qh_cX11_storm rfl rfl
theorem dX11_storm_15 : decode cX11_storm 15 = .ok (.iload_n 3, 1) := dqn_29 (k := 35) qh_cX11_storm rfl rfl
theorem dX11_storm_16 : decode cX11_storm 16 = .ok (.invokevirtual 265, 3) := dqn_182 (k := 32) qh_cX11_storm rfl rfl rfl
theorem dX11_storm_19 : decode cX11_storm 19 = .ok (.ifCond .eq 12, 3) := dqn_153 (k := 29) (u := 12) qh_cX11_storm rfl rfl rfl (sg_p rfl rfl)
theorem dX11_storm_22 : decode cX11_storm 22 = .ok (.aload_n 0, 1) := dqn_42 (k := 28) qh_cX11_storm rfl rfl
theorem dX11_storm_23 : decode cX11_storm 23 = .ok (.iload 4, 2) := dqn_21 (k := 26) qh_cX11_storm rfl rfl rfl
theorem dX11_storm_25 : decode cX11_storm 25 = .ok (.invokevirtual 268, 3) := dqn_182 (k := 23) qh_cX11_storm rfl rfl rfl
theorem dX11_storm_28 : decode cX11_storm 28 = .ok (.ifCond .ne 5, 3) := dqn_154 (k := 20) (u := 5) qh_cX11_storm rfl rfl rfl (sg_p rfl rfl)
theorem dX11_storm_31 : decode cX11_storm 31 = .ok (.iconst (-1), 1) := dqn_2 (k := 19) qh_cX11_storm rfl rfl
theorem dX11_storm_32 : decode cX11_storm 32 = .ok (.ireturn, 1) := dqn_172 (k := 18) qh_cX11_storm rfl rfl
theorem dX11_storm_33 : decode cX11_storm 33 = .ok (.aload_n 0, 1) := dqn_42 (k := 17) qh_cX11_storm rfl rfl
theorem dX11_storm_34 : decode cX11_storm 34 = .ok (.aload_n 0, 1) := dqn_42 (k := 16) qh_cX11_storm rfl rfl
theorem dX11_storm_35 : decode cX11_storm 35 = .ok (.iload_n 3, 1) := dqn_29 (k := 15) qh_cX11_storm rfl rfl
theorem dX11_storm_36 : decode cX11_storm 36 = .ok (.invokevirtual 271, 3) := dqn_182 (k := 12) qh_cX11_storm rfl rfl rfl
theorem dX11_storm_39 : decode cX11_storm 39 = .ok (.iload 4, 2) := dqn_21 (k := 10) qh_cX11_storm rfl rfl rfl
theorem dX11_storm_41 : decode cX11_storm 41 = .ok (.invokevirtual 275, 3) := dqn_182 (k := 7) qh_cX11_storm rfl rfl rfl
theorem dX11_storm_44 : decode cX11_storm 44 = .ok (.aload_n 0, 1) := dqn_42 (k := 6) qh_cX11_storm rfl rfl
theorem dX11_storm_45 : decode cX11_storm 45 = .ok (.iload 5, 2) := dqn_21 (k := 4) qh_cX11_storm rfl rfl rfl
theorem dX11_storm_47 : decode cX11_storm 47 = .ok (.invokevirtual 278, 3) := dqn_182 (k := 1) qh_cX11_storm rfl rfl rfl
theorem dX11_storm_50 : decode cX11_storm 50 = .ok (.ireturn, 1) := dqn_172 (k := 0) qh_cX11_storm rfl rfl
theorem dX11_likely_0 : decode cX11_likely 0 = .ok (.aload_n 0, 1) := dqn_42 (k := 144) qh_cX11_likely rfl rfl
theorem dX11_likely_1 : decode cX11_likely 1 = .ok (.iconst 0, 1) := dqn_3 (k := 143) qh_cX11_likely rfl rfl
theorem dX11_likely_2 : decode cX11_likely 2 = .ok (.putfield 70, 3) := dqn_181 (k := 140) qh_cX11_likely rfl rfl rfl
theorem dX11_likely_5 : decode cX11_likely 5 = .ok (.aload_n 0, 1) := dqn_42 (k := 139) qh_cX11_likely rfl rfl
theorem dX11_likely_6 : decode cX11_likely 6 = .ok (.iload_n 1, 1) := dqn_27 (k := 138) qh_cX11_likely rfl rfl
theorem dX11_likely_7 : decode cX11_likely 7 = .ok (.iload_n 2, 1) := dqn_28 (k := 137) qh_cX11_likely rfl rfl
theorem dX11_likely_8 : decode cX11_likely 8 = .ok (.invokevirtual 240, 3) := dqn_182 (k := 134) qh_cX11_likely rfl rfl rfl
theorem dX11_likely_11 : decode cX11_likely 11 = .ok (.ifCond .eq 16, 3) := dqn_153 (k := 131) (u := 16) qh_cX11_likely rfl rfl rfl (sg_p rfl rfl)
theorem dX11_likely_14 : decode cX11_likely 14 = .ok (.iload_n 3, 1) := dqn_29 (k := 130) qh_cX11_likely rfl rfl
theorem dX11_likely_15 : decode cX11_likely 15 = .ok (.iconst (-1), 1) := dqn_2 (k := 129) qh_cX11_likely rfl rfl
theorem dX11_likely_16 : decode cX11_likely 16 = .ok (.if_icmp .eq 15, 3) := dqn_159 (k := 126) (u := 15) qh_cX11_likely rfl rfl rfl (sg_p rfl rfl)
theorem dX11_likely_19 : decode cX11_likely 19 = .ok (.aload_n 0, 1) := dqn_42 (k := 125) qh_cX11_likely rfl rfl
theorem dX11_likely_20 : decode cX11_likely 20 = .ok (.iload_n 3, 1) := dqn_29 (k := 124) qh_cX11_likely rfl rfl
theorem dX11_likely_21 : decode cX11_likely 21 = .ok (.invokevirtual 243, 3) := dqn_182 (k := 121) qh_cX11_likely rfl rfl rfl
theorem dX11_likely_24 : decode cX11_likely 24 = .ok (.ifCond .ne 7, 3) := dqn_154 (k := 118) (u := 7) qh_cX11_likely rfl rfl rfl (sg_p rfl rfl)
theorem dX11_likely_27 : decode cX11_likely 27 = .ok (.ldc2_w 292, 3) := dqn_20 (k := 115) qh_cX11_likely rfl rfl rfl
theorem dX11_likely_30 : decode cX11_likely 30 = .ok (.lreturn, 1) := dqn_173 (k := 114) qh_cX11_likely rfl rfl
theorem dX11_likely_31 : decode cX11_likely 31 = .ok (.lconst 0, 1) := dqn_9 (k := 113) qh_cX11_likely rfl rfl
theorem dX11_likely_32 : decode cX11_likely 32 = .ok (.lstore 4, 2) := dqn_55 (k := 111) qh_cX11_likely rfl rfl rfl
theorem dX11_likely_34 : decode cX11_likely 34 = .ok (.iconst 0, 1) := dqn_3 (k := 110) qh_cX11_likely rfl rfl
theorem dX11_likely_35 : decode cX11_likely 35 = .ok (.istore 6, 2) := dqn_54 (k := 108) qh_cX11_likely rfl rfl rfl
theorem dX11_likely_37 : decode cX11_likely 37 = .ok (.iload 6, 2) := dqn_21 (k := 106) qh_cX11_likely rfl rfl rfl
theorem dX11_likely_39 : decode cX11_likely 39 = .ok (.aload_n 0, 1) := dqn_42 (k := 105) qh_cX11_likely rfl rfl
theorem dX11_likely_40 : decode cX11_likely 40 = .ok (.getfield 38, 3) := dqn_180 (k := 102) qh_cX11_likely rfl rfl rfl
theorem dX11_likely_43 : decode cX11_likely 43 = .ok (.iconst 1, 1) := dqn_4 (k := 101) qh_cX11_likely rfl rfl
theorem dX11_likely_44 : decode cX11_likely 44 = .ok (.iaload, 1) := dqn_46 (k := 100) qh_cX11_likely rfl rfl
theorem dX11_likely_45 : decode cX11_likely 45 = .ok (.if_icmp .ge 85, 3) := dqn_162 (k := 97) (u := 85) qh_cX11_likely rfl rfl rfl (sg_p rfl rfl)
theorem dX11_likely_48 : decode cX11_likely 48 = .ok (.iload_n 3, 1) := dqn_29 (k := 96) qh_cX11_likely rfl rfl
theorem dX11_likely_49 : decode cX11_likely 49 = .ok (.iconst (-1), 1) := dqn_2 (k := 95) qh_cX11_likely rfl rfl
theorem dX11_likely_50 : decode cX11_likely 50 = .ok (.if_icmp .eq 80, 3) := dqn_159 (k := 92) (u := 80) qh_cX11_likely rfl rfl rfl (sg_p rfl rfl)
theorem dX11_likely_53 : decode cX11_likely 53 = .ok (.iconst 0, 1) := dqn_3 (k := 91) qh_cX11_likely rfl rfl
theorem dX11_likely_54 : decode cX11_likely 54 = .ok (.istore 7, 2) := dqn_54 (k := 89) qh_cX11_likely rfl rfl rfl
theorem dX11_likely_56 : decode cX11_likely 56 = .ok (.iload 7, 2) := dqn_21 (k := 87) qh_cX11_likely rfl rfl rfl
theorem dX11_likely_58 : decode cX11_likely 58 = .ok (.iconst 1, 1) := dqn_4 (k := 86) qh_cX11_likely rfl rfl
theorem dX11_likely_59 : decode cX11_likely 59 = .ok (.aload_n 0, 1) := dqn_42 (k := 85) qh_cX11_likely rfl rfl
theorem dX11_likely_60 : decode cX11_likely 60 = .ok (.getfield 208, 3) := dqn_180 (k := 82) qh_cX11_likely rfl rfl rfl
theorem dX11_likely_63 : decode cX11_likely 63 = .ok (.ishl, 1) := dqn_120 (k := 81) qh_cX11_likely rfl rfl
theorem dX11_likely_64 : decode cX11_likely 64 = .ok (.if_icmp .ge 60, 3) := dqn_162 (k := 78) (u := 60) qh_cX11_likely rfl rfl rfl (sg_p rfl rfl)
theorem dX11_likely_67 : decode cX11_likely 67 = .ok (.aload_n 0, 1) := dqn_42 (k := 77) qh_cX11_likely rfl rfl
theorem dX11_likely_68 : decode cX11_likely 68 = .ok (.iload 6, 2) := dqn_21 (k := 75) qh_cX11_likely rfl rfl rfl
theorem dX11_likely_70 : decode cX11_likely 70 = .ok (.iload 7, 2) := dqn_21 (k := 73) qh_cX11_likely rfl rfl rfl
theorem dX11_likely_72 : decode cX11_likely 72 = .ok (.invokevirtual 288, 3) := dqn_182 (k := 70) qh_cX11_likely rfl rfl rfl
theorem dX11_likely_75 : decode cX11_likely 75 = .ok (.lstore 8, 2) := dqn_55 (k := 68) qh_cX11_likely rfl rfl rfl
theorem dX11_likely_77 : decode cX11_likely 77 = .ok (.lload 8, 2) := dqn_22 (k := 66) qh_cX11_likely rfl rfl rfl
theorem dX11_likely_79 : decode cX11_likely 79 = .ok (.lconst 0, 1) := dqn_9 (k := 65) qh_cX11_likely rfl rfl
theorem dX11_likely_80 : decode cX11_likely 80 = .ok (.lcmp, 1) := dqn_148 (k := 64) qh_cX11_likely rfl rfl
theorem dX11_likely_81 : decode cX11_likely 81 = .ok (.ifCond .le 37, 3) := dqn_158 (k := 61) (u := 37) qh_cX11_likely rfl rfl rfl (sg_p rfl rfl)
theorem dX11_likely_84 : decode cX11_likely 84 = .ok (.aload_n 0, 1) := dqn_42 (k := 60) qh_cX11_likely rfl rfl
theorem dX11_likely_85 : decode cX11_likely 85 = .ok (.aload_n 0, 1) := dqn_42 (k := 59) qh_cX11_likely rfl rfl
theorem dX11_likely_86 : decode cX11_likely 86 = .ok (.iload 6, 2) := dqn_21 (k := 57) qh_cX11_likely rfl rfl rfl
theorem dX11_likely_88 : decode cX11_likely 88 = .ok (.invokevirtual 271, 3) := dqn_182 (k := 54) qh_cX11_likely rfl rfl rfl
theorem dX11_likely_91 : decode cX11_likely 91 = .ok (.iload 7, 2) := dqn_21 (k := 52) qh_cX11_likely rfl rfl rfl
theorem dX11_likely_93 : decode cX11_likely 93 = .ok (.invokevirtual 275, 3) := dqn_182 (k := 49) qh_cX11_likely rfl rfl rfl
theorem dX11_likely_96 : decode cX11_likely 96 = .ok (.lload 4, 2) := dqn_22 (k := 47) qh_cX11_likely rfl rfl rfl
theorem dX11_likely_98 : decode cX11_likely 98 = .ok (.aload_n 0, 1) := dqn_42 (k := 46) qh_cX11_likely rfl rfl
theorem dX11_likely_99 : decode cX11_likely 99 = .ok (.getfield 246, 3) := dqn_180 (k := 43) qh_cX11_likely rfl rfl rfl
theorem dX11_likely_102 : decode cX11_likely 102 = .ok (.iload_n 3, 1) := dqn_29 (k := 42) qh_cX11_likely rfl rfl
theorem dX11_likely_103 : decode cX11_likely 103 = .ok (.invokestatic 249, 3) := dqn_184 (k := 39) qh_cX11_likely rfl rfl rfl
theorem dX11_likely_106 : decode cX11_likely 106 = .ok (.ifCond .eq 8, 3) := dqn_153 (k := 36) (u := 8) qh_cX11_likely rfl rfl rfl (sg_p rfl rfl)
theorem dX11_likely_109 : decode cX11_likely 109 = .ok (.lload 8, 2) := dqn_22 (k := 34) qh_cX11_likely rfl rfl rfl
theorem dX11_likely_111 : decode cX11_likely 111 = .ok (.goto 4, 3) := dqn_167 (k := 31) (u := 4) qh_cX11_likely rfl rfl rfl (sg_p rfl rfl)
theorem dX11_likely_114 : decode cX11_likely 114 = .ok (.lconst 0, 1) := dqn_9 (k := 30) qh_cX11_likely rfl rfl
theorem dX11_likely_115 : decode cX11_likely 115 = .ok (.ladd, 1) := dqn_97 (k := 29) qh_cX11_likely rfl rfl
theorem dX11_likely_116 : decode cX11_likely 116 = .ok (.lstore 4, 2) := dqn_55 (k := 27) qh_cX11_likely rfl rfl rfl
theorem dX11_likely_118 : decode cX11_likely 118 = .ok (.iinc 7 1, 3) := dqn_132 (k := 24) (u := 1) qh_cX11_likely rfl rfl rfl rfl (by decide)
theorem dX11_likely_121 : decode cX11_likely 121 = .ok (.goto (-65), 3) := dqn_167 (k := 21) (u := 65471) qh_cX11_likely rfl rfl rfl (sg_n (k := 65) rfl rfl rfl)
theorem dX11_likely_124 : decode cX11_likely 124 = .ok (.iinc 6 1, 3) := dqn_132 (k := 18) (u := 1) qh_cX11_likely rfl rfl rfl rfl (by decide)
theorem dX11_likely_127 : decode cX11_likely 127 = .ok (.goto (-90), 3) := dqn_167 (k := 15) (u := 65446) qh_cX11_likely rfl rfl rfl (sg_n (k := 90) rfl rfl rfl)
theorem dX11_likely_130 : decode cX11_likely 130 = .ok (.iload_n 3, 1) := dqn_29 (k := 14) qh_cX11_likely rfl rfl
theorem dX11_likely_131 : decode cX11_likely 131 = .ok (.iconst (-1), 1) := dqn_2 (k := 13) qh_cX11_likely rfl rfl
theorem dX11_likely_132 : decode cX11_likely 132 = .ok (.if_icmp .ne 10, 3) := dqn_160 (k := 10) (u := 10) qh_cX11_likely rfl rfl rfl (sg_p rfl rfl)
theorem dX11_likely_135 : decode cX11_likely 135 = .ok (.aload_n 0, 1) := dqn_42 (k := 9) qh_cX11_likely rfl rfl
theorem dX11_likely_136 : decode cX11_likely 136 = .ok (.invokevirtual 294, 3) := dqn_182 (k := 6) qh_cX11_likely rfl rfl rfl
theorem dX11_likely_139 : decode cX11_likely 139 = .ok (.goto 5, 3) := dqn_167 (k := 3) (u := 5) qh_cX11_likely rfl rfl rfl (sg_p rfl rfl)
theorem dX11_likely_142 : decode cX11_likely 142 = .ok (.lload 4, 2) := dqn_22 (k := 1) qh_cX11_likely rfl rfl rfl
theorem dX11_likely_144 : decode cX11_likely 144 = .ok (.lreturn, 1) := dqn_173 (k := 0) qh_cX11_likely rfl rfl
theorem dX11_mean_0 : decode cX11_mean 0 = .ok (.aload_n 0, 1) := dqn_42 (k := 37) qh_cX11_mean rfl rfl
theorem dX11_mean_1 : decode cX11_mean 1 = .ok (.iconst 0, 1) := dqn_3 (k := 36) qh_cX11_mean rfl rfl
theorem dX11_mean_2 : decode cX11_mean 2 = .ok (.putfield 70, 3) := dqn_181 (k := 33) qh_cX11_mean rfl rfl rfl
theorem dX11_mean_5 : decode cX11_mean 5 = .ok (.aload_n 0, 1) := dqn_42 (k := 32) qh_cX11_mean rfl rfl
theorem dX11_mean_6 : decode cX11_mean 6 = .ok (.iload_n 1, 1) := dqn_27 (k := 31) qh_cX11_mean rfl rfl
theorem dX11_mean_7 : decode cX11_mean 7 = .ok (.iload_n 2, 1) := dqn_28 (k := 30) qh_cX11_mean rfl rfl
theorem dX11_mean_8 : decode cX11_mean 8 = .ok (.invokevirtual 240, 3) := dqn_182 (k := 27) qh_cX11_mean rfl rfl rfl
theorem dX11_mean_11 : decode cX11_mean 11 = .ok (.ifCond .eq 23, 3) := dqn_153 (k := 24) (u := 23) qh_cX11_mean rfl rfl rfl (sg_p rfl rfl)
theorem dX11_mean_14 : decode cX11_mean 14 = .ok (.iload_n 3, 1) := dqn_29 (k := 23) qh_cX11_mean rfl rfl
theorem dX11_mean_15 : decode cX11_mean 15 = .ok (.iconst (-1), 1) := dqn_2 (k := 22) qh_cX11_mean rfl rfl
theorem dX11_mean_16 : decode cX11_mean 16 = .ok (.if_icmp .eq 10, 3) := dqn_159 (k := 19) (u := 10) qh_cX11_mean rfl rfl rfl (sg_p rfl rfl)
theorem dX11_mean_19 : decode cX11_mean 19 = .ok (.iload_n 3, 1) := dqn_29 (k := 18) qh_cX11_mean rfl rfl
theorem dX11_mean_20 : decode cX11_mean 20 = .ok (.invokestatic 298, 3) := dqn_184 (k := 15) qh_cX11_mean rfl rfl rfl
theorem dX11_mean_23 : decode cX11_mean 23 = .ok (.ifCond .eq 11, 3) := dqn_153 (k := 12) (u := 11) qh_cX11_mean rfl rfl rfl (sg_p rfl rfl)
theorem dX11_mean_26 : decode cX11_mean 26 = .ok (.aload_n 0, 1) := dqn_42 (k := 11) qh_cX11_mean rfl rfl
theorem dX11_mean_27 : decode cX11_mean 27 = .ok (.iload_n 3, 1) := dqn_29 (k := 10) qh_cX11_mean rfl rfl
theorem dX11_mean_28 : decode cX11_mean 28 = .ok (.invokevirtual 301, 3) := dqn_182 (k := 7) qh_cX11_mean rfl rfl rfl
theorem dX11_mean_31 : decode cX11_mean 31 = .ok (.goto 6, 3) := dqn_167 (k := 4) (u := 6) qh_cX11_mean rfl rfl rfl (sg_p rfl rfl)
theorem dX11_mean_34 : decode cX11_mean 34 = .ok (.ldc2_w 292, 3) := dqn_20 (k := 1) qh_cX11_mean rfl rfl rfl
theorem dX11_mean_37 : decode cX11_mean 37 = .ok (.lreturn, 1) := dqn_173 (k := 0) qh_cX11_mean rfl rfl
theorem dX11_rows_0 : decode cX11_rows 0 = .ok (.aload_n 0, 1) := dqn_42 (k := 196) qh_cX11_rows rfl rfl
theorem dX11_rows_1 : decode cX11_rows 1 = .ok (.iconst 0, 1) := dqn_3 (k := 195) qh_cX11_rows rfl rfl
theorem dX11_rows_2 : decode cX11_rows 2 = .ok (.putfield 70, 3) := dqn_181 (k := 192) qh_cX11_rows rfl rfl rfl
theorem dX11_rows_5 : decode cX11_rows 5 = .ok (.aload_n 0, 1) := dqn_42 (k := 191) qh_cX11_rows rfl rfl
theorem dX11_rows_6 : decode cX11_rows 6 = .ok (.iload_n 1, 1) := dqn_27 (k := 190) qh_cX11_rows rfl rfl
theorem dX11_rows_7 : decode cX11_rows 7 = .ok (.iload_n 2, 1) := dqn_28 (k := 189) qh_cX11_rows rfl rfl
theorem dX11_rows_8 : decode cX11_rows 8 = .ok (.invokevirtual 240, 3) := dqn_182 (k := 186) qh_cX11_rows rfl rfl rfl
theorem dX11_rows_11 : decode cX11_rows 11 = .ok (.ifCond .ne 7, 3) := dqn_154 (k := 183) (u := 7) qh_cX11_rows rfl rfl rfl (sg_p rfl rfl)
theorem dX11_rows_14 : decode cX11_rows 14 = .ok (.ldc2_w 292, 3) := dqn_20 (k := 180) qh_cX11_rows rfl rfl rfl
theorem dX11_rows_17 : decode cX11_rows 17 = .ok (.lreturn, 1) := dqn_173 (k := 179) qh_cX11_rows rfl rfl
theorem dX11_rows_18 : decode cX11_rows 18 = .ok (.iconst 0, 1) := dqn_3 (k := 178) qh_cX11_rows rfl rfl
theorem dX11_rows_19 : decode cX11_rows 19 = .ok (.istore 4, 2) := dqn_54 (k := 176) qh_cX11_rows rfl rfl rfl
theorem dX11_rows_21 : decode cX11_rows 21 = .ok (.iload 4, 2) := dqn_21 (k := 174) qh_cX11_rows rfl rfl rfl
theorem dX11_rows_23 : decode cX11_rows 23 = .ok (.iconst 1, 1) := dqn_4 (k := 173) qh_cX11_rows rfl rfl
theorem dX11_rows_24 : decode cX11_rows 24 = .ok (.aload_n 0, 1) := dqn_42 (k := 172) qh_cX11_rows rfl rfl
theorem dX11_rows_25 : decode cX11_rows 25 = .ok (.getfield 208, 3) := dqn_180 (k := 169) qh_cX11_rows rfl rfl rfl
theorem dX11_rows_28 : decode cX11_rows 28 = .ok (.ishl, 1) := dqn_120 (k := 168) qh_cX11_rows rfl rfl
theorem dX11_rows_29 : decode cX11_rows 29 = .ok (.if_icmp .ge 17, 3) := dqn_162 (k := 165) (u := 17) qh_cX11_rows rfl rfl rfl (sg_p rfl rfl)
theorem dX11_rows_32 : decode cX11_rows 32 = .ok (.aload_n 0, 1) := dqn_42 (k := 164) qh_cX11_rows rfl rfl
theorem dX11_rows_33 : decode cX11_rows 33 = .ok (.getfield 50, 3) := dqn_180 (k := 161) qh_cX11_rows rfl rfl rfl
theorem dX11_rows_36 : decode cX11_rows 36 = .ok (.iload 4, 2) := dqn_21 (k := 159) qh_cX11_rows rfl rfl rfl
theorem dX11_rows_38 : decode cX11_rows 38 = .ok (.lconst 0, 1) := dqn_9 (k := 158) qh_cX11_rows rfl rfl
theorem dX11_rows_39 : decode cX11_rows 39 = .ok (.lastore, 1) := dqn_80 (k := 157) qh_cX11_rows rfl rfl
theorem dX11_rows_40 : decode cX11_rows 40 = .ok (.iinc 4 1, 3) := dqn_132 (k := 154) (u := 1) qh_cX11_rows rfl rfl rfl rfl (by decide)
theorem dX11_rows_43 : decode cX11_rows 43 = .ok (.goto (-22), 3) := dqn_167 (k := 151) (u := 65514) qh_cX11_rows rfl rfl rfl (sg_n (k := 22) rfl rfl rfl)
theorem dX11_rows_46 : decode cX11_rows 46 = .ok (.iconst 0, 1) := dqn_3 (k := 150) qh_cX11_rows rfl rfl
theorem dX11_rows_47 : decode cX11_rows 47 = .ok (.istore 4, 2) := dqn_54 (k := 148) qh_cX11_rows rfl rfl rfl
theorem dX11_rows_49 : decode cX11_rows 49 = .ok (.iload 4, 2) := dqn_21 (k := 146) qh_cX11_rows rfl rfl rfl
theorem dX11_rows_51 : decode cX11_rows 51 = .ok (.aload_n 0, 1) := dqn_42 (k := 145) qh_cX11_rows rfl rfl
theorem dX11_rows_52 : decode cX11_rows 52 = .ok (.getfield 38, 3) := dqn_180 (k := 142) qh_cX11_rows rfl rfl rfl
theorem dX11_rows_55 : decode cX11_rows 55 = .ok (.iconst 1, 1) := dqn_4 (k := 141) qh_cX11_rows rfl rfl
theorem dX11_rows_56 : decode cX11_rows 56 = .ok (.iaload, 1) := dqn_46 (k := 140) qh_cX11_rows rfl rfl
theorem dX11_rows_57 : decode cX11_rows 57 = .ok (.if_icmp .ge 72, 3) := dqn_162 (k := 137) (u := 72) qh_cX11_rows rfl rfl rfl (sg_p rfl rfl)
theorem dX11_rows_60 : decode cX11_rows 60 = .ok (.iconst 0, 1) := dqn_3 (k := 136) qh_cX11_rows rfl rfl
theorem dX11_rows_61 : decode cX11_rows 61 = .ok (.istore 5, 2) := dqn_54 (k := 134) qh_cX11_rows rfl rfl rfl
theorem dX11_rows_63 : decode cX11_rows 63 = .ok (.iload 5, 2) := dqn_21 (k := 132) qh_cX11_rows rfl rfl rfl
theorem dX11_rows_65 : decode cX11_rows 65 = .ok (.iconst 1, 1) := dqn_4 (k := 131) qh_cX11_rows rfl rfl
theorem dX11_rows_66 : decode cX11_rows 66 = .ok (.aload_n 0, 1) := dqn_42 (k := 130) qh_cX11_rows rfl rfl
theorem dX11_rows_67 : decode cX11_rows 67 = .ok (.getfield 208, 3) := dqn_180 (k := 127) qh_cX11_rows rfl rfl rfl
theorem dX11_rows_70 : decode cX11_rows 70 = .ok (.ishl, 1) := dqn_120 (k := 126) qh_cX11_rows rfl rfl
theorem dX11_rows_71 : decode cX11_rows 71 = .ok (.if_icmp .ge 52, 3) := dqn_162 (k := 123) (u := 52) qh_cX11_rows rfl rfl rfl (sg_p rfl rfl)
theorem dX11_rows_74 : decode cX11_rows 74 = .ok (.aload_n 0, 1) := dqn_42 (k := 122) qh_cX11_rows rfl rfl
theorem dX11_rows_75 : decode cX11_rows 75 = .ok (.iload 4, 2) := dqn_21 (k := 120) qh_cX11_rows rfl rfl rfl
theorem dX11_rows_77 : decode cX11_rows 77 = .ok (.iload 5, 2) := dqn_21 (k := 118) qh_cX11_rows rfl rfl rfl
theorem dX11_rows_79 : decode cX11_rows 79 = .ok (.invokevirtual 288, 3) := dqn_182 (k := 115) qh_cX11_rows rfl rfl rfl
theorem dX11_rows_82 : decode cX11_rows 82 = .ok (.lstore 6, 2) := dqn_55 (k := 113) qh_cX11_rows rfl rfl rfl
theorem dX11_rows_84 : decode cX11_rows 84 = .ok (.lload 6, 2) := dqn_22 (k := 111) qh_cX11_rows rfl rfl rfl
theorem dX11_rows_86 : decode cX11_rows 86 = .ok (.lconst 0, 1) := dqn_9 (k := 110) qh_cX11_rows rfl rfl
theorem dX11_rows_87 : decode cX11_rows 87 = .ok (.lcmp, 1) := dqn_148 (k := 109) qh_cX11_rows rfl rfl
theorem dX11_rows_88 : decode cX11_rows 88 = .ok (.ifCond .le 29, 3) := dqn_158 (k := 106) (u := 29) qh_cX11_rows rfl rfl rfl (sg_p rfl rfl)
theorem dX11_rows_91 : decode cX11_rows 91 = .ok (.aload_n 0, 1) := dqn_42 (k := 105) qh_cX11_rows rfl rfl
theorem dX11_rows_92 : decode cX11_rows 92 = .ok (.aload_n 0, 1) := dqn_42 (k := 104) qh_cX11_rows rfl rfl
theorem dX11_rows_93 : decode cX11_rows 93 = .ok (.iload 4, 2) := dqn_21 (k := 102) qh_cX11_rows rfl rfl rfl
theorem dX11_rows_95 : decode cX11_rows 95 = .ok (.invokevirtual 271, 3) := dqn_182 (k := 99) qh_cX11_rows rfl rfl rfl
theorem dX11_rows_98 : decode cX11_rows 98 = .ok (.iload 5, 2) := dqn_21 (k := 97) qh_cX11_rows rfl rfl rfl
theorem dX11_rows_100 : decode cX11_rows 100 = .ok (.invokevirtual 275, 3) := dqn_182 (k := 94) qh_cX11_rows rfl rfl rfl
theorem dX11_rows_103 : decode cX11_rows 103 = .ok (.aload_n 0, 1) := dqn_42 (k := 93) qh_cX11_rows rfl rfl
theorem dX11_rows_104 : decode cX11_rows 104 = .ok (.getfield 50, 3) := dqn_180 (k := 90) qh_cX11_rows rfl rfl rfl
theorem dX11_rows_107 : decode cX11_rows 107 = .ok (.aload_n 0, 1) := dqn_42 (k := 89) qh_cX11_rows rfl rfl
theorem dX11_rows_108 : decode cX11_rows 108 = .ok (.getfield 246, 3) := dqn_180 (k := 86) qh_cX11_rows rfl rfl rfl
theorem dX11_rows_111 : decode cX11_rows 111 = .ok (.dup2, 1) := dqn_92 (k := 85) qh_cX11_rows rfl rfl
theorem dX11_rows_112 : decode cX11_rows 112 = .ok (.laload, 1) := dqn_47 (k := 84) qh_cX11_rows rfl rfl
theorem dX11_rows_113 : decode cX11_rows 113 = .ok (.lload 6, 2) := dqn_22 (k := 82) qh_cX11_rows rfl rfl rfl
theorem dX11_rows_115 : decode cX11_rows 115 = .ok (.ladd, 1) := dqn_97 (k := 81) qh_cX11_rows rfl rfl
theorem dX11_rows_116 : decode cX11_rows 116 = .ok (.lastore, 1) := dqn_80 (k := 80) qh_cX11_rows rfl rfl
theorem dX11_rows_117 : decode cX11_rows 117 = .ok (.iinc 5 1, 3) := dqn_132 (k := 77) (u := 1) qh_cX11_rows rfl rfl rfl rfl (by decide)
theorem dX11_rows_120 : decode cX11_rows 120 = .ok (.goto (-57), 3) := dqn_167 (k := 74) (u := 65479) qh_cX11_rows rfl rfl rfl (sg_n (k := 57) rfl rfl rfl)
theorem dX11_rows_123 : decode cX11_rows 123 = .ok (.iinc 4 1, 3) := dqn_132 (k := 71) (u := 1) qh_cX11_rows rfl rfl rfl rfl (by decide)
theorem dX11_rows_126 : decode cX11_rows 126 = .ok (.goto (-77), 3) := dqn_167 (k := 68) (u := 65459) qh_cX11_rows rfl rfl rfl (sg_n (k := 77) rfl rfl rfl)
theorem dX11_rows_129 : decode cX11_rows 129 = .ok (.iconst 0, 1) := dqn_3 (k := 67) qh_cX11_rows rfl rfl
theorem dX11_rows_130 : decode cX11_rows 130 = .ok (.istore 4, 2) := dqn_54 (k := 65) qh_cX11_rows rfl rfl rfl
theorem dX11_rows_132 : decode cX11_rows 132 = .ok (.iconst 1, 1) := dqn_4 (k := 64) qh_cX11_rows rfl rfl
theorem dX11_rows_133 : decode cX11_rows 133 = .ok (.istore 5, 2) := dqn_54 (k := 62) qh_cX11_rows rfl rfl rfl
theorem dX11_rows_135 : decode cX11_rows 135 = .ok (.iload 5, 2) := dqn_21 (k := 60) qh_cX11_rows rfl rfl rfl
theorem dX11_rows_137 : decode cX11_rows 137 = .ok (.iconst 1, 1) := dqn_4 (k := 59) qh_cX11_rows rfl rfl
theorem dX11_rows_138 : decode cX11_rows 138 = .ok (.aload_n 0, 1) := dqn_42 (k := 58) qh_cX11_rows rfl rfl
theorem dX11_rows_139 : decode cX11_rows 139 = .ok (.getfield 208, 3) := dqn_180 (k := 55) qh_cX11_rows rfl rfl rfl
theorem dX11_rows_142 : decode cX11_rows 142 = .ok (.ishl, 1) := dqn_120 (k := 54) qh_cX11_rows rfl rfl
theorem dX11_rows_143 : decode cX11_rows 143 = .ok (.if_icmp .ge 36, 3) := dqn_162 (k := 51) (u := 36) qh_cX11_rows rfl rfl rfl (sg_p rfl rfl)
theorem dX11_rows_146 : decode cX11_rows 146 = .ok (.aload_n 0, 1) := dqn_42 (k := 50) qh_cX11_rows rfl rfl
theorem dX11_rows_147 : decode cX11_rows 147 = .ok (.getfield 50, 3) := dqn_180 (k := 47) qh_cX11_rows rfl rfl rfl
theorem dX11_rows_150 : decode cX11_rows 150 = .ok (.iload 5, 2) := dqn_21 (k := 45) qh_cX11_rows rfl rfl rfl
theorem dX11_rows_152 : decode cX11_rows 152 = .ok (.laload, 1) := dqn_47 (k := 44) qh_cX11_rows rfl rfl
theorem dX11_rows_153 : decode cX11_rows 153 = .ok (.aload_n 0, 1) := dqn_42 (k := 43) qh_cX11_rows rfl rfl
theorem dX11_rows_154 : decode cX11_rows 154 = .ok (.getfield 50, 3) := dqn_180 (k := 40) qh_cX11_rows rfl rfl rfl
theorem dX11_rows_157 : decode cX11_rows 157 = .ok (.iload 4, 2) := dqn_21 (k := 38) qh_cX11_rows rfl rfl rfl
theorem dX11_rows_159 : decode cX11_rows 159 = .ok (.laload, 1) := dqn_47 (k := 37) qh_cX11_rows rfl rfl
theorem dX11_rows_160 : decode cX11_rows 160 = .ok (.lcmp, 1) := dqn_148 (k := 36) qh_cX11_rows rfl rfl
theorem dX11_rows_161 : decode cX11_rows 161 = .ok (.ifCond .le 8, 3) := dqn_158 (k := 33) (u := 8) qh_cX11_rows rfl rfl rfl (sg_p rfl rfl)
theorem dX11_rows_164 : decode cX11_rows 164 = .ok (.iload 5, 2) := dqn_21 (k := 31) qh_cX11_rows rfl rfl rfl
theorem dX11_rows_166 : decode cX11_rows 166 = .ok (.goto 5, 3) := dqn_167 (k := 28) (u := 5) qh_cX11_rows rfl rfl rfl (sg_p rfl rfl)
theorem dX11_rows_169 : decode cX11_rows 169 = .ok (.iload 4, 2) := dqn_21 (k := 26) qh_cX11_rows rfl rfl rfl
theorem dX11_rows_171 : decode cX11_rows 171 = .ok (.istore 4, 2) := dqn_54 (k := 24) qh_cX11_rows rfl rfl rfl
theorem dX11_rows_173 : decode cX11_rows 173 = .ok (.iinc 5 1, 3) := dqn_132 (k := 21) (u := 1) qh_cX11_rows rfl rfl rfl rfl (by decide)
theorem dX11_rows_176 : decode cX11_rows 176 = .ok (.goto (-41), 3) := dqn_167 (k := 18) (u := 65495) qh_cX11_rows rfl rfl rfl (sg_n (k := 41) rfl rfl rfl)
theorem dX11_rows_179 : decode cX11_rows 179 = .ok (.iload_n 3, 1) := dqn_29 (k := 17) qh_cX11_rows rfl rfl
theorem dX11_rows_180 : decode cX11_rows 180 = .ok (.ifCond .eq 13, 3) := dqn_153 (k := 14) (u := 13) qh_cX11_rows rfl rfl rfl (sg_p rfl rfl)
theorem dX11_rows_183 : decode cX11_rows 183 = .ok (.aload_n 0, 1) := dqn_42 (k := 13) qh_cX11_rows rfl rfl
theorem dX11_rows_184 : decode cX11_rows 184 = .ok (.getfield 50, 3) := dqn_180 (k := 10) qh_cX11_rows rfl rfl rfl
theorem dX11_rows_187 : decode cX11_rows 187 = .ok (.iload 4, 2) := dqn_21 (k := 8) qh_cX11_rows rfl rfl rfl
theorem dX11_rows_189 : decode cX11_rows 189 = .ok (.laload, 1) := dqn_47 (k := 7) qh_cX11_rows rfl rfl
theorem dX11_rows_190 : decode cX11_rows 190 = .ok (.goto 6, 3) := dqn_167 (k := 4) (u := 6) qh_cX11_rows rfl rfl rfl (sg_p rfl rfl)
theorem dX11_rows_193 : decode cX11_rows 193 = .ok (.iload 4, 2) := dqn_21 (k := 2) qh_cX11_rows rfl rfl rfl
theorem dX11_rows_195 : decode cX11_rows 195 = .ok (.i2l, 1) := dqn_133 (k := 1) qh_cX11_rows rfl rfl
theorem dX11_rows_196 : decode cX11_rows 196 = .ok (.lreturn, 1) := dqn_173 (k := 0) qh_cX11_rows rfl rfl
theorem dX11_brings_0 : decode cX11_brings 0 = .ok (.aload_n 0, 1) := dqn_42 (k := 109) qh_cX11_brings rfl rfl
theorem dX11_brings_1 : decode cX11_brings 1 = .ok (.iconst 0, 1) := dqn_3 (k := 108) qh_cX11_brings rfl rfl
theorem dX11_brings_2 : decode cX11_brings 2 = .ok (.putfield 70, 3) := dqn_181 (k := 105) qh_cX11_brings rfl rfl rfl
theorem dX11_brings_5 : decode cX11_brings 5 = .ok (.aload_n 0, 1) := dqn_42 (k := 104) qh_cX11_brings rfl rfl
theorem dX11_brings_6 : decode cX11_brings 6 = .ok (.iload_n 1, 1) := dqn_27 (k := 103) qh_cX11_brings rfl rfl
theorem dX11_brings_7 : decode cX11_brings 7 = .ok (.iload_n 2, 1) := dqn_28 (k := 102) qh_cX11_brings rfl rfl
theorem dX11_brings_8 : decode cX11_brings 8 = .ok (.invokevirtual 240, 3) := dqn_182 (k := 99) qh_cX11_brings rfl rfl rfl
theorem dX11_brings_11 : decode cX11_brings 11 = .ok (.ifCond .eq 20, 3) := dqn_153 (k := 96) (u := 20) qh_cX11_brings rfl rfl rfl (sg_p rfl rfl)
theorem dX11_brings_14 : decode cX11_brings 14 = .ok (.aload_n 0, 1) := dqn_42 (k := 95) qh_cX11_brings rfl rfl
theorem dX11_brings_15 : decode cX11_brings 15 = .ok (.iload_n 3, 1) := dqn_29 (k := 94) qh_cX11_brings rfl rfl
theorem dX11_brings_16 : decode cX11_brings 16 = .ok (.invokevirtual 265, 3) := dqn_182 (k := 91) qh_cX11_brings rfl rfl rfl
theorem dX11_brings_19 : decode cX11_brings 19 = .ok (.ifCond .eq 12, 3) := dqn_153 (k := 88) (u := 12) qh_cX11_brings rfl rfl rfl (sg_p rfl rfl)
theorem dX11_brings_22 : decode cX11_brings 22 = .ok (.aload_n 0, 1) := dqn_42 (k := 87) qh_cX11_brings rfl rfl
theorem dX11_brings_23 : decode cX11_brings 23 = .ok (.iload 4, 2) := dqn_21 (k := 85) qh_cX11_brings rfl rfl rfl
theorem dX11_brings_25 : decode cX11_brings 25 = .ok (.invokevirtual 243, 3) := dqn_182 (k := 82) qh_cX11_brings rfl rfl rfl
theorem dX11_brings_28 : decode cX11_brings 28 = .ok (.ifCond .ne 5, 3) := dqn_154 (k := 79) (u := 5) qh_cX11_brings rfl rfl rfl (sg_p rfl rfl)
theorem dX11_brings_31 : decode cX11_brings 31 = .ok (.iconst (-1), 1) := dqn_2 (k := 78) qh_cX11_brings rfl rfl
theorem dX11_brings_32 : decode cX11_brings 32 = .ok (.ireturn, 1) := dqn_172 (k := 77) qh_cX11_brings rfl rfl
theorem dX11_brings_33 : decode cX11_brings 33 = .ok (.iconst (-1), 1) := dqn_2 (k := 76) qh_cX11_brings rfl rfl
theorem dX11_brings_34 : decode cX11_brings 34 = .ok (.istore 5, 2) := dqn_54 (k := 74) qh_cX11_brings rfl rfl rfl
theorem dX11_brings_36 : decode cX11_brings 36 = .ok (.iconst 0, 1) := dqn_3 (k := 73) qh_cX11_brings rfl rfl
theorem dX11_brings_37 : decode cX11_brings 37 = .ok (.istore 6, 2) := dqn_54 (k := 71) qh_cX11_brings rfl rfl rfl
theorem dX11_brings_39 : decode cX11_brings 39 = .ok (.iload 6, 2) := dqn_21 (k := 69) qh_cX11_brings rfl rfl rfl
theorem dX11_brings_41 : decode cX11_brings 41 = .ok (.iconst 1, 1) := dqn_4 (k := 68) qh_cX11_brings rfl rfl
theorem dX11_brings_42 : decode cX11_brings 42 = .ok (.aload_n 0, 1) := dqn_42 (k := 67) qh_cX11_brings rfl rfl
theorem dX11_brings_43 : decode cX11_brings 43 = .ok (.getfield 208, 3) := dqn_180 (k := 64) qh_cX11_brings rfl rfl rfl
theorem dX11_brings_46 : decode cX11_brings 46 = .ok (.ishl, 1) := dqn_120 (k := 63) qh_cX11_brings rfl rfl
theorem dX11_brings_47 : decode cX11_brings 47 = .ok (.if_icmp .ge 60, 3) := dqn_162 (k := 60) (u := 60) qh_cX11_brings rfl rfl rfl (sg_p rfl rfl)
theorem dX11_brings_50 : decode cX11_brings 50 = .ok (.iload 5, 2) := dqn_21 (k := 58) qh_cX11_brings rfl rfl rfl
theorem dX11_brings_52 : decode cX11_brings 52 = .ok (.iconst (-1), 1) := dqn_2 (k := 57) qh_cX11_brings rfl rfl
theorem dX11_brings_53 : decode cX11_brings 53 = .ok (.if_icmp .eq 16, 3) := dqn_159 (k := 54) (u := 16) qh_cX11_brings rfl rfl rfl (sg_p rfl rfl)
theorem dX11_brings_56 : decode cX11_brings 56 = .ok (.iload 6, 2) := dqn_21 (k := 52) qh_cX11_brings rfl rfl rfl
theorem dX11_brings_58 : decode cX11_brings 58 = .ok (.invokestatic 305, 3) := dqn_184 (k := 49) qh_cX11_brings rfl rfl rfl
theorem dX11_brings_61 : decode cX11_brings 61 = .ok (.iload 5, 2) := dqn_21 (k := 47) qh_cX11_brings rfl rfl rfl
theorem dX11_brings_63 : decode cX11_brings 63 = .ok (.invokestatic 305, 3) := dqn_184 (k := 44) qh_cX11_brings rfl rfl rfl
theorem dX11_brings_66 : decode cX11_brings 66 = .ok (.if_icmp .ge 35, 3) := dqn_162 (k := 41) (u := 35) qh_cX11_brings rfl rfl rfl (sg_p rfl rfl)
theorem dX11_brings_69 : decode cX11_brings 69 = .ok (.aload_n 0, 1) := dqn_42 (k := 40) qh_cX11_brings rfl rfl
theorem dX11_brings_70 : decode cX11_brings 70 = .ok (.aload_n 0, 1) := dqn_42 (k := 39) qh_cX11_brings rfl rfl
theorem dX11_brings_71 : decode cX11_brings 71 = .ok (.iload_n 3, 1) := dqn_29 (k := 38) qh_cX11_brings rfl rfl
theorem dX11_brings_72 : decode cX11_brings 72 = .ok (.invokevirtual 271, 3) := dqn_182 (k := 35) qh_cX11_brings rfl rfl rfl
theorem dX11_brings_75 : decode cX11_brings 75 = .ok (.iload 6, 2) := dqn_21 (k := 33) qh_cX11_brings rfl rfl rfl
theorem dX11_brings_77 : decode cX11_brings 77 = .ok (.invokevirtual 275, 3) := dqn_182 (k := 30) qh_cX11_brings rfl rfl rfl
theorem dX11_brings_80 : decode cX11_brings 80 = .ok (.aload_n 0, 1) := dqn_42 (k := 29) qh_cX11_brings rfl rfl
theorem dX11_brings_81 : decode cX11_brings 81 = .ok (.getfield 246, 3) := dqn_180 (k := 26) qh_cX11_brings rfl rfl rfl
theorem dX11_brings_84 : decode cX11_brings 84 = .ok (.iload 4, 2) := dqn_21 (k := 24) qh_cX11_brings rfl rfl rfl
theorem dX11_brings_86 : decode cX11_brings 86 = .ok (.invokestatic 249, 3) := dqn_184 (k := 21) qh_cX11_brings rfl rfl rfl
theorem dX11_brings_89 : decode cX11_brings 89 = .ok (.ifCond .eq 8, 3) := dqn_153 (k := 18) (u := 8) qh_cX11_brings rfl rfl rfl (sg_p rfl rfl)
theorem dX11_brings_92 : decode cX11_brings 92 = .ok (.iload 6, 2) := dqn_21 (k := 16) qh_cX11_brings rfl rfl rfl
theorem dX11_brings_94 : decode cX11_brings 94 = .ok (.goto 5, 3) := dqn_167 (k := 13) (u := 5) qh_cX11_brings rfl rfl rfl (sg_p rfl rfl)
theorem dX11_brings_97 : decode cX11_brings 97 = .ok (.iload 5, 2) := dqn_21 (k := 11) qh_cX11_brings rfl rfl rfl
theorem dX11_brings_99 : decode cX11_brings 99 = .ok (.istore 5, 2) := dqn_54 (k := 9) qh_cX11_brings rfl rfl rfl
theorem dX11_brings_101 : decode cX11_brings 101 = .ok (.iinc 6 1, 3) := dqn_132 (k := 6) (u := 1) qh_cX11_brings rfl rfl rfl rfl (by decide)
theorem dX11_brings_104 : decode cX11_brings 104 = .ok (.goto (-65), 3) := dqn_167 (k := 3) (u := 65471) qh_cX11_brings rfl rfl rfl (sg_n (k := 65) rfl rfl rfl)
theorem dX11_brings_107 : decode cX11_brings 107 = .ok (.iload 5, 2) := dqn_21 (k := 1) qh_cX11_brings rfl rfl rfl
theorem dX11_brings_109 : decode cX11_brings 109 = .ok (.ireturn, 1) := dqn_172 (k := 0) qh_cX11_brings rfl rfl
theorem dX11_canMend_0 : decode cX11_canMend 0 = .ok (.aload_n 0, 1) := dqn_42 (k := 44) qh_cX11_canMend rfl rfl
theorem dX11_canMend_1 : decode cX11_canMend 1 = .ok (.iload_n 1, 1) := dqn_27 (k := 43) qh_cX11_canMend rfl rfl
theorem dX11_canMend_2 : decode cX11_canMend 2 = .ok (.iload_n 2, 1) := dqn_28 (k := 42) qh_cX11_canMend rfl rfl
theorem dX11_canMend_3 : decode cX11_canMend 3 = .ok (.invokevirtual 240, 3) := dqn_182 (k := 39) qh_cX11_canMend rfl rfl rfl
theorem dX11_canMend_6 : decode cX11_canMend 6 = .ok (.ifCond .eq 31, 3) := dqn_153 (k := 36) (u := 31) qh_cX11_canMend rfl rfl rfl (sg_p rfl rfl)
theorem dX11_canMend_9 : decode cX11_canMend 9 = .ok (.aload_n 0, 1) := dqn_42 (k := 35) qh_cX11_canMend rfl rfl
theorem dX11_canMend_10 : decode cX11_canMend 10 = .ok (.iload_n 3, 1) := dqn_29 (k := 34) qh_cX11_canMend rfl rfl
theorem dX11_canMend_11 : decode cX11_canMend 11 = .ok (.invokevirtual 268, 3) := dqn_182 (k := 31) qh_cX11_canMend rfl rfl rfl
theorem dX11_canMend_14 : decode cX11_canMend 14 = .ok (.ifCond .eq 23, 3) := dqn_153 (k := 28) (u := 23) qh_cX11_canMend rfl rfl rfl (sg_p rfl rfl)
theorem dX11_canMend_17 : decode cX11_canMend 17 = .ok (.iload_n 3, 1) := dqn_29 (k := 27) qh_cX11_canMend rfl rfl
theorem dX11_canMend_18 : decode cX11_canMend 18 = .ok (.invokestatic 305, 3) := dqn_184 (k := 24) qh_cX11_canMend rfl rfl rfl
theorem dX11_canMend_21 : decode cX11_canMend 21 = .ok (.iconst 5, 1) := dqn_8 (k := 23) qh_cX11_canMend rfl rfl
theorem dX11_canMend_22 : decode cX11_canMend 22 = .ok (.if_icmp .gt 15, 3) := dqn_163 (k := 20) (u := 15) qh_cX11_canMend rfl rfl rfl (sg_p rfl rfl)
theorem dX11_canMend_25 : decode cX11_canMend 25 = .ok (.iload 4, 2) := dqn_21 (k := 18) qh_cX11_canMend rfl rfl rfl
theorem dX11_canMend_27 : decode cX11_canMend 27 = .ok (.iconst 0, 1) := dqn_3 (k := 17) qh_cX11_canMend rfl rfl
theorem dX11_canMend_28 : decode cX11_canMend 28 = .ok (.sipush 9999, 3) := dqn_17 (k := 14) (u := 9999) qh_cX11_canMend rfl rfl rfl (sg_p rfl rfl)
theorem dX11_canMend_31 : decode cX11_canMend 31 = .ok (.invokestatic 78, 3) := dqn_184 (k := 11) qh_cX11_canMend rfl rfl rfl
theorem dX11_canMend_34 : decode cX11_canMend 34 = .ok (.ifCond .ne 5, 3) := dqn_154 (k := 8) (u := 5) qh_cX11_canMend rfl rfl rfl (sg_p rfl rfl)
theorem dX11_canMend_37 : decode cX11_canMend 37 = .ok (.iconst 0, 1) := dqn_3 (k := 7) qh_cX11_canMend rfl rfl
theorem dX11_canMend_38 : decode cX11_canMend 38 = .ok (.ireturn, 1) := dqn_172 (k := 6) qh_cX11_canMend rfl rfl
theorem dX11_canMend_39 : decode cX11_canMend 39 = .ok (.aload_n 0, 1) := dqn_42 (k := 5) qh_cX11_canMend rfl rfl
theorem dX11_canMend_40 : decode cX11_canMend 40 = .ok (.invokevirtual 311, 3) := dqn_182 (k := 2) qh_cX11_canMend rfl rfl rfl
theorem dX11_canMend_43 : decode cX11_canMend 43 = .ok (.iconst 1, 1) := dqn_4 (k := 1) qh_cX11_canMend rfl rfl
theorem dX11_canMend_44 : decode cX11_canMend 44 = .ok (.ireturn, 1) := dqn_172 (k := 0) qh_cX11_canMend rfl rfl
theorem dX11_best_0 : decode cX11_best 0 = .ok (.aload_n 0, 1) := dqn_42 (k := 119) qh_cX11_best rfl rfl
theorem dX11_best_1 : decode cX11_best 1 = .ok (.iconst 0, 1) := dqn_3 (k := 118) qh_cX11_best rfl rfl
theorem dX11_best_2 : decode cX11_best 2 = .ok (.putfield 70, 3) := dqn_181 (k := 115) qh_cX11_best rfl rfl rfl
theorem dX11_best_5 : decode cX11_best 5 = .ok (.aload_n 0, 1) := dqn_42 (k := 114) qh_cX11_best rfl rfl
theorem dX11_best_6 : decode cX11_best 6 = .ok (.iload_n 1, 1) := dqn_27 (k := 113) qh_cX11_best rfl rfl
theorem dX11_best_7 : decode cX11_best 7 = .ok (.iload_n 2, 1) := dqn_28 (k := 112) qh_cX11_best rfl rfl
theorem dX11_best_8 : decode cX11_best 8 = .ok (.iload_n 3, 1) := dqn_29 (k := 111) qh_cX11_best rfl rfl
theorem dX11_best_9 : decode cX11_best 9 = .ok (.iload 4, 2) := dqn_21 (k := 109) qh_cX11_best rfl rfl rfl
theorem dX11_best_11 : decode cX11_best 11 = .ok (.invokevirtual 314, 3) := dqn_182 (k := 106) qh_cX11_best rfl rfl rfl
theorem dX11_best_14 : decode cX11_best 14 = .ok (.ifCond .ne 5, 3) := dqn_154 (k := 103) (u := 5) qh_cX11_best rfl rfl rfl (sg_p rfl rfl)
theorem dX11_best_17 : decode cX11_best 17 = .ok (.iconst (-1), 1) := dqn_2 (k := 102) qh_cX11_best rfl rfl
theorem dX11_best_18 : decode cX11_best 18 = .ok (.ireturn, 1) := dqn_172 (k := 101) qh_cX11_best rfl rfl
theorem dX11_best_19 : decode cX11_best 19 = .ok (.iconst (-1), 1) := dqn_2 (k := 100) qh_cX11_best rfl rfl
theorem dX11_best_20 : decode cX11_best 20 = .ok (.istore 5, 2) := dqn_54 (k := 98) qh_cX11_best rfl rfl rfl
theorem dX11_best_22 : decode cX11_best 22 = .ok (.lconst 0, 1) := dqn_9 (k := 97) qh_cX11_best rfl rfl
theorem dX11_best_23 : decode cX11_best 23 = .ok (.lstore 6, 2) := dqn_55 (k := 95) qh_cX11_best rfl rfl rfl
theorem dX11_best_25 : decode cX11_best 25 = .ok (.iconst 0, 1) := dqn_3 (k := 94) qh_cX11_best rfl rfl
theorem dX11_best_26 : decode cX11_best 26 = .ok (.istore 8, 2) := dqn_54 (k := 92) qh_cX11_best rfl rfl rfl
theorem dX11_best_28 : decode cX11_best 28 = .ok (.iload 8, 2) := dqn_21 (k := 90) qh_cX11_best rfl rfl rfl
theorem dX11_best_30 : decode cX11_best 30 = .ok (.iload_n 3, 1) := dqn_29 (k := 89) qh_cX11_best rfl rfl
theorem dX11_best_31 : decode cX11_best 31 = .ok (.if_icmp .gt 86, 3) := dqn_163 (k := 86) (u := 86) qh_cX11_best rfl rfl rfl (sg_p rfl rfl)
theorem dX11_best_34 : decode cX11_best 34 = .ok (.iload 8, 2) := dqn_21 (k := 84) qh_cX11_best rfl rfl rfl
theorem dX11_best_36 : decode cX11_best 36 = .ok (.iload_n 3, 1) := dqn_29 (k := 83) qh_cX11_best rfl rfl
theorem dX11_best_37 : decode cX11_best 37 = .ok (.iconst (-1), 1) := dqn_2 (k := 82) qh_cX11_best rfl rfl
theorem dX11_best_38 : decode cX11_best 38 = .ok (.ixor, 1) := dqn_130 (k := 81) qh_cX11_best rfl rfl
theorem dX11_best_39 : decode cX11_best 39 = .ok (.iand, 1) := dqn_126 (k := 80) qh_cX11_best rfl rfl
theorem dX11_best_40 : decode cX11_best 40 = .ok (.ifCond .ne 71, 3) := dqn_154 (k := 77) (u := 71) qh_cX11_best rfl rfl rfl (sg_p rfl rfl)
theorem dX11_best_43 : decode cX11_best 43 = .ok (.aload_n 0, 1) := dqn_42 (k := 76) qh_cX11_best rfl rfl
theorem dX11_best_44 : decode cX11_best 44 = .ok (.iload 8, 2) := dqn_21 (k := 74) qh_cX11_best rfl rfl rfl
theorem dX11_best_46 : decode cX11_best 46 = .ok (.invokevirtual 318, 3) := dqn_182 (k := 71) qh_cX11_best rfl rfl rfl
theorem dX11_best_49 : decode cX11_best 49 = .ok (.iload 4, 2) := dqn_21 (k := 69) qh_cX11_best rfl rfl rfl
theorem dX11_best_51 : decode cX11_best 51 = .ok (.if_icmp .le 6, 3) := dqn_164 (k := 66) (u := 6) qh_cX11_best rfl rfl rfl (sg_p rfl rfl)
theorem dX11_best_54 : decode cX11_best 54 = .ok (.goto 57, 3) := dqn_167 (k := 63) (u := 57) qh_cX11_best rfl rfl rfl (sg_p rfl rfl)
theorem dX11_best_57 : decode cX11_best 57 = .ok (.aload_n 0, 1) := dqn_42 (k := 62) qh_cX11_best rfl rfl
theorem dX11_best_58 : decode cX11_best 58 = .ok (.iload 8, 2) := dqn_21 (k := 60) qh_cX11_best rfl rfl rfl
theorem dX11_best_60 : decode cX11_best 60 = .ok (.iconst (-1), 1) := dqn_2 (k := 59) qh_cX11_best rfl rfl
theorem dX11_best_61 : decode cX11_best 61 = .ok (.invokevirtual 321, 3) := dqn_182 (k := 56) qh_cX11_best rfl rfl rfl
theorem dX11_best_64 : decode cX11_best 64 = .ok (.lstore 9, 2) := dqn_55 (k := 54) qh_cX11_best rfl rfl rfl
theorem dX11_best_66 : decode cX11_best 66 = .ok (.iload 5, 2) := dqn_21 (k := 52) qh_cX11_best rfl rfl rfl
theorem dX11_best_68 : decode cX11_best 68 = .ok (.iconst (-1), 1) := dqn_2 (k := 51) qh_cX11_best rfl rfl
theorem dX11_best_69 : decode cX11_best 69 = .ok (.if_icmp .eq 34, 3) := dqn_159 (k := 48) (u := 34) qh_cX11_best rfl rfl rfl (sg_p rfl rfl)
theorem dX11_best_72 : decode cX11_best 72 = .ok (.lload 9, 2) := dqn_22 (k := 46) qh_cX11_best rfl rfl rfl
theorem dX11_best_74 : decode cX11_best 74 = .ok (.lload 6, 2) := dqn_22 (k := 44) qh_cX11_best rfl rfl rfl
theorem dX11_best_76 : decode cX11_best 76 = .ok (.lcmp, 1) := dqn_148 (k := 43) qh_cX11_best rfl rfl
theorem dX11_best_77 : decode cX11_best 77 = .ok (.ifCond .lt 26, 3) := dqn_155 (k := 40) (u := 26) qh_cX11_best rfl rfl rfl (sg_p rfl rfl)
theorem dX11_best_80 : decode cX11_best 80 = .ok (.lload 9, 2) := dqn_22 (k := 38) qh_cX11_best rfl rfl rfl
theorem dX11_best_82 : decode cX11_best 82 = .ok (.lload 6, 2) := dqn_22 (k := 36) qh_cX11_best rfl rfl rfl
theorem dX11_best_84 : decode cX11_best 84 = .ok (.lcmp, 1) := dqn_148 (k := 35) qh_cX11_best rfl rfl
theorem dX11_best_85 : decode cX11_best 85 = .ok (.ifCond .ne 26, 3) := dqn_154 (k := 32) (u := 26) qh_cX11_best rfl rfl rfl (sg_p rfl rfl)
theorem dX11_best_88 : decode cX11_best 88 = .ok (.aload_n 0, 1) := dqn_42 (k := 31) qh_cX11_best rfl rfl
theorem dX11_best_89 : decode cX11_best 89 = .ok (.iload 8, 2) := dqn_21 (k := 29) qh_cX11_best rfl rfl rfl
theorem dX11_best_91 : decode cX11_best 91 = .ok (.invokevirtual 318, 3) := dqn_182 (k := 26) qh_cX11_best rfl rfl rfl
theorem dX11_best_94 : decode cX11_best 94 = .ok (.aload_n 0, 1) := dqn_42 (k := 25) qh_cX11_best rfl rfl
theorem dX11_best_95 : decode cX11_best 95 = .ok (.iload 5, 2) := dqn_21 (k := 23) qh_cX11_best rfl rfl rfl
theorem dX11_best_97 : decode cX11_best 97 = .ok (.invokevirtual 318, 3) := dqn_182 (k := 20) qh_cX11_best rfl rfl rfl
theorem dX11_best_100 : decode cX11_best 100 = .ok (.if_icmp .ge 11, 3) := dqn_162 (k := 17) (u := 11) qh_cX11_best rfl rfl rfl (sg_p rfl rfl)
theorem dX11_best_103 : decode cX11_best 103 = .ok (.iload 8, 2) := dqn_21 (k := 15) qh_cX11_best rfl rfl rfl
theorem dX11_best_105 : decode cX11_best 105 = .ok (.istore 5, 2) := dqn_54 (k := 13) qh_cX11_best rfl rfl rfl
theorem dX11_best_107 : decode cX11_best 107 = .ok (.lload 9, 2) := dqn_22 (k := 11) qh_cX11_best rfl rfl rfl
theorem dX11_best_109 : decode cX11_best 109 = .ok (.lstore 6, 2) := dqn_55 (k := 9) qh_cX11_best rfl rfl rfl
theorem dX11_best_111 : decode cX11_best 111 = .ok (.iinc 8 1, 3) := dqn_132 (k := 6) (u := 1) qh_cX11_best rfl rfl rfl rfl (by decide)
theorem dX11_best_114 : decode cX11_best 114 = .ok (.goto (-86), 3) := dqn_167 (k := 3) (u := 65450) qh_cX11_best rfl rfl rfl (sg_n (k := 86) rfl rfl rfl)
theorem dX11_best_117 : decode cX11_best 117 = .ok (.iload 5, 2) := dqn_21 (k := 1) qh_cX11_best rfl rfl rfl
theorem dX11_best_119 : decode cX11_best 119 = .ok (.ireturn, 1) := dqn_172 (k := 0) qh_cX11_best rfl rfl
theorem dX11_spend_0 : decode cX11_spend 0 = .ok (.aload_n 0, 1) := dqn_42 (k := 111) qh_cX11_spend rfl rfl
theorem dX11_spend_1 : decode cX11_spend 1 = .ok (.iconst 0, 1) := dqn_3 (k := 110) qh_cX11_spend rfl rfl
theorem dX11_spend_2 : decode cX11_spend 2 = .ok (.putfield 70, 3) := dqn_181 (k := 107) qh_cX11_spend rfl rfl rfl
theorem dX11_spend_5 : decode cX11_spend 5 = .ok (.aload_n 0, 1) := dqn_42 (k := 106) qh_cX11_spend rfl rfl
theorem dX11_spend_6 : decode cX11_spend 6 = .ok (.iload_n 1, 1) := dqn_27 (k := 105) qh_cX11_spend rfl rfl
theorem dX11_spend_7 : decode cX11_spend 7 = .ok (.iload_n 2, 1) := dqn_28 (k := 104) qh_cX11_spend rfl rfl
theorem dX11_spend_8 : decode cX11_spend 8 = .ok (.iload_n 3, 1) := dqn_29 (k := 103) qh_cX11_spend rfl rfl
theorem dX11_spend_9 : decode cX11_spend 9 = .ok (.iconst 0, 1) := dqn_3 (k := 102) qh_cX11_spend rfl rfl
theorem dX11_spend_10 : decode cX11_spend 10 = .ok (.invokevirtual 314, 3) := dqn_182 (k := 99) qh_cX11_spend rfl rfl rfl
theorem dX11_spend_13 : decode cX11_spend 13 = .ok (.ifCond .eq 14, 3) := dqn_153 (k := 96) (u := 14) qh_cX11_spend rfl rfl rfl (sg_p rfl rfl)
theorem dX11_spend_16 : decode cX11_spend 16 = .ok (.iload 4, 2) := dqn_21 (k := 94) qh_cX11_spend rfl rfl rfl
theorem dX11_spend_18 : decode cX11_spend 18 = .ok (.iconst 0, 1) := dqn_3 (k := 93) qh_cX11_spend rfl rfl
theorem dX11_spend_19 : decode cX11_spend 19 = .ok (.bipush 100, 2) := dqn_16 (k := 91) (u := 100) qh_cX11_spend rfl rfl rfl (by decide)
theorem dX11_spend_21 : decode cX11_spend 21 = .ok (.invokestatic 78, 3) := dqn_184 (k := 88) qh_cX11_spend rfl rfl rfl
theorem dX11_spend_24 : decode cX11_spend 24 = .ok (.ifCond .ne 5, 3) := dqn_154 (k := 85) (u := 5) qh_cX11_spend rfl rfl rfl (sg_p rfl rfl)
theorem dX11_spend_27 : decode cX11_spend 27 = .ok (.iconst (-1), 1) := dqn_2 (k := 84) qh_cX11_spend rfl rfl
theorem dX11_spend_28 : decode cX11_spend 28 = .ok (.ireturn, 1) := dqn_172 (k := 83) qh_cX11_spend rfl rfl
theorem dX11_spend_29 : decode cX11_spend 29 = .ok (.iload 4, 2) := dqn_21 (k := 81) qh_cX11_spend rfl rfl rfl
theorem dX11_spend_31 : decode cX11_spend 31 = .ok (.i2l, 1) := dqn_133 (k := 80) qh_cX11_spend rfl rfl
theorem dX11_spend_32 : decode cX11_spend 32 = .ok (.aload_n 0, 1) := dqn_42 (k := 79) qh_cX11_spend rfl rfl
theorem dX11_spend_33 : decode cX11_spend 33 = .ok (.iconst (-1), 1) := dqn_2 (k := 78) qh_cX11_spend rfl rfl
theorem dX11_spend_34 : decode cX11_spend 34 = .ok (.invokevirtual 301, 3) := dqn_182 (k := 75) qh_cX11_spend rfl rfl rfl
theorem dX11_spend_37 : decode cX11_spend 37 = .ok (.lmul, 1) := dqn_105 (k := 74) qh_cX11_spend rfl rfl
theorem dX11_spend_38 : decode cX11_spend 38 = .ok (.lstore 5, 2) := dqn_55 (k := 72) qh_cX11_spend rfl rfl rfl
theorem dX11_spend_40 : decode cX11_spend 40 = .ok (.iconst (-1), 1) := dqn_2 (k := 71) qh_cX11_spend rfl rfl
theorem dX11_spend_41 : decode cX11_spend 41 = .ok (.istore 7, 2) := dqn_54 (k := 69) qh_cX11_spend rfl rfl rfl
theorem dX11_spend_43 : decode cX11_spend 43 = .ok (.iconst 0, 1) := dqn_3 (k := 68) qh_cX11_spend rfl rfl
theorem dX11_spend_44 : decode cX11_spend 44 = .ok (.istore 8, 2) := dqn_54 (k := 66) qh_cX11_spend rfl rfl rfl
theorem dX11_spend_46 : decode cX11_spend 46 = .ok (.iload 8, 2) := dqn_21 (k := 64) qh_cX11_spend rfl rfl rfl
theorem dX11_spend_48 : decode cX11_spend 48 = .ok (.iload_n 3, 1) := dqn_29 (k := 63) qh_cX11_spend rfl rfl
theorem dX11_spend_49 : decode cX11_spend 49 = .ok (.if_icmp .gt 60, 3) := dqn_163 (k := 60) (u := 60) qh_cX11_spend rfl rfl rfl (sg_p rfl rfl)
theorem dX11_spend_52 : decode cX11_spend 52 = .ok (.iload 8, 2) := dqn_21 (k := 58) qh_cX11_spend rfl rfl rfl
theorem dX11_spend_54 : decode cX11_spend 54 = .ok (.iload_n 3, 1) := dqn_29 (k := 57) qh_cX11_spend rfl rfl
theorem dX11_spend_55 : decode cX11_spend 55 = .ok (.iconst (-1), 1) := dqn_2 (k := 56) qh_cX11_spend rfl rfl
theorem dX11_spend_56 : decode cX11_spend 56 = .ok (.ixor, 1) := dqn_130 (k := 55) qh_cX11_spend rfl rfl
theorem dX11_spend_57 : decode cX11_spend 57 = .ok (.iand, 1) := dqn_126 (k := 54) qh_cX11_spend rfl rfl
theorem dX11_spend_58 : decode cX11_spend 58 = .ok (.ifCond .ne 45, 3) := dqn_154 (k := 51) (u := 45) qh_cX11_spend rfl rfl rfl (sg_p rfl rfl)
theorem dX11_spend_61 : decode cX11_spend 61 = .ok (.iload 7, 2) := dqn_21 (k := 49) qh_cX11_spend rfl rfl rfl
theorem dX11_spend_63 : decode cX11_spend 63 = .ok (.iconst (-1), 1) := dqn_2 (k := 48) qh_cX11_spend rfl rfl
theorem dX11_spend_64 : decode cX11_spend 64 = .ok (.if_icmp .eq 14, 3) := dqn_159 (k := 45) (u := 14) qh_cX11_spend rfl rfl rfl (sg_p rfl rfl)
theorem dX11_spend_67 : decode cX11_spend 67 = .ok (.aload_n 0, 1) := dqn_42 (k := 44) qh_cX11_spend rfl rfl
theorem dX11_spend_68 : decode cX11_spend 68 = .ok (.iload 8, 2) := dqn_21 (k := 42) qh_cX11_spend rfl rfl rfl
theorem dX11_spend_70 : decode cX11_spend 70 = .ok (.invokevirtual 318, 3) := dqn_182 (k := 39) qh_cX11_spend rfl rfl rfl
theorem dX11_spend_73 : decode cX11_spend 73 = .ok (.iload 7, 2) := dqn_21 (k := 37) qh_cX11_spend rfl rfl rfl
theorem dX11_spend_75 : decode cX11_spend 75 = .ok (.if_icmp .ge 28, 3) := dqn_162 (k := 34) (u := 28) qh_cX11_spend rfl rfl rfl (sg_p rfl rfl)
theorem dX11_spend_78 : decode cX11_spend 78 = .ok (.ldc2_w 284, 3) := dqn_20 (k := 31) qh_cX11_spend rfl rfl rfl
theorem dX11_spend_81 : decode cX11_spend 81 = .ok (.aload_n 0, 1) := dqn_42 (k := 30) qh_cX11_spend rfl rfl
theorem dX11_spend_82 : decode cX11_spend 82 = .ok (.iload 8, 2) := dqn_21 (k := 28) qh_cX11_spend rfl rfl rfl
theorem dX11_spend_84 : decode cX11_spend 84 = .ok (.iconst (-1), 1) := dqn_2 (k := 27) qh_cX11_spend rfl rfl
theorem dX11_spend_85 : decode cX11_spend 85 = .ok (.invokevirtual 321, 3) := dqn_182 (k := 24) qh_cX11_spend rfl rfl rfl
theorem dX11_spend_88 : decode cX11_spend 88 = .ok (.lmul, 1) := dqn_105 (k := 23) qh_cX11_spend rfl rfl
theorem dX11_spend_89 : decode cX11_spend 89 = .ok (.lload 5, 2) := dqn_22 (k := 21) qh_cX11_spend rfl rfl rfl
theorem dX11_spend_91 : decode cX11_spend 91 = .ok (.lcmp, 1) := dqn_148 (k := 20) qh_cX11_spend rfl rfl
theorem dX11_spend_92 : decode cX11_spend 92 = .ok (.ifCond .gt 11, 3) := dqn_157 (k := 17) (u := 11) qh_cX11_spend rfl rfl rfl (sg_p rfl rfl)
theorem dX11_spend_95 : decode cX11_spend 95 = .ok (.aload_n 0, 1) := dqn_42 (k := 16) qh_cX11_spend rfl rfl
theorem dX11_spend_96 : decode cX11_spend 96 = .ok (.iload 8, 2) := dqn_21 (k := 14) qh_cX11_spend rfl rfl rfl
theorem dX11_spend_98 : decode cX11_spend 98 = .ok (.invokevirtual 318, 3) := dqn_182 (k := 11) qh_cX11_spend rfl rfl rfl
theorem dX11_spend_101 : decode cX11_spend 101 = .ok (.istore 7, 2) := dqn_54 (k := 9) qh_cX11_spend rfl rfl rfl
theorem dX11_spend_103 : decode cX11_spend 103 = .ok (.iinc 8 1, 3) := dqn_132 (k := 6) (u := 1) qh_cX11_spend rfl rfl rfl rfl (by decide)
theorem dX11_spend_106 : decode cX11_spend 106 = .ok (.goto (-60), 3) := dqn_167 (k := 3) (u := 65476) qh_cX11_spend rfl rfl rfl (sg_n (k := 60) rfl rfl rfl)
theorem dX11_spend_109 : decode cX11_spend 109 = .ok (.iload 7, 2) := dqn_21 (k := 1) qh_cX11_spend rfl rfl rfl
theorem dX11_spend_111 : decode cX11_spend 111 = .ok (.ireturn, 1) := dqn_172 (k := 0) qh_cX11_spend rfl rfl
theorem dX11_mended_0 : decode cX11_mended 0 = .ok (.aload_n 0, 1) := dqn_42 (k := 36) qh_cX11_mended rfl rfl
theorem dX11_mended_1 : decode cX11_mended 1 = .ok (.iconst 0, 1) := dqn_3 (k := 35) qh_cX11_mended rfl rfl
theorem dX11_mended_2 : decode cX11_mended 2 = .ok (.putfield 70, 3) := dqn_181 (k := 32) qh_cX11_mended rfl rfl rfl
theorem dX11_mended_5 : decode cX11_mended 5 = .ok (.aload_n 0, 1) := dqn_42 (k := 31) qh_cX11_mended rfl rfl
theorem dX11_mended_6 : decode cX11_mended 6 = .ok (.iload_n 1, 1) := dqn_27 (k := 30) qh_cX11_mended rfl rfl
theorem dX11_mended_7 : decode cX11_mended 7 = .ok (.iload_n 2, 1) := dqn_28 (k := 29) qh_cX11_mended rfl rfl
theorem dX11_mended_8 : decode cX11_mended 8 = .ok (.invokevirtual 240, 3) := dqn_182 (k := 26) qh_cX11_mended rfl rfl rfl
theorem dX11_mended_11 : decode cX11_mended 11 = .ok (.ifCond .eq 11, 3) := dqn_153 (k := 23) (u := 11) qh_cX11_mended rfl rfl rfl (sg_p rfl rfl)
theorem dX11_mended_14 : decode cX11_mended 14 = .ok (.aload_n 0, 1) := dqn_42 (k := 22) qh_cX11_mended rfl rfl
theorem dX11_mended_15 : decode cX11_mended 15 = .ok (.iload_n 3, 1) := dqn_29 (k := 21) qh_cX11_mended rfl rfl
theorem dX11_mended_16 : decode cX11_mended 16 = .ok (.invokevirtual 268, 3) := dqn_182 (k := 18) qh_cX11_mended rfl rfl rfl
theorem dX11_mended_19 : decode cX11_mended 19 = .ok (.ifCond .ne 7, 3) := dqn_154 (k := 15) (u := 7) qh_cX11_mended rfl rfl rfl (sg_p rfl rfl)
theorem dX11_mended_22 : decode cX11_mended 22 = .ok (.ldc2_w 292, 3) := dqn_20 (k := 12) qh_cX11_mended rfl rfl rfl
theorem dX11_mended_25 : decode cX11_mended 25 = .ok (.lreturn, 1) := dqn_173 (k := 11) qh_cX11_mended rfl rfl
theorem dX11_mended_26 : decode cX11_mended 26 = .ok (.aload_n 0, 1) := dqn_42 (k := 10) qh_cX11_mended rfl rfl
theorem dX11_mended_27 : decode cX11_mended 27 = .ok (.invokevirtual 311, 3) := dqn_182 (k := 7) qh_cX11_mended rfl rfl rfl
theorem dX11_mended_30 : decode cX11_mended 30 = .ok (.aload_n 0, 1) := dqn_42 (k := 6) qh_cX11_mended rfl rfl
theorem dX11_mended_31 : decode cX11_mended 31 = .ok (.iload_n 3, 1) := dqn_29 (k := 5) qh_cX11_mended rfl rfl
theorem dX11_mended_32 : decode cX11_mended 32 = .ok (.iconst (-1), 1) := dqn_2 (k := 4) qh_cX11_mended rfl rfl
theorem dX11_mended_33 : decode cX11_mended 33 = .ok (.invokevirtual 321, 3) := dqn_182 (k := 1) qh_cX11_mended rfl rfl rfl
theorem dX11_mended_36 : decode cX11_mended 36 = .ok (.lreturn, 1) := dqn_173 (k := 0) qh_cX11_mended rfl rfl
theorem dX11_one_0 : decode cX11_one 0 = .ok (.aload_n 0, 1) := dqn_42 (k := 96) qh_cX11_one rfl rfl
theorem dX11_one_1 : decode cX11_one 1 = .ok (.iconst 0, 1) := dqn_3 (k := 95) qh_cX11_one rfl rfl
theorem dX11_one_2 : decode cX11_one 2 = .ok (.putfield 70, 3) := dqn_181 (k := 92) qh_cX11_one rfl rfl rfl
theorem dX11_one_5 : decode cX11_one 5 = .ok (.aload_n 0, 1) := dqn_42 (k := 91) qh_cX11_one rfl rfl
theorem dX11_one_6 : decode cX11_one 6 = .ok (.iload_n 1, 1) := dqn_27 (k := 90) qh_cX11_one rfl rfl
theorem dX11_one_7 : decode cX11_one 7 = .ok (.iload_n 2, 1) := dqn_28 (k := 89) qh_cX11_one rfl rfl
theorem dX11_one_8 : decode cX11_one 8 = .ok (.invokevirtual 240, 3) := dqn_182 (k := 86) qh_cX11_one rfl rfl rfl
theorem dX11_one_11 : decode cX11_one 11 = .ok (.ifCond .eq 10, 3) := dqn_153 (k := 83) (u := 10) qh_cX11_one rfl rfl rfl (sg_p rfl rfl)
theorem dX11_one_14 : decode cX11_one 14 = .ok (.aload_n 0, 1) := dqn_42 (k := 82) qh_cX11_one rfl rfl
theorem dX11_one_15 : decode cX11_one 15 = .ok (.getfield 208, 3) := dqn_180 (k := 79) qh_cX11_one rfl rfl rfl
theorem dX11_one_18 : decode cX11_one 18 = .ok (.ifCond .ne 7, 3) := dqn_154 (k := 76) (u := 7) qh_cX11_one rfl rfl rfl (sg_p rfl rfl)
theorem dX11_one_21 : decode cX11_one 21 = .ok (.ldc2_w 292, 3) := dqn_20 (k := 73) qh_cX11_one rfl rfl rfl
theorem dX11_one_24 : decode cX11_one 24 = .ok (.lreturn, 1) := dqn_173 (k := 72) qh_cX11_one rfl rfl
theorem dX11_one_25 : decode cX11_one 25 = .ok (.iconst (-1), 1) := dqn_2 (k := 71) qh_cX11_one rfl rfl
theorem dX11_one_26 : decode cX11_one 26 = .ok (.istore 4, 2) := dqn_54 (k := 69) qh_cX11_one rfl rfl rfl
theorem dX11_one_28 : decode cX11_one 28 = .ok (.lconst 0, 1) := dqn_9 (k := 68) qh_cX11_one rfl rfl
theorem dX11_one_29 : decode cX11_one 29 = .ok (.lstore 5, 2) := dqn_55 (k := 66) qh_cX11_one rfl rfl rfl
theorem dX11_one_31 : decode cX11_one 31 = .ok (.iconst 0, 1) := dqn_3 (k := 65) qh_cX11_one rfl rfl
theorem dX11_one_32 : decode cX11_one 32 = .ok (.istore 7, 2) := dqn_54 (k := 63) qh_cX11_one rfl rfl rfl
theorem dX11_one_34 : decode cX11_one 34 = .ok (.iload 7, 2) := dqn_21 (k := 61) qh_cX11_one rfl rfl rfl
theorem dX11_one_36 : decode cX11_one 36 = .ok (.aload_n 0, 1) := dqn_42 (k := 60) qh_cX11_one rfl rfl
theorem dX11_one_37 : decode cX11_one 37 = .ok (.getfield 208, 3) := dqn_180 (k := 57) qh_cX11_one rfl rfl rfl
theorem dX11_one_40 : decode cX11_one 40 = .ok (.if_icmp .ge 44, 3) := dqn_162 (k := 54) (u := 44) qh_cX11_one rfl rfl rfl (sg_p rfl rfl)
theorem dX11_one_43 : decode cX11_one 43 = .ok (.aload_n 0, 1) := dqn_42 (k := 53) qh_cX11_one rfl rfl
theorem dX11_one_44 : decode cX11_one 44 = .ok (.iload 7, 2) := dqn_21 (k := 51) qh_cX11_one rfl rfl rfl
theorem dX11_one_46 : decode cX11_one 46 = .ok (.putfield 231, 3) := dqn_181 (k := 48) qh_cX11_one rfl rfl rfl
theorem dX11_one_49 : decode cX11_one 49 = .ok (.aload_n 0, 1) := dqn_42 (k := 47) qh_cX11_one rfl rfl
theorem dX11_one_50 : decode cX11_one 50 = .ok (.iconst (-1), 1) := dqn_2 (k := 46) qh_cX11_one rfl rfl
theorem dX11_one_51 : decode cX11_one 51 = .ok (.invokevirtual 301, 3) := dqn_182 (k := 43) qh_cX11_one rfl rfl rfl
theorem dX11_one_54 : decode cX11_one 54 = .ok (.lstore 8, 2) := dqn_55 (k := 41) qh_cX11_one rfl rfl rfl
theorem dX11_one_56 : decode cX11_one 56 = .ok (.iload 4, 2) := dqn_21 (k := 39) qh_cX11_one rfl rfl rfl
theorem dX11_one_58 : decode cX11_one 58 = .ok (.iconst (-1), 1) := dqn_2 (k := 38) qh_cX11_one rfl rfl
theorem dX11_one_59 : decode cX11_one 59 = .ok (.if_icmp .eq 11, 3) := dqn_159 (k := 35) (u := 11) qh_cX11_one rfl rfl rfl (sg_p rfl rfl)
theorem dX11_one_62 : decode cX11_one 62 = .ok (.lload 8, 2) := dqn_22 (k := 33) qh_cX11_one rfl rfl rfl
theorem dX11_one_64 : decode cX11_one 64 = .ok (.lload 5, 2) := dqn_22 (k := 31) qh_cX11_one rfl rfl rfl
theorem dX11_one_66 : decode cX11_one 66 = .ok (.lcmp, 1) := dqn_148 (k := 30) qh_cX11_one rfl rfl
theorem dX11_one_67 : decode cX11_one 67 = .ok (.ifCond .ge 11, 3) := dqn_156 (k := 27) (u := 11) qh_cX11_one rfl rfl rfl (sg_p rfl rfl)
theorem dX11_one_70 : decode cX11_one 70 = .ok (.iload 7, 2) := dqn_21 (k := 25) qh_cX11_one rfl rfl rfl
theorem dX11_one_72 : decode cX11_one 72 = .ok (.istore 4, 2) := dqn_54 (k := 23) qh_cX11_one rfl rfl rfl
theorem dX11_one_74 : decode cX11_one 74 = .ok (.lload 8, 2) := dqn_22 (k := 21) qh_cX11_one rfl rfl rfl
theorem dX11_one_76 : decode cX11_one 76 = .ok (.lstore 5, 2) := dqn_55 (k := 19) qh_cX11_one rfl rfl rfl
theorem dX11_one_78 : decode cX11_one 78 = .ok (.iinc 7 1, 3) := dqn_132 (k := 16) (u := 1) qh_cX11_one rfl rfl rfl rfl (by decide)
theorem dX11_one_81 : decode cX11_one 81 = .ok (.goto (-47), 3) := dqn_167 (k := 13) (u := 65489) qh_cX11_one rfl rfl rfl (sg_n (k := 47) rfl rfl rfl)
theorem dX11_one_84 : decode cX11_one 84 = .ok (.iload_n 3, 1) := dqn_29 (k := 12) qh_cX11_one rfl rfl
theorem dX11_one_85 : decode cX11_one 85 = .ok (.ifCond .eq 8, 3) := dqn_153 (k := 9) (u := 8) qh_cX11_one rfl rfl rfl (sg_p rfl rfl)
theorem dX11_one_88 : decode cX11_one 88 = .ok (.lload 5, 2) := dqn_22 (k := 7) qh_cX11_one rfl rfl rfl
theorem dX11_one_90 : decode cX11_one 90 = .ok (.goto 6, 3) := dqn_167 (k := 4) (u := 6) qh_cX11_one rfl rfl rfl (sg_p rfl rfl)
theorem dX11_one_93 : decode cX11_one 93 = .ok (.iload 4, 2) := dqn_21 (k := 2) qh_cX11_one rfl rfl rfl
theorem dX11_one_95 : decode cX11_one 95 = .ok (.i2l, 1) := dqn_133 (k := 1) qh_cX11_one rfl rfl
theorem dX11_one_96 : decode cX11_one 96 = .ok (.lreturn, 1) := dqn_173 (k := 0) qh_cX11_one rfl rfl
theorem dX11_low_0 : decode cX11_low 0 = .ok (.aload_n 0, 1) := dqn_42 (k := 113) qh_cX11_low rfl rfl
theorem dX11_low_1 : decode cX11_low 1 = .ok (.iconst 0, 1) := dqn_3 (k := 112) qh_cX11_low rfl rfl
theorem dX11_low_2 : decode cX11_low 2 = .ok (.putfield 70, 3) := dqn_181 (k := 109) qh_cX11_low rfl rfl rfl
theorem dX11_low_5 : decode cX11_low 5 = .ok (.aload_n 0, 1) := dqn_42 (k := 108) qh_cX11_low rfl rfl
theorem dX11_low_6 : decode cX11_low 6 = .ok (.iload_n 1, 1) := dqn_27 (k := 107) qh_cX11_low rfl rfl
theorem dX11_low_7 : decode cX11_low 7 = .ok (.iload_n 2, 1) := dqn_28 (k := 106) qh_cX11_low rfl rfl
theorem dX11_low_8 : decode cX11_low 8 = .ok (.invokevirtual 240, 3) := dqn_182 (k := 103) qh_cX11_low rfl rfl rfl
theorem dX11_low_11 : decode cX11_low 11 = .ok (.ifCond .eq 11, 3) := dqn_153 (k := 100) (u := 11) qh_cX11_low rfl rfl rfl (sg_p rfl rfl)
theorem dX11_low_14 : decode cX11_low 14 = .ok (.aload_n 0, 1) := dqn_42 (k := 99) qh_cX11_low rfl rfl
theorem dX11_low_15 : decode cX11_low 15 = .ok (.iload_n 3, 1) := dqn_29 (k := 98) qh_cX11_low rfl rfl
theorem dX11_low_16 : decode cX11_low 16 = .ok (.invokevirtual 243, 3) := dqn_182 (k := 95) qh_cX11_low rfl rfl rfl
theorem dX11_low_19 : decode cX11_low 19 = .ok (.ifCond .ne 5, 3) := dqn_154 (k := 92) (u := 5) qh_cX11_low rfl rfl rfl (sg_p rfl rfl)
theorem dX11_low_22 : decode cX11_low 22 = .ok (.iconst (-1), 1) := dqn_2 (k := 91) qh_cX11_low rfl rfl
theorem dX11_low_23 : decode cX11_low 23 = .ok (.ireturn, 1) := dqn_172 (k := 90) qh_cX11_low rfl rfl
theorem dX11_low_24 : decode cX11_low 24 = .ok (.aload_n 0, 1) := dqn_42 (k := 89) qh_cX11_low rfl rfl
theorem dX11_low_25 : decode cX11_low 25 = .ok (.iload_n 3, 1) := dqn_29 (k := 88) qh_cX11_low rfl rfl
theorem dX11_low_26 : decode cX11_low 26 = .ok (.iconst 1, 1) := dqn_4 (k := 87) qh_cX11_low rfl rfl
theorem dX11_low_27 : decode cX11_low 27 = .ok (.invokevirtual 211, 3) := dqn_182 (k := 84) qh_cX11_low rfl rfl rfl
theorem dX11_low_30 : decode cX11_low 30 = .ok (.istore 4, 2) := dqn_54 (k := 82) qh_cX11_low rfl rfl rfl
theorem dX11_low_32 : decode cX11_low 32 = .ok (.iconst 0, 1) := dqn_3 (k := 81) qh_cX11_low rfl rfl
theorem dX11_low_33 : decode cX11_low 33 = .ok (.istore 5, 2) := dqn_54 (k := 79) qh_cX11_low rfl rfl rfl
theorem dX11_low_35 : decode cX11_low 35 = .ok (.lconst 0, 1) := dqn_9 (k := 78) qh_cX11_low rfl rfl
theorem dX11_low_36 : decode cX11_low 36 = .ok (.lstore 6, 2) := dqn_55 (k := 76) qh_cX11_low rfl rfl rfl
theorem dX11_low_38 : decode cX11_low 38 = .ok (.iconst 0, 1) := dqn_3 (k := 75) qh_cX11_low rfl rfl
theorem dX11_low_39 : decode cX11_low 39 = .ok (.istore 8, 2) := dqn_54 (k := 73) qh_cX11_low rfl rfl rfl
theorem dX11_low_41 : decode cX11_low 41 = .ok (.iload 8, 2) := dqn_21 (k := 71) qh_cX11_low rfl rfl rfl
theorem dX11_low_43 : decode cX11_low 43 = .ok (.iload 4, 2) := dqn_21 (k := 69) qh_cX11_low rfl rfl rfl
theorem dX11_low_45 : decode cX11_low 45 = .ok (.if_icmp .gt 66, 3) := dqn_163 (k := 66) (u := 66) qh_cX11_low rfl rfl rfl (sg_p rfl rfl)
theorem dX11_low_48 : decode cX11_low 48 = .ok (.aload_n 0, 1) := dqn_42 (k := 65) qh_cX11_low rfl rfl
theorem dX11_low_49 : decode cX11_low 49 = .ok (.iload_n 3, 1) := dqn_29 (k := 64) qh_cX11_low rfl rfl
theorem dX11_low_50 : decode cX11_low 50 = .ok (.iconst 1, 1) := dqn_4 (k := 63) qh_cX11_low rfl rfl
theorem dX11_low_51 : decode cX11_low 51 = .ok (.iload 4, 2) := dqn_21 (k := 61) qh_cX11_low rfl rfl rfl
theorem dX11_low_53 : decode cX11_low 53 = .ok (.iload 8, 2) := dqn_21 (k := 59) qh_cX11_low rfl rfl rfl
theorem dX11_low_55 : decode cX11_low 55 = .ok (.isub, 1) := dqn_100 (k := 58) qh_cX11_low rfl rfl
theorem dX11_low_56 : decode cX11_low 56 = .ok (.invokevirtual 215, 3) := dqn_182 (k := 55) qh_cX11_low rfl rfl rfl
theorem dX11_low_59 : decode cX11_low 59 = .ok (.aload_n 0, 1) := dqn_42 (k := 54) qh_cX11_low rfl rfl
theorem dX11_low_60 : decode cX11_low 60 = .ok (.iconst (-1), 1) := dqn_2 (k := 53) qh_cX11_low rfl rfl
theorem dX11_low_61 : decode cX11_low 61 = .ok (.invokevirtual 301, 3) := dqn_182 (k := 50) qh_cX11_low rfl rfl rfl
theorem dX11_low_64 : decode cX11_low 64 = .ok (.aload_n 0, 1) := dqn_42 (k := 49) qh_cX11_low rfl rfl
theorem dX11_low_65 : decode cX11_low 65 = .ok (.invokevirtual 294, 3) := dqn_182 (k := 46) qh_cX11_low rfl rfl rfl
theorem dX11_low_68 : decode cX11_low 68 = .ok (.iload 8, 2) := dqn_21 (k := 44) qh_cX11_low rfl rfl rfl
theorem dX11_low_70 : decode cX11_low 70 = .ok (.i2l, 1) := dqn_133 (k := 43) qh_cX11_low rfl rfl
theorem dX11_low_71 : decode cX11_low 71 = .ok (.lmul, 1) := dqn_105 (k := 42) qh_cX11_low rfl rfl
theorem dX11_low_72 : decode cX11_low 72 = .ok (.aload_n 0, 1) := dqn_42 (k := 41) qh_cX11_low rfl rfl
theorem dX11_low_73 : decode cX11_low 73 = .ok (.iload_n 3, 1) := dqn_29 (k := 40) qh_cX11_low rfl rfl
theorem dX11_low_74 : decode cX11_low 74 = .ok (.bipush 7, 2) := dqn_16 (k := 38) (u := 7) qh_cX11_low rfl rfl rfl (by decide)
theorem dX11_low_76 : decode cX11_low 76 = .ok (.invokevirtual 211, 3) := dqn_182 (k := 35) qh_cX11_low rfl rfl rfl
theorem dX11_low_79 : decode cX11_low 79 = .ok (.i2l, 1) := dqn_133 (k := 34) qh_cX11_low rfl rfl
theorem dX11_low_80 : decode cX11_low 80 = .ok (.lmul, 1) := dqn_105 (k := 33) qh_cX11_low rfl rfl
theorem dX11_low_81 : decode cX11_low 81 = .ok (.ladd, 1) := dqn_97 (k := 32) qh_cX11_low rfl rfl
theorem dX11_low_82 : decode cX11_low 82 = .ok (.lstore 9, 2) := dqn_55 (k := 30) qh_cX11_low rfl rfl rfl
theorem dX11_low_84 : decode cX11_low 84 = .ok (.iload 8, 2) := dqn_21 (k := 28) qh_cX11_low rfl rfl rfl
theorem dX11_low_86 : decode cX11_low 86 = .ok (.ifCond .eq 11, 3) := dqn_153 (k := 25) (u := 11) qh_cX11_low rfl rfl rfl (sg_p rfl rfl)
theorem dX11_low_89 : decode cX11_low 89 = .ok (.lload 9, 2) := dqn_22 (k := 23) qh_cX11_low rfl rfl rfl
theorem dX11_low_91 : decode cX11_low 91 = .ok (.lload 6, 2) := dqn_22 (k := 21) qh_cX11_low rfl rfl rfl
theorem dX11_low_93 : decode cX11_low 93 = .ok (.lcmp, 1) := dqn_148 (k := 20) qh_cX11_low rfl rfl
theorem dX11_low_94 : decode cX11_low 94 = .ok (.ifCond .ge 11, 3) := dqn_156 (k := 17) (u := 11) qh_cX11_low rfl rfl rfl (sg_p rfl rfl)
theorem dX11_low_97 : decode cX11_low 97 = .ok (.iload 8, 2) := dqn_21 (k := 15) qh_cX11_low rfl rfl rfl
theorem dX11_low_99 : decode cX11_low 99 = .ok (.istore 5, 2) := dqn_54 (k := 13) qh_cX11_low rfl rfl rfl
theorem dX11_low_101 : decode cX11_low 101 = .ok (.lload 9, 2) := dqn_22 (k := 11) qh_cX11_low rfl rfl rfl
theorem dX11_low_103 : decode cX11_low 103 = .ok (.lstore 6, 2) := dqn_55 (k := 9) qh_cX11_low rfl rfl rfl
theorem dX11_low_105 : decode cX11_low 105 = .ok (.iinc 8 1, 3) := dqn_132 (k := 6) (u := 1) qh_cX11_low rfl rfl rfl rfl (by decide)
theorem dX11_low_108 : decode cX11_low 108 = .ok (.goto (-67), 3) := dqn_167 (k := 3) (u := 65469) qh_cX11_low rfl rfl rfl (sg_n (k := 67) rfl rfl rfl)
theorem dX11_low_111 : decode cX11_low 111 = .ok (.iload 5, 2) := dqn_21 (k := 1) qh_cX11_low rfl rfl rfl
theorem dX11_low_113 : decode cX11_low 113 = .ok (.ireturn, 1) := dqn_172 (k := 0) qh_cX11_low rfl rfl
theorem dX11_helps_0 : decode cX11_helps 0 = .ok (.aload_n 0, 1) := dqn_42 (k := 55) qh_cX11_helps rfl rfl
theorem dX11_helps_1 : decode cX11_helps 1 = .ok (.iconst 0, 1) := dqn_3 (k := 54) qh_cX11_helps rfl rfl
theorem dX11_helps_2 : decode cX11_helps 2 = .ok (.putfield 70, 3) := dqn_181 (k := 51) qh_cX11_helps rfl rfl rfl
theorem dX11_helps_5 : decode cX11_helps 5 = .ok (.aload_n 0, 1) := dqn_42 (k := 50) qh_cX11_helps rfl rfl
theorem dX11_helps_6 : decode cX11_helps 6 = .ok (.iload_n 1, 1) := dqn_27 (k := 49) qh_cX11_helps rfl rfl
theorem dX11_helps_7 : decode cX11_helps 7 = .ok (.iload_n 2, 1) := dqn_28 (k := 48) qh_cX11_helps rfl rfl
theorem dX11_helps_8 : decode cX11_helps 8 = .ok (.invokevirtual 240, 3) := dqn_182 (k := 45) qh_cX11_helps rfl rfl rfl
theorem dX11_helps_11 : decode cX11_helps 11 = .ok (.ifCond .eq 18, 3) := dqn_153 (k := 42) (u := 18) qh_cX11_helps rfl rfl rfl (sg_p rfl rfl)
theorem dX11_helps_14 : decode cX11_helps 14 = .ok (.iload_n 3, 1) := dqn_29 (k := 41) qh_cX11_helps rfl rfl
theorem dX11_helps_15 : decode cX11_helps 15 = .ok (.invokestatic 298, 3) := dqn_184 (k := 38) qh_cX11_helps rfl rfl rfl
theorem dX11_helps_18 : decode cX11_helps 18 = .ok (.ifCond .eq 11, 3) := dqn_153 (k := 35) (u := 11) qh_cX11_helps rfl rfl rfl (sg_p rfl rfl)
theorem dX11_helps_21 : decode cX11_helps 21 = .ok (.iload 4, 2) := dqn_21 (k := 33) qh_cX11_helps rfl rfl rfl
theorem dX11_helps_23 : decode cX11_helps 23 = .ok (.invokestatic 298, 3) := dqn_184 (k := 30) qh_cX11_helps rfl rfl rfl
theorem dX11_helps_26 : decode cX11_helps 26 = .ok (.ifCond .ne 7, 3) := dqn_154 (k := 27) (u := 7) qh_cX11_helps rfl rfl rfl (sg_p rfl rfl)
theorem dX11_helps_29 : decode cX11_helps 29 = .ok (.ldc2_w 292, 3) := dqn_20 (k := 24) qh_cX11_helps rfl rfl rfl
theorem dX11_helps_32 : decode cX11_helps 32 = .ok (.lreturn, 1) := dqn_173 (k := 23) qh_cX11_helps rfl rfl
theorem dX11_helps_33 : decode cX11_helps 33 = .ok (.aload_n 0, 1) := dqn_42 (k := 22) qh_cX11_helps rfl rfl
theorem dX11_helps_34 : decode cX11_helps 34 = .ok (.invokevirtual 311, 3) := dqn_182 (k := 19) qh_cX11_helps rfl rfl rfl
theorem dX11_helps_37 : decode cX11_helps 37 = .ok (.aload_n 0, 1) := dqn_42 (k := 18) qh_cX11_helps rfl rfl
theorem dX11_helps_38 : decode cX11_helps 38 = .ok (.iload 4, 2) := dqn_21 (k := 16) qh_cX11_helps rfl rfl rfl
theorem dX11_helps_40 : decode cX11_helps 40 = .ok (.invokevirtual 301, 3) := dqn_182 (k := 13) qh_cX11_helps rfl rfl rfl
theorem dX11_helps_43 : decode cX11_helps 43 = .ok (.aload_n 0, 1) := dqn_42 (k := 12) qh_cX11_helps rfl rfl
theorem dX11_helps_44 : decode cX11_helps 44 = .ok (.aload_n 0, 1) := dqn_42 (k := 11) qh_cX11_helps rfl rfl
theorem dX11_helps_45 : decode cX11_helps 45 = .ok (.iload_n 3, 1) := dqn_29 (k := 10) qh_cX11_helps rfl rfl
theorem dX11_helps_46 : decode cX11_helps 46 = .ok (.invokevirtual 332, 3) := dqn_182 (k := 7) qh_cX11_helps rfl rfl rfl
theorem dX11_helps_49 : decode cX11_helps 49 = .ok (.iload 4, 2) := dqn_21 (k := 5) qh_cX11_helps rfl rfl rfl
theorem dX11_helps_51 : decode cX11_helps 51 = .ok (.invokevirtual 321, 3) := dqn_182 (k := 2) qh_cX11_helps rfl rfl rfl
theorem dX11_helps_54 : decode cX11_helps 54 = .ok (.lsub, 1) := dqn_101 (k := 1) qh_cX11_helps rfl rfl
theorem dX11_helps_55 : decode cX11_helps 55 = .ok (.lreturn, 1) := dqn_173 (k := 0) qh_cX11_helps rfl rfl
theorem dX11_alone_0 : decode cX11_alone 0 = .ok (.aload_n 0, 1) := dqn_42 (k := 50) qh_cX11_alone rfl rfl
theorem dX11_alone_1 : decode cX11_alone 1 = .ok (.iconst 0, 1) := dqn_3 (k := 49) qh_cX11_alone rfl rfl
theorem dX11_alone_2 : decode cX11_alone 2 = .ok (.putfield 70, 3) := dqn_181 (k := 46) qh_cX11_alone rfl rfl rfl
theorem dX11_alone_5 : decode cX11_alone 5 = .ok (.aload_n 0, 1) := dqn_42 (k := 45) qh_cX11_alone rfl rfl
theorem dX11_alone_6 : decode cX11_alone 6 = .ok (.iload_n 1, 1) := dqn_27 (k := 44) qh_cX11_alone rfl rfl
theorem dX11_alone_7 : decode cX11_alone 7 = .ok (.iload_n 2, 1) := dqn_28 (k := 43) qh_cX11_alone rfl rfl
theorem dX11_alone_8 : decode cX11_alone 8 = .ok (.invokevirtual 240, 3) := dqn_182 (k := 40) qh_cX11_alone rfl rfl rfl
theorem dX11_alone_11 : decode cX11_alone 11 = .ok (.ifCond .eq 10, 3) := dqn_153 (k := 37) (u := 10) qh_cX11_alone rfl rfl rfl (sg_p rfl rfl)
theorem dX11_alone_14 : decode cX11_alone 14 = .ok (.iload_n 3, 1) := dqn_29 (k := 36) qh_cX11_alone rfl rfl
theorem dX11_alone_15 : decode cX11_alone 15 = .ok (.invokestatic 298, 3) := dqn_184 (k := 33) qh_cX11_alone rfl rfl rfl
theorem dX11_alone_18 : decode cX11_alone 18 = .ok (.ifCond .ne 7, 3) := dqn_154 (k := 30) (u := 7) qh_cX11_alone rfl rfl rfl (sg_p rfl rfl)
theorem dX11_alone_21 : decode cX11_alone 21 = .ok (.ldc2_w 292, 3) := dqn_20 (k := 27) qh_cX11_alone rfl rfl rfl
theorem dX11_alone_24 : decode cX11_alone 24 = .ok (.lreturn, 1) := dqn_173 (k := 26) qh_cX11_alone rfl rfl
theorem dX11_alone_25 : decode cX11_alone 25 = .ok (.aload_n 0, 1) := dqn_42 (k := 25) qh_cX11_alone rfl rfl
theorem dX11_alone_26 : decode cX11_alone 26 = .ok (.invokevirtual 311, 3) := dqn_182 (k := 22) qh_cX11_alone rfl rfl rfl
theorem dX11_alone_29 : decode cX11_alone 29 = .ok (.aload_n 0, 1) := dqn_42 (k := 21) qh_cX11_alone rfl rfl
theorem dX11_alone_30 : decode cX11_alone 30 = .ok (.iconst 1, 1) := dqn_4 (k := 20) qh_cX11_alone rfl rfl
theorem dX11_alone_31 : decode cX11_alone 31 = .ok (.aload_n 0, 1) := dqn_42 (k := 19) qh_cX11_alone rfl rfl
theorem dX11_alone_32 : decode cX11_alone 32 = .ok (.getfield 208, 3) := dqn_180 (k := 16) qh_cX11_alone rfl rfl rfl
theorem dX11_alone_35 : decode cX11_alone 35 = .ok (.ishl, 1) := dqn_120 (k := 15) qh_cX11_alone rfl rfl
theorem dX11_alone_36 : decode cX11_alone 36 = .ok (.iconst 1, 1) := dqn_4 (k := 14) qh_cX11_alone rfl rfl
theorem dX11_alone_37 : decode cX11_alone 37 = .ok (.isub, 1) := dqn_100 (k := 13) qh_cX11_alone rfl rfl
theorem dX11_alone_38 : decode cX11_alone 38 = .ok (.aload_n 0, 1) := dqn_42 (k := 12) qh_cX11_alone rfl rfl
theorem dX11_alone_39 : decode cX11_alone 39 = .ok (.iload_n 3, 1) := dqn_29 (k := 11) qh_cX11_alone rfl rfl
theorem dX11_alone_40 : decode cX11_alone 40 = .ok (.invokevirtual 332, 3) := dqn_182 (k := 8) qh_cX11_alone rfl rfl rfl
theorem dX11_alone_43 : decode cX11_alone 43 = .ok (.iconst (-1), 1) := dqn_2 (k := 7) qh_cX11_alone rfl rfl
theorem dX11_alone_44 : decode cX11_alone 44 = .ok (.ixor, 1) := dqn_130 (k := 6) qh_cX11_alone rfl rfl
theorem dX11_alone_45 : decode cX11_alone 45 = .ok (.iand, 1) := dqn_126 (k := 5) qh_cX11_alone rfl rfl
theorem dX11_alone_46 : decode cX11_alone 46 = .ok (.iload_n 3, 1) := dqn_29 (k := 4) qh_cX11_alone rfl rfl
theorem dX11_alone_47 : decode cX11_alone 47 = .ok (.invokevirtual 321, 3) := dqn_182 (k := 1) qh_cX11_alone rfl rfl rfl
theorem dX11_alone_50 : decode cX11_alone 50 = .ok (.lreturn, 1) := dqn_173 (k := 0) qh_cX11_alone rfl rfl
theorem dX11_hear_0 : decode cX11_hear 0 = .ok (.aload_n 0, 1) := dqn_42 (k := 61) qh_cX11_hear rfl rfl
theorem dX11_hear_1 : decode cX11_hear 1 = .ok (.iconst 0, 1) := dqn_3 (k := 60) qh_cX11_hear rfl rfl
theorem dX11_hear_2 : decode cX11_hear 2 = .ok (.putfield 70, 3) := dqn_181 (k := 57) qh_cX11_hear rfl rfl rfl
theorem dX11_hear_5 : decode cX11_hear 5 = .ok (.aload_n 0, 1) := dqn_42 (k := 56) qh_cX11_hear rfl rfl
theorem dX11_hear_6 : decode cX11_hear 6 = .ok (.iload_n 1, 1) := dqn_27 (k := 55) qh_cX11_hear rfl rfl
theorem dX11_hear_7 : decode cX11_hear 7 = .ok (.iload_n 2, 1) := dqn_28 (k := 54) qh_cX11_hear rfl rfl
theorem dX11_hear_8 : decode cX11_hear 8 = .ok (.invokevirtual 240, 3) := dqn_182 (k := 51) qh_cX11_hear rfl rfl rfl
theorem dX11_hear_11 : decode cX11_hear 11 = .ok (.ifCond .eq 22, 3) := dqn_153 (k := 48) (u := 22) qh_cX11_hear rfl rfl rfl (sg_p rfl rfl)
theorem dX11_hear_14 : decode cX11_hear 14 = .ok (.aload_n 0, 1) := dqn_42 (k := 47) qh_cX11_hear rfl rfl
theorem dX11_hear_15 : decode cX11_hear 15 = .ok (.iload_n 3, 1) := dqn_29 (k := 46) qh_cX11_hear rfl rfl
theorem dX11_hear_16 : decode cX11_hear 16 = .ok (.invokevirtual 243, 3) := dqn_182 (k := 43) qh_cX11_hear rfl rfl rfl
theorem dX11_hear_19 : decode cX11_hear 19 = .ok (.ifCond .eq 14, 3) := dqn_153 (k := 40) (u := 14) qh_cX11_hear rfl rfl rfl (sg_p rfl rfl)
theorem dX11_hear_22 : decode cX11_hear 22 = .ok (.iload 4, 2) := dqn_21 (k := 38) qh_cX11_hear rfl rfl rfl
theorem dX11_hear_24 : decode cX11_hear 24 = .ok (.iconst 0, 1) := dqn_3 (k := 37) qh_cX11_hear rfl rfl
theorem dX11_hear_25 : decode cX11_hear 25 = .ok (.bipush 99, 2) := dqn_16 (k := 35) (u := 99) qh_cX11_hear rfl rfl rfl (by decide)
theorem dX11_hear_27 : decode cX11_hear 27 = .ok (.invokestatic 78, 3) := dqn_184 (k := 32) qh_cX11_hear rfl rfl rfl
theorem dX11_hear_30 : decode cX11_hear 30 = .ok (.ifCond .ne 7, 3) := dqn_154 (k := 29) (u := 7) qh_cX11_hear rfl rfl rfl (sg_p rfl rfl)
theorem dX11_hear_33 : decode cX11_hear 33 = .ok (.ldc2_w 335, 3) := dqn_20 (k := 26) qh_cX11_hear rfl rfl rfl
theorem dX11_hear_36 : decode cX11_hear 36 = .ok (.lreturn, 1) := dqn_173 (k := 25) qh_cX11_hear rfl rfl
theorem dX11_hear_37 : decode cX11_hear 37 = .ok (.aload_n 0, 1) := dqn_42 (k := 24) qh_cX11_hear rfl rfl
theorem dX11_hear_38 : decode cX11_hear 38 = .ok (.iconst (-1), 1) := dqn_2 (k := 23) qh_cX11_hear rfl rfl
theorem dX11_hear_39 : decode cX11_hear 39 = .ok (.invokevirtual 301, 3) := dqn_182 (k := 20) qh_cX11_hear rfl rfl rfl
theorem dX11_hear_42 : decode cX11_hear 42 = .ok (.lstore 5, 2) := dqn_55 (k := 18) qh_cX11_hear rfl rfl rfl
theorem dX11_hear_44 : decode cX11_hear 44 = .ok (.aload_n 0, 1) := dqn_42 (k := 17) qh_cX11_hear rfl rfl
theorem dX11_hear_45 : decode cX11_hear 45 = .ok (.iload_n 3, 1) := dqn_29 (k := 16) qh_cX11_hear rfl rfl
theorem dX11_hear_46 : decode cX11_hear 46 = .ok (.bipush 12, 2) := dqn_16 (k := 14) (u := 12) qh_cX11_hear rfl rfl rfl (by decide)
theorem dX11_hear_48 : decode cX11_hear 48 = .ok (.iload 4, 2) := dqn_21 (k := 12) qh_cX11_hear rfl rfl rfl
theorem dX11_hear_50 : decode cX11_hear 50 = .ok (.invokevirtual 215, 3) := dqn_182 (k := 9) qh_cX11_hear rfl rfl rfl
theorem dX11_hear_53 : decode cX11_hear 53 = .ok (.lload 5, 2) := dqn_22 (k := 7) qh_cX11_hear rfl rfl rfl
theorem dX11_hear_55 : decode cX11_hear 55 = .ok (.aload_n 0, 1) := dqn_42 (k := 6) qh_cX11_hear rfl rfl
theorem dX11_hear_56 : decode cX11_hear 56 = .ok (.iconst (-1), 1) := dqn_2 (k := 5) qh_cX11_hear rfl rfl
theorem dX11_hear_57 : decode cX11_hear 57 = .ok (.invokevirtual 301, 3) := dqn_182 (k := 2) qh_cX11_hear rfl rfl rfl
theorem dX11_hear_60 : decode cX11_hear 60 = .ok (.lsub, 1) := dqn_101 (k := 1) qh_cX11_hear rfl rfl
theorem dX11_hear_61 : decode cX11_hear 61 = .ok (.lreturn, 1) := dqn_173 (k := 0) qh_cX11_hear rfl rfl
theorem dX11_now_0 : decode cX11_now 0 = .ok (.aload_n 0, 1) := dqn_42 (k := 103) qh_cX11_now rfl rfl
theorem dX11_now_1 : decode cX11_now 1 = .ok (.iconst 0, 1) := dqn_3 (k := 102) qh_cX11_now rfl rfl
theorem dX11_now_2 : decode cX11_now 2 = .ok (.putfield 70, 3) := dqn_181 (k := 99) qh_cX11_now rfl rfl rfl
theorem dX11_now_5 : decode cX11_now 5 = .ok (.aload_n 0, 1) := dqn_42 (k := 98) qh_cX11_now rfl rfl
theorem dX11_now_6 : decode cX11_now 6 = .ok (.iload_n 1, 1) := dqn_27 (k := 97) qh_cX11_now rfl rfl
theorem dX11_now_7 : decode cX11_now 7 = .ok (.iload_n 2, 1) := dqn_28 (k := 96) qh_cX11_now rfl rfl
theorem dX11_now_8 : decode cX11_now 8 = .ok (.invokevirtual 240, 3) := dqn_182 (k := 93) qh_cX11_now rfl rfl rfl
theorem dX11_now_11 : decode cX11_now 11 = .ok (.ifCond .ne 5, 3) := dqn_154 (k := 90) (u := 5) qh_cX11_now rfl rfl rfl (sg_p rfl rfl)
theorem dX11_now_14 : decode cX11_now 14 = .ok (.iconst (-1), 1) := dqn_2 (k := 89) qh_cX11_now rfl rfl
theorem dX11_now_15 : decode cX11_now 15 = .ok (.ireturn, 1) := dqn_172 (k := 88) qh_cX11_now rfl rfl
theorem dX11_now_16 : decode cX11_now 16 = .ok (.iconst (-1), 1) := dqn_2 (k := 87) qh_cX11_now rfl rfl
theorem dX11_now_17 : decode cX11_now 17 = .ok (.istore_n 3, 1) := dqn_62 (k := 86) qh_cX11_now rfl rfl
theorem dX11_now_18 : decode cX11_now 18 = .ok (.lconst 0, 1) := dqn_9 (k := 85) qh_cX11_now rfl rfl
theorem dX11_now_19 : decode cX11_now 19 = .ok (.lstore 4, 2) := dqn_55 (k := 83) qh_cX11_now rfl rfl rfl
theorem dX11_now_21 : decode cX11_now 21 = .ok (.lconst 1, 1) := dqn_10 (k := 82) qh_cX11_now rfl rfl
theorem dX11_now_22 : decode cX11_now 22 = .ok (.lstore 6, 2) := dqn_55 (k := 80) qh_cX11_now rfl rfl rfl
theorem dX11_now_24 : decode cX11_now 24 = .ok (.iconst 0, 1) := dqn_3 (k := 79) qh_cX11_now rfl rfl
theorem dX11_now_25 : decode cX11_now 25 = .ok (.istore 8, 2) := dqn_54 (k := 77) qh_cX11_now rfl rfl rfl
theorem dX11_now_27 : decode cX11_now 27 = .ok (.iload 8, 2) := dqn_21 (k := 75) qh_cX11_now rfl rfl rfl
theorem dX11_now_29 : decode cX11_now 29 = .ok (.aload_n 0, 1) := dqn_42 (k := 74) qh_cX11_now rfl rfl
theorem dX11_now_30 : decode cX11_now 30 = .ok (.getfield 208, 3) := dqn_180 (k := 71) qh_cX11_now rfl rfl rfl
theorem dX11_now_33 : decode cX11_now 33 = .ok (.if_icmp .ge 69, 3) := dqn_162 (k := 68) (u := 69) qh_cX11_now rfl rfl rfl (sg_p rfl rfl)
theorem dX11_now_36 : decode cX11_now 36 = .ok (.aload_n 0, 1) := dqn_42 (k := 67) qh_cX11_now rfl rfl
theorem dX11_now_37 : decode cX11_now 37 = .ok (.iload 8, 2) := dqn_21 (k := 65) qh_cX11_now rfl rfl rfl
theorem dX11_now_39 : decode cX11_now 39 = .ok (.invokevirtual 352, 3) := dqn_182 (k := 62) qh_cX11_now rfl rfl rfl
theorem dX11_now_42 : decode cX11_now 42 = .ok (.i2l, 1) := dqn_133 (k := 61) qh_cX11_now rfl rfl
theorem dX11_now_43 : decode cX11_now 43 = .ok (.aload_n 0, 1) := dqn_42 (k := 60) qh_cX11_now rfl rfl
theorem dX11_now_44 : decode cX11_now 44 = .ok (.iload 8, 2) := dqn_21 (k := 58) qh_cX11_now rfl rfl rfl
theorem dX11_now_46 : decode cX11_now 46 = .ok (.iconst 5, 1) := dqn_8 (k := 57) qh_cX11_now rfl rfl
theorem dX11_now_47 : decode cX11_now 47 = .ok (.invokevirtual 211, 3) := dqn_182 (k := 54) qh_cX11_now rfl rfl rfl
theorem dX11_now_50 : decode cX11_now 50 = .ok (.i2l, 1) := dqn_133 (k := 53) qh_cX11_now rfl rfl
theorem dX11_now_51 : decode cX11_now 51 = .ok (.lmul, 1) := dqn_105 (k := 52) qh_cX11_now rfl rfl
theorem dX11_now_52 : decode cX11_now 52 = .ok (.lstore 9, 2) := dqn_55 (k := 50) qh_cX11_now rfl rfl rfl
theorem dX11_now_54 : decode cX11_now 54 = .ok (.lload 9, 2) := dqn_22 (k := 48) qh_cX11_now rfl rfl rfl
theorem dX11_now_56 : decode cX11_now 56 = .ok (.lconst 0, 1) := dqn_9 (k := 47) qh_cX11_now rfl rfl
theorem dX11_now_57 : decode cX11_now 57 = .ok (.lcmp, 1) := dqn_148 (k := 46) qh_cX11_now rfl rfl
theorem dX11_now_58 : decode cX11_now 58 = .ok (.ifCond .le 38, 3) := dqn_158 (k := 43) (u := 38) qh_cX11_now rfl rfl rfl (sg_p rfl rfl)
theorem dX11_now_61 : decode cX11_now 61 = .ok (.lload 9, 2) := dqn_22 (k := 41) qh_cX11_now rfl rfl rfl
theorem dX11_now_63 : decode cX11_now 63 = .ok (.lload 6, 2) := dqn_22 (k := 39) qh_cX11_now rfl rfl rfl
theorem dX11_now_65 : decode cX11_now 65 = .ok (.lmul, 1) := dqn_105 (k := 38) qh_cX11_now rfl rfl
theorem dX11_now_66 : decode cX11_now 66 = .ok (.lload 4, 2) := dqn_22 (k := 36) qh_cX11_now rfl rfl rfl
theorem dX11_now_68 : decode cX11_now 68 = .ok (.aload_n 0, 1) := dqn_42 (k := 35) qh_cX11_now rfl rfl
theorem dX11_now_69 : decode cX11_now 69 = .ok (.iload 8, 2) := dqn_21 (k := 33) qh_cX11_now rfl rfl rfl
theorem dX11_now_71 : decode cX11_now 71 = .ok (.invokevirtual 355, 3) := dqn_182 (k := 30) qh_cX11_now rfl rfl rfl
theorem dX11_now_74 : decode cX11_now 74 = .ok (.i2l, 1) := dqn_133 (k := 29) qh_cX11_now rfl rfl
theorem dX11_now_75 : decode cX11_now 75 = .ok (.lmul, 1) := dqn_105 (k := 28) qh_cX11_now rfl rfl
theorem dX11_now_76 : decode cX11_now 76 = .ok (.lcmp, 1) := dqn_148 (k := 27) qh_cX11_now rfl rfl
theorem dX11_now_77 : decode cX11_now 77 = .ok (.ifCond .le 19, 3) := dqn_158 (k := 24) (u := 19) qh_cX11_now rfl rfl rfl (sg_p rfl rfl)
theorem dX11_now_80 : decode cX11_now 80 = .ok (.iload 8, 2) := dqn_21 (k := 22) qh_cX11_now rfl rfl rfl
theorem dX11_now_82 : decode cX11_now 82 = .ok (.istore_n 3, 1) := dqn_62 (k := 21) qh_cX11_now rfl rfl
theorem dX11_now_83 : decode cX11_now 83 = .ok (.lload 9, 2) := dqn_22 (k := 19) qh_cX11_now rfl rfl rfl
theorem dX11_now_85 : decode cX11_now 85 = .ok (.lstore 4, 2) := dqn_55 (k := 17) qh_cX11_now rfl rfl rfl
theorem dX11_now_87 : decode cX11_now 87 = .ok (.aload_n 0, 1) := dqn_42 (k := 16) qh_cX11_now rfl rfl
theorem dX11_now_88 : decode cX11_now 88 = .ok (.iload 8, 2) := dqn_21 (k := 14) qh_cX11_now rfl rfl rfl
theorem dX11_now_90 : decode cX11_now 90 = .ok (.invokevirtual 355, 3) := dqn_182 (k := 11) qh_cX11_now rfl rfl rfl
theorem dX11_now_93 : decode cX11_now 93 = .ok (.i2l, 1) := dqn_133 (k := 10) qh_cX11_now rfl rfl
theorem dX11_now_94 : decode cX11_now 94 = .ok (.lstore 6, 2) := dqn_55 (k := 8) qh_cX11_now rfl rfl rfl
theorem dX11_now_96 : decode cX11_now 96 = .ok (.iinc 8 1, 3) := dqn_132 (k := 5) (u := 1) qh_cX11_now rfl rfl rfl rfl (by decide)
theorem dX11_now_99 : decode cX11_now 99 = .ok (.goto (-72), 3) := dqn_167 (k := 2) (u := 65464) qh_cX11_now rfl rfl rfl (sg_n (k := 72) rfl rfl rfl)
theorem dX11_now_102 : decode cX11_now 102 = .ok (.iload_n 3, 1) := dqn_29 (k := 1) qh_cX11_now rfl rfl
theorem dX11_now_103 : decode cX11_now 103 = .ok (.ireturn, 1) := dqn_172 (k := 0) qh_cX11_now rfl rfl
theorem dX11_spared_0 : decode cX11_spared 0 = .ok (.aload_n 0, 1) := dqn_42 (k := 82) qh_cX11_spared rfl rfl
theorem dX11_spared_1 : decode cX11_spared 1 = .ok (.iconst 0, 1) := dqn_3 (k := 81) qh_cX11_spared rfl rfl
theorem dX11_spared_2 : decode cX11_spared 2 = .ok (.putfield 70, 3) := dqn_181 (k := 78) qh_cX11_spared rfl rfl rfl
theorem dX11_spared_5 : decode cX11_spared 5 = .ok (.aload_n 0, 1) := dqn_42 (k := 77) qh_cX11_spared rfl rfl
theorem dX11_spared_6 : decode cX11_spared 6 = .ok (.iload_n 1, 1) := dqn_27 (k := 76) qh_cX11_spared rfl rfl
theorem dX11_spared_7 : decode cX11_spared 7 = .ok (.iload_n 2, 1) := dqn_28 (k := 75) qh_cX11_spared rfl rfl
theorem dX11_spared_8 : decode cX11_spared 8 = .ok (.invokevirtual 240, 3) := dqn_182 (k := 72) qh_cX11_spared rfl rfl rfl
theorem dX11_spared_11 : decode cX11_spared 11 = .ok (.ifCond .eq 11, 3) := dqn_153 (k := 69) (u := 11) qh_cX11_spared rfl rfl rfl (sg_p rfl rfl)
theorem dX11_spared_14 : decode cX11_spared 14 = .ok (.aload_n 0, 1) := dqn_42 (k := 68) qh_cX11_spared rfl rfl
theorem dX11_spared_15 : decode cX11_spared 15 = .ok (.iload_n 3, 1) := dqn_29 (k := 67) qh_cX11_spared rfl rfl
theorem dX11_spared_16 : decode cX11_spared 16 = .ok (.invokevirtual 265, 3) := dqn_182 (k := 64) qh_cX11_spared rfl rfl rfl
theorem dX11_spared_19 : decode cX11_spared 19 = .ok (.ifCond .ne 5, 3) := dqn_154 (k := 61) (u := 5) qh_cX11_spared rfl rfl rfl (sg_p rfl rfl)
theorem dX11_spared_22 : decode cX11_spared 22 = .ok (.iconst (-1), 1) := dqn_2 (k := 60) qh_cX11_spared rfl rfl
theorem dX11_spared_23 : decode cX11_spared 23 = .ok (.ireturn, 1) := dqn_172 (k := 59) qh_cX11_spared rfl rfl
theorem dX11_spared_24 : decode cX11_spared 24 = .ok (.iconst 0, 1) := dqn_3 (k := 58) qh_cX11_spared rfl rfl
theorem dX11_spared_25 : decode cX11_spared 25 = .ok (.istore 4, 2) := dqn_54 (k := 56) qh_cX11_spared rfl rfl rfl
theorem dX11_spared_27 : decode cX11_spared 27 = .ok (.iconst 0, 1) := dqn_3 (k := 55) qh_cX11_spared rfl rfl
theorem dX11_spared_28 : decode cX11_spared 28 = .ok (.istore 5, 2) := dqn_54 (k := 53) qh_cX11_spared rfl rfl rfl
theorem dX11_spared_30 : decode cX11_spared 30 = .ok (.iload 5, 2) := dqn_21 (k := 51) qh_cX11_spared rfl rfl rfl
theorem dX11_spared_32 : decode cX11_spared 32 = .ok (.iconst 1, 1) := dqn_4 (k := 50) qh_cX11_spared rfl rfl
theorem dX11_spared_33 : decode cX11_spared 33 = .ok (.aload_n 0, 1) := dqn_42 (k := 49) qh_cX11_spared rfl rfl
theorem dX11_spared_34 : decode cX11_spared 34 = .ok (.getfield 208, 3) := dqn_180 (k := 46) qh_cX11_spared rfl rfl rfl
theorem dX11_spared_37 : decode cX11_spared 37 = .ok (.ishl, 1) := dqn_120 (k := 45) qh_cX11_spared rfl rfl
theorem dX11_spared_38 : decode cX11_spared 38 = .ok (.if_icmp .ge 42, 3) := dqn_162 (k := 42) (u := 42) qh_cX11_spared rfl rfl rfl (sg_p rfl rfl)
theorem dX11_spared_41 : decode cX11_spared 41 = .ok (.aload_n 0, 1) := dqn_42 (k := 41) qh_cX11_spared rfl rfl
theorem dX11_spared_42 : decode cX11_spared 42 = .ok (.aload_n 0, 1) := dqn_42 (k := 40) qh_cX11_spared rfl rfl
theorem dX11_spared_43 : decode cX11_spared 43 = .ok (.iload_n 3, 1) := dqn_29 (k := 39) qh_cX11_spared rfl rfl
theorem dX11_spared_44 : decode cX11_spared 44 = .ok (.invokevirtual 271, 3) := dqn_182 (k := 36) qh_cX11_spared rfl rfl rfl
theorem dX11_spared_47 : decode cX11_spared 47 = .ok (.iload 5, 2) := dqn_21 (k := 34) qh_cX11_spared rfl rfl rfl
theorem dX11_spared_49 : decode cX11_spared 49 = .ok (.invokevirtual 275, 3) := dqn_182 (k := 31) qh_cX11_spared rfl rfl rfl
theorem dX11_spared_52 : decode cX11_spared 52 = .ok (.iload 4, 2) := dqn_21 (k := 29) qh_cX11_spared rfl rfl rfl
theorem dX11_spared_54 : decode cX11_spared 54 = .ok (.aload_n 0, 1) := dqn_42 (k := 28) qh_cX11_spared rfl rfl
theorem dX11_spared_55 : decode cX11_spared 55 = .ok (.getfield 246, 3) := dqn_180 (k := 25) qh_cX11_spared rfl rfl rfl
theorem dX11_spared_58 : decode cX11_spared 58 = .ok (.iload 5, 2) := dqn_21 (k := 23) qh_cX11_spared rfl rfl rfl
theorem dX11_spared_60 : decode cX11_spared 60 = .ok (.iconst (-1), 1) := dqn_2 (k := 22) qh_cX11_spared rfl rfl
theorem dX11_spared_61 : decode cX11_spared 61 = .ok (.ixor, 1) := dqn_130 (k := 21) qh_cX11_spared rfl rfl
theorem dX11_spared_62 : decode cX11_spared 62 = .ok (.iand, 1) := dqn_126 (k := 20) qh_cX11_spared rfl rfl
theorem dX11_spared_63 : decode cX11_spared 63 = .ok (.ifCond .ne 7, 3) := dqn_154 (k := 17) (u := 7) qh_cX11_spared rfl rfl rfl (sg_p rfl rfl)
theorem dX11_spared_66 : decode cX11_spared 66 = .ok (.iconst 1, 1) := dqn_4 (k := 16) qh_cX11_spared rfl rfl
theorem dX11_spared_67 : decode cX11_spared 67 = .ok (.goto 4, 3) := dqn_167 (k := 13) (u := 4) qh_cX11_spared rfl rfl rfl (sg_p rfl rfl)
theorem dX11_spared_70 : decode cX11_spared 70 = .ok (.iconst 0, 1) := dqn_3 (k := 12) qh_cX11_spared rfl rfl
theorem dX11_spared_71 : decode cX11_spared 71 = .ok (.iadd, 1) := dqn_96 (k := 11) qh_cX11_spared rfl rfl
theorem dX11_spared_72 : decode cX11_spared 72 = .ok (.istore 4, 2) := dqn_54 (k := 9) qh_cX11_spared rfl rfl rfl
theorem dX11_spared_74 : decode cX11_spared 74 = .ok (.iinc 5 1, 3) := dqn_132 (k := 6) (u := 1) qh_cX11_spared rfl rfl rfl rfl (by decide)
theorem dX11_spared_77 : decode cX11_spared 77 = .ok (.goto (-47), 3) := dqn_167 (k := 3) (u := 65489) qh_cX11_spared rfl rfl rfl (sg_n (k := 47) rfl rfl rfl)
theorem dX11_spared_80 : decode cX11_spared 80 = .ok (.iload 4, 2) := dqn_21 (k := 1) qh_cX11_spared rfl rfl rfl
theorem dX11_spared_82 : decode cX11_spared 82 = .ok (.ireturn, 1) := dqn_172 (k := 0) qh_cX11_spared rfl rfl
theorem dX11_deep_0 : decode cX11_deep 0 = .ok (.aload_n 0, 1) := dqn_42 (k := 144) qh_cX11_deep rfl rfl
theorem dX11_deep_1 : decode cX11_deep 1 = .ok (.iconst 0, 1) := dqn_3 (k := 143) qh_cX11_deep rfl rfl
theorem dX11_deep_2 : decode cX11_deep 2 = .ok (.putfield 70, 3) := dqn_181 (k := 140) qh_cX11_deep rfl rfl rfl
theorem dX11_deep_5 : decode cX11_deep 5 = .ok (.aload_n 0, 1) := dqn_42 (k := 139) qh_cX11_deep rfl rfl
theorem dX11_deep_6 : decode cX11_deep 6 = .ok (.iload_n 1, 1) := dqn_27 (k := 138) qh_cX11_deep rfl rfl
theorem dX11_deep_7 : decode cX11_deep 7 = .ok (.iload_n 2, 1) := dqn_28 (k := 137) qh_cX11_deep rfl rfl
theorem dX11_deep_8 : decode cX11_deep 8 = .ok (.invokevirtual 240, 3) := dqn_182 (k := 134) qh_cX11_deep rfl rfl rfl
theorem dX11_deep_11 : decode cX11_deep 11 = .ok (.ifCond .ne 5, 3) := dqn_154 (k := 131) (u := 5) qh_cX11_deep rfl rfl rfl (sg_p rfl rfl)
theorem dX11_deep_14 : decode cX11_deep 14 = .ok (.iconst (-1), 1) := dqn_2 (k := 130) qh_cX11_deep rfl rfl
theorem dX11_deep_15 : decode cX11_deep 15 = .ok (.ireturn, 1) := dqn_172 (k := 129) qh_cX11_deep rfl rfl
theorem dX11_deep_16 : decode cX11_deep 16 = .ok (.iconst 0, 1) := dqn_3 (k := 128) qh_cX11_deep rfl rfl
theorem dX11_deep_17 : decode cX11_deep 17 = .ok (.istore_n 3, 1) := dqn_62 (k := 127) qh_cX11_deep rfl rfl
theorem dX11_deep_18 : decode cX11_deep 18 = .ok (.iconst 0, 1) := dqn_3 (k := 126) qh_cX11_deep rfl rfl
theorem dX11_deep_19 : decode cX11_deep 19 = .ok (.istore 4, 2) := dqn_54 (k := 124) qh_cX11_deep rfl rfl rfl
theorem dX11_deep_21 : decode cX11_deep 21 = .ok (.iload 4, 2) := dqn_21 (k := 122) qh_cX11_deep rfl rfl rfl
theorem dX11_deep_23 : decode cX11_deep 23 = .ok (.aload_n 0, 1) := dqn_42 (k := 121) qh_cX11_deep rfl rfl
theorem dX11_deep_24 : decode cX11_deep 24 = .ok (.getfield 208, 3) := dqn_180 (k := 118) qh_cX11_deep rfl rfl rfl
theorem dX11_deep_27 : decode cX11_deep 27 = .ok (.if_icmp .ge 30, 3) := dqn_162 (k := 115) (u := 30) qh_cX11_deep rfl rfl rfl (sg_p rfl rfl)
theorem dX11_deep_30 : decode cX11_deep 30 = .ok (.iload_n 3, 1) := dqn_29 (k := 114) qh_cX11_deep rfl rfl
theorem dX11_deep_31 : decode cX11_deep 31 = .ok (.aload_n 0, 1) := dqn_42 (k := 113) qh_cX11_deep rfl rfl
theorem dX11_deep_32 : decode cX11_deep 32 = .ok (.iload 4, 2) := dqn_21 (k := 111) qh_cX11_deep rfl rfl rfl
theorem dX11_deep_34 : decode cX11_deep 34 = .ok (.iconst 4, 1) := dqn_7 (k := 110) qh_cX11_deep rfl rfl
theorem dX11_deep_35 : decode cX11_deep 35 = .ok (.invokevirtual 211, 3) := dqn_182 (k := 107) qh_cX11_deep rfl rfl rfl
theorem dX11_deep_38 : decode cX11_deep 38 = .ok (.ifCond .le 10, 3) := dqn_158 (k := 104) (u := 10) qh_cX11_deep rfl rfl rfl (sg_p rfl rfl)
theorem dX11_deep_41 : decode cX11_deep 41 = .ok (.iconst 1, 1) := dqn_4 (k := 103) qh_cX11_deep rfl rfl
theorem dX11_deep_42 : decode cX11_deep 42 = .ok (.iload 4, 2) := dqn_21 (k := 101) qh_cX11_deep rfl rfl rfl
theorem dX11_deep_44 : decode cX11_deep 44 = .ok (.ishl, 1) := dqn_120 (k := 100) qh_cX11_deep rfl rfl
theorem dX11_deep_45 : decode cX11_deep 45 = .ok (.goto 4, 3) := dqn_167 (k := 97) (u := 4) qh_cX11_deep rfl rfl rfl (sg_p rfl rfl)
theorem dX11_deep_48 : decode cX11_deep 48 = .ok (.iconst 0, 1) := dqn_3 (k := 96) qh_cX11_deep rfl rfl
theorem dX11_deep_49 : decode cX11_deep 49 = .ok (.ior, 1) := dqn_128 (k := 95) qh_cX11_deep rfl rfl
theorem dX11_deep_50 : decode cX11_deep 50 = .ok (.istore_n 3, 1) := dqn_62 (k := 94) qh_cX11_deep rfl rfl
theorem dX11_deep_51 : decode cX11_deep 51 = .ok (.iinc 4 1, 3) := dqn_132 (k := 91) (u := 1) qh_cX11_deep rfl rfl rfl rfl (by decide)
theorem dX11_deep_54 : decode cX11_deep 54 = .ok (.goto (-33), 3) := dqn_167 (k := 88) (u := 65503) qh_cX11_deep rfl rfl rfl (sg_n (k := 33) rfl rfl rfl)
theorem dX11_deep_57 : decode cX11_deep 57 = .ok (.iconst 0, 1) := dqn_3 (k := 87) qh_cX11_deep rfl rfl
theorem dX11_deep_58 : decode cX11_deep 58 = .ok (.istore 4, 2) := dqn_54 (k := 85) qh_cX11_deep rfl rfl rfl
theorem dX11_deep_60 : decode cX11_deep 60 = .ok (.iconst 0, 1) := dqn_3 (k := 84) qh_cX11_deep rfl rfl
theorem dX11_deep_61 : decode cX11_deep 61 = .ok (.istore 5, 2) := dqn_54 (k := 82) qh_cX11_deep rfl rfl rfl
theorem dX11_deep_63 : decode cX11_deep 63 = .ok (.iload 5, 2) := dqn_21 (k := 80) qh_cX11_deep rfl rfl rfl
theorem dX11_deep_65 : decode cX11_deep 65 = .ok (.aload_n 0, 1) := dqn_42 (k := 79) qh_cX11_deep rfl rfl
theorem dX11_deep_66 : decode cX11_deep 66 = .ok (.getfield 38, 3) := dqn_180 (k := 76) qh_cX11_deep rfl rfl rfl
theorem dX11_deep_69 : decode cX11_deep 69 = .ok (.iconst 1, 1) := dqn_4 (k := 75) qh_cX11_deep rfl rfl
theorem dX11_deep_70 : decode cX11_deep 70 = .ok (.iaload, 1) := dqn_46 (k := 74) qh_cX11_deep rfl rfl
theorem dX11_deep_71 : decode cX11_deep 71 = .ok (.if_icmp .ge 71, 3) := dqn_162 (k := 71) (u := 71) qh_cX11_deep rfl rfl rfl (sg_p rfl rfl)
theorem dX11_deep_74 : decode cX11_deep 74 = .ok (.iconst 0, 1) := dqn_3 (k := 70) qh_cX11_deep rfl rfl
theorem dX11_deep_75 : decode cX11_deep 75 = .ok (.istore 6, 2) := dqn_54 (k := 68) qh_cX11_deep rfl rfl rfl
theorem dX11_deep_77 : decode cX11_deep 77 = .ok (.iload 6, 2) := dqn_21 (k := 66) qh_cX11_deep rfl rfl rfl
theorem dX11_deep_79 : decode cX11_deep 79 = .ok (.iload_n 3, 1) := dqn_29 (k := 65) qh_cX11_deep rfl rfl
theorem dX11_deep_80 : decode cX11_deep 80 = .ok (.if_icmp .gt 56, 3) := dqn_163 (k := 62) (u := 56) qh_cX11_deep rfl rfl rfl (sg_p rfl rfl)
theorem dX11_deep_83 : decode cX11_deep 83 = .ok (.iload 6, 2) := dqn_21 (k := 60) qh_cX11_deep rfl rfl rfl
theorem dX11_deep_85 : decode cX11_deep 85 = .ok (.iload_n 3, 1) := dqn_29 (k := 59) qh_cX11_deep rfl rfl
theorem dX11_deep_86 : decode cX11_deep 86 = .ok (.iconst (-1), 1) := dqn_2 (k := 58) qh_cX11_deep rfl rfl
theorem dX11_deep_87 : decode cX11_deep 87 = .ok (.ixor, 1) := dqn_130 (k := 57) qh_cX11_deep rfl rfl
theorem dX11_deep_88 : decode cX11_deep 88 = .ok (.iand, 1) := dqn_126 (k := 56) qh_cX11_deep rfl rfl
theorem dX11_deep_89 : decode cX11_deep 89 = .ok (.ifCond .ne 41, 3) := dqn_154 (k := 53) (u := 41) qh_cX11_deep rfl rfl rfl (sg_p rfl rfl)
theorem dX11_deep_92 : decode cX11_deep 92 = .ok (.aload_n 0, 1) := dqn_42 (k := 52) qh_cX11_deep rfl rfl
theorem dX11_deep_93 : decode cX11_deep 93 = .ok (.aload_n 0, 1) := dqn_42 (k := 51) qh_cX11_deep rfl rfl
theorem dX11_deep_94 : decode cX11_deep 94 = .ok (.iload 5, 2) := dqn_21 (k := 49) qh_cX11_deep rfl rfl rfl
theorem dX11_deep_96 : decode cX11_deep 96 = .ok (.invokevirtual 271, 3) := dqn_182 (k := 46) qh_cX11_deep rfl rfl rfl
theorem dX11_deep_99 : decode cX11_deep 99 = .ok (.iload 6, 2) := dqn_21 (k := 44) qh_cX11_deep rfl rfl rfl
theorem dX11_deep_101 : decode cX11_deep 101 = .ok (.invokevirtual 275, 3) := dqn_182 (k := 41) qh_cX11_deep rfl rfl rfl
theorem dX11_deep_104 : decode cX11_deep 104 = .ok (.aload_n 0, 1) := dqn_42 (k := 40) qh_cX11_deep rfl rfl
theorem dX11_deep_105 : decode cX11_deep 105 = .ok (.getfield 246, 3) := dqn_180 (k := 37) qh_cX11_deep rfl rfl rfl
theorem dX11_deep_108 : decode cX11_deep 108 = .ok (.invokestatic 305, 3) := dqn_184 (k := 34) qh_cX11_deep rfl rfl rfl
theorem dX11_deep_111 : decode cX11_deep 111 = .ok (.iload 4, 2) := dqn_21 (k := 32) qh_cX11_deep rfl rfl rfl
theorem dX11_deep_113 : decode cX11_deep 113 = .ok (.if_icmp .le 13, 3) := dqn_164 (k := 29) (u := 13) qh_cX11_deep rfl rfl rfl (sg_p rfl rfl)
theorem dX11_deep_116 : decode cX11_deep 116 = .ok (.aload_n 0, 1) := dqn_42 (k := 28) qh_cX11_deep rfl rfl
theorem dX11_deep_117 : decode cX11_deep 117 = .ok (.getfield 246, 3) := dqn_180 (k := 25) qh_cX11_deep rfl rfl rfl
theorem dX11_deep_120 : decode cX11_deep 120 = .ok (.invokestatic 305, 3) := dqn_184 (k := 22) qh_cX11_deep rfl rfl rfl
theorem dX11_deep_123 : decode cX11_deep 123 = .ok (.goto 5, 3) := dqn_167 (k := 19) (u := 5) qh_cX11_deep rfl rfl rfl (sg_p rfl rfl)
theorem dX11_deep_126 : decode cX11_deep 126 = .ok (.iload 4, 2) := dqn_21 (k := 17) qh_cX11_deep rfl rfl rfl
theorem dX11_deep_128 : decode cX11_deep 128 = .ok (.istore 4, 2) := dqn_54 (k := 15) qh_cX11_deep rfl rfl rfl
theorem dX11_deep_130 : decode cX11_deep 130 = .ok (.iinc 6 1, 3) := dqn_132 (k := 12) (u := 1) qh_cX11_deep rfl rfl rfl rfl (by decide)
theorem dX11_deep_133 : decode cX11_deep 133 = .ok (.goto (-56), 3) := dqn_167 (k := 9) (u := 65480) qh_cX11_deep rfl rfl rfl (sg_n (k := 56) rfl rfl rfl)
theorem dX11_deep_136 : decode cX11_deep 136 = .ok (.iinc 5 1, 3) := dqn_132 (k := 6) (u := 1) qh_cX11_deep rfl rfl rfl rfl (by decide)
theorem dX11_deep_139 : decode cX11_deep 139 = .ok (.goto (-76), 3) := dqn_167 (k := 3) (u := 65460) qh_cX11_deep rfl rfl rfl (sg_n (k := 76) rfl rfl rfl)
theorem dX11_deep_142 : decode cX11_deep 142 = .ok (.iload 4, 2) := dqn_21 (k := 1) qh_cX11_deep rfl rfl rfl
theorem dX11_deep_144 : decode cX11_deep 144 = .ok (.ireturn, 1) := dqn_172 (k := 0) qh_cX11_deep rfl rfl
theorem dX11_safe_0 : decode cX11_safe 0 = .ok (.aload_n 0, 1) := dqn_42 (k := 56) qh_cX11_safe rfl rfl
theorem dX11_safe_1 : decode cX11_safe 1 = .ok (.iconst 0, 1) := dqn_3 (k := 55) qh_cX11_safe rfl rfl
theorem dX11_safe_2 : decode cX11_safe 2 = .ok (.putfield 70, 3) := dqn_181 (k := 52) qh_cX11_safe rfl rfl rfl
theorem dX11_safe_5 : decode cX11_safe 5 = .ok (.aload_n 0, 1) := dqn_42 (k := 51) qh_cX11_safe rfl rfl
theorem dX11_safe_6 : decode cX11_safe 6 = .ok (.iload_n 1, 1) := dqn_27 (k := 50) qh_cX11_safe rfl rfl
theorem dX11_safe_7 : decode cX11_safe 7 = .ok (.iload_n 2, 1) := dqn_28 (k := 49) qh_cX11_safe rfl rfl
theorem dX11_safe_8 : decode cX11_safe 8 = .ok (.invokevirtual 240, 3) := dqn_182 (k := 46) qh_cX11_safe rfl rfl rfl
theorem dX11_safe_11 : decode cX11_safe 11 = .ok (.ifCond .ne 5, 3) := dqn_154 (k := 43) (u := 5) qh_cX11_safe rfl rfl rfl (sg_p rfl rfl)
theorem dX11_safe_14 : decode cX11_safe 14 = .ok (.iconst (-1), 1) := dqn_2 (k := 42) qh_cX11_safe rfl rfl
theorem dX11_safe_15 : decode cX11_safe 15 = .ok (.ireturn, 1) := dqn_172 (k := 41) qh_cX11_safe rfl rfl
theorem dX11_safe_16 : decode cX11_safe 16 = .ok (.iconst (-1), 1) := dqn_2 (k := 40) qh_cX11_safe rfl rfl
theorem dX11_safe_17 : decode cX11_safe 17 = .ok (.istore_n 3, 1) := dqn_62 (k := 39) qh_cX11_safe rfl rfl
theorem dX11_safe_18 : decode cX11_safe 18 = .ok (.iconst 0, 1) := dqn_3 (k := 38) qh_cX11_safe rfl rfl
theorem dX11_safe_19 : decode cX11_safe 19 = .ok (.istore 4, 2) := dqn_54 (k := 36) qh_cX11_safe rfl rfl rfl
theorem dX11_safe_21 : decode cX11_safe 21 = .ok (.iload 4, 2) := dqn_21 (k := 34) qh_cX11_safe rfl rfl rfl
theorem dX11_safe_23 : decode cX11_safe 23 = .ok (.bipush 9, 2) := dqn_16 (k := 32) (u := 9) qh_cX11_safe rfl rfl rfl (by decide)
theorem dX11_safe_25 : decode cX11_safe 25 = .ok (.if_icmp .gt 30, 3) := dqn_163 (k := 29) (u := 30) qh_cX11_safe rfl rfl rfl (sg_p rfl rfl)
theorem dX11_safe_28 : decode cX11_safe 28 = .ok (.aload_n 0, 1) := dqn_42 (k := 28) qh_cX11_safe rfl rfl
theorem dX11_safe_29 : decode cX11_safe 29 = .ok (.iload 4, 2) := dqn_21 (k := 26) qh_cX11_safe rfl rfl rfl
theorem dX11_safe_31 : decode cX11_safe 31 = .ok (.iconst 0, 1) := dqn_3 (k := 25) qh_cX11_safe rfl rfl
theorem dX11_safe_32 : decode cX11_safe 32 = .ok (.invokevirtual 275, 3) := dqn_182 (k := 22) qh_cX11_safe rfl rfl rfl
theorem dX11_safe_35 : decode cX11_safe 35 = .ok (.aload_n 0, 1) := dqn_42 (k := 21) qh_cX11_safe rfl rfl
theorem dX11_safe_36 : decode cX11_safe 36 = .ok (.getfield 246, 3) := dqn_180 (k := 18) qh_cX11_safe rfl rfl rfl
theorem dX11_safe_39 : decode cX11_safe 39 = .ok (.ifCond .ne 8, 3) := dqn_154 (k := 15) (u := 8) qh_cX11_safe rfl rfl rfl (sg_p rfl rfl)
theorem dX11_safe_42 : decode cX11_safe 42 = .ok (.iload 4, 2) := dqn_21 (k := 13) qh_cX11_safe rfl rfl rfl
theorem dX11_safe_44 : decode cX11_safe 44 = .ok (.goto 4, 3) := dqn_167 (k := 10) (u := 4) qh_cX11_safe rfl rfl rfl (sg_p rfl rfl)
theorem dX11_safe_47 : decode cX11_safe 47 = .ok (.iload_n 3, 1) := dqn_29 (k := 9) qh_cX11_safe rfl rfl
theorem dX11_safe_48 : decode cX11_safe 48 = .ok (.istore_n 3, 1) := dqn_62 (k := 8) qh_cX11_safe rfl rfl
theorem dX11_safe_49 : decode cX11_safe 49 = .ok (.iinc 4 1, 3) := dqn_132 (k := 5) (u := 1) qh_cX11_safe rfl rfl rfl rfl (by decide)
theorem dX11_safe_52 : decode cX11_safe 52 = .ok (.goto (-31), 3) := dqn_167 (k := 2) (u := 65505) qh_cX11_safe rfl rfl rfl (sg_n (k := 31) rfl rfl rfl)
theorem dX11_safe_55 : decode cX11_safe 55 = .ok (.iload_n 3, 1) := dqn_29 (k := 1) qh_cX11_safe rfl rfl
theorem dX11_safe_56 : decode cX11_safe 56 = .ok (.ireturn, 1) := dqn_172 (k := 0) qh_cX11_safe rfl rfl
theorem dX11_weighs_0 : decode cX11_weighs 0 = .ok (.aload_n 0, 1) := dqn_42 (k := 127) qh_cX11_weighs rfl rfl
theorem dX11_weighs_1 : decode cX11_weighs 1 = .ok (.iconst 0, 1) := dqn_3 (k := 126) qh_cX11_weighs rfl rfl
theorem dX11_weighs_2 : decode cX11_weighs 2 = .ok (.putfield 70, 3) := dqn_181 (k := 123) qh_cX11_weighs rfl rfl rfl
theorem dX11_weighs_5 : decode cX11_weighs 5 = .ok (.aload_n 0, 1) := dqn_42 (k := 122) qh_cX11_weighs rfl rfl
theorem dX11_weighs_6 : decode cX11_weighs 6 = .ok (.iload_n 1, 1) := dqn_27 (k := 121) qh_cX11_weighs rfl rfl
theorem dX11_weighs_7 : decode cX11_weighs 7 = .ok (.iload_n 2, 1) := dqn_28 (k := 120) qh_cX11_weighs rfl rfl
theorem dX11_weighs_8 : decode cX11_weighs 8 = .ok (.invokevirtual 240, 3) := dqn_182 (k := 117) qh_cX11_weighs rfl rfl rfl
theorem dX11_weighs_11 : decode cX11_weighs 11 = .ok (.ifCond .ne 5, 3) := dqn_154 (k := 114) (u := 5) qh_cX11_weighs rfl rfl rfl (sg_p rfl rfl)
theorem dX11_weighs_14 : decode cX11_weighs 14 = .ok (.iconst (-1), 1) := dqn_2 (k := 113) qh_cX11_weighs rfl rfl
theorem dX11_weighs_15 : decode cX11_weighs 15 = .ok (.ireturn, 1) := dqn_172 (k := 112) qh_cX11_weighs rfl rfl
theorem dX11_weighs_16 : decode cX11_weighs 16 = .ok (.aload_n 0, 1) := dqn_42 (k := 111) qh_cX11_weighs rfl rfl
theorem dX11_weighs_17 : decode cX11_weighs 17 = .ok (.iconst (-1), 1) := dqn_2 (k := 110) qh_cX11_weighs rfl rfl
theorem dX11_weighs_18 : decode cX11_weighs 18 = .ok (.invokevirtual 301, 3) := dqn_182 (k := 107) qh_cX11_weighs rfl rfl rfl
theorem dX11_weighs_21 : decode cX11_weighs 21 = .ok (.lstore_n 3, 1) := dqn_66 (k := 106) qh_cX11_weighs rfl rfl
theorem dX11_weighs_22 : decode cX11_weighs 22 = .ok (.iconst (-1), 1) := dqn_2 (k := 105) qh_cX11_weighs rfl rfl
theorem dX11_weighs_23 : decode cX11_weighs 23 = .ok (.istore 5, 2) := dqn_54 (k := 103) qh_cX11_weighs rfl rfl rfl
theorem dX11_weighs_25 : decode cX11_weighs 25 = .ok (.lconst 0, 1) := dqn_9 (k := 102) qh_cX11_weighs rfl rfl
theorem dX11_weighs_26 : decode cX11_weighs 26 = .ok (.lstore 6, 2) := dqn_55 (k := 100) qh_cX11_weighs rfl rfl rfl
theorem dX11_weighs_28 : decode cX11_weighs 28 = .ok (.iconst 0, 1) := dqn_3 (k := 99) qh_cX11_weighs rfl rfl
theorem dX11_weighs_29 : decode cX11_weighs 29 = .ok (.istore 8, 2) := dqn_54 (k := 97) qh_cX11_weighs rfl rfl rfl
theorem dX11_weighs_31 : decode cX11_weighs 31 = .ok (.iload 8, 2) := dqn_21 (k := 95) qh_cX11_weighs rfl rfl rfl
theorem dX11_weighs_33 : decode cX11_weighs 33 = .ok (.aload_n 0, 1) := dqn_42 (k := 94) qh_cX11_weighs rfl rfl
theorem dX11_weighs_34 : decode cX11_weighs 34 = .ok (.getfield 208, 3) := dqn_180 (k := 91) qh_cX11_weighs rfl rfl rfl
theorem dX11_weighs_37 : decode cX11_weighs 37 = .ok (.if_icmp .ge 88, 3) := dqn_162 (k := 88) (u := 88) qh_cX11_weighs rfl rfl rfl (sg_p rfl rfl)
theorem dX11_weighs_40 : decode cX11_weighs 40 = .ok (.aload_n 0, 1) := dqn_42 (k := 87) qh_cX11_weighs rfl rfl
theorem dX11_weighs_41 : decode cX11_weighs 41 = .ok (.iload 8, 2) := dqn_21 (k := 85) qh_cX11_weighs rfl rfl rfl
theorem dX11_weighs_43 : decode cX11_weighs 43 = .ok (.iconst 4, 1) := dqn_7 (k := 84) qh_cX11_weighs rfl rfl
theorem dX11_weighs_44 : decode cX11_weighs 44 = .ok (.invokevirtual 211, 3) := dqn_182 (k := 81) qh_cX11_weighs rfl rfl rfl
theorem dX11_weighs_47 : decode cX11_weighs 47 = .ok (.istore 9, 2) := dqn_54 (k := 79) qh_cX11_weighs rfl rfl rfl
theorem dX11_weighs_49 : decode cX11_weighs 49 = .ok (.iload 9, 2) := dqn_21 (k := 77) qh_cX11_weighs rfl rfl rfl
theorem dX11_weighs_51 : decode cX11_weighs 51 = .ok (.bipush 10, 2) := dqn_16 (k := 75) (u := 10) qh_cX11_weighs rfl rfl rfl (by decide)
theorem dX11_weighs_53 : decode cX11_weighs 53 = .ok (.if_icmp .ge 66, 3) := dqn_162 (k := 72) (u := 66) qh_cX11_weighs rfl rfl rfl (sg_p rfl rfl)
theorem dX11_weighs_56 : decode cX11_weighs 56 = .ok (.aload_n 0, 1) := dqn_42 (k := 71) qh_cX11_weighs rfl rfl
theorem dX11_weighs_57 : decode cX11_weighs 57 = .ok (.iload 8, 2) := dqn_21 (k := 69) qh_cX11_weighs rfl rfl rfl
theorem dX11_weighs_59 : decode cX11_weighs 59 = .ok (.iconst 4, 1) := dqn_7 (k := 68) qh_cX11_weighs rfl rfl
theorem dX11_weighs_60 : decode cX11_weighs 60 = .ok (.iload 9, 2) := dqn_21 (k := 66) qh_cX11_weighs rfl rfl rfl
theorem dX11_weighs_62 : decode cX11_weighs 62 = .ok (.iconst 1, 1) := dqn_4 (k := 65) qh_cX11_weighs rfl rfl
theorem dX11_weighs_63 : decode cX11_weighs 63 = .ok (.iadd, 1) := dqn_96 (k := 64) qh_cX11_weighs rfl rfl
theorem dX11_weighs_64 : decode cX11_weighs 64 = .ok (.invokevirtual 215, 3) := dqn_182 (k := 61) qh_cX11_weighs rfl rfl rfl
theorem dX11_weighs_67 : decode cX11_weighs 67 = .ok (.aload_n 0, 1) := dqn_42 (k := 60) qh_cX11_weighs rfl rfl
theorem dX11_weighs_68 : decode cX11_weighs 68 = .ok (.iconst (-1), 1) := dqn_2 (k := 59) qh_cX11_weighs rfl rfl
theorem dX11_weighs_69 : decode cX11_weighs 69 = .ok (.invokevirtual 301, 3) := dqn_182 (k := 56) qh_cX11_weighs rfl rfl rfl
theorem dX11_weighs_72 : decode cX11_weighs 72 = .ok (.lload_n 3, 1) := dqn_33 (k := 55) qh_cX11_weighs rfl rfl
theorem dX11_weighs_73 : decode cX11_weighs 73 = .ok (.lsub, 1) := dqn_101 (k := 54) qh_cX11_weighs rfl rfl
theorem dX11_weighs_74 : decode cX11_weighs 74 = .ok (.lstore 10, 2) := dqn_55 (k := 52) qh_cX11_weighs rfl rfl rfl
theorem dX11_weighs_76 : decode cX11_weighs 76 = .ok (.aload_n 0, 1) := dqn_42 (k := 51) qh_cX11_weighs rfl rfl
theorem dX11_weighs_77 : decode cX11_weighs 77 = .ok (.iload 8, 2) := dqn_21 (k := 49) qh_cX11_weighs rfl rfl rfl
theorem dX11_weighs_79 : decode cX11_weighs 79 = .ok (.iconst 4, 1) := dqn_7 (k := 48) qh_cX11_weighs rfl rfl
theorem dX11_weighs_80 : decode cX11_weighs 80 = .ok (.iload 9, 2) := dqn_21 (k := 46) qh_cX11_weighs rfl rfl rfl
theorem dX11_weighs_82 : decode cX11_weighs 82 = .ok (.invokevirtual 215, 3) := dqn_182 (k := 43) qh_cX11_weighs rfl rfl rfl
theorem dX11_weighs_85 : decode cX11_weighs 85 = .ok (.lload 10, 2) := dqn_22 (k := 41) qh_cX11_weighs rfl rfl rfl
theorem dX11_weighs_87 : decode cX11_weighs 87 = .ok (.lload 6, 2) := dqn_22 (k := 39) qh_cX11_weighs rfl rfl rfl
theorem dX11_weighs_89 : decode cX11_weighs 89 = .ok (.lcmp, 1) := dqn_148 (k := 38) qh_cX11_weighs rfl rfl
theorem dX11_weighs_90 : decode cX11_weighs 90 = .ok (.ifCond .le 8, 3) := dqn_158 (k := 35) (u := 8) qh_cX11_weighs rfl rfl rfl (sg_p rfl rfl)
theorem dX11_weighs_93 : decode cX11_weighs 93 = .ok (.iload 8, 2) := dqn_21 (k := 33) qh_cX11_weighs rfl rfl rfl
theorem dX11_weighs_95 : decode cX11_weighs 95 = .ok (.goto 5, 3) := dqn_167 (k := 30) (u := 5) qh_cX11_weighs rfl rfl rfl (sg_p rfl rfl)
theorem dX11_weighs_98 : decode cX11_weighs 98 = .ok (.iload 5, 2) := dqn_21 (k := 28) qh_cX11_weighs rfl rfl rfl
theorem dX11_weighs_100 : decode cX11_weighs 100 = .ok (.istore 5, 2) := dqn_54 (k := 26) qh_cX11_weighs rfl rfl rfl
theorem dX11_weighs_102 : decode cX11_weighs 102 = .ok (.lload 10, 2) := dqn_22 (k := 24) qh_cX11_weighs rfl rfl rfl
theorem dX11_weighs_104 : decode cX11_weighs 104 = .ok (.lload 6, 2) := dqn_22 (k := 22) qh_cX11_weighs rfl rfl rfl
theorem dX11_weighs_106 : decode cX11_weighs 106 = .ok (.lcmp, 1) := dqn_148 (k := 21) qh_cX11_weighs rfl rfl
theorem dX11_weighs_107 : decode cX11_weighs 107 = .ok (.ifCond .le 8, 3) := dqn_158 (k := 18) (u := 8) qh_cX11_weighs rfl rfl rfl (sg_p rfl rfl)
theorem dX11_weighs_110 : decode cX11_weighs 110 = .ok (.lload 10, 2) := dqn_22 (k := 16) qh_cX11_weighs rfl rfl rfl
theorem dX11_weighs_112 : decode cX11_weighs 112 = .ok (.goto 5, 3) := dqn_167 (k := 13) (u := 5) qh_cX11_weighs rfl rfl rfl (sg_p rfl rfl)
theorem dX11_weighs_115 : decode cX11_weighs 115 = .ok (.lload 6, 2) := dqn_22 (k := 11) qh_cX11_weighs rfl rfl rfl
theorem dX11_weighs_117 : decode cX11_weighs 117 = .ok (.lstore 6, 2) := dqn_55 (k := 9) qh_cX11_weighs rfl rfl rfl
theorem dX11_weighs_119 : decode cX11_weighs 119 = .ok (.iinc 8 1, 3) := dqn_132 (k := 6) (u := 1) qh_cX11_weighs rfl rfl rfl rfl (by decide)
theorem dX11_weighs_122 : decode cX11_weighs 122 = .ok (.goto (-91), 3) := dqn_167 (k := 3) (u := 65445) qh_cX11_weighs rfl rfl rfl (sg_n (k := 91) rfl rfl rfl)
theorem dX11_weighs_125 : decode cX11_weighs 125 = .ok (.iload 5, 2) := dqn_21 (k := 1) qh_cX11_weighs rfl rfl rfl
theorem dX11_weighs_127 : decode cX11_weighs 127 = .ok (.ireturn, 1) := dqn_172 (k := 0) qh_cX11_weighs rfl rfl
theorem dX11_upon_0 : decode cX11_upon 0 = .ok (.aload_n 0, 1) := dqn_42 (k := 152) qh_cX11_upon rfl rfl
theorem dX11_upon_1 : decode cX11_upon 1 = .ok (.iconst 0, 1) := dqn_3 (k := 151) qh_cX11_upon rfl rfl
theorem dX11_upon_2 : decode cX11_upon 2 = .ok (.putfield 70, 3) := dqn_181 (k := 148) qh_cX11_upon rfl rfl rfl
theorem dX11_upon_5 : decode cX11_upon 5 = .ok (.aload_n 0, 1) := dqn_42 (k := 147) qh_cX11_upon rfl rfl
theorem dX11_upon_6 : decode cX11_upon 6 = .ok (.iload_n 1, 1) := dqn_27 (k := 146) qh_cX11_upon rfl rfl
theorem dX11_upon_7 : decode cX11_upon 7 = .ok (.iload_n 2, 1) := dqn_28 (k := 145) qh_cX11_upon rfl rfl
theorem dX11_upon_8 : decode cX11_upon 8 = .ok (.invokevirtual 240, 3) := dqn_182 (k := 142) qh_cX11_upon rfl rfl rfl
theorem dX11_upon_11 : decode cX11_upon 11 = .ok (.ifCond .eq 11, 3) := dqn_153 (k := 139) (u := 11) qh_cX11_upon rfl rfl rfl (sg_p rfl rfl)
theorem dX11_upon_14 : decode cX11_upon 14 = .ok (.aload_n 0, 1) := dqn_42 (k := 138) qh_cX11_upon rfl rfl
theorem dX11_upon_15 : decode cX11_upon 15 = .ok (.iload_n 3, 1) := dqn_29 (k := 137) qh_cX11_upon rfl rfl
theorem dX11_upon_16 : decode cX11_upon 16 = .ok (.invokevirtual 243, 3) := dqn_182 (k := 134) qh_cX11_upon rfl rfl rfl
theorem dX11_upon_19 : decode cX11_upon 19 = .ok (.ifCond .ne 5, 3) := dqn_154 (k := 131) (u := 5) qh_cX11_upon rfl rfl rfl (sg_p rfl rfl)
theorem dX11_upon_22 : decode cX11_upon 22 = .ok (.iconst (-1), 1) := dqn_2 (k := 130) qh_cX11_upon rfl rfl
theorem dX11_upon_23 : decode cX11_upon 23 = .ok (.ireturn, 1) := dqn_172 (k := 129) qh_cX11_upon rfl rfl
theorem dX11_upon_24 : decode cX11_upon 24 = .ok (.iconst 1, 1) := dqn_4 (k := 128) qh_cX11_upon rfl rfl
theorem dX11_upon_25 : decode cX11_upon 25 = .ok (.iload_n 3, 1) := dqn_29 (k := 127) qh_cX11_upon rfl rfl
theorem dX11_upon_26 : decode cX11_upon 26 = .ok (.ishl, 1) := dqn_120 (k := 126) qh_cX11_upon rfl rfl
theorem dX11_upon_27 : decode cX11_upon 27 = .ok (.istore 5, 2) := dqn_54 (k := 124) qh_cX11_upon rfl rfl rfl
theorem dX11_upon_29 : decode cX11_upon 29 = .ok (.iconst 0, 1) := dqn_3 (k := 123) qh_cX11_upon rfl rfl
theorem dX11_upon_30 : decode cX11_upon 30 = .ok (.istore 6, 2) := dqn_54 (k := 121) qh_cX11_upon rfl rfl rfl
theorem dX11_upon_32 : decode cX11_upon 32 = .ok (.iload 6, 2) := dqn_21 (k := 119) qh_cX11_upon rfl rfl rfl
theorem dX11_upon_34 : decode cX11_upon 34 = .ok (.aload_n 0, 1) := dqn_42 (k := 118) qh_cX11_upon rfl rfl
theorem dX11_upon_35 : decode cX11_upon 35 = .ok (.getfield 208, 3) := dqn_180 (k := 115) qh_cX11_upon rfl rfl rfl
theorem dX11_upon_38 : decode cX11_upon 38 = .ok (.if_icmp .ge 106, 3) := dqn_162 (k := 112) (u := 106) qh_cX11_upon rfl rfl rfl (sg_p rfl rfl)
theorem dX11_upon_41 : decode cX11_upon 41 = .ok (.iconst 0, 1) := dqn_3 (k := 111) qh_cX11_upon rfl rfl
theorem dX11_upon_42 : decode cX11_upon 42 = .ok (.istore 7, 2) := dqn_54 (k := 109) qh_cX11_upon rfl rfl rfl
theorem dX11_upon_44 : decode cX11_upon 44 = .ok (.iload 7, 2) := dqn_21 (k := 107) qh_cX11_upon rfl rfl rfl
theorem dX11_upon_46 : decode cX11_upon 46 = .ok (.aload_n 0, 1) := dqn_42 (k := 106) qh_cX11_upon rfl rfl
theorem dX11_upon_47 : decode cX11_upon 47 = .ok (.getfield 208, 3) := dqn_180 (k := 103) qh_cX11_upon rfl rfl rfl
theorem dX11_upon_50 : decode cX11_upon 50 = .ok (.if_icmp .ge 88, 3) := dqn_162 (k := 100) (u := 88) qh_cX11_upon rfl rfl rfl (sg_p rfl rfl)
theorem dX11_upon_53 : decode cX11_upon 53 = .ok (.iconst 0, 1) := dqn_3 (k := 99) qh_cX11_upon rfl rfl
theorem dX11_upon_54 : decode cX11_upon 54 = .ok (.istore 8, 2) := dqn_54 (k := 97) qh_cX11_upon rfl rfl rfl
theorem dX11_upon_56 : decode cX11_upon 56 = .ok (.iload 8, 2) := dqn_21 (k := 95) qh_cX11_upon rfl rfl rfl
theorem dX11_upon_58 : decode cX11_upon 58 = .ok (.aload_n 0, 1) := dqn_42 (k := 94) qh_cX11_upon rfl rfl
theorem dX11_upon_59 : decode cX11_upon 59 = .ok (.getfield 208, 3) := dqn_180 (k := 91) qh_cX11_upon rfl rfl rfl
theorem dX11_upon_62 : decode cX11_upon 62 = .ok (.if_icmp .ge 70, 3) := dqn_162 (k := 88) (u := 70) qh_cX11_upon rfl rfl rfl (sg_p rfl rfl)
theorem dX11_upon_65 : decode cX11_upon 65 = .ok (.aload_n 0, 1) := dqn_42 (k := 87) qh_cX11_upon rfl rfl
theorem dX11_upon_66 : decode cX11_upon 66 = .ok (.iload 7, 2) := dqn_21 (k := 85) qh_cX11_upon rfl rfl rfl
theorem dX11_upon_68 : decode cX11_upon 68 = .ok (.iload 8, 2) := dqn_21 (k := 83) qh_cX11_upon rfl rfl rfl
theorem dX11_upon_70 : decode cX11_upon 70 = .ok (.invokevirtual 371, 3) := dqn_182 (k := 80) qh_cX11_upon rfl rfl rfl
theorem dX11_upon_73 : decode cX11_upon 73 = .ok (.ifCond .eq 53, 3) := dqn_153 (k := 77) (u := 53) qh_cX11_upon rfl rfl rfl (sg_p rfl rfl)
theorem dX11_upon_76 : decode cX11_upon 76 = .ok (.iload 5, 2) := dqn_21 (k := 75) qh_cX11_upon rfl rfl rfl
theorem dX11_upon_78 : decode cX11_upon 78 = .ok (.iload 4, 2) := dqn_21 (k := 73) qh_cX11_upon rfl rfl rfl
theorem dX11_upon_80 : decode cX11_upon 80 = .ok (.ifCond .eq 20, 3) := dqn_153 (k := 70) (u := 20) qh_cX11_upon rfl rfl rfl (sg_p rfl rfl)
theorem dX11_upon_83 : decode cX11_upon 83 = .ok (.iload 5, 2) := dqn_21 (k := 68) qh_cX11_upon rfl rfl rfl
theorem dX11_upon_85 : decode cX11_upon 85 = .ok (.iload 7, 2) := dqn_21 (k := 66) qh_cX11_upon rfl rfl rfl
theorem dX11_upon_87 : decode cX11_upon 87 = .ok (.invokestatic 249, 3) := dqn_184 (k := 63) qh_cX11_upon rfl rfl rfl
theorem dX11_upon_90 : decode cX11_upon 90 = .ok (.ifCond .eq 10, 3) := dqn_153 (k := 60) (u := 10) qh_cX11_upon rfl rfl rfl (sg_p rfl rfl)
theorem dX11_upon_93 : decode cX11_upon 93 = .ok (.iconst 1, 1) := dqn_4 (k := 59) qh_cX11_upon rfl rfl
theorem dX11_upon_94 : decode cX11_upon 94 = .ok (.iload 8, 2) := dqn_21 (k := 57) qh_cX11_upon rfl rfl rfl
theorem dX11_upon_96 : decode cX11_upon 96 = .ok (.ishl, 1) := dqn_120 (k := 56) qh_cX11_upon rfl rfl
theorem dX11_upon_97 : decode cX11_upon 97 = .ok (.goto 26, 3) := dqn_167 (k := 53) (u := 26) qh_cX11_upon rfl rfl rfl (sg_p rfl rfl)
theorem dX11_upon_100 : decode cX11_upon 100 = .ok (.iload 4, 2) := dqn_21 (k := 51) qh_cX11_upon rfl rfl rfl
theorem dX11_upon_102 : decode cX11_upon 102 = .ok (.ifCond .ne 20, 3) := dqn_154 (k := 48) (u := 20) qh_cX11_upon rfl rfl rfl (sg_p rfl rfl)
theorem dX11_upon_105 : decode cX11_upon 105 = .ok (.iload 5, 2) := dqn_21 (k := 46) qh_cX11_upon rfl rfl rfl
theorem dX11_upon_107 : decode cX11_upon 107 = .ok (.iload 8, 2) := dqn_21 (k := 44) qh_cX11_upon rfl rfl rfl
theorem dX11_upon_109 : decode cX11_upon 109 = .ok (.invokestatic 249, 3) := dqn_184 (k := 41) qh_cX11_upon rfl rfl rfl
theorem dX11_upon_112 : decode cX11_upon 112 = .ok (.ifCond .eq 10, 3) := dqn_153 (k := 38) (u := 10) qh_cX11_upon rfl rfl rfl (sg_p rfl rfl)
theorem dX11_upon_115 : decode cX11_upon 115 = .ok (.iconst 1, 1) := dqn_4 (k := 37) qh_cX11_upon rfl rfl
theorem dX11_upon_116 : decode cX11_upon 116 = .ok (.iload 7, 2) := dqn_21 (k := 35) qh_cX11_upon rfl rfl rfl
theorem dX11_upon_118 : decode cX11_upon 118 = .ok (.ishl, 1) := dqn_120 (k := 34) qh_cX11_upon rfl rfl
theorem dX11_upon_119 : decode cX11_upon 119 = .ok (.goto 4, 3) := dqn_167 (k := 31) (u := 4) qh_cX11_upon rfl rfl rfl (sg_p rfl rfl)
theorem dX11_upon_122 : decode cX11_upon 122 = .ok (.iconst 0, 1) := dqn_3 (k := 30) qh_cX11_upon rfl rfl
theorem dX11_upon_123 : decode cX11_upon 123 = .ok (.ior, 1) := dqn_128 (k := 29) qh_cX11_upon rfl rfl
theorem dX11_upon_124 : decode cX11_upon 124 = .ok (.istore 5, 2) := dqn_54 (k := 27) qh_cX11_upon rfl rfl rfl
theorem dX11_upon_126 : decode cX11_upon 126 = .ok (.iinc 8 1, 3) := dqn_132 (k := 24) (u := 1) qh_cX11_upon rfl rfl rfl rfl (by decide)
theorem dX11_upon_129 : decode cX11_upon 129 = .ok (.goto (-73), 3) := dqn_167 (k := 21) (u := 65463) qh_cX11_upon rfl rfl rfl (sg_n (k := 73) rfl rfl rfl)
theorem dX11_upon_132 : decode cX11_upon 132 = .ok (.iinc 7 1, 3) := dqn_132 (k := 18) (u := 1) qh_cX11_upon rfl rfl rfl rfl (by decide)
theorem dX11_upon_135 : decode cX11_upon 135 = .ok (.goto (-91), 3) := dqn_167 (k := 15) (u := 65445) qh_cX11_upon rfl rfl rfl (sg_n (k := 91) rfl rfl rfl)
theorem dX11_upon_138 : decode cX11_upon 138 = .ok (.iinc 6 1, 3) := dqn_132 (k := 12) (u := 1) qh_cX11_upon rfl rfl rfl rfl (by decide)
theorem dX11_upon_141 : decode cX11_upon 141 = .ok (.goto (-109), 3) := dqn_167 (k := 9) (u := 65427) qh_cX11_upon rfl rfl rfl (sg_n (k := 109) rfl rfl rfl)
theorem dX11_upon_144 : decode cX11_upon 144 = .ok (.iload 5, 2) := dqn_21 (k := 7) qh_cX11_upon rfl rfl rfl
theorem dX11_upon_146 : decode cX11_upon 146 = .ok (.iconst 1, 1) := dqn_4 (k := 6) qh_cX11_upon rfl rfl
theorem dX11_upon_147 : decode cX11_upon 147 = .ok (.iload_n 3, 1) := dqn_29 (k := 5) qh_cX11_upon rfl rfl
theorem dX11_upon_148 : decode cX11_upon 148 = .ok (.ishl, 1) := dqn_120 (k := 4) qh_cX11_upon rfl rfl
theorem dX11_upon_149 : decode cX11_upon 149 = .ok (.iconst (-1), 1) := dqn_2 (k := 3) qh_cX11_upon rfl rfl
theorem dX11_upon_150 : decode cX11_upon 150 = .ok (.ixor, 1) := dqn_130 (k := 2) qh_cX11_upon rfl rfl
theorem dX11_upon_151 : decode cX11_upon 151 = .ok (.iand, 1) := dqn_126 (k := 1) qh_cX11_upon rfl rfl
theorem dX11_upon_152 : decode cX11_upon 152 = .ok (.ireturn, 1) := dqn_172 (k := 0) qh_cX11_upon rfl rfl
theorem dX11_runs_0 : decode cX11_runs 0 = .ok (.aload_n 0, 1) := dqn_42 (k := 62) qh_cX11_runs rfl rfl
theorem dX11_runs_1 : decode cX11_runs 1 = .ok (.iconst 0, 1) := dqn_3 (k := 61) qh_cX11_runs rfl rfl
theorem dX11_runs_2 : decode cX11_runs 2 = .ok (.putfield 70, 3) := dqn_181 (k := 58) qh_cX11_runs rfl rfl rfl
theorem dX11_runs_5 : decode cX11_runs 5 = .ok (.aload_n 0, 1) := dqn_42 (k := 57) qh_cX11_runs rfl rfl
theorem dX11_runs_6 : decode cX11_runs 6 = .ok (.iload_n 1, 1) := dqn_27 (k := 56) qh_cX11_runs rfl rfl
theorem dX11_runs_7 : decode cX11_runs 7 = .ok (.iload_n 2, 1) := dqn_28 (k := 55) qh_cX11_runs rfl rfl
theorem dX11_runs_8 : decode cX11_runs 8 = .ok (.invokevirtual 240, 3) := dqn_182 (k := 52) qh_cX11_runs rfl rfl rfl
theorem dX11_runs_11 : decode cX11_runs 11 = .ok (.ifCond .eq 11, 3) := dqn_153 (k := 49) (u := 11) qh_cX11_runs rfl rfl rfl (sg_p rfl rfl)
theorem dX11_runs_14 : decode cX11_runs 14 = .ok (.aload_n 0, 1) := dqn_42 (k := 48) qh_cX11_runs rfl rfl
theorem dX11_runs_15 : decode cX11_runs 15 = .ok (.iload_n 3, 1) := dqn_29 (k := 47) qh_cX11_runs rfl rfl
theorem dX11_runs_16 : decode cX11_runs 16 = .ok (.invokevirtual 243, 3) := dqn_182 (k := 44) qh_cX11_runs rfl rfl rfl
theorem dX11_runs_19 : decode cX11_runs 19 = .ok (.ifCond .ne 5, 3) := dqn_154 (k := 41) (u := 5) qh_cX11_runs rfl rfl rfl (sg_p rfl rfl)
theorem dX11_runs_22 : decode cX11_runs 22 = .ok (.iconst (-1), 1) := dqn_2 (k := 40) qh_cX11_runs rfl rfl
theorem dX11_runs_23 : decode cX11_runs 23 = .ok (.ireturn, 1) := dqn_172 (k := 39) qh_cX11_runs rfl rfl
theorem dX11_runs_24 : decode cX11_runs 24 = .ok (.iconst 0, 1) := dqn_3 (k := 38) qh_cX11_runs rfl rfl
theorem dX11_runs_25 : decode cX11_runs 25 = .ok (.istore 4, 2) := dqn_54 (k := 36) qh_cX11_runs rfl rfl rfl
theorem dX11_runs_27 : decode cX11_runs 27 = .ok (.iload 4, 2) := dqn_21 (k := 34) qh_cX11_runs rfl rfl rfl
theorem dX11_runs_29 : decode cX11_runs 29 = .ok (.bipush 9, 2) := dqn_16 (k := 32) (u := 9) qh_cX11_runs rfl rfl rfl (by decide)
theorem dX11_runs_31 : decode cX11_runs 31 = .ok (.if_icmp .gt 30, 3) := dqn_163 (k := 29) (u := 30) qh_cX11_runs rfl rfl rfl (sg_p rfl rfl)
theorem dX11_runs_34 : decode cX11_runs 34 = .ok (.aload_n 0, 1) := dqn_42 (k := 28) qh_cX11_runs rfl rfl
theorem dX11_runs_35 : decode cX11_runs 35 = .ok (.iload 4, 2) := dqn_21 (k := 26) qh_cX11_runs rfl rfl rfl
theorem dX11_runs_37 : decode cX11_runs 37 = .ok (.iconst 0, 1) := dqn_3 (k := 25) qh_cX11_runs rfl rfl
theorem dX11_runs_38 : decode cX11_runs 38 = .ok (.invokevirtual 275, 3) := dqn_182 (k := 22) qh_cX11_runs rfl rfl rfl
theorem dX11_runs_41 : decode cX11_runs 41 = .ok (.aload_n 0, 1) := dqn_42 (k := 21) qh_cX11_runs rfl rfl
theorem dX11_runs_42 : decode cX11_runs 42 = .ok (.getfield 246, 3) := dqn_180 (k := 18) qh_cX11_runs rfl rfl rfl
theorem dX11_runs_45 : decode cX11_runs 45 = .ok (.iload_n 3, 1) := dqn_29 (k := 17) qh_cX11_runs rfl rfl
theorem dX11_runs_46 : decode cX11_runs 46 = .ok (.invokestatic 249, 3) := dqn_184 (k := 14) qh_cX11_runs rfl rfl rfl
theorem dX11_runs_49 : decode cX11_runs 49 = .ok (.ifCond .eq 6, 3) := dqn_153 (k := 11) (u := 6) qh_cX11_runs rfl rfl rfl (sg_p rfl rfl)
theorem dX11_runs_52 : decode cX11_runs 52 = .ok (.iload 4, 2) := dqn_21 (k := 9) qh_cX11_runs rfl rfl rfl
theorem dX11_runs_54 : decode cX11_runs 54 = .ok (.ireturn, 1) := dqn_172 (k := 8) qh_cX11_runs rfl rfl
theorem dX11_runs_55 : decode cX11_runs 55 = .ok (.iinc 4 1, 3) := dqn_132 (k := 5) (u := 1) qh_cX11_runs rfl rfl rfl rfl (by decide)
theorem dX11_runs_58 : decode cX11_runs 58 = .ok (.goto (-31), 3) := dqn_167 (k := 2) (u := 65505) qh_cX11_runs rfl rfl rfl (sg_n (k := 31) rfl rfl rfl)
theorem dX11_runs_61 : decode cX11_runs 61 = .ok (.iconst (-1), 1) := dqn_2 (k := 1) qh_cX11_runs rfl rfl
theorem dX11_runs_62 : decode cX11_runs 62 = .ok (.ireturn, 1) := dqn_172 (k := 0) qh_cX11_runs rfl rfl
theorem dX11_joint_0 : decode cX11_joint 0 = .ok (.aload_n 0, 1) := dqn_42 (k := 49) qh_cX11_joint rfl rfl
theorem dX11_joint_1 : decode cX11_joint 1 = .ok (.iconst 0, 1) := dqn_3 (k := 48) qh_cX11_joint rfl rfl
theorem dX11_joint_2 : decode cX11_joint 2 = .ok (.putfield 70, 3) := dqn_181 (k := 45) qh_cX11_joint rfl rfl rfl
theorem dX11_joint_5 : decode cX11_joint 5 = .ok (.aload_n 0, 1) := dqn_42 (k := 44) qh_cX11_joint rfl rfl
theorem dX11_joint_6 : decode cX11_joint 6 = .ok (.iload_n 1, 1) := dqn_27 (k := 43) qh_cX11_joint rfl rfl
theorem dX11_joint_7 : decode cX11_joint 7 = .ok (.iload_n 2, 1) := dqn_28 (k := 42) qh_cX11_joint rfl rfl
theorem dX11_joint_8 : decode cX11_joint 8 = .ok (.invokevirtual 240, 3) := dqn_182 (k := 39) qh_cX11_joint rfl rfl rfl
theorem dX11_joint_11 : decode cX11_joint 11 = .ok (.ifCond .eq 35, 3) := dqn_153 (k := 36) (u := 35) qh_cX11_joint rfl rfl rfl (sg_p rfl rfl)
theorem dX11_joint_14 : decode cX11_joint 14 = .ok (.aload_n 0, 1) := dqn_42 (k := 35) qh_cX11_joint rfl rfl
theorem dX11_joint_15 : decode cX11_joint 15 = .ok (.iload_n 3, 1) := dqn_29 (k := 34) qh_cX11_joint rfl rfl
theorem dX11_joint_16 : decode cX11_joint 16 = .ok (.invokevirtual 243, 3) := dqn_182 (k := 31) qh_cX11_joint rfl rfl rfl
theorem dX11_joint_19 : decode cX11_joint 19 = .ok (.ifCond .eq 27, 3) := dqn_153 (k := 28) (u := 27) qh_cX11_joint rfl rfl rfl (sg_p rfl rfl)
theorem dX11_joint_22 : decode cX11_joint 22 = .ok (.aload_n 0, 1) := dqn_42 (k := 27) qh_cX11_joint rfl rfl
theorem dX11_joint_23 : decode cX11_joint 23 = .ok (.iload 4, 2) := dqn_21 (k := 25) qh_cX11_joint rfl rfl rfl
theorem dX11_joint_25 : decode cX11_joint 25 = .ok (.invokevirtual 243, 3) := dqn_182 (k := 22) qh_cX11_joint rfl rfl rfl
theorem dX11_joint_28 : decode cX11_joint 28 = .ok (.ifCond .eq 18, 3) := dqn_153 (k := 19) (u := 18) qh_cX11_joint rfl rfl rfl (sg_p rfl rfl)
theorem dX11_joint_31 : decode cX11_joint 31 = .ok (.aload_n 0, 1) := dqn_42 (k := 18) qh_cX11_joint rfl rfl
theorem dX11_joint_32 : decode cX11_joint 32 = .ok (.iconst 1, 1) := dqn_4 (k := 17) qh_cX11_joint rfl rfl
theorem dX11_joint_33 : decode cX11_joint 33 = .ok (.iload_n 3, 1) := dqn_29 (k := 16) qh_cX11_joint rfl rfl
theorem dX11_joint_34 : decode cX11_joint 34 = .ok (.ishl, 1) := dqn_120 (k := 15) qh_cX11_joint rfl rfl
theorem dX11_joint_35 : decode cX11_joint 35 = .ok (.iconst 1, 1) := dqn_4 (k := 14) qh_cX11_joint rfl rfl
theorem dX11_joint_36 : decode cX11_joint 36 = .ok (.iload 4, 2) := dqn_21 (k := 12) qh_cX11_joint rfl rfl rfl
theorem dX11_joint_38 : decode cX11_joint 38 = .ok (.ishl, 1) := dqn_120 (k := 11) qh_cX11_joint rfl rfl
theorem dX11_joint_39 : decode cX11_joint 39 = .ok (.ior, 1) := dqn_128 (k := 10) qh_cX11_joint rfl rfl
theorem dX11_joint_40 : decode cX11_joint 40 = .ok (.invokevirtual 374, 3) := dqn_182 (k := 7) qh_cX11_joint rfl rfl rfl
theorem dX11_joint_43 : decode cX11_joint 43 = .ok (.goto 6, 3) := dqn_167 (k := 4) (u := 6) qh_cX11_joint rfl rfl rfl (sg_p rfl rfl)
theorem dX11_joint_46 : decode cX11_joint 46 = .ok (.ldc2_w 292, 3) := dqn_20 (k := 1) qh_cX11_joint rfl rfl rfl
theorem dX11_joint_49 : decode cX11_joint 49 = .ok (.lreturn, 1) := dqn_173 (k := 0) qh_cX11_joint rfl rfl
theorem dX11_worst_0 : decode cX11_worst 0 = .ok (.aload_n 0, 1) := dqn_42 (k := 166) qh_cX11_worst rfl rfl
theorem dX11_worst_1 : decode cX11_worst 1 = .ok (.iconst 0, 1) := dqn_3 (k := 165) qh_cX11_worst rfl rfl
theorem dX11_worst_2 : decode cX11_worst 2 = .ok (.putfield 70, 3) := dqn_181 (k := 162) qh_cX11_worst rfl rfl rfl
theorem dX11_worst_5 : decode cX11_worst 5 = .ok (.aload_n 0, 1) := dqn_42 (k := 161) qh_cX11_worst rfl rfl
theorem dX11_worst_6 : decode cX11_worst 6 = .ok (.iload_n 1, 1) := dqn_27 (k := 160) qh_cX11_worst rfl rfl
theorem dX11_worst_7 : decode cX11_worst 7 = .ok (.iload_n 2, 1) := dqn_28 (k := 159) qh_cX11_worst rfl rfl
theorem dX11_worst_8 : decode cX11_worst 8 = .ok (.invokevirtual 240, 3) := dqn_182 (k := 156) qh_cX11_worst rfl rfl rfl
theorem dX11_worst_11 : decode cX11_worst 11 = .ok (.ifCond .eq 12, 3) := dqn_153 (k := 153) (u := 12) qh_cX11_worst rfl rfl rfl (sg_p rfl rfl)
theorem dX11_worst_14 : decode cX11_worst 14 = .ok (.iload_n 3, 1) := dqn_29 (k := 152) qh_cX11_worst rfl rfl
theorem dX11_worst_15 : decode cX11_worst 15 = .ok (.iconst 0, 1) := dqn_3 (k := 151) qh_cX11_worst rfl rfl
theorem dX11_worst_16 : decode cX11_worst 16 = .ok (.iconst 3, 1) := dqn_6 (k := 150) qh_cX11_worst rfl rfl
theorem dX11_worst_17 : decode cX11_worst 17 = .ok (.invokestatic 78, 3) := dqn_184 (k := 147) qh_cX11_worst rfl rfl rfl
theorem dX11_worst_20 : decode cX11_worst 20 = .ok (.ifCond .ne 7, 3) := dqn_154 (k := 144) (u := 7) qh_cX11_worst rfl rfl rfl (sg_p rfl rfl)
theorem dX11_worst_23 : decode cX11_worst 23 = .ok (.ldc2_w 292, 3) := dqn_20 (k := 141) qh_cX11_worst rfl rfl rfl
theorem dX11_worst_26 : decode cX11_worst 26 = .ok (.lreturn, 1) := dqn_173 (k := 140) qh_cX11_worst rfl rfl
theorem dX11_worst_27 : decode cX11_worst 27 = .ok (.iconst (-1), 1) := dqn_2 (k := 139) qh_cX11_worst rfl rfl
theorem dX11_worst_28 : decode cX11_worst 28 = .ok (.istore 4, 2) := dqn_54 (k := 137) qh_cX11_worst rfl rfl rfl
theorem dX11_worst_30 : decode cX11_worst 30 = .ok (.iconst 0, 1) := dqn_3 (k := 136) qh_cX11_worst rfl rfl
theorem dX11_worst_31 : decode cX11_worst 31 = .ok (.istore 5, 2) := dqn_54 (k := 134) qh_cX11_worst rfl rfl rfl
theorem dX11_worst_33 : decode cX11_worst 33 = .ok (.iconst (-1), 1) := dqn_2 (k := 133) qh_cX11_worst rfl rfl
theorem dX11_worst_34 : decode cX11_worst 34 = .ok (.istore 6, 2) := dqn_54 (k := 131) qh_cX11_worst rfl rfl rfl
theorem dX11_worst_36 : decode cX11_worst 36 = .ok (.iconst 0, 1) := dqn_3 (k := 130) qh_cX11_worst rfl rfl
theorem dX11_worst_37 : decode cX11_worst 37 = .ok (.istore 7, 2) := dqn_54 (k := 128) qh_cX11_worst rfl rfl rfl
theorem dX11_worst_39 : decode cX11_worst 39 = .ok (.iload 7, 2) := dqn_21 (k := 126) qh_cX11_worst rfl rfl rfl
theorem dX11_worst_41 : decode cX11_worst 41 = .ok (.aload_n 0, 1) := dqn_42 (k := 125) qh_cX11_worst rfl rfl
theorem dX11_worst_42 : decode cX11_worst 42 = .ok (.getfield 38, 3) := dqn_180 (k := 122) qh_cX11_worst rfl rfl rfl
theorem dX11_worst_45 : decode cX11_worst 45 = .ok (.iconst 1, 1) := dqn_4 (k := 121) qh_cX11_worst rfl rfl
theorem dX11_worst_46 : decode cX11_worst 46 = .ok (.iaload, 1) := dqn_46 (k := 120) qh_cX11_worst rfl rfl
theorem dX11_worst_47 : decode cX11_worst 47 = .ok (.if_icmp .ge 79, 3) := dqn_162 (k := 117) (u := 79) qh_cX11_worst rfl rfl rfl (sg_p rfl rfl)
theorem dX11_worst_50 : decode cX11_worst 50 = .ok (.iconst 0, 1) := dqn_3 (k := 116) qh_cX11_worst rfl rfl
theorem dX11_worst_51 : decode cX11_worst 51 = .ok (.istore 8, 2) := dqn_54 (k := 114) qh_cX11_worst rfl rfl rfl
theorem dX11_worst_53 : decode cX11_worst 53 = .ok (.iload 8, 2) := dqn_21 (k := 112) qh_cX11_worst rfl rfl rfl
theorem dX11_worst_55 : decode cX11_worst 55 = .ok (.iconst 1, 1) := dqn_4 (k := 111) qh_cX11_worst rfl rfl
theorem dX11_worst_56 : decode cX11_worst 56 = .ok (.aload_n 0, 1) := dqn_42 (k := 110) qh_cX11_worst rfl rfl
theorem dX11_worst_57 : decode cX11_worst 57 = .ok (.getfield 208, 3) := dqn_180 (k := 107) qh_cX11_worst rfl rfl rfl
theorem dX11_worst_60 : decode cX11_worst 60 = .ok (.ishl, 1) := dqn_120 (k := 106) qh_cX11_worst rfl rfl
theorem dX11_worst_61 : decode cX11_worst 61 = .ok (.if_icmp .ge 59, 3) := dqn_162 (k := 103) (u := 59) qh_cX11_worst rfl rfl rfl (sg_p rfl rfl)
theorem dX11_worst_64 : decode cX11_worst 64 = .ok (.aload_n 0, 1) := dqn_42 (k := 102) qh_cX11_worst rfl rfl
theorem dX11_worst_65 : decode cX11_worst 65 = .ok (.iload 7, 2) := dqn_21 (k := 100) qh_cX11_worst rfl rfl rfl
theorem dX11_worst_67 : decode cX11_worst 67 = .ok (.iload 8, 2) := dqn_21 (k := 98) qh_cX11_worst rfl rfl rfl
theorem dX11_worst_69 : decode cX11_worst 69 = .ok (.invokevirtual 288, 3) := dqn_182 (k := 95) qh_cX11_worst rfl rfl rfl
theorem dX11_worst_72 : decode cX11_worst 72 = .ok (.lconst 0, 1) := dqn_9 (k := 94) qh_cX11_worst rfl rfl
theorem dX11_worst_73 : decode cX11_worst 73 = .ok (.lcmp, 1) := dqn_148 (k := 93) qh_cX11_worst rfl rfl
theorem dX11_worst_74 : decode cX11_worst 74 = .ok (.ifCond .le 40, 3) := dqn_158 (k := 90) (u := 40) qh_cX11_worst rfl rfl rfl (sg_p rfl rfl)
theorem dX11_worst_77 : decode cX11_worst 77 = .ok (.aload_n 0, 1) := dqn_42 (k := 89) qh_cX11_worst rfl rfl
theorem dX11_worst_78 : decode cX11_worst 78 = .ok (.aload_n 0, 1) := dqn_42 (k := 88) qh_cX11_worst rfl rfl
theorem dX11_worst_79 : decode cX11_worst 79 = .ok (.iload 7, 2) := dqn_21 (k := 86) qh_cX11_worst rfl rfl rfl
theorem dX11_worst_81 : decode cX11_worst 81 = .ok (.invokevirtual 271, 3) := dqn_182 (k := 83) qh_cX11_worst rfl rfl rfl
theorem dX11_worst_84 : decode cX11_worst 84 = .ok (.iload 8, 2) := dqn_21 (k := 81) qh_cX11_worst rfl rfl rfl
theorem dX11_worst_86 : decode cX11_worst 86 = .ok (.invokevirtual 275, 3) := dqn_182 (k := 78) qh_cX11_worst rfl rfl rfl
theorem dX11_worst_89 : decode cX11_worst 89 = .ok (.aload_n 0, 1) := dqn_42 (k := 77) qh_cX11_worst rfl rfl
theorem dX11_worst_90 : decode cX11_worst 90 = .ok (.iconst (-1), 1) := dqn_2 (k := 76) qh_cX11_worst rfl rfl
theorem dX11_worst_91 : decode cX11_worst 91 = .ok (.invokevirtual 281, 3) := dqn_182 (k := 73) qh_cX11_worst rfl rfl rfl
theorem dX11_worst_94 : decode cX11_worst 94 = .ok (.iload 6, 2) := dqn_21 (k := 71) qh_cX11_worst rfl rfl rfl
theorem dX11_worst_96 : decode cX11_worst 96 = .ok (.if_icmp .le 18, 3) := dqn_164 (k := 68) (u := 18) qh_cX11_worst rfl rfl rfl (sg_p rfl rfl)
theorem dX11_worst_99 : decode cX11_worst 99 = .ok (.iload 7, 2) := dqn_21 (k := 66) qh_cX11_worst rfl rfl rfl
theorem dX11_worst_101 : decode cX11_worst 101 = .ok (.istore 4, 2) := dqn_54 (k := 64) qh_cX11_worst rfl rfl rfl
theorem dX11_worst_103 : decode cX11_worst 103 = .ok (.iload 8, 2) := dqn_21 (k := 62) qh_cX11_worst rfl rfl rfl
theorem dX11_worst_105 : decode cX11_worst 105 = .ok (.istore 5, 2) := dqn_54 (k := 60) qh_cX11_worst rfl rfl rfl
theorem dX11_worst_107 : decode cX11_worst 107 = .ok (.aload_n 0, 1) := dqn_42 (k := 59) qh_cX11_worst rfl rfl
theorem dX11_worst_108 : decode cX11_worst 108 = .ok (.iconst (-1), 1) := dqn_2 (k := 58) qh_cX11_worst rfl rfl
theorem dX11_worst_109 : decode cX11_worst 109 = .ok (.invokevirtual 281, 3) := dqn_182 (k := 55) qh_cX11_worst rfl rfl rfl
theorem dX11_worst_112 : decode cX11_worst 112 = .ok (.istore 6, 2) := dqn_54 (k := 53) qh_cX11_worst rfl rfl rfl
theorem dX11_worst_114 : decode cX11_worst 114 = .ok (.iinc 8 1, 3) := dqn_132 (k := 50) (u := 1) qh_cX11_worst rfl rfl rfl rfl (by decide)
theorem dX11_worst_117 : decode cX11_worst 117 = .ok (.goto (-64), 3) := dqn_167 (k := 47) (u := 65472) qh_cX11_worst rfl rfl rfl (sg_n (k := 64) rfl rfl rfl)
theorem dX11_worst_120 : decode cX11_worst 120 = .ok (.iinc 7 1, 3) := dqn_132 (k := 44) (u := 1) qh_cX11_worst rfl rfl rfl rfl (by decide)
theorem dX11_worst_123 : decode cX11_worst 123 = .ok (.goto (-84), 3) := dqn_167 (k := 41) (u := 65452) qh_cX11_worst rfl rfl rfl (sg_n (k := 84) rfl rfl rfl)
theorem dX11_worst_126 : decode cX11_worst 126 = .ok (.iload_n 3, 1) := dqn_29 (k := 40) qh_cX11_worst rfl rfl
theorem dX11_worst_127 : decode cX11_worst 127 = .ok (.ifCond .ne 9, 3) := dqn_154 (k := 37) (u := 9) qh_cX11_worst rfl rfl rfl (sg_p rfl rfl)
theorem dX11_worst_130 : decode cX11_worst 130 = .ok (.iload 4, 2) := dqn_21 (k := 35) qh_cX11_worst rfl rfl rfl
theorem dX11_worst_132 : decode cX11_worst 132 = .ok (.i2l, 1) := dqn_133 (k := 34) qh_cX11_worst rfl rfl
theorem dX11_worst_133 : decode cX11_worst 133 = .ok (.goto 33, 3) := dqn_167 (k := 31) (u := 33) qh_cX11_worst rfl rfl rfl (sg_p rfl rfl)
theorem dX11_worst_136 : decode cX11_worst 136 = .ok (.iload_n 3, 1) := dqn_29 (k := 30) qh_cX11_worst rfl rfl
theorem dX11_worst_137 : decode cX11_worst 137 = .ok (.iconst 1, 1) := dqn_4 (k := 29) qh_cX11_worst rfl rfl
theorem dX11_worst_138 : decode cX11_worst 138 = .ok (.if_icmp .ne 9, 3) := dqn_160 (k := 26) (u := 9) qh_cX11_worst rfl rfl rfl (sg_p rfl rfl)
theorem dX11_worst_141 : decode cX11_worst 141 = .ok (.iload 5, 2) := dqn_21 (k := 24) qh_cX11_worst rfl rfl rfl
theorem dX11_worst_143 : decode cX11_worst 143 = .ok (.i2l, 1) := dqn_133 (k := 23) qh_cX11_worst rfl rfl
theorem dX11_worst_144 : decode cX11_worst 144 = .ok (.goto 22, 3) := dqn_167 (k := 20) (u := 22) qh_cX11_worst rfl rfl rfl (sg_p rfl rfl)
theorem dX11_worst_147 : decode cX11_worst 147 = .ok (.iload_n 3, 1) := dqn_29 (k := 19) qh_cX11_worst rfl rfl
theorem dX11_worst_148 : decode cX11_worst 148 = .ok (.iconst 2, 1) := dqn_5 (k := 18) qh_cX11_worst rfl rfl
theorem dX11_worst_149 : decode cX11_worst 149 = .ok (.if_icmp .ne 9, 3) := dqn_160 (k := 15) (u := 9) qh_cX11_worst rfl rfl rfl (sg_p rfl rfl)
theorem dX11_worst_152 : decode cX11_worst 152 = .ok (.iload 6, 2) := dqn_21 (k := 13) qh_cX11_worst rfl rfl rfl
theorem dX11_worst_154 : decode cX11_worst 154 = .ok (.i2l, 1) := dqn_133 (k := 12) qh_cX11_worst rfl rfl
theorem dX11_worst_155 : decode cX11_worst 155 = .ok (.goto 11, 3) := dqn_167 (k := 9) (u := 11) qh_cX11_worst rfl rfl rfl (sg_p rfl rfl)
theorem dX11_worst_158 : decode cX11_worst 158 = .ok (.aload_n 0, 1) := dqn_42 (k := 8) qh_cX11_worst rfl rfl
theorem dX11_worst_159 : decode cX11_worst 159 = .ok (.iload 4, 2) := dqn_21 (k := 6) qh_cX11_worst rfl rfl rfl
theorem dX11_worst_161 : decode cX11_worst 161 = .ok (.iload 5, 2) := dqn_21 (k := 4) qh_cX11_worst rfl rfl rfl
theorem dX11_worst_163 : decode cX11_worst 163 = .ok (.invokevirtual 288, 3) := dqn_182 (k := 1) qh_cX11_worst rfl rfl rfl
theorem dX11_worst_166 : decode cX11_worst 166 = .ok (.lreturn, 1) := dqn_173 (k := 0) qh_cX11_worst rfl rfl
theorem dX11_flood_0 : decode cX11_flood 0 = .ok (.aload_n 0, 1) := dqn_42 (k := 101) qh_cX11_flood rfl rfl
theorem dX11_flood_1 : decode cX11_flood 1 = .ok (.iconst 0, 1) := dqn_3 (k := 100) qh_cX11_flood rfl rfl
theorem dX11_flood_2 : decode cX11_flood 2 = .ok (.putfield 70, 3) := dqn_181 (k := 97) qh_cX11_flood rfl rfl rfl
theorem dX11_flood_5 : decode cX11_flood 5 = .ok (.aload_n 0, 1) := dqn_42 (k := 96) qh_cX11_flood rfl rfl
theorem dX11_flood_6 : decode cX11_flood 6 = .ok (.iload_n 1, 1) := dqn_27 (k := 95) qh_cX11_flood rfl rfl
theorem dX11_flood_7 : decode cX11_flood 7 = .ok (.iload_n 2, 1) := dqn_28 (k := 94) qh_cX11_flood rfl rfl
theorem dX11_flood_8 : decode cX11_flood 8 = .ok (.invokevirtual 240, 3) := dqn_182 (k := 91) qh_cX11_flood rfl rfl rfl
theorem dX11_flood_11 : decode cX11_flood 11 = .ok (.ifCond .ne 5, 3) := dqn_154 (k := 88) (u := 5) qh_cX11_flood rfl rfl rfl (sg_p rfl rfl)
theorem dX11_flood_14 : decode cX11_flood 14 = .ok (.iconst (-1), 1) := dqn_2 (k := 87) qh_cX11_flood rfl rfl
theorem dX11_flood_15 : decode cX11_flood 15 = .ok (.ireturn, 1) := dqn_172 (k := 86) qh_cX11_flood rfl rfl
theorem dX11_flood_16 : decode cX11_flood 16 = .ok (.iconst 0, 1) := dqn_3 (k := 85) qh_cX11_flood rfl rfl
theorem dX11_flood_17 : decode cX11_flood 17 = .ok (.istore_n 3, 1) := dqn_62 (k := 84) qh_cX11_flood rfl rfl
theorem dX11_flood_18 : decode cX11_flood 18 = .ok (.iconst 0, 1) := dqn_3 (k := 83) qh_cX11_flood rfl rfl
theorem dX11_flood_19 : decode cX11_flood 19 = .ok (.istore 4, 2) := dqn_54 (k := 81) qh_cX11_flood rfl rfl rfl
theorem dX11_flood_21 : decode cX11_flood 21 = .ok (.iload 4, 2) := dqn_21 (k := 79) qh_cX11_flood rfl rfl rfl
theorem dX11_flood_23 : decode cX11_flood 23 = .ok (.aload_n 0, 1) := dqn_42 (k := 78) qh_cX11_flood rfl rfl
theorem dX11_flood_24 : decode cX11_flood 24 = .ok (.getfield 38, 3) := dqn_180 (k := 75) qh_cX11_flood rfl rfl rfl
theorem dX11_flood_27 : decode cX11_flood 27 = .ok (.iconst 1, 1) := dqn_4 (k := 74) qh_cX11_flood rfl rfl
theorem dX11_flood_28 : decode cX11_flood 28 = .ok (.iaload, 1) := dqn_46 (k := 73) qh_cX11_flood rfl rfl
theorem dX11_flood_29 : decode cX11_flood 29 = .ok (.if_icmp .ge 71, 3) := dqn_162 (k := 70) (u := 71) qh_cX11_flood rfl rfl rfl (sg_p rfl rfl)
theorem dX11_flood_32 : decode cX11_flood 32 = .ok (.iconst 0, 1) := dqn_3 (k := 69) qh_cX11_flood rfl rfl
theorem dX11_flood_33 : decode cX11_flood 33 = .ok (.istore 5, 2) := dqn_54 (k := 67) qh_cX11_flood rfl rfl rfl
theorem dX11_flood_35 : decode cX11_flood 35 = .ok (.iload 5, 2) := dqn_21 (k := 65) qh_cX11_flood rfl rfl rfl
theorem dX11_flood_37 : decode cX11_flood 37 = .ok (.iconst 1, 1) := dqn_4 (k := 64) qh_cX11_flood rfl rfl
theorem dX11_flood_38 : decode cX11_flood 38 = .ok (.aload_n 0, 1) := dqn_42 (k := 63) qh_cX11_flood rfl rfl
theorem dX11_flood_39 : decode cX11_flood 39 = .ok (.getfield 208, 3) := dqn_180 (k := 60) qh_cX11_flood rfl rfl rfl
theorem dX11_flood_42 : decode cX11_flood 42 = .ok (.ishl, 1) := dqn_120 (k := 59) qh_cX11_flood rfl rfl
theorem dX11_flood_43 : decode cX11_flood 43 = .ok (.if_icmp .ge 51, 3) := dqn_162 (k := 56) (u := 51) qh_cX11_flood rfl rfl rfl (sg_p rfl rfl)
theorem dX11_flood_46 : decode cX11_flood 46 = .ok (.aload_n 0, 1) := dqn_42 (k := 55) qh_cX11_flood rfl rfl
theorem dX11_flood_47 : decode cX11_flood 47 = .ok (.iload 4, 2) := dqn_21 (k := 53) qh_cX11_flood rfl rfl rfl
theorem dX11_flood_49 : decode cX11_flood 49 = .ok (.iload 5, 2) := dqn_21 (k := 51) qh_cX11_flood rfl rfl rfl
theorem dX11_flood_51 : decode cX11_flood 51 = .ok (.invokevirtual 288, 3) := dqn_182 (k := 48) qh_cX11_flood rfl rfl rfl
theorem dX11_flood_54 : decode cX11_flood 54 = .ok (.lconst 0, 1) := dqn_9 (k := 47) qh_cX11_flood rfl rfl
theorem dX11_flood_55 : decode cX11_flood 55 = .ok (.lcmp, 1) := dqn_148 (k := 46) qh_cX11_flood rfl rfl
theorem dX11_flood_56 : decode cX11_flood 56 = .ok (.ifCond .le 32, 3) := dqn_158 (k := 43) (u := 32) qh_cX11_flood rfl rfl rfl (sg_p rfl rfl)
theorem dX11_flood_59 : decode cX11_flood 59 = .ok (.aload_n 0, 1) := dqn_42 (k := 42) qh_cX11_flood rfl rfl
theorem dX11_flood_60 : decode cX11_flood 60 = .ok (.aload_n 0, 1) := dqn_42 (k := 41) qh_cX11_flood rfl rfl
theorem dX11_flood_61 : decode cX11_flood 61 = .ok (.iload 4, 2) := dqn_21 (k := 39) qh_cX11_flood rfl rfl rfl
theorem dX11_flood_63 : decode cX11_flood 63 = .ok (.invokevirtual 271, 3) := dqn_182 (k := 36) qh_cX11_flood rfl rfl rfl
theorem dX11_flood_66 : decode cX11_flood 66 = .ok (.iload 5, 2) := dqn_21 (k := 34) qh_cX11_flood rfl rfl rfl
theorem dX11_flood_68 : decode cX11_flood 68 = .ok (.invokevirtual 275, 3) := dqn_182 (k := 31) qh_cX11_flood rfl rfl rfl
theorem dX11_flood_71 : decode cX11_flood 71 = .ok (.aload_n 0, 1) := dqn_42 (k := 30) qh_cX11_flood rfl rfl
theorem dX11_flood_72 : decode cX11_flood 72 = .ok (.getfield 255, 3) := dqn_180 (k := 27) qh_cX11_flood rfl rfl rfl
theorem dX11_flood_75 : decode cX11_flood 75 = .ok (.iload_n 3, 1) := dqn_29 (k := 26) qh_cX11_flood rfl rfl
theorem dX11_flood_76 : decode cX11_flood 76 = .ok (.if_icmp .le 10, 3) := dqn_164 (k := 23) (u := 10) qh_cX11_flood rfl rfl rfl (sg_p rfl rfl)
theorem dX11_flood_79 : decode cX11_flood 79 = .ok (.aload_n 0, 1) := dqn_42 (k := 22) qh_cX11_flood rfl rfl
theorem dX11_flood_80 : decode cX11_flood 80 = .ok (.getfield 255, 3) := dqn_180 (k := 19) qh_cX11_flood rfl rfl rfl
theorem dX11_flood_83 : decode cX11_flood 83 = .ok (.goto 4, 3) := dqn_167 (k := 16) (u := 4) qh_cX11_flood rfl rfl rfl (sg_p rfl rfl)
theorem dX11_flood_86 : decode cX11_flood 86 = .ok (.iload_n 3, 1) := dqn_29 (k := 15) qh_cX11_flood rfl rfl
theorem dX11_flood_87 : decode cX11_flood 87 = .ok (.istore_n 3, 1) := dqn_62 (k := 14) qh_cX11_flood rfl rfl
theorem dX11_flood_88 : decode cX11_flood 88 = .ok (.iinc 5 1, 3) := dqn_132 (k := 11) (u := 1) qh_cX11_flood rfl rfl rfl rfl (by decide)
theorem dX11_flood_91 : decode cX11_flood 91 = .ok (.goto (-56), 3) := dqn_167 (k := 8) (u := 65480) qh_cX11_flood rfl rfl rfl (sg_n (k := 56) rfl rfl rfl)
theorem dX11_flood_94 : decode cX11_flood 94 = .ok (.iinc 4 1, 3) := dqn_132 (k := 5) (u := 1) qh_cX11_flood rfl rfl rfl rfl (by decide)
theorem dX11_flood_97 : decode cX11_flood 97 = .ok (.goto (-76), 3) := dqn_167 (k := 2) (u := 65460) qh_cX11_flood rfl rfl rfl (sg_n (k := 76) rfl rfl rfl)
theorem dX11_flood_100 : decode cX11_flood 100 = .ok (.iload_n 3, 1) := dqn_29 (k := 1) qh_cX11_flood rfl rfl
theorem dX11_flood_101 : decode cX11_flood 101 = .ok (.ireturn, 1) := dqn_172 (k := 0) qh_cX11_flood rfl rfl
theorem dX11_around_0 : decode cX11_around 0 = .ok (.aload_n 0, 1) := dqn_42 (k := 157) qh_cX11_around rfl rfl
theorem dX11_around_1 : decode cX11_around 1 = .ok (.iconst 0, 1) := dqn_3 (k := 156) qh_cX11_around rfl rfl
theorem dX11_around_2 : decode cX11_around 2 = .ok (.putfield 70, 3) := dqn_181 (k := 153) qh_cX11_around rfl rfl rfl
theorem dX11_around_5 : decode cX11_around 5 = .ok (.aload_n 0, 1) := dqn_42 (k := 152) qh_cX11_around rfl rfl
theorem dX11_around_6 : decode cX11_around 6 = .ok (.iload_n 1, 1) := dqn_27 (k := 151) qh_cX11_around rfl rfl
theorem dX11_around_7 : decode cX11_around 7 = .ok (.iload_n 2, 1) := dqn_28 (k := 150) qh_cX11_around rfl rfl
theorem dX11_around_8 : decode cX11_around 8 = .ok (.invokevirtual 240, 3) := dqn_182 (k := 147) qh_cX11_around rfl rfl rfl
theorem dX11_around_11 : decode cX11_around 11 = .ok (.ifCond .ne 5, 3) := dqn_154 (k := 144) (u := 5) qh_cX11_around rfl rfl rfl (sg_p rfl rfl)
theorem dX11_around_14 : decode cX11_around 14 = .ok (.iconst (-1), 1) := dqn_2 (k := 143) qh_cX11_around rfl rfl
theorem dX11_around_15 : decode cX11_around 15 = .ok (.ireturn, 1) := dqn_172 (k := 142) qh_cX11_around rfl rfl
theorem dX11_around_16 : decode cX11_around 16 = .ok (.aload_n 0, 1) := dqn_42 (k := 141) qh_cX11_around rfl rfl
theorem dX11_around_17 : decode cX11_around 17 = .ok (.iconst (-1), 1) := dqn_2 (k := 140) qh_cX11_around rfl rfl
theorem dX11_around_18 : decode cX11_around 18 = .ok (.invokevirtual 301, 3) := dqn_182 (k := 137) qh_cX11_around rfl rfl rfl
theorem dX11_around_21 : decode cX11_around 21 = .ok (.lstore 4, 2) := dqn_55 (k := 135) qh_cX11_around rfl rfl rfl
theorem dX11_around_23 : decode cX11_around 23 = .ok (.iconst (-1), 1) := dqn_2 (k := 134) qh_cX11_around rfl rfl
theorem dX11_around_24 : decode cX11_around 24 = .ok (.istore 6, 2) := dqn_54 (k := 132) qh_cX11_around rfl rfl rfl
theorem dX11_around_26 : decode cX11_around 26 = .ok (.iconst (-1), 1) := dqn_2 (k := 131) qh_cX11_around rfl rfl
theorem dX11_around_27 : decode cX11_around 27 = .ok (.istore 7, 2) := dqn_54 (k := 129) qh_cX11_around rfl rfl rfl
theorem dX11_around_29 : decode cX11_around 29 = .ok (.iconst 0, 1) := dqn_3 (k := 128) qh_cX11_around rfl rfl
theorem dX11_around_30 : decode cX11_around 30 = .ok (.istore 8, 2) := dqn_54 (k := 126) qh_cX11_around rfl rfl rfl
theorem dX11_around_32 : decode cX11_around 32 = .ok (.iload 8, 2) := dqn_21 (k := 124) qh_cX11_around rfl rfl rfl
theorem dX11_around_34 : decode cX11_around 34 = .ok (.aload_n 0, 1) := dqn_42 (k := 123) qh_cX11_around rfl rfl
theorem dX11_around_35 : decode cX11_around 35 = .ok (.getfield 208, 3) := dqn_180 (k := 120) qh_cX11_around rfl rfl rfl
theorem dX11_around_38 : decode cX11_around 38 = .ok (.if_icmp .ge 108, 3) := dqn_162 (k := 117) (u := 108) qh_cX11_around rfl rfl rfl (sg_p rfl rfl)
theorem dX11_around_41 : decode cX11_around 41 = .ok (.aload_n 0, 1) := dqn_42 (k := 116) qh_cX11_around rfl rfl
theorem dX11_around_42 : decode cX11_around 42 = .ok (.iload 8, 2) := dqn_21 (k := 114) qh_cX11_around rfl rfl rfl
theorem dX11_around_44 : decode cX11_around 44 = .ok (.bipush 8, 2) := dqn_16 (k := 112) (u := 8) qh_cX11_around rfl rfl rfl (by decide)
theorem dX11_around_46 : decode cX11_around 46 = .ok (.invokevirtual 211, 3) := dqn_182 (k := 109) qh_cX11_around rfl rfl rfl
theorem dX11_around_49 : decode cX11_around 49 = .ok (.istore 9, 2) := dqn_54 (k := 107) qh_cX11_around rfl rfl rfl
theorem dX11_around_51 : decode cX11_around 51 = .ok (.iload 8, 2) := dqn_21 (k := 105) qh_cX11_around rfl rfl rfl
theorem dX11_around_53 : decode cX11_around 53 = .ok (.iconst 1, 1) := dqn_4 (k := 104) qh_cX11_around rfl rfl
theorem dX11_around_54 : decode cX11_around 54 = .ok (.iadd, 1) := dqn_96 (k := 103) qh_cX11_around rfl rfl
theorem dX11_around_55 : decode cX11_around 55 = .ok (.istore 10, 2) := dqn_54 (k := 101) qh_cX11_around rfl rfl rfl
theorem dX11_around_57 : decode cX11_around 57 = .ok (.iload 10, 2) := dqn_21 (k := 99) qh_cX11_around rfl rfl rfl
theorem dX11_around_59 : decode cX11_around 59 = .ok (.aload_n 0, 1) := dqn_42 (k := 98) qh_cX11_around rfl rfl
theorem dX11_around_60 : decode cX11_around 60 = .ok (.getfield 208, 3) := dqn_180 (k := 95) qh_cX11_around rfl rfl rfl
theorem dX11_around_63 : decode cX11_around 63 = .ok (.if_icmp .ge 77, 3) := dqn_162 (k := 92) (u := 77) qh_cX11_around rfl rfl rfl (sg_p rfl rfl)
theorem dX11_around_66 : decode cX11_around 66 = .ok (.aload_n 0, 1) := dqn_42 (k := 91) qh_cX11_around rfl rfl
theorem dX11_around_67 : decode cX11_around 67 = .ok (.iload 8, 2) := dqn_21 (k := 89) qh_cX11_around rfl rfl rfl
theorem dX11_around_69 : decode cX11_around 69 = .ok (.bipush 15, 2) := dqn_16 (k := 87) (u := 15) qh_cX11_around rfl rfl rfl (by decide)
theorem dX11_around_71 : decode cX11_around 71 = .ok (.invokevirtual 211, 3) := dqn_182 (k := 84) qh_cX11_around rfl rfl rfl
theorem dX11_around_74 : decode cX11_around 74 = .ok (.ifCond .ne 66, 3) := dqn_154 (k := 81) (u := 66) qh_cX11_around rfl rfl rfl (sg_p rfl rfl)
theorem dX11_around_77 : decode cX11_around 77 = .ok (.iload 10, 2) := dqn_21 (k := 79) qh_cX11_around rfl rfl rfl
theorem dX11_around_79 : decode cX11_around 79 = .ok (.iload 9, 2) := dqn_21 (k := 77) qh_cX11_around rfl rfl rfl
theorem dX11_around_81 : decode cX11_around 81 = .ok (.if_icmp .ne 6, 3) := dqn_160 (k := 74) (u := 6) qh_cX11_around rfl rfl rfl (sg_p rfl rfl)
theorem dX11_around_84 : decode cX11_around 84 = .ok (.goto 50, 3) := dqn_167 (k := 71) (u := 50) qh_cX11_around rfl rfl rfl (sg_p rfl rfl)
theorem dX11_around_87 : decode cX11_around 87 = .ok (.aload_n 0, 1) := dqn_42 (k := 70) qh_cX11_around rfl rfl
theorem dX11_around_88 : decode cX11_around 88 = .ok (.iload 8, 2) := dqn_21 (k := 68) qh_cX11_around rfl rfl rfl
theorem dX11_around_90 : decode cX11_around 90 = .ok (.bipush 8, 2) := dqn_16 (k := 66) (u := 8) qh_cX11_around rfl rfl rfl (by decide)
theorem dX11_around_92 : decode cX11_around 92 = .ok (.iload 10, 2) := dqn_21 (k := 64) qh_cX11_around rfl rfl rfl
theorem dX11_around_94 : decode cX11_around 94 = .ok (.invokevirtual 215, 3) := dqn_182 (k := 61) qh_cX11_around rfl rfl rfl
theorem dX11_around_97 : decode cX11_around 97 = .ok (.aload_n 0, 1) := dqn_42 (k := 60) qh_cX11_around rfl rfl
theorem dX11_around_98 : decode cX11_around 98 = .ok (.iconst (-1), 1) := dqn_2 (k := 59) qh_cX11_around rfl rfl
theorem dX11_around_99 : decode cX11_around 99 = .ok (.invokevirtual 301, 3) := dqn_182 (k := 56) qh_cX11_around rfl rfl rfl
theorem dX11_around_102 : decode cX11_around 102 = .ok (.lstore 11, 2) := dqn_55 (k := 54) qh_cX11_around rfl rfl rfl
theorem dX11_around_104 : decode cX11_around 104 = .ok (.aload_n 0, 1) := dqn_42 (k := 53) qh_cX11_around rfl rfl
theorem dX11_around_105 : decode cX11_around 105 = .ok (.iload 8, 2) := dqn_21 (k := 51) qh_cX11_around rfl rfl rfl
theorem dX11_around_107 : decode cX11_around 107 = .ok (.bipush 8, 2) := dqn_16 (k := 49) (u := 8) qh_cX11_around rfl rfl rfl (by decide)
theorem dX11_around_109 : decode cX11_around 109 = .ok (.iload 9, 2) := dqn_21 (k := 47) qh_cX11_around rfl rfl rfl
theorem dX11_around_111 : decode cX11_around 111 = .ok (.invokevirtual 215, 3) := dqn_182 (k := 44) qh_cX11_around rfl rfl rfl
theorem dX11_around_114 : decode cX11_around 114 = .ok (.lload 11, 2) := dqn_22 (k := 42) qh_cX11_around rfl rfl rfl
theorem dX11_around_116 : decode cX11_around 116 = .ok (.lload 4, 2) := dqn_22 (k := 40) qh_cX11_around rfl rfl rfl
theorem dX11_around_118 : decode cX11_around 118 = .ok (.lcmp, 1) := dqn_148 (k := 39) qh_cX11_around rfl rfl
theorem dX11_around_119 : decode cX11_around 119 = .ok (.ifCond .ge 15, 3) := dqn_156 (k := 36) (u := 15) qh_cX11_around rfl rfl rfl (sg_p rfl rfl)
theorem dX11_around_122 : decode cX11_around 122 = .ok (.iload 8, 2) := dqn_21 (k := 34) qh_cX11_around rfl rfl rfl
theorem dX11_around_124 : decode cX11_around 124 = .ok (.istore 6, 2) := dqn_54 (k := 32) qh_cX11_around rfl rfl rfl
theorem dX11_around_126 : decode cX11_around 126 = .ok (.iload 10, 2) := dqn_21 (k := 30) qh_cX11_around rfl rfl rfl
theorem dX11_around_128 : decode cX11_around 128 = .ok (.istore 7, 2) := dqn_54 (k := 28) qh_cX11_around rfl rfl rfl
theorem dX11_around_130 : decode cX11_around 130 = .ok (.lload 11, 2) := dqn_22 (k := 26) qh_cX11_around rfl rfl rfl
theorem dX11_around_132 : decode cX11_around 132 = .ok (.lstore 4, 2) := dqn_55 (k := 24) qh_cX11_around rfl rfl rfl
theorem dX11_around_134 : decode cX11_around 134 = .ok (.iinc 10 1, 3) := dqn_132 (k := 21) (u := 1) qh_cX11_around rfl rfl rfl rfl (by decide)
theorem dX11_around_137 : decode cX11_around 137 = .ok (.goto (-80), 3) := dqn_167 (k := 18) (u := 65456) qh_cX11_around rfl rfl rfl (sg_n (k := 80) rfl rfl rfl)
theorem dX11_around_140 : decode cX11_around 140 = .ok (.iinc 8 1, 3) := dqn_132 (k := 15) (u := 1) qh_cX11_around rfl rfl rfl rfl (by decide)
theorem dX11_around_143 : decode cX11_around 143 = .ok (.goto (-111), 3) := dqn_167 (k := 12) (u := 65425) qh_cX11_around rfl rfl rfl (sg_n (k := 111) rfl rfl rfl)
theorem dX11_around_146 : decode cX11_around 146 = .ok (.iload_n 3, 1) := dqn_29 (k := 11) qh_cX11_around rfl rfl
theorem dX11_around_147 : decode cX11_around 147 = .ok (.ifCond .eq 8, 3) := dqn_153 (k := 8) (u := 8) qh_cX11_around rfl rfl rfl (sg_p rfl rfl)
theorem dX11_around_150 : decode cX11_around 150 = .ok (.iload 7, 2) := dqn_21 (k := 6) qh_cX11_around rfl rfl rfl
theorem dX11_around_152 : decode cX11_around 152 = .ok (.goto 5, 3) := dqn_167 (k := 3) (u := 5) qh_cX11_around rfl rfl rfl (sg_p rfl rfl)
theorem dX11_around_155 : decode cX11_around 155 = .ok (.iload 6, 2) := dqn_21 (k := 1) qh_cX11_around rfl rfl rfl
theorem dX11_around_157 : decode cX11_around 157 = .ok (.ireturn, 1) := dqn_172 (k := 0) qh_cX11_around rfl rfl
theorem dX11_twice_0 : decode cX11_twice 0 = .ok (.aload_n 0, 1) := dqn_42 (k := 198) qh_cX11_twice rfl rfl
theorem dX11_twice_1 : decode cX11_twice 1 = .ok (.iconst 0, 1) := dqn_3 (k := 197) qh_cX11_twice rfl rfl
theorem dX11_twice_2 : decode cX11_twice 2 = .ok (.putfield 70, 3) := dqn_181 (k := 194) qh_cX11_twice rfl rfl rfl
theorem dX11_twice_5 : decode cX11_twice 5 = .ok (.aload_n 0, 1) := dqn_42 (k := 193) qh_cX11_twice rfl rfl
theorem dX11_twice_6 : decode cX11_twice 6 = .ok (.iload_n 1, 1) := dqn_27 (k := 192) qh_cX11_twice rfl rfl
theorem dX11_twice_7 : decode cX11_twice 7 = .ok (.iload_n 2, 1) := dqn_28 (k := 191) qh_cX11_twice rfl rfl
theorem dX11_twice_8 : decode cX11_twice 8 = .ok (.invokevirtual 240, 3) := dqn_182 (k := 188) qh_cX11_twice rfl rfl rfl
theorem dX11_twice_11 : decode cX11_twice 11 = .ok (.ifCond .eq 38, 3) := dqn_153 (k := 185) (u := 38) qh_cX11_twice rfl rfl rfl (sg_p rfl rfl)
theorem dX11_twice_14 : decode cX11_twice 14 = .ok (.aload_n 0, 1) := dqn_42 (k := 184) qh_cX11_twice rfl rfl
theorem dX11_twice_15 : decode cX11_twice 15 = .ok (.iload_n 3, 1) := dqn_29 (k := 183) qh_cX11_twice rfl rfl
theorem dX11_twice_16 : decode cX11_twice 16 = .ok (.invokevirtual 265, 3) := dqn_182 (k := 180) qh_cX11_twice rfl rfl rfl
theorem dX11_twice_19 : decode cX11_twice 19 = .ok (.ifCond .eq 30, 3) := dqn_153 (k := 177) (u := 30) qh_cX11_twice rfl rfl rfl (sg_p rfl rfl)
theorem dX11_twice_22 : decode cX11_twice 22 = .ok (.aload_n 0, 1) := dqn_42 (k := 176) qh_cX11_twice rfl rfl
theorem dX11_twice_23 : decode cX11_twice 23 = .ok (.iload 5, 2) := dqn_21 (k := 174) qh_cX11_twice rfl rfl rfl
theorem dX11_twice_25 : decode cX11_twice 25 = .ok (.invokevirtual 265, 3) := dqn_182 (k := 171) qh_cX11_twice rfl rfl rfl
theorem dX11_twice_28 : decode cX11_twice 28 = .ok (.ifCond .eq 21, 3) := dqn_153 (k := 168) (u := 21) qh_cX11_twice rfl rfl rfl (sg_p rfl rfl)
theorem dX11_twice_31 : decode cX11_twice 31 = .ok (.aload_n 0, 1) := dqn_42 (k := 167) qh_cX11_twice rfl rfl
theorem dX11_twice_32 : decode cX11_twice 32 = .ok (.iload 4, 2) := dqn_21 (k := 165) qh_cX11_twice rfl rfl rfl
theorem dX11_twice_34 : decode cX11_twice 34 = .ok (.invokevirtual 268, 3) := dqn_182 (k := 162) qh_cX11_twice rfl rfl rfl
theorem dX11_twice_37 : decode cX11_twice 37 = .ok (.ifCond .eq 12, 3) := dqn_153 (k := 159) (u := 12) qh_cX11_twice rfl rfl rfl (sg_p rfl rfl)
theorem dX11_twice_40 : decode cX11_twice 40 = .ok (.aload_n 0, 1) := dqn_42 (k := 158) qh_cX11_twice rfl rfl
theorem dX11_twice_41 : decode cX11_twice 41 = .ok (.iload 6, 2) := dqn_21 (k := 156) qh_cX11_twice rfl rfl rfl
theorem dX11_twice_43 : decode cX11_twice 43 = .ok (.invokevirtual 268, 3) := dqn_182 (k := 153) qh_cX11_twice rfl rfl rfl
theorem dX11_twice_46 : decode cX11_twice 46 = .ok (.ifCond .ne 5, 3) := dqn_154 (k := 150) (u := 5) qh_cX11_twice rfl rfl rfl (sg_p rfl rfl)
theorem dX11_twice_49 : decode cX11_twice 49 = .ok (.iconst (-1), 1) := dqn_2 (k := 149) qh_cX11_twice rfl rfl
theorem dX11_twice_50 : decode cX11_twice 50 = .ok (.ireturn, 1) := dqn_172 (k := 148) qh_cX11_twice rfl rfl
theorem dX11_twice_51 : decode cX11_twice 51 = .ok (.aload_n 0, 1) := dqn_42 (k := 147) qh_cX11_twice rfl rfl
theorem dX11_twice_52 : decode cX11_twice 52 = .ok (.aload_n 0, 1) := dqn_42 (k := 146) qh_cX11_twice rfl rfl
theorem dX11_twice_53 : decode cX11_twice 53 = .ok (.iload_n 3, 1) := dqn_29 (k := 145) qh_cX11_twice rfl rfl
theorem dX11_twice_54 : decode cX11_twice 54 = .ok (.invokevirtual 271, 3) := dqn_182 (k := 142) qh_cX11_twice rfl rfl rfl
theorem dX11_twice_57 : decode cX11_twice 57 = .ok (.iload 4, 2) := dqn_21 (k := 140) qh_cX11_twice rfl rfl rfl
theorem dX11_twice_59 : decode cX11_twice 59 = .ok (.invokevirtual 275, 3) := dqn_182 (k := 137) qh_cX11_twice rfl rfl rfl
theorem dX11_twice_62 : decode cX11_twice 62 = .ok (.iconst 0, 1) := dqn_3 (k := 136) qh_cX11_twice rfl rfl
theorem dX11_twice_63 : decode cX11_twice 63 = .ok (.istore 8, 2) := dqn_54 (k := 134) qh_cX11_twice rfl rfl rfl
theorem dX11_twice_65 : decode cX11_twice 65 = .ok (.iload 8, 2) := dqn_21 (k := 132) qh_cX11_twice rfl rfl rfl
theorem dX11_twice_67 : decode cX11_twice 67 = .ok (.aload_n 0, 1) := dqn_42 (k := 131) qh_cX11_twice rfl rfl
theorem dX11_twice_68 : decode cX11_twice 68 = .ok (.getfield 208, 3) := dqn_180 (k := 128) qh_cX11_twice rfl rfl rfl
theorem dX11_twice_71 : decode cX11_twice 71 = .ok (.if_icmp .ge 109, 3) := dqn_162 (k := 125) (u := 109) qh_cX11_twice rfl rfl rfl (sg_p rfl rfl)
theorem dX11_twice_74 : decode cX11_twice 74 = .ok (.aload_n 0, 1) := dqn_42 (k := 124) qh_cX11_twice rfl rfl
theorem dX11_twice_75 : decode cX11_twice 75 = .ok (.getfield 246, 3) := dqn_180 (k := 121) qh_cX11_twice rfl rfl rfl
theorem dX11_twice_78 : decode cX11_twice 78 = .ok (.iload 8, 2) := dqn_21 (k := 119) qh_cX11_twice rfl rfl rfl
theorem dX11_twice_80 : decode cX11_twice 80 = .ok (.invokestatic 249, 3) := dqn_184 (k := 116) qh_cX11_twice rfl rfl rfl
theorem dX11_twice_83 : decode cX11_twice 83 = .ok (.ifCond .eq 39, 3) := dqn_153 (k := 113) (u := 39) qh_cX11_twice rfl rfl rfl (sg_p rfl rfl)
theorem dX11_twice_86 : decode cX11_twice 86 = .ok (.aload_n 0, 1) := dqn_42 (k := 112) qh_cX11_twice rfl rfl
theorem dX11_twice_87 : decode cX11_twice 87 = .ok (.iload 8, 2) := dqn_21 (k := 110) qh_cX11_twice rfl rfl rfl
theorem dX11_twice_89 : decode cX11_twice 89 = .ok (.iconst 0, 1) := dqn_3 (k := 109) qh_cX11_twice rfl rfl
theorem dX11_twice_90 : decode cX11_twice 90 = .ok (.iconst 0, 1) := dqn_3 (k := 108) qh_cX11_twice rfl rfl
theorem dX11_twice_91 : decode cX11_twice 91 = .ok (.invokevirtual 215, 3) := dqn_182 (k := 105) qh_cX11_twice rfl rfl rfl
theorem dX11_twice_94 : decode cX11_twice 94 = .ok (.aload_n 0, 1) := dqn_42 (k := 104) qh_cX11_twice rfl rfl
theorem dX11_twice_95 : decode cX11_twice 95 = .ok (.iload 8, 2) := dqn_21 (k := 102) qh_cX11_twice rfl rfl rfl
theorem dX11_twice_97 : decode cX11_twice 97 = .ok (.iconst 1, 1) := dqn_4 (k := 101) qh_cX11_twice rfl rfl
theorem dX11_twice_98 : decode cX11_twice 98 = .ok (.iconst 0, 1) := dqn_3 (k := 100) qh_cX11_twice rfl rfl
theorem dX11_twice_99 : decode cX11_twice 99 = .ok (.invokevirtual 215, 3) := dqn_182 (k := 97) qh_cX11_twice rfl rfl rfl
theorem dX11_twice_102 : decode cX11_twice 102 = .ok (.aload_n 0, 1) := dqn_42 (k := 96) qh_cX11_twice rfl rfl
theorem dX11_twice_103 : decode cX11_twice 103 = .ok (.iload 8, 2) := dqn_21 (k := 94) qh_cX11_twice rfl rfl rfl
theorem dX11_twice_105 : decode cX11_twice 105 = .ok (.iconst 4, 1) := dqn_7 (k := 93) qh_cX11_twice rfl rfl
theorem dX11_twice_106 : decode cX11_twice 106 = .ok (.iconst 0, 1) := dqn_3 (k := 92) qh_cX11_twice rfl rfl
theorem dX11_twice_107 : decode cX11_twice 107 = .ok (.invokevirtual 215, 3) := dqn_182 (k := 89) qh_cX11_twice rfl rfl rfl
theorem dX11_twice_110 : decode cX11_twice 110 = .ok (.aload_n 0, 1) := dqn_42 (k := 88) qh_cX11_twice rfl rfl
theorem dX11_twice_111 : decode cX11_twice 111 = .ok (.iload 8, 2) := dqn_21 (k := 86) qh_cX11_twice rfl rfl rfl
theorem dX11_twice_113 : decode cX11_twice 113 = .ok (.bipush 15, 2) := dqn_16 (k := 84) (u := 15) qh_cX11_twice rfl rfl rfl (by decide)
theorem dX11_twice_115 : decode cX11_twice 115 = .ok (.iconst 1, 1) := dqn_4 (k := 83) qh_cX11_twice rfl rfl
theorem dX11_twice_116 : decode cX11_twice 116 = .ok (.invokevirtual 215, 3) := dqn_182 (k := 80) qh_cX11_twice rfl rfl rfl
theorem dX11_twice_119 : decode cX11_twice 119 = .ok (.goto 55, 3) := dqn_167 (k := 77) (u := 55) qh_cX11_twice rfl rfl rfl (sg_p rfl rfl)
theorem dX11_twice_122 : decode cX11_twice 122 = .ok (.aload_n 0, 1) := dqn_42 (k := 76) qh_cX11_twice rfl rfl
theorem dX11_twice_123 : decode cX11_twice 123 = .ok (.iload 8, 2) := dqn_21 (k := 74) qh_cX11_twice rfl rfl rfl
theorem dX11_twice_125 : decode cX11_twice 125 = .ok (.bipush 15, 2) := dqn_16 (k := 72) (u := 15) qh_cX11_twice rfl rfl rfl (by decide)
theorem dX11_twice_127 : decode cX11_twice 127 = .ok (.invokevirtual 211, 3) := dqn_182 (k := 69) qh_cX11_twice rfl rfl rfl
theorem dX11_twice_130 : decode cX11_twice 130 = .ok (.ifCond .ne 44, 3) := dqn_154 (k := 66) (u := 44) qh_cX11_twice rfl rfl rfl (sg_p rfl rfl)
theorem dX11_twice_133 : decode cX11_twice 133 = .ok (.aload_n 0, 1) := dqn_42 (k := 65) qh_cX11_twice rfl rfl
theorem dX11_twice_134 : decode cX11_twice 134 = .ok (.iload 8, 2) := dqn_21 (k := 63) qh_cX11_twice rfl rfl rfl
theorem dX11_twice_136 : decode cX11_twice 136 = .ok (.iconst 1, 1) := dqn_4 (k := 62) qh_cX11_twice rfl rfl
theorem dX11_twice_137 : decode cX11_twice 137 = .ok (.aload_n 0, 1) := dqn_42 (k := 61) qh_cX11_twice rfl rfl
theorem dX11_twice_138 : decode cX11_twice 138 = .ok (.getfield 41, 3) := dqn_180 (k := 58) qh_cX11_twice rfl rfl rfl
theorem dX11_twice_141 : decode cX11_twice 141 = .ok (.iload 8, 2) := dqn_21 (k := 56) qh_cX11_twice rfl rfl rfl
theorem dX11_twice_143 : decode cX11_twice 143 = .ok (.iaload, 1) := dqn_46 (k := 55) qh_cX11_twice rfl rfl
theorem dX11_twice_144 : decode cX11_twice 144 = .ok (.aload_n 0, 1) := dqn_42 (k := 54) qh_cX11_twice rfl rfl
theorem dX11_twice_145 : decode cX11_twice 145 = .ok (.iload 8, 2) := dqn_21 (k := 52) qh_cX11_twice rfl rfl rfl
theorem dX11_twice_147 : decode cX11_twice 147 = .ok (.iconst 0, 1) := dqn_3 (k := 51) qh_cX11_twice rfl rfl
theorem dX11_twice_148 : decode cX11_twice 148 = .ok (.invokevirtual 211, 3) := dqn_182 (k := 48) qh_cX11_twice rfl rfl rfl
theorem dX11_twice_151 : decode cX11_twice 151 = .ok (.if_icmp .ge 13, 3) := dqn_162 (k := 45) (u := 13) qh_cX11_twice rfl rfl rfl (sg_p rfl rfl)
theorem dX11_twice_154 : decode cX11_twice 154 = .ok (.aload_n 0, 1) := dqn_42 (k := 44) qh_cX11_twice rfl rfl
theorem dX11_twice_155 : decode cX11_twice 155 = .ok (.getfield 41, 3) := dqn_180 (k := 41) qh_cX11_twice rfl rfl rfl
theorem dX11_twice_158 : decode cX11_twice 158 = .ok (.iload 8, 2) := dqn_21 (k := 39) qh_cX11_twice rfl rfl rfl
theorem dX11_twice_160 : decode cX11_twice 160 = .ok (.iaload, 1) := dqn_46 (k := 38) qh_cX11_twice rfl rfl
theorem dX11_twice_161 : decode cX11_twice 161 = .ok (.goto 10, 3) := dqn_167 (k := 35) (u := 10) qh_cX11_twice rfl rfl rfl (sg_p rfl rfl)
theorem dX11_twice_164 : decode cX11_twice 164 = .ok (.aload_n 0, 1) := dqn_42 (k := 34) qh_cX11_twice rfl rfl
theorem dX11_twice_165 : decode cX11_twice 165 = .ok (.iload 8, 2) := dqn_21 (k := 32) qh_cX11_twice rfl rfl rfl
theorem dX11_twice_167 : decode cX11_twice 167 = .ok (.iconst 0, 1) := dqn_3 (k := 31) qh_cX11_twice rfl rfl
theorem dX11_twice_168 : decode cX11_twice 168 = .ok (.invokevirtual 211, 3) := dqn_182 (k := 28) qh_cX11_twice rfl rfl rfl
theorem dX11_twice_171 : decode cX11_twice 171 = .ok (.invokevirtual 215, 3) := dqn_182 (k := 25) qh_cX11_twice rfl rfl rfl
theorem dX11_twice_174 : decode cX11_twice 174 = .ok (.iinc 8 1, 3) := dqn_132 (k := 22) (u := 1) qh_cX11_twice rfl rfl rfl rfl (by decide)
theorem dX11_twice_177 : decode cX11_twice 177 = .ok (.goto (-112), 3) := dqn_167 (k := 19) (u := 65424) qh_cX11_twice rfl rfl rfl (sg_n (k := 112) rfl rfl rfl)
theorem dX11_twice_180 : decode cX11_twice 180 = .ok (.aload_n 0, 1) := dqn_42 (k := 18) qh_cX11_twice rfl rfl
theorem dX11_twice_181 : decode cX11_twice 181 = .ok (.aload_n 0, 1) := dqn_42 (k := 17) qh_cX11_twice rfl rfl
theorem dX11_twice_182 : decode cX11_twice 182 = .ok (.iload 5, 2) := dqn_21 (k := 15) qh_cX11_twice rfl rfl rfl
theorem dX11_twice_184 : decode cX11_twice 184 = .ok (.invokevirtual 271, 3) := dqn_182 (k := 12) qh_cX11_twice rfl rfl rfl
theorem dX11_twice_187 : decode cX11_twice 187 = .ok (.iload 6, 2) := dqn_21 (k := 10) qh_cX11_twice rfl rfl rfl
theorem dX11_twice_189 : decode cX11_twice 189 = .ok (.invokevirtual 275, 3) := dqn_182 (k := 7) qh_cX11_twice rfl rfl rfl
theorem dX11_twice_192 : decode cX11_twice 192 = .ok (.aload_n 0, 1) := dqn_42 (k := 6) qh_cX11_twice rfl rfl
theorem dX11_twice_193 : decode cX11_twice 193 = .ok (.iload 7, 2) := dqn_21 (k := 4) qh_cX11_twice rfl rfl rfl
theorem dX11_twice_195 : decode cX11_twice 195 = .ok (.invokevirtual 278, 3) := dqn_182 (k := 1) qh_cX11_twice rfl rfl rfl
theorem dX11_twice_198 : decode cX11_twice 198 = .ok (.ireturn, 1) := dqn_172 (k := 0) qh_cX11_twice rfl rfl
theorem dX11_better_0 : decode cX11_better 0 = .ok (.aload_n 0, 1) := dqn_42 (k := 66) qh_cX11_better rfl rfl
theorem dX11_better_1 : decode cX11_better 1 = .ok (.iconst 0, 1) := dqn_3 (k := 65) qh_cX11_better rfl rfl
theorem dX11_better_2 : decode cX11_better 2 = .ok (.putfield 70, 3) := dqn_181 (k := 62) qh_cX11_better rfl rfl rfl
theorem dX11_better_5 : decode cX11_better 5 = .ok (.aload_n 0, 1) := dqn_42 (k := 61) qh_cX11_better rfl rfl
theorem dX11_better_6 : decode cX11_better 6 = .ok (.iload_n 1, 1) := dqn_27 (k := 60) qh_cX11_better rfl rfl
theorem dX11_better_7 : decode cX11_better 7 = .ok (.iload_n 2, 1) := dqn_28 (k := 59) qh_cX11_better rfl rfl
theorem dX11_better_8 : decode cX11_better 8 = .ok (.invokevirtual 240, 3) := dqn_182 (k := 56) qh_cX11_better rfl rfl rfl
theorem dX11_better_11 : decode cX11_better 11 = .ok (.ifCond .ne 5, 3) := dqn_154 (k := 53) (u := 5) qh_cX11_better rfl rfl rfl (sg_p rfl rfl)
theorem dX11_better_14 : decode cX11_better 14 = .ok (.iconst (-1), 1) := dqn_2 (k := 52) qh_cX11_better rfl rfl
theorem dX11_better_15 : decode cX11_better 15 = .ok (.ireturn, 1) := dqn_172 (k := 51) qh_cX11_better rfl rfl
theorem dX11_better_16 : decode cX11_better 16 = .ok (.aload_n 0, 1) := dqn_42 (k := 50) qh_cX11_better rfl rfl
theorem dX11_better_17 : decode cX11_better 17 = .ok (.iconst (-1), 1) := dqn_2 (k := 49) qh_cX11_better rfl rfl
theorem dX11_better_18 : decode cX11_better 18 = .ok (.invokevirtual 301, 3) := dqn_182 (k := 46) qh_cX11_better rfl rfl rfl
theorem dX11_better_21 : decode cX11_better 21 = .ok (.lstore 4, 2) := dqn_55 (k := 44) qh_cX11_better rfl rfl rfl
theorem dX11_better_23 : decode cX11_better 23 = .ok (.aload_n 0, 1) := dqn_42 (k := 43) qh_cX11_better rfl rfl
theorem dX11_better_24 : decode cX11_better 24 = .ok (.iload_n 1, 1) := dqn_27 (k := 42) qh_cX11_better rfl rfl
theorem dX11_better_25 : decode cX11_better 25 = .ok (.iload_n 3, 1) := dqn_29 (k := 41) qh_cX11_better rfl rfl
theorem dX11_better_26 : decode cX11_better 26 = .ok (.invokevirtual 240, 3) := dqn_182 (k := 38) qh_cX11_better rfl rfl rfl
theorem dX11_better_29 : decode cX11_better 29 = .ok (.ifCond .ne 5, 3) := dqn_154 (k := 35) (u := 5) qh_cX11_better rfl rfl rfl (sg_p rfl rfl)
theorem dX11_better_32 : decode cX11_better 32 = .ok (.iconst (-1), 1) := dqn_2 (k := 34) qh_cX11_better rfl rfl
theorem dX11_better_33 : decode cX11_better 33 = .ok (.ireturn, 1) := dqn_172 (k := 33) qh_cX11_better rfl rfl
theorem dX11_better_34 : decode cX11_better 34 = .ok (.aload_n 0, 1) := dqn_42 (k := 32) qh_cX11_better rfl rfl
theorem dX11_better_35 : decode cX11_better 35 = .ok (.iconst (-1), 1) := dqn_2 (k := 31) qh_cX11_better rfl rfl
theorem dX11_better_36 : decode cX11_better 36 = .ok (.invokevirtual 301, 3) := dqn_182 (k := 28) qh_cX11_better rfl rfl rfl
theorem dX11_better_39 : decode cX11_better 39 = .ok (.lstore 6, 2) := dqn_55 (k := 26) qh_cX11_better rfl rfl rfl
theorem dX11_better_41 : decode cX11_better 41 = .ok (.lload 4, 2) := dqn_22 (k := 24) qh_cX11_better rfl rfl rfl
theorem dX11_better_43 : decode cX11_better 43 = .ok (.lload 6, 2) := dqn_22 (k := 22) qh_cX11_better rfl rfl rfl
theorem dX11_better_45 : decode cX11_better 45 = .ok (.lcmp, 1) := dqn_148 (k := 21) qh_cX11_better rfl rfl
theorem dX11_better_46 : decode cX11_better 46 = .ok (.ifCond .ge 7, 3) := dqn_156 (k := 18) (u := 7) qh_cX11_better rfl rfl rfl (sg_p rfl rfl)
theorem dX11_better_49 : decode cX11_better 49 = .ok (.iconst 0, 1) := dqn_3 (k := 17) qh_cX11_better rfl rfl
theorem dX11_better_50 : decode cX11_better 50 = .ok (.goto 16, 3) := dqn_167 (k := 14) (u := 16) qh_cX11_better rfl rfl rfl (sg_p rfl rfl)
theorem dX11_better_53 : decode cX11_better 53 = .ok (.lload 4, 2) := dqn_22 (k := 12) qh_cX11_better rfl rfl rfl
theorem dX11_better_55 : decode cX11_better 55 = .ok (.lload 6, 2) := dqn_22 (k := 10) qh_cX11_better rfl rfl rfl
theorem dX11_better_57 : decode cX11_better 57 = .ok (.lcmp, 1) := dqn_148 (k := 9) qh_cX11_better rfl rfl
theorem dX11_better_58 : decode cX11_better 58 = .ok (.ifCond .le 7, 3) := dqn_158 (k := 6) (u := 7) qh_cX11_better rfl rfl rfl (sg_p rfl rfl)
theorem dX11_better_61 : decode cX11_better 61 = .ok (.iconst 1, 1) := dqn_4 (k := 5) qh_cX11_better rfl rfl
theorem dX11_better_62 : decode cX11_better 62 = .ok (.goto 4, 3) := dqn_167 (k := 2) (u := 4) qh_cX11_better rfl rfl rfl (sg_p rfl rfl)
theorem dX11_better_65 : decode cX11_better 65 = .ok (.iconst 2, 1) := dqn_5 (k := 1) qh_cX11_better rfl rfl
theorem dX11_better_66 : decode cX11_better 66 = .ok (.ireturn, 1) := dqn_172 (k := 0) qh_cX11_better rfl rfl
set_option maxHeartbeats 4000000 in
set_option maxRecDepth 100000 in
theorem c_M_mendAllN {d : Nat} {u : Nat → Nat → Int32} {g : Nat → Nat → Int64} {ex : List MC} {set : Int32} (hd : 1 ≤ d) (hp0 : Bd 0 9 (u 162 22)) (hp1 : AB u 172 (-1) 999) (hp2 : AB u 177 (-1) 999) (hp3 : (DN u)) (hp4 : (RC u)) (hp5 : (N0 u)) : CT con0 d 0 0 yX11_mendAll cX11_mendAll 3 none [.ref 162, .int set] (Wd u g ex) (fun r h2 => ∃ (u2 : Nat → Nat → Int32), r = none ∧ h2 = Wd u2 g ex ∧ AB u2 172 (-1) 999 ∧ (DN u2) ∧ (RC u2) ∧ (N0 u2) ∧ (∀ c, c ≠ 172 → u2 c = u c)) := by
  refine CT_of (by decide) (Nat.le_of_ble_eq_true rfl) (fun x hq => ?_)
  show J x yX11_mendAll cX11_mendAll 3 none d 0 0 (Wd u g ex).length 0 [(0, .ref 162), (1, .int set)] [] (Wd u g ex) 0 0
  refine J_iconst (v := 0) dX11_mendAll_0 (by decide) ?_
  refine J_istore_n (i := 2) (lw := [(2, .int 0), (0, .ref 162), (1, .int set)]) dX11_mendAll_1 rfl (by decide) rfl ?_
  have lp49 : ∀ (n50 : Nat) (w30 : Int32) (u31 : Nat → Nat → Int32), Bd 0 9 w30 → (∀ c, c ≠ 172 → u31 c = u c) → AB u31 172 (-1) 999 → DN u31 → N0 u31 → RC u31 → (9 - w30.toInt).toNat < n50 → J x yX11_mendAll cX11_mendAll 3 none d 0 0 (Wd u g ex).length 2 [(0, .ref 162), (1, .int set), (2, .int w30)] [] (Wd u31 g ex) 0 0 := by
    intro n50
    induction n50 with
    | zero => intro w30 u31 bw30 fr32 ab33 rf34 rf35 rf36 hm52; exact absurd hm52 (Nat.not_lt_zero _)
    | succ n50 ih51 =>
      intro w30 u31 bw30 fr32 ab33 rf34 rf35 rf36 hm52
      refine J_iload_n (i := 2) (j := 2) dX11_mendAll_2 rfl rfl ?_
      refine J_aload_n (i := 0) (j := 0) dX11_mendAll_3 rfl rfl ?_
      refine J_get (C := RX11) (T := TX11) (Z := 43) (ci := 11) (f := 22) dX11_mendAll_4 inG11 rfl (by decide) k1286 wc_162 rfl ?_
      refine J_ci (v := u 162 22) (congrFun (fr32 162 (Nat.ne_of_beq_eq_false rfl)) 22) ?_
      refine J_icmp_ge (tgt := 40) dX11_mendAll_7 (by decide) (fun c53 => ?_) (fun c53 => ?_)
      · exact J_vret hq dX11_mendAll_40 rfl wlen (Nat.le_refl _) (Nat.le_refl _) ⟨u31, rfl, rfl, ab33, rf34, rf36, rf35, (fun c k0_ => (fr32 c k0_))⟩
      · refine J_aload_n (i := 0) (j := 0) dX11_mendAll_10 rfl rfl ?_
        refine J_iload_n (i := 2) (j := 2) dX11_mendAll_11 rfl rfl ?_
        refine J_iconst (v := 4) dX11_mendAll_12 (by decide) ?_
        refine J_iload_n (i := 1) (j := 1) dX11_mendAll_13 rfl rfl ?_
        refine J_iload_n (i := 2) (j := 2) dX11_mendAll_14 rfl rfl ?_
        refine J_callS (As := [.int set, .int w30]) (rest := [.int 4, .int w30, .ref 162]) dX11_mendAll_15 (c_M_has (d := 0) (u := u31) (g := g) (ex := ex) (set := set) (k := w30)  (by decide) ) hq.n k1555 k1556 k97 k1557 np_X11_has (Nat.le_trans (by decide) hd) (by decide) (Nat.le_refl _) (Nat.le_refl _) wlen rfl (Nat.le_of_ble_eq_true rfl) (fun r_ h_ p54 => ?_)
        obtain ⟨t55, rfl, rfl⟩ := p54
        have jn59 : ∀ (w58 : Int32), Bd (-1) 999 w58 → J x yX11_mendAll cX11_mendAll 3 none d 0 0 (Wd u g ex).length 31 [(0, .ref 162), (1, .int set), (2, .int w30)] [.int w58, .int 4, .int w30, .ref 162] (Wd u31 g ex) 0 0 := by
          intro w58 bw58
          refine J_callV (As := [.int w30, .int 4, .int w58]) (rest := []) dX11_mendAll_31 (c_M_set (d := 0) (u := u31) (g := g) (ex := ex) (p := w30) (what := 4) (v := w58)  (by decide) (bd_lt_hi bw30 (i_nle c53) hp0) (bd_w (l := 0) (h := 15) (bd_c (v := 4) (lo := 4) (hi := 4) (by decide)) (by decide))) hq.n k1519 k1521 k56 wc_162 rfl rfl k97 k1522 np_X11_set (Nat.le_trans (by decide) hd) (by decide) (Nat.le_refl _) (Nat.le_refl _) wlen rfl (Nat.le_of_ble_eq_true rfl) (fun r_ h_ p60 => ?_)
          obtain ⟨u61, rfl, rfl, h62, fr63⟩ := p60
          refine J_iinc (i := 2) (j := 2) (v := (w30 + 1)) (lw := [(2, .int (w30 + 1)), (0, .ref 162), (1, .int set)]) dX11_mendAll_34 rfl rfl (by decide) rfl ?_
          refine J_goto (tgt := 2) dX11_mendAll_37 (by decide) ?_
          refine J_lv [1, 2, 0] rfl ?_
          exact ih51 (w30 + 1) u61 (bd_w (l := 0) (h := 9) (bd_add (l := 1) (h := 9) (bd_lt_hi bw30 (i_nle c53) hp0) (bd_c (v := 1) (lo := 1) (hi := 1) (by decide)) (by decide)) (by decide)) (fun c k0_ => ((ms_c h62 k0_).trans (fr32 c k0_))) (ab_s h62 ab33 bw58) (dn_s h62 (bd_lt_hi bw30 (i_nle c53) hp0) (by decide) rf34) (n0_s h62 (bd_lt_hi bw30 (i_nle c53) hp0) (bd_w (l := 0) (h := 15) (bd_c (v := 4) (lo := 4) (hi := 4) (by decide)) (by decide)) rf35) (rc_s h62 (bd_lt_hi bw30 (i_nle c53) hp0) (bd_w (l := 0) (h := 15) (bd_c (v := 4) (lo := 4) (hi := 4) (by decide)) (by decide)) rf36) (mu_up 1 bw30 rfl (by decide) (bd_w (l := 1) (h := 9) (bd_add (l := 1) (h := 9) (bd_lt_hi bw30 (i_nle c53) hp0) (bd_c (v := 1) (lo := 1) (hi := 1) (by decide)) (by decide)) (by decide)) hm52)
        refine J_ifB_eq (tgt := 25) dX11_mendAll_18 (by decide) (fun c56 => ?_) (fun c56 => ?_)
        · refine J_aload_n (i := 0) (j := 0) dX11_mendAll_25 rfl rfl ?_
          refine J_get (C := RX11) (T := TX11) (Z := 43) (ci := 11) (f := 35) dX11_mendAll_26 inG11 rfl (by decide) k1299 wc_162 rfl ?_
          refine J_iload_n (i := 2) (j := 2) dX11_mendAll_29 rfl rfl ?_
          refine J_iald dX11_mendAll_30 wc_177 (vin (bd_lt_hi bw30 (i_nle c53) hp0) (by decide)) ?_
          refine J_topi (fun v64 qv64 => ?_)
          refine J_lv [0, 1, 2] rfl ?_
          exact jn59 v64 (bd_r qv64 ((ab_c (fr32 177 (Nat.ne_of_beq_eq_false rfl)) hp2) w30.toNatClampNeg))
        · refine J_iconst (v := 0) dX11_mendAll_21 (by decide) ?_
          refine J_goto (tgt := 31) dX11_mendAll_22 (by decide) ?_
          refine J_lv [0, 1, 2] rfl ?_
          exact jn59 (0 : Int32) (bd_w (l := (-1)) (h := 999) (bd_c (v := 0) (lo := 0) (hi := 0) (by decide)) (by decide))
  refine J_lv [1, 2, 0] rfl ?_
  exact lp49 _ (0 : Int32) u (bd_w (l := 0) (h := 9) (bd_c (v := 0) (lo := 0) (hi := 0) (by decide)) (by decide)) (fun c k0_ => rfl) hp1 hp3 hp5 hp4 (Nat.lt_succ_self _)
set_option maxHeartbeats 4000000 in
set_option maxRecDepth 100000 in
theorem c_M_meanMendedN {d : Nat} {u : Nat → Nat → Int32} {g : Nat → Nat → Int64} {ex : List MC} {set : Int32} {owner : Int32} (hd : 5 ≤ d) (hp0 : Bd 0 9 (u 162 22)) (hp1 : (RC u)) (hp2 : (DN u)) (hp3 : Bd 0 511 (u 162 31)) (hp4 : AB u 172 (-1) 999) (hp5 : AB u 177 (-1) 999) (hp6 : (N0 u)) : CT con0 d 0 0 yX11_meanMended cX11_meanMended 5 (some .long) [.ref 162, .int set, .int owner] (Wd u g ex) (fun r h2 => ∃ (z : Int64) (u2 : Nat → Nat → Int32), r = some (.long z) ∧ h2 = Wd u2 g ex ∧ Bd 0 511 (u2 162 31) ∧ AB u2 172 (-1) 999 ∧ (DN u2) ∧ (RC u2) ∧ (N0 u2) ∧ (∀ c, nin c [(162, 162), (172, 175)] = true → u2 c = u c) ∧ (∀ j, j ≠ 31 → j ≠ 32 → j ≠ 33 → u2 162 j = u 162 j)) := by
  refine CT_of (by decide) (Nat.le_of_ble_eq_true rfl) (fun x hq => ?_)
  show J x yX11_meanMended cX11_meanMended 5 (some .long) d 0 0 (Wd u g ex).length 0 [(0, .ref 162), (1, .int set), (2, .int owner)] [] (Wd u g ex) 0 0
  refine J_aload_n (i := 0) (j := 0) dX11_meanMended_0 rfl rfl ?_
  refine J_iload_n (i := 1) (j := 1) dX11_meanMended_1 rfl rfl ?_
  refine J_callV (As := [.int set]) (rest := []) dX11_meanMended_2 (c_M_mendAllN (d := 1) (u := u) (g := g) (ex := ex) (set := set)  (by decide) hp0 hp4 hp5 hp2 hp1 hp6) hq.n k1631 k1633 k73 wc_162 rfl rfl k97 k1634 np_X11_mendAll (Nat.le_trans (by decide) hd) (by decide) (Nat.le_refl _) (Nat.le_refl _) wlen rfl (Nat.le_of_ble_eq_true rfl) (fun r_ h_ p1 => ?_)
  obtain ⟨u2, rfl, rfl, h3, h4, h5, h6, fr7⟩ := p1
  refine J_aload_n (i := 0) (j := 0) dX11_meanMended_5 rfl rfl ?_
  refine J_iload_n (i := 2) (j := 2) dX11_meanMended_6 rfl rfl ?_
  refine J_callV (As := [.int owner]) (rest := []) dX11_meanMended_7 (c_M_meanBy (d := 4) (u := u2) (g := g) (ex := ex) (owner := owner)  (by decide) (bd_r (congrFun (fr7 162 (Nat.ne_of_beq_eq_false rfl)) 22) hp0) h5 h4 (bd_r (congrFun (fr7 162 (Nat.ne_of_beq_eq_false rfl)) 31) hp3)) hq.n k1596 k1598 k68 wc_162 rfl rfl k97 k1599 np_X11_meanBy (Nat.le_trans (by decide) hd) (by decide) (Nat.le_refl _) (Nat.le_refl _) wlen rfl (Nat.le_of_ble_eq_true rfl) (fun r_ h_ p8 => ?_)
  obtain ⟨l9, u10, rfl, rfl, h11, fr12, fc13⟩ := p8
  refine J_lstore_n (i := 3) (lw := [(3, .long l9), (0, .ref 162), (1, .int set), (2, .int owner)]) dX11_meanMended_10 rfl (by decide) rfl ?_
  refine J_aload_n (i := 0) (j := 1) dX11_meanMended_11 rfl rfl ?_
  refine J_iconst (v := 0) dX11_meanMended_12 (by decide) ?_
  refine J_callV (As := [.int 0]) (rest := []) dX11_meanMended_13 (c_M_mendAllN (d := 1) (u := u10) (g := g) (ex := ex) (set := 0)  (by decide) (bd_r ((fc13 22 (Nat.ne_of_beq_eq_false rfl) (Nat.ne_of_beq_eq_false rfl) (Nat.ne_of_beq_eq_false rfl)).trans (congrFun (fr7 162 (Nat.ne_of_beq_eq_false rfl)) 22)) hp0) (ab_c (fr12 172 rfl) h3) (ab_c ((fr12 177 rfl).trans (fr7 177 (Nat.ne_of_beq_eq_false rfl))) hp5) (dn_c (fr12 172 rfl) h4) (rc_c (fr12 172 rfl) h5) (n0_c (fr12 172 rfl) h6)) hq.n k1631 k1633 k73 wc_162 rfl rfl k97 k1634 np_X11_mendAll (Nat.le_trans (by decide) hd) (by decide) (Nat.le_refl _) (Nat.le_refl _) wlen rfl (Nat.le_of_ble_eq_true rfl) (fun r_ h_ p14 => ?_)
  obtain ⟨u15, rfl, rfl, h16, h17, h18, h19, fr20⟩ := p14
  refine J_lload_n (i := 3) (j := 0) dX11_meanMended_16 rfl rfl ?_
  exact J_lret hq dX11_meanMended_17 rfl wlen (Nat.le_refl _) (Nat.le_refl _) ⟨l9, u15, rfl, rfl, (bd_r (congrFun (fr20 162 (Nat.ne_of_beq_eq_false rfl)) 31) h11), h16, h17, h18, h19, (fun c k_ => ((fr20 c (nin_ne (a := 172) k_ rfl)).trans ((fr12 c (nin_sub (M := [(162, 162), (173, 175)]) k_ rfl)).trans (fr7 c (nin_ne (a := 172) k_ rfl))))), (fun j k31_ k32_ k33_ => ((congrFun (fr20 162 (Nat.ne_of_beq_eq_false rfl)) j).trans ((fc13 j k31_ k32_ k33_).trans (congrFun (fr7 162 (Nat.ne_of_beq_eq_false rfl)) j))))⟩
set_option maxHeartbeats 4000000 in
set_option maxRecDepth 100000 in
theorem c_M_pond {d : Nat} {u : Nat → Nat → Int32} {g : Nat → Nat → Int64} {ex : List MC} {hill : Int32} {plan : Int32} {pond : Int32} {what : Int32} (hd : 3 ≤ d) (hp0 : (MY u)) (hp1 : AB u 168 (-1) 999) (hp2 : (HD u)) (hp3 : (HC u)) (hp4 : (PL u)) (hp5 : (N0 u)) (hp6 : (DN u)) (hp7 : Bd 0 9 (u 162 22)) (hp8 : Bd 0 511 (u 162 31)) (hp9 : AB u 177 (-1) 999) : CT con0 d 0 0 yX11_pond cX11_pond 5 (some .int) [.ref 162, .int hill, .int plan, .int pond, .int what] (Wd u g ex) (fun r h2 => ∃ (z : Int32) (u2 : Nat → Nat → Int32), r = some (.int z) ∧ h2 = Wd u2 g ex ∧ Bd 0 9 (u2 162 22) ∧ (DN u2) ∧ (N0 u2) ∧ Bd 0 511 (u2 162 31) ∧ (∀ c, nin c [(162, 162), (172, 175)] = true → u2 c = u c) ∧ (∀ j, j ≠ 0 → j ≠ 22 → j ≠ 23 → j ≠ 24 → j ≠ 25 → j ≠ 26 → j ≠ 27 → j ≠ 31 → j ≠ 32 → j ≠ 33 → u2 162 j = u 162 j)) := by
  refine CT_of (by decide) (Nat.le_of_ble_eq_true rfl) (fun x hq => ?_)
  show J x yX11_pond cX11_pond 5 (some .int) d 0 0 (Wd u g ex).length 0 [(0, .ref 162), (1, .int hill), (2, .int plan), (3, .int pond), (4, .int what)] [] (Wd u g ex) 0 0
  refine J_aload_n (i := 0) (j := 0) dX11_pond_0 rfl rfl ?_
  refine J_iconst (v := 0) dX11_pond_1 (by decide) ?_
  obtain ⟨u1, e2⟩ : ∃ z, z = ms u 162 0 0 := ⟨_, rfl⟩
  refine J_put (C := RX11) (T := TX11) (Z := 43) (ci := 11) (f := 0) (ty0 := tyX11) dX11_pond_2 inG11 rfl tyX11_ok nmX11 (by decide) k1264 rfl rfl wc_162 (Nat.le_of_ble_eq_true rfl) (fun _ _ => ⟨rfl, rfl⟩) (ws e2 wk_162 rfl) ?_
  refine J_aload_n (i := 0) (j := 0) dX11_pond_5 rfl rfl ?_
  refine J_iload_n (i := 1) (j := 1) dX11_pond_6 rfl rfl ?_
  refine J_iload_n (i := 2) (j := 2) dX11_pond_7 rfl rfl ?_
  refine J_callV (As := [.int hill, .int plan]) (rest := []) dX11_pond_8 (c_M_lay (d := 2) (u := u1) (g := g) (ex := ex) (h := hill) (plan := plan)  (by decide) (my_c (ms_c e2 (Nat.ne_of_beq_eq_false rfl)) hp0) (ab_c (ms_c e2 (Nat.ne_of_beq_eq_false rfl)) hp1) (hd_c (ms_c e2 (Nat.ne_of_beq_eq_false rfl)) hp2) (hc_c (ms_c e2 (Nat.ne_of_beq_eq_false rfl)) (ms_c e2 (Nat.ne_of_beq_eq_false rfl)) hp3) (pl_c (ms_c e2 (Nat.ne_of_beq_eq_false rfl)) hp4) (n0_c (ms_c e2 (Nat.ne_of_beq_eq_false rfl)) hp5) (dn_c (ms_c e2 (Nat.ne_of_beq_eq_false rfl)) hp6) (bd_r (ms_i e2 (Nat.ne_of_beq_eq_false rfl)) hp7)) hq.n k1503 k1505 k52 wc_162 rfl rfl k97 k1506 np_X11_lay (Nat.le_trans (by decide) hd) (by decide) (Nat.le_refl _) (Nat.le_refl _) wlen rfl (Nat.le_of_ble_eq_true rfl) (fun r_ h_ p3 => ?_)
  obtain ⟨t4, u5, rfl, rfl, h6, h7, h8, h9, fr10, fc11⟩ := p3
  refine J_ifB_eq (tgt := 43) dX11_pond_11 (by decide) (fun c12 => ?_) (fun c12 => ?_)
  · refine J_bipush (v := (-2)) dX11_pond_43 (by decide) ?_
    exact J_iret hq dX11_pond_45 rfl wlen (Nat.le_refl _) (Nat.le_refl _) ⟨((-2) : Int32), u5, rfl, rfl, h6, h7, h8, (bd_r ((fc11 31 (Nat.ne_of_beq_eq_false rfl) (Nat.ne_of_beq_eq_false rfl) (Nat.ne_of_beq_eq_false rfl) (Nat.ne_of_beq_eq_false rfl) (Nat.ne_of_beq_eq_false rfl) (Nat.ne_of_beq_eq_false rfl)).trans (ms_i e2 (Nat.ne_of_beq_eq_false rfl))) hp8), (fun c k_ => ((fr10 c (nin_ne (a := 162) k_ rfl) (nin_ne (a := 172) k_ rfl)).trans (ms_c e2 (nin_ne (a := 162) k_ rfl)))), (fun j k0_ k22_ k23_ k24_ k25_ k26_ k27_ k31_ k32_ k33_ => ((fc11 j k22_ k23_ k24_ k25_ k26_ k27_).trans (ms_i e2 k0_)))⟩
  · refine J_aload_n (i := 0) (j := 0) dX11_pond_14 rfl rfl ?_
    refine J_iload_n (i := 3) (j := 3) dX11_pond_15 rfl rfl ?_
    refine J_callV (As := [.int pond]) (rest := []) dX11_pond_16 (c_M_isPond (d := 1) (u := u5) (g := g) (ex := ex) (p := pond)  (by decide) h6) hq.n k1523 k1525 k57 wc_162 rfl rfl k97 k1526 np_X11_isPond (Nat.le_trans (by decide) hd) (by decide) (Nat.le_refl _) (Nat.le_refl _) wlen rfl (Nat.le_of_ble_eq_true rfl) (fun r_ h_ p13 => ?_)
    obtain ⟨t14, rfl, rfl, h15⟩ := p13
    refine J_ifB_eq (tgt := 43) dX11_pond_19 (by decide) (fun c16 => ?_) (fun c16 => ?_)
    · refine J_bipush (v := (-2)) dX11_pond_43 (by decide) ?_
      exact J_iret hq dX11_pond_45 rfl wlen (Nat.le_refl _) (Nat.le_refl _) ⟨((-2) : Int32), u5, rfl, rfl, h6, h7, h8, (bd_r ((fc11 31 (Nat.ne_of_beq_eq_false rfl) (Nat.ne_of_beq_eq_false rfl) (Nat.ne_of_beq_eq_false rfl) (Nat.ne_of_beq_eq_false rfl) (Nat.ne_of_beq_eq_false rfl) (Nat.ne_of_beq_eq_false rfl)).trans (ms_i e2 (Nat.ne_of_beq_eq_false rfl))) hp8), (fun c k_ => ((fr10 c (nin_ne (a := 162) k_ rfl) (nin_ne (a := 172) k_ rfl)).trans (ms_c e2 (nin_ne (a := 162) k_ rfl)))), (fun j k0_ k22_ k23_ k24_ k25_ k26_ k27_ k31_ k32_ k33_ => ((fc11 j k22_ k23_ k24_ k25_ k26_ k27_).trans (ms_i e2 k0_)))⟩
    · refine J_iload (i := 4) (j := 4) dX11_pond_22 rfl ?_
      refine J_iconst (v := 0) dX11_pond_24 (by decide) ?_
      refine J_bipush (v := 15) dX11_pond_25 (by decide) ?_
      refine J_callS (As := [.int what, .int 0, .int 15]) (rest := []) dX11_pond_27 (c_M_in (d := 0) (u := u5) (g := g) (ex := ex) (v := what) (low := 0) (high := 15)  (by decide) ) hq.n k1406 k1407 k97 k1408 np_X11_in (Nat.le_trans (by decide) hd) (by decide) (Nat.le_refl _) (Nat.le_refl _) wlen rfl (Nat.le_of_ble_eq_true rfl) (fun r_ h_ p17 => ?_)
      obtain ⟨t18, rfl, rfl, h19, h20⟩ := p17
      refine J_ifB_eq (tgt := 43) dX11_pond_30 (by decide) (fun c21 => ?_) (fun c21 => ?_)
      · refine J_bipush (v := (-2)) dX11_pond_43 (by decide) ?_
        exact J_iret hq dX11_pond_45 rfl wlen (Nat.le_refl _) (Nat.le_refl _) ⟨((-2) : Int32), u5, rfl, rfl, h6, h7, h8, (bd_r ((fc11 31 (Nat.ne_of_beq_eq_false rfl) (Nat.ne_of_beq_eq_false rfl) (Nat.ne_of_beq_eq_false rfl) (Nat.ne_of_beq_eq_false rfl) (Nat.ne_of_beq_eq_false rfl) (Nat.ne_of_beq_eq_false rfl)).trans (ms_i e2 (Nat.ne_of_beq_eq_false rfl))) hp8), (fun c k_ => ((fr10 c (nin_ne (a := 162) k_ rfl) (nin_ne (a := 172) k_ rfl)).trans (ms_c e2 (nin_ne (a := 162) k_ rfl)))), (fun j k0_ k22_ k23_ k24_ k25_ k26_ k27_ k31_ k32_ k33_ => ((fc11 j k22_ k23_ k24_ k25_ k26_ k27_).trans (ms_i e2 k0_)))⟩
      · refine J_aload_n (i := 0) (j := 0) dX11_pond_33 rfl rfl ?_
        refine J_iload_n (i := 3) (j := 3) dX11_pond_34 rfl rfl ?_
        refine J_iload (i := 4) (j := 4) dX11_pond_35 rfl ?_
        refine J_callV (As := [.int pond, .int what]) (rest := []) dX11_pond_37 (c_M_of (d := 0) (u := u5) (g := g) (ex := ex) (p := pond) (what := what)  (by decide) (h15 c16) (bd_le_hi (bd_le_lo (bd_any what) (h19 c21) (bd_c (v := 0) (lo := 0) (hi := 0) (by decide))) (h20 c21) (bd_c (v := 15) (lo := 15) (hi := 15) (by decide)))) hq.n k1515 k1517 k55 wc_162 rfl rfl k97 k1518 np_X11_of (Nat.le_trans (by decide) hd) (by decide) (Nat.le_refl _) (Nat.le_refl _) wlen rfl (Nat.le_of_ble_eq_true rfl) (fun r_ h_ p22 => ?_)
        obtain ⟨rfl, rfl⟩ := p22
        refine J_goto (tgt := 45) dX11_pond_40 (by decide) ?_
        exact J_iret hq dX11_pond_45 rfl wlen (Nat.le_refl _) (Nat.le_refl _) ⟨(mof u5 pond what), u5, rfl, rfl, h6, h7, h8, (bd_r ((fc11 31 (Nat.ne_of_beq_eq_false rfl) (Nat.ne_of_beq_eq_false rfl) (Nat.ne_of_beq_eq_false rfl) (Nat.ne_of_beq_eq_false rfl) (Nat.ne_of_beq_eq_false rfl) (Nat.ne_of_beq_eq_false rfl)).trans (ms_i e2 (Nat.ne_of_beq_eq_false rfl))) hp8), (fun c k_ => ((fr10 c (nin_ne (a := 162) k_ rfl) (nin_ne (a := 172) k_ rfl)).trans (ms_c e2 (nin_ne (a := 162) k_ rfl)))), (fun j k0_ k22_ k23_ k24_ k25_ k26_ k27_ k31_ k32_ k33_ => ((fc11 j k22_ k23_ k24_ k25_ k26_ k27_).trans (ms_i e2 k0_)))⟩
set_option maxHeartbeats 4000000 in
set_option maxRecDepth 100000 in
theorem c_M_plan {d : Nat} {u : Nat → Nat → Int32} {g : Nat → Nat → Int64} {ex : List MC} {hill : Int32} {plan : Int32} {what : Int32} (hd : 3 ≤ d) (hp0 : (MY u)) (hp1 : AB u 168 (-1) 999) (hp2 : (HD u)) (hp3 : (HC u)) (hp4 : (PL u)) (hp5 : (N0 u)) (hp6 : (DN u)) (hp7 : Bd 0 9 (u 162 22)) (hp8 : Bd 0 511 (u 162 31)) (hp9 : AB u 177 (-1) 999) : CT con0 d 0 0 yX11_plan cX11_plan 4 (some .int) [.ref 162, .int hill, .int plan, .int what] (Wd u g ex) (fun r h2 => ∃ (z : Int32) (u2 : Nat → Nat → Int32), r = some (.int z) ∧ h2 = Wd u2 g ex ∧ Bd 0 9 (u2 162 22) ∧ (DN u2) ∧ (N0 u2) ∧ Bd 0 511 (u2 162 31) ∧ (∀ c, nin c [(162, 162), (172, 175)] = true → u2 c = u c) ∧ (∀ j, j ≠ 0 → j ≠ 22 → j ≠ 23 → j ≠ 24 → j ≠ 25 → j ≠ 26 → j ≠ 27 → j ≠ 31 → j ≠ 32 → j ≠ 33 → u2 162 j = u 162 j)) := by
  refine CT_of (by decide) (Nat.le_of_ble_eq_true rfl) (fun x hq => ?_)
  show J x yX11_plan cX11_plan 4 (some .int) d 0 0 (Wd u g ex).length 0 [(0, .ref 162), (1, .int hill), (2, .int plan), (3, .int what)] [] (Wd u g ex) 0 0
  refine J_aload_n (i := 0) (j := 0) dX11_plan_0 rfl rfl ?_
  refine J_iconst (v := 0) dX11_plan_1 (by decide) ?_
  obtain ⟨u1, e2⟩ : ∃ z, z = ms u 162 0 0 := ⟨_, rfl⟩
  refine J_put (C := RX11) (T := TX11) (Z := 43) (ci := 11) (f := 0) (ty0 := tyX11) dX11_plan_2 inG11 rfl tyX11_ok nmX11 (by decide) k1264 rfl rfl wc_162 (Nat.le_of_ble_eq_true rfl) (fun _ _ => ⟨rfl, rfl⟩) (ws e2 wk_162 rfl) ?_
  refine J_aload_n (i := 0) (j := 0) dX11_plan_5 rfl rfl ?_
  refine J_iload_n (i := 2) (j := 2) dX11_plan_6 rfl rfl ?_
  refine J_callV (As := [.int plan]) (rest := []) dX11_plan_7 (c_M_isPlan (d := 1) (u := u1) (g := g) (ex := ex) (p := plan)  (by decide) (bd_r (congrFun (ms_c e2 (Nat.ne_of_beq_eq_false rfl)) 1) (hp0 0 (by decide)).2)) hq.n k1507 k1509 k53 wc_162 rfl rfl k97 k1510 np_X11_isPlan (Nat.le_trans (by decide) hd) (by decide) (Nat.le_refl _) (Nat.le_refl _) wlen rfl (Nat.le_of_ble_eq_true rfl) (fun r_ h_ p3 => ?_)
  obtain ⟨t4, rfl, rfl, h5⟩ := p3
  refine J_ifB_eq (tgt := 22) dX11_plan_10 (by decide) (fun c6 => ?_) (fun c6 => ?_)
  · refine J_iconst (v := (-1)) dX11_plan_22 (by decide) ?_
    exact J_iret hq dX11_plan_23 rfl wlen (Nat.le_refl _) (Nat.le_refl _) ⟨((-1) : Int32), u1, rfl, rfl, (bd_r (ms_i e2 (Nat.ne_of_beq_eq_false rfl)) hp7), (dn_c (ms_c e2 (Nat.ne_of_beq_eq_false rfl)) hp6), (n0_c (ms_c e2 (Nat.ne_of_beq_eq_false rfl)) hp5), (bd_r (ms_i e2 (Nat.ne_of_beq_eq_false rfl)) hp8), (fun c k_ => (ms_c e2 (nin_ne (a := 162) k_ rfl))), (fun j k0_ k22_ k23_ k24_ k25_ k26_ k27_ k31_ k32_ k33_ => (ms_i e2 k0_))⟩
  · refine J_aload_n (i := 0) (j := 0) dX11_plan_13 rfl rfl ?_
    refine J_iload_n (i := 1) (j := 1) dX11_plan_14 rfl rfl ?_
    refine J_iload_n (i := 2) (j := 2) dX11_plan_15 rfl rfl ?_
    refine J_callV (As := [.int hill, .int plan]) (rest := []) dX11_plan_16 (c_M_lay (d := 2) (u := u1) (g := g) (ex := ex) (h := hill) (plan := plan)  (by decide) (my_c (ms_c e2 (Nat.ne_of_beq_eq_false rfl)) hp0) (ab_c (ms_c e2 (Nat.ne_of_beq_eq_false rfl)) hp1) (hd_c (ms_c e2 (Nat.ne_of_beq_eq_false rfl)) hp2) (hc_c (ms_c e2 (Nat.ne_of_beq_eq_false rfl)) (ms_c e2 (Nat.ne_of_beq_eq_false rfl)) hp3) (pl_c (ms_c e2 (Nat.ne_of_beq_eq_false rfl)) hp4) (n0_c (ms_c e2 (Nat.ne_of_beq_eq_false rfl)) hp5) (dn_c (ms_c e2 (Nat.ne_of_beq_eq_false rfl)) hp6) (bd_r (ms_i e2 (Nat.ne_of_beq_eq_false rfl)) hp7)) hq.n k1503 k1505 k52 wc_162 rfl rfl k97 k1506 np_X11_lay (Nat.le_trans (by decide) hd) (by decide) (Nat.le_refl _) (Nat.le_refl _) wlen rfl (Nat.le_of_ble_eq_true rfl) (fun r_ h_ p7 => ?_)
    obtain ⟨t8, u9, rfl, rfl, h10, h11, h12, h13, fr14, fc15⟩ := p7
    refine J_ifB_ne (tgt := 24) dX11_plan_19 (by decide) (fun c16 => ?_) (fun c16 => ?_)
    · refine J_iload_n (i := 3) (j := 3) dX11_plan_24 rfl rfl ?_
      refine J_if_ne (tgt := 35) dX11_plan_25 (by decide) (fun c17 => ?_) (fun c17 => ?_)
      · refine J_iload_n (i := 3) (j := 3) dX11_plan_35 rfl rfl ?_
        refine J_iconst (v := 1) dX11_plan_36 (by decide) ?_
        refine J_icmp_ne (tgt := 47) dX11_plan_37 (by decide) (fun c18 => ?_) (fun c18 => ?_)
        · refine J_iload_n (i := 3) (j := 3) dX11_plan_47 rfl rfl ?_
          refine J_iconst (v := 2) dX11_plan_48 (by decide) ?_
          refine J_icmp_ne (tgt := 59) dX11_plan_49 (by decide) (fun c19 => ?_) (fun c19 => ?_)
          · refine J_iconst (v := (-1)) dX11_plan_59 (by decide) ?_
            exact J_iret hq dX11_plan_60 rfl wlen (Nat.le_refl _) (Nat.le_refl _) ⟨((-1) : Int32), u9, rfl, rfl, h10, h11, h12, (bd_r ((fc15 31 (Nat.ne_of_beq_eq_false rfl) (Nat.ne_of_beq_eq_false rfl) (Nat.ne_of_beq_eq_false rfl) (Nat.ne_of_beq_eq_false rfl) (Nat.ne_of_beq_eq_false rfl) (Nat.ne_of_beq_eq_false rfl)).trans (ms_i e2 (Nat.ne_of_beq_eq_false rfl))) hp8), (fun c k_ => ((fr14 c (nin_ne (a := 162) k_ rfl) (nin_ne (a := 172) k_ rfl)).trans (ms_c e2 (nin_ne (a := 162) k_ rfl)))), (fun j k0_ k22_ k23_ k24_ k25_ k26_ k27_ k31_ k32_ k33_ => ((fc15 j k22_ k23_ k24_ k25_ k26_ k27_).trans (ms_i e2 k0_)))⟩
          · refine J_aload_n (i := 0) (j := 0) dX11_plan_52 rfl rfl ?_
            refine J_get (C := RX11) (T := TX11) (Z := 43) (ci := 11) (f := 25) dX11_plan_53 inG11 rfl (by decide) k1289 wc_162 rfl ?_
            refine J_goto (tgt := 60) dX11_plan_56 (by decide) ?_
            exact J_iret hq dX11_plan_60 rfl wlen (Nat.le_refl _) (Nat.le_refl _) ⟨(u9 162 25), u9, rfl, rfl, h10, h11, h12, (bd_r ((fc15 31 (Nat.ne_of_beq_eq_false rfl) (Nat.ne_of_beq_eq_false rfl) (Nat.ne_of_beq_eq_false rfl) (Nat.ne_of_beq_eq_false rfl) (Nat.ne_of_beq_eq_false rfl) (Nat.ne_of_beq_eq_false rfl)).trans (ms_i e2 (Nat.ne_of_beq_eq_false rfl))) hp8), (fun c k_ => ((fr14 c (nin_ne (a := 162) k_ rfl) (nin_ne (a := 172) k_ rfl)).trans (ms_c e2 (nin_ne (a := 162) k_ rfl)))), (fun j k0_ k22_ k23_ k24_ k25_ k26_ k27_ k31_ k32_ k33_ => ((fc15 j k22_ k23_ k24_ k25_ k26_ k27_).trans (ms_i e2 k0_)))⟩
        · refine J_aload_n (i := 0) (j := 0) dX11_plan_40 rfl rfl ?_
          refine J_get (C := RX11) (T := TX11) (Z := 43) (ci := 11) (f := 24) dX11_plan_41 inG11 rfl (by decide) k1288 wc_162 rfl ?_
          refine J_goto (tgt := 60) dX11_plan_44 (by decide) ?_
          exact J_iret hq dX11_plan_60 rfl wlen (Nat.le_refl _) (Nat.le_refl _) ⟨(u9 162 24), u9, rfl, rfl, h10, h11, h12, (bd_r ((fc15 31 (Nat.ne_of_beq_eq_false rfl) (Nat.ne_of_beq_eq_false rfl) (Nat.ne_of_beq_eq_false rfl) (Nat.ne_of_beq_eq_false rfl) (Nat.ne_of_beq_eq_false rfl) (Nat.ne_of_beq_eq_false rfl)).trans (ms_i e2 (Nat.ne_of_beq_eq_false rfl))) hp8), (fun c k_ => ((fr14 c (nin_ne (a := 162) k_ rfl) (nin_ne (a := 172) k_ rfl)).trans (ms_c e2 (nin_ne (a := 162) k_ rfl)))), (fun j k0_ k22_ k23_ k24_ k25_ k26_ k27_ k31_ k32_ k33_ => ((fc15 j k22_ k23_ k24_ k25_ k26_ k27_).trans (ms_i e2 k0_)))⟩
      · refine J_aload_n (i := 0) (j := 0) dX11_plan_28 rfl rfl ?_
        refine J_get (C := RX11) (T := TX11) (Z := 43) (ci := 11) (f := 23) dX11_plan_29 inG11 rfl (by decide) k1287 wc_162 rfl ?_
        refine J_goto (tgt := 60) dX11_plan_32 (by decide) ?_
        exact J_iret hq dX11_plan_60 rfl wlen (Nat.le_refl _) (Nat.le_refl _) ⟨(u9 162 23), u9, rfl, rfl, h10, h11, h12, (bd_r ((fc15 31 (Nat.ne_of_beq_eq_false rfl) (Nat.ne_of_beq_eq_false rfl) (Nat.ne_of_beq_eq_false rfl) (Nat.ne_of_beq_eq_false rfl) (Nat.ne_of_beq_eq_false rfl) (Nat.ne_of_beq_eq_false rfl)).trans (ms_i e2 (Nat.ne_of_beq_eq_false rfl))) hp8), (fun c k_ => ((fr14 c (nin_ne (a := 162) k_ rfl) (nin_ne (a := 172) k_ rfl)).trans (ms_c e2 (nin_ne (a := 162) k_ rfl)))), (fun j k0_ k22_ k23_ k24_ k25_ k26_ k27_ k31_ k32_ k33_ => ((fc15 j k22_ k23_ k24_ k25_ k26_ k27_).trans (ms_i e2 k0_)))⟩
    · refine J_iconst (v := (-1)) dX11_plan_22 (by decide) ?_
      exact J_iret hq dX11_plan_23 rfl wlen (Nat.le_refl _) (Nat.le_refl _) ⟨((-1) : Int32), u9, rfl, rfl, h10, h11, h12, (bd_r ((fc15 31 (Nat.ne_of_beq_eq_false rfl) (Nat.ne_of_beq_eq_false rfl) (Nat.ne_of_beq_eq_false rfl) (Nat.ne_of_beq_eq_false rfl) (Nat.ne_of_beq_eq_false rfl) (Nat.ne_of_beq_eq_false rfl)).trans (ms_i e2 (Nat.ne_of_beq_eq_false rfl))) hp8), (fun c k_ => ((fr14 c (nin_ne (a := 162) k_ rfl) (nin_ne (a := 172) k_ rfl)).trans (ms_c e2 (nin_ne (a := 162) k_ rfl)))), (fun j k0_ k22_ k23_ k24_ k25_ k26_ k27_ k31_ k32_ k33_ => ((fc15 j k22_ k23_ k24_ k25_ k26_ k27_).trans (ms_i e2 k0_)))⟩
set_option maxHeartbeats 4000000 in
set_option maxRecDepth 100000 in
theorem c_M_storm {d : Nat} {u : Nat → Nat → Int32} {g : Nat → Nat → Int64} {ex : List MC} {hill : Int32} {plan : Int32} {rain : Int32} {banks : Int32} {what : Int32} (hd : 4 ≤ d) (hp0 : (MY u)) (hp1 : AB u 168 (-1) 999) (hp2 : (HD u)) (hp3 : (HC u)) (hp4 : (PL u)) (hp5 : (N0 u)) (hp6 : (DN u)) (hp7 : Bd 0 9 (u 162 22)) (hp8 : Bd 0 511 (u 162 31)) (hp9 : AB u 177 (-1) 999) : CT con0 d 0 0 yX11_storm cX11_storm 6 (some .int) [.ref 162, .int hill, .int plan, .int rain, .int banks, .int what] (Wd u g ex) (fun r h2 => ∃ (z : Int32) (u2 : Nat → Nat → Int32), r = some (.int z) ∧ h2 = Wd u2 g ex ∧ Bd 0 9 (u2 162 22) ∧ (DN u2) ∧ (N0 u2) ∧ Bd 0 511 (u2 162 31) ∧ (∀ c, nin c [(162, 162), (172, 175)] = true → u2 c = u c) ∧ (∀ j, j ≠ 0 → j ≠ 22 → j ≠ 23 → j ≠ 24 → j ≠ 25 → j ≠ 26 → j ≠ 27 → j ≠ 31 → j ≠ 32 → j ≠ 33 → u2 162 j = u 162 j)) := by
  refine CT_of (by decide) (Nat.le_of_ble_eq_true rfl) (fun x hq => ?_)
  show J x yX11_storm cX11_storm 6 (some .int) d 0 0 (Wd u g ex).length 0 [(0, .ref 162), (1, .int hill), (2, .int plan), (3, .int rain), (4, .int banks), (5, .int what)] [] (Wd u g ex) 0 0
  refine J_aload_n (i := 0) (j := 0) dX11_storm_0 rfl rfl ?_
  refine J_iconst (v := 0) dX11_storm_1 (by decide) ?_
  obtain ⟨u1, e2⟩ : ∃ z, z = ms u 162 0 0 := ⟨_, rfl⟩
  refine J_put (C := RX11) (T := TX11) (Z := 43) (ci := 11) (f := 0) (ty0 := tyX11) dX11_storm_2 inG11 rfl tyX11_ok nmX11 (by decide) k1264 rfl rfl wc_162 (Nat.le_of_ble_eq_true rfl) (fun _ _ => ⟨rfl, rfl⟩) (ws e2 wk_162 rfl) ?_
  refine J_aload_n (i := 0) (j := 0) dX11_storm_5 rfl rfl ?_
  refine J_iload_n (i := 1) (j := 1) dX11_storm_6 rfl rfl ?_
  refine J_iload_n (i := 2) (j := 2) dX11_storm_7 rfl rfl ?_
  refine J_callV (As := [.int hill, .int plan]) (rest := []) dX11_storm_8 (c_M_lay (d := 2) (u := u1) (g := g) (ex := ex) (h := hill) (plan := plan)  (by decide) (my_c (ms_c e2 (Nat.ne_of_beq_eq_false rfl)) hp0) (ab_c (ms_c e2 (Nat.ne_of_beq_eq_false rfl)) hp1) (hd_c (ms_c e2 (Nat.ne_of_beq_eq_false rfl)) hp2) (hc_c (ms_c e2 (Nat.ne_of_beq_eq_false rfl)) (ms_c e2 (Nat.ne_of_beq_eq_false rfl)) hp3) (pl_c (ms_c e2 (Nat.ne_of_beq_eq_false rfl)) hp4) (n0_c (ms_c e2 (Nat.ne_of_beq_eq_false rfl)) hp5) (dn_c (ms_c e2 (Nat.ne_of_beq_eq_false rfl)) hp6) (bd_r (ms_i e2 (Nat.ne_of_beq_eq_false rfl)) hp7)) hq.n k1503 k1505 k52 wc_162 rfl rfl k97 k1506 np_X11_lay (Nat.le_trans (by decide) hd) (by decide) (Nat.le_refl _) (Nat.le_refl _) wlen rfl (Nat.le_of_ble_eq_true rfl) (fun r_ h_ p3 => ?_)
  obtain ⟨t4, u5, rfl, rfl, h6, h7, h8, h9, fr10, fc11⟩ := p3
  refine J_ifB_eq (tgt := 31) dX11_storm_11 (by decide) (fun c12 => ?_) (fun c12 => ?_)
  · refine J_iconst (v := (-1)) dX11_storm_31 (by decide) ?_
    exact J_iret hq dX11_storm_32 rfl wlen (Nat.le_refl _) (Nat.le_refl _) ⟨((-1) : Int32), u5, rfl, rfl, h6, h7, h8, (bd_r ((fc11 31 (Nat.ne_of_beq_eq_false rfl) (Nat.ne_of_beq_eq_false rfl) (Nat.ne_of_beq_eq_false rfl) (Nat.ne_of_beq_eq_false rfl) (Nat.ne_of_beq_eq_false rfl) (Nat.ne_of_beq_eq_false rfl)).trans (ms_i e2 (Nat.ne_of_beq_eq_false rfl))) hp8), (fun c k_ => ((fr10 c (nin_ne (a := 162) k_ rfl) (nin_ne (a := 172) k_ rfl)).trans (ms_c e2 (nin_ne (a := 162) k_ rfl)))), (fun j k0_ k22_ k23_ k24_ k25_ k26_ k27_ k31_ k32_ k33_ => ((fc11 j k22_ k23_ k24_ k25_ k26_ k27_).trans (ms_i e2 k0_)))⟩
  · refine J_aload_n (i := 0) (j := 0) dX11_storm_14 rfl rfl ?_
    refine J_iload_n (i := 3) (j := 3) dX11_storm_15 rfl rfl ?_
    refine J_callV (As := [.int rain]) (rest := []) dX11_storm_16 (c_M_isRain (d := 1) (u := u5) (g := g) (ex := ex) (rr := rain)  (by decide) (h9 c12).1) hq.n k1539 k1541 k58 wc_162 rfl rfl k97 k1542 np_X11_isRain (Nat.le_trans (by decide) hd) (by decide) (Nat.le_refl _) (Nat.le_refl _) wlen rfl (Nat.le_of_ble_eq_true rfl) (fun r_ h_ p13 => ?_)
    obtain ⟨t14, rfl, rfl, h15⟩ := p13
    refine J_ifB_eq (tgt := 31) dX11_storm_19 (by decide) (fun c16 => ?_) (fun c16 => ?_)
    · refine J_iconst (v := (-1)) dX11_storm_31 (by decide) ?_
      exact J_iret hq dX11_storm_32 rfl wlen (Nat.le_refl _) (Nat.le_refl _) ⟨((-1) : Int32), u5, rfl, rfl, h6, h7, h8, (bd_r ((fc11 31 (Nat.ne_of_beq_eq_false rfl) (Nat.ne_of_beq_eq_false rfl) (Nat.ne_of_beq_eq_false rfl) (Nat.ne_of_beq_eq_false rfl) (Nat.ne_of_beq_eq_false rfl) (Nat.ne_of_beq_eq_false rfl)).trans (ms_i e2 (Nat.ne_of_beq_eq_false rfl))) hp8), (fun c k_ => ((fr10 c (nin_ne (a := 162) k_ rfl) (nin_ne (a := 172) k_ rfl)).trans (ms_c e2 (nin_ne (a := 162) k_ rfl)))), (fun j k0_ k22_ k23_ k24_ k25_ k26_ k27_ k31_ k32_ k33_ => ((fc11 j k22_ k23_ k24_ k25_ k26_ k27_).trans (ms_i e2 k0_)))⟩
    · refine J_aload_n (i := 0) (j := 0) dX11_storm_22 rfl rfl ?_
      refine J_iload (i := 4) (j := 4) dX11_storm_23 rfl ?_
      refine J_callV (As := [.int banks]) (rest := []) dX11_storm_25 (c_M_arePonds (d := 0) (u := u5) (g := g) (ex := ex) (set := banks)  (by decide) h6) hq.n k1543 k1545 k59 wc_162 rfl rfl k97 k1546 np_X11_arePonds (Nat.le_trans (by decide) hd) (by decide) (Nat.le_refl _) (Nat.le_refl _) wlen rfl (Nat.le_of_ble_eq_true rfl) (fun r_ h_ p17 => ?_)
      obtain ⟨t18, rfl, rfl, h19⟩ := p17
      refine J_ifB_ne (tgt := 33) dX11_storm_28 (by decide) (fun c20 => ?_) (fun c20 => ?_)
      · refine J_aload_n (i := 0) (j := 0) dX11_storm_33 rfl rfl ?_
        refine J_aload_n (i := 0) (j := 0) dX11_storm_34 rfl rfl ?_
        refine J_iload_n (i := 3) (j := 3) dX11_storm_35 rfl rfl ?_
        refine J_callV (As := [.int rain]) (rest := [.ref 162]) dX11_storm_36 (c_M_stepsOf (d := 0) (u := u5) (g := g) (ex := ex) (rain := rain)  (by decide) (bd_w (l := 0) (h := 75) (h15 c16) (by decide))) hq.n k1547 k1549 k60 wc_162 rfl rfl k97 k1550 np_X11_stepsOf (Nat.le_trans (by decide) hd) (by decide) (Nat.le_refl _) (Nat.le_refl _) wlen rfl (Nat.le_of_ble_eq_true rfl) (fun r_ h_ p21 => ?_)
        obtain ⟨v22, rfl, rfl⟩ := p21
        refine J_iload (i := 4) (j := 4) dX11_storm_39 rfl ?_
        refine J_callV (As := [.int v22, .int banks]) (rest := []) dX11_storm_41 (c_M_blow (d := 3) (u := u5) (g := g) (ex := ex) (steps := v22) (banks := banks)  (by decide) h6 h7) hq.n k1551 k1553 k61 wc_162 rfl rfl k97 k1554 np_X11_blow (Nat.le_trans (by decide) hd) (by decide) (Nat.le_refl _) (Nat.le_refl _) wlen rfl (Nat.le_of_ble_eq_true rfl) (fun r_ h_ p23 => ?_)
        obtain ⟨u24, rfl, rfl, h25, fr26, fc27⟩ := p23
        refine J_aload_n (i := 0) (j := 0) dX11_storm_44 rfl rfl ?_
        refine J_iload (i := 5) (j := 5) dX11_storm_45 rfl ?_
        refine J_callV (As := [.int what]) (rest := []) dX11_storm_47 (c_M_told (d := 2) (u := u24) (g := g) (ex := ex) (what := what)  (by decide) (bd_r (fc27 22 (Nat.ne_of_beq_eq_false rfl) (Nat.ne_of_beq_eq_false rfl) (Nat.ne_of_beq_eq_false rfl)) h6)) hq.n k1566 k1568 k64 wc_162 rfl rfl k97 k1569 np_X11_told (Nat.le_trans (by decide) hd) (by decide) (Nat.le_refl _) (Nat.le_refl _) wlen rfl (Nat.le_of_ble_eq_true rfl) (fun r_ h_ p28 => ?_)
        obtain ⟨v29, rfl, rfl⟩ := p28
        exact J_iret hq dX11_storm_50 rfl wlen (Nat.le_refl _) (Nat.le_refl _) ⟨v29, u24, rfl, rfl, (bd_r (fc27 22 (Nat.ne_of_beq_eq_false rfl) (Nat.ne_of_beq_eq_false rfl) (Nat.ne_of_beq_eq_false rfl)) h6), (dn_c (fr26 172 rfl) h7), (n0_c (fr26 172 rfl) h8), h25, (fun c k_ => ((fr26 c (nin_sub (M := [(162, 162), (173, 175)]) k_ rfl)).trans ((fr10 c (nin_ne (a := 162) k_ rfl) (nin_ne (a := 172) k_ rfl)).trans (ms_c e2 (nin_ne (a := 162) k_ rfl))))), (fun j k0_ k22_ k23_ k24_ k25_ k26_ k27_ k31_ k32_ k33_ => ((fc27 j k31_ k32_ k33_).trans ((fc11 j k22_ k23_ k24_ k25_ k26_ k27_).trans (ms_i e2 k0_))))⟩
      · refine J_iconst (v := (-1)) dX11_storm_31 (by decide) ?_
        exact J_iret hq dX11_storm_32 rfl wlen (Nat.le_refl _) (Nat.le_refl _) ⟨((-1) : Int32), u5, rfl, rfl, h6, h7, h8, (bd_r ((fc11 31 (Nat.ne_of_beq_eq_false rfl) (Nat.ne_of_beq_eq_false rfl) (Nat.ne_of_beq_eq_false rfl) (Nat.ne_of_beq_eq_false rfl) (Nat.ne_of_beq_eq_false rfl) (Nat.ne_of_beq_eq_false rfl)).trans (ms_i e2 (Nat.ne_of_beq_eq_false rfl))) hp8), (fun c k_ => ((fr10 c (nin_ne (a := 162) k_ rfl) (nin_ne (a := 172) k_ rfl)).trans (ms_c e2 (nin_ne (a := 162) k_ rfl)))), (fun j k0_ k22_ k23_ k24_ k25_ k26_ k27_ k31_ k32_ k33_ => ((fc11 j k22_ k23_ k24_ k25_ k26_ k27_).trans (ms_i e2 k0_)))⟩
set_option maxHeartbeats 4000000 in
set_option maxRecDepth 100000 in
theorem c_M_likely {d : Nat} {u : Nat → Nat → Int32} {g : Nat → Nat → Int64} {ex : List MC} {hill : Int32} {plan : Int32} {pond : Int32} (hd : 4 ≤ d) (hp0 : (MY u)) (hp1 : AB u 168 (-1) 999) (hp2 : (HD u)) (hp3 : (HC u)) (hp4 : (PL u)) (hp5 : (N0 u)) (hp6 : (DN u)) (hp7 : Bd 0 9 (u 162 22)) (hp8 : Bd 0 511 (u 162 31)) (hp9 : AB u 177 (-1) 999) : CT con0 d 0 0 yX11_likely cX11_likely 10 (some .long) [.ref 162, .int hill, .int plan, .int pond] (Wd u g ex) (fun r h2 => ∃ (z : Int64) (u2 : Nat → Nat → Int32), r = some (.long z) ∧ h2 = Wd u2 g ex ∧ Bd 0 9 (u2 162 22) ∧ (DN u2) ∧ (N0 u2) ∧ Bd 0 511 (u2 162 31) ∧ (∀ c, nin c [(162, 162), (172, 175)] = true → u2 c = u c) ∧ (∀ j, j ≠ 0 → j ≠ 22 → j ≠ 23 → j ≠ 24 → j ≠ 25 → j ≠ 26 → j ≠ 27 → j ≠ 31 → j ≠ 32 → j ≠ 33 → u2 162 j = u 162 j)) := by
  refine CT_of (by decide) (Nat.le_of_ble_eq_true rfl) (fun x hq => ?_)
  show J x yX11_likely cX11_likely 10 (some .long) d 0 0 (Wd u g ex).length 0 [(0, .ref 162), (1, .int hill), (2, .int plan), (3, .int pond)] [] (Wd u g ex) 0 0
  refine J_aload_n (i := 0) (j := 0) dX11_likely_0 rfl rfl ?_
  refine J_iconst (v := 0) dX11_likely_1 (by decide) ?_
  obtain ⟨u1, e2⟩ : ∃ z, z = ms u 162 0 0 := ⟨_, rfl⟩
  refine J_put (C := RX11) (T := TX11) (Z := 43) (ci := 11) (f := 0) (ty0 := tyX11) dX11_likely_2 inG11 rfl tyX11_ok nmX11 (by decide) k1264 rfl rfl wc_162 (Nat.le_of_ble_eq_true rfl) (fun _ _ => ⟨rfl, rfl⟩) (ws e2 wk_162 rfl) ?_
  refine J_aload_n (i := 0) (j := 0) dX11_likely_5 rfl rfl ?_
  refine J_iload_n (i := 1) (j := 1) dX11_likely_6 rfl rfl ?_
  refine J_iload_n (i := 2) (j := 2) dX11_likely_7 rfl rfl ?_
  refine J_callV (As := [.int hill, .int plan]) (rest := []) dX11_likely_8 (c_M_lay (d := 2) (u := u1) (g := g) (ex := ex) (h := hill) (plan := plan)  (by decide) (my_c (ms_c e2 (Nat.ne_of_beq_eq_false rfl)) hp0) (ab_c (ms_c e2 (Nat.ne_of_beq_eq_false rfl)) hp1) (hd_c (ms_c e2 (Nat.ne_of_beq_eq_false rfl)) hp2) (hc_c (ms_c e2 (Nat.ne_of_beq_eq_false rfl)) (ms_c e2 (Nat.ne_of_beq_eq_false rfl)) hp3) (pl_c (ms_c e2 (Nat.ne_of_beq_eq_false rfl)) hp4) (n0_c (ms_c e2 (Nat.ne_of_beq_eq_false rfl)) hp5) (dn_c (ms_c e2 (Nat.ne_of_beq_eq_false rfl)) hp6) (bd_r (ms_i e2 (Nat.ne_of_beq_eq_false rfl)) hp7)) hq.n k1503 k1505 k52 wc_162 rfl rfl k97 k1506 np_X11_lay (Nat.le_trans (by decide) hd) (by decide) (Nat.le_refl _) (Nat.le_refl _) wlen rfl (Nat.le_of_ble_eq_true rfl) (fun r_ h_ p3 => ?_)
  obtain ⟨t4, u5, rfl, rfl, h6, h7, h8, h9, fr10, fc11⟩ := p3
  refine J_ifB_eq (tgt := 27) dX11_likely_11 (by decide) (fun c12 => ?_) (fun c12 => ?_)
  · refine J_ldc2 (v := (-1)) dX11_likely_27 k1578 ?_
    exact J_lret hq dX11_likely_30 rfl wlen (Nat.le_refl _) (Nat.le_refl _) ⟨((-1) : Int64), u5, rfl, rfl, h6, h7, h8, (bd_r ((fc11 31 (Nat.ne_of_beq_eq_false rfl) (Nat.ne_of_beq_eq_false rfl) (Nat.ne_of_beq_eq_false rfl) (Nat.ne_of_beq_eq_false rfl) (Nat.ne_of_beq_eq_false rfl) (Nat.ne_of_beq_eq_false rfl)).trans (ms_i e2 (Nat.ne_of_beq_eq_false rfl))) hp8), (fun c k_ => ((fr10 c (nin_ne (a := 162) k_ rfl) (nin_ne (a := 172) k_ rfl)).trans (ms_c e2 (nin_ne (a := 162) k_ rfl)))), (fun j k0_ k22_ k23_ k24_ k25_ k26_ k27_ k31_ k32_ k33_ => ((fc11 j k22_ k23_ k24_ k25_ k26_ k27_).trans (ms_i e2 k0_)))⟩
  · refine J_iload_n (i := 3) (j := 3) dX11_likely_14 rfl rfl ?_
    refine J_iconst (v := (-1)) dX11_likely_15 (by decide) ?_
    refine J_icmp_eq (tgt := 31) dX11_likely_16 (by decide) (fun c13 => ?_) (fun c13 => ?_)
    · refine J_lconst (v := 0) dX11_likely_31 (by decide) ?_
      refine J_lstore (i := 4) (lw := [(4, .long 0), (0, .ref 162), (1, .int hill), (2, .int plan), (3, .int pond)]) dX11_likely_32 (by decide) rfl ?_
      refine J_iconst (v := 0) dX11_likely_34 (by decide) ?_
      refine J_istore (i := 6) (lw := [(6, .int 0), (4, .long 0), (0, .ref 162), (1, .int hill), (2, .int plan), (3, .int pond)]) dX11_likely_35 (by decide) rfl ?_
      refine J_iload (i := 6) (j := 0) dX11_likely_37 rfl ?_
      refine J_aload_n (i := 0) (j := 2) dX11_likely_39 rfl rfl ?_
      refine J_get (C := RX11) (T := TX11) (Z := 43) (ci := 11) (f := 21) dX11_likely_40 inG11 rfl (by decide) k1285 wc_162 rfl ?_
      refine J_iconst (v := 1) dX11_likely_43 (by decide) ?_
      refine J_iald dX11_likely_44 wc_172 (vin (bd_c (v := 1) (lo := 1) (hi := 1) (by decide)) (by decide)) ?_
      refine J_ci (v := u5 172 1) rfl ?_
      refine J_icmp_ge (tgt := 130) dX11_likely_45 (by decide) (fun c20 => ?_) (fun c20 => ?_)
      · exact (bd_no (bd_le_hi ((h9 c12).1).1 c20 (bd_c (v := 0) (lo := 0) (hi := 0) (by decide))) (by decide)).elim
      · refine J_iload_n (i := 3) (j := 5) dX11_likely_48 rfl rfl ?_
        refine J_iconst (v := (-1)) dX11_likely_49 (by decide) ?_
        refine J_icmp_eq (tgt := 130) dX11_likely_50 (by decide) (fun c22 => ?_) (fun c22 => ?_)
        · refine J_iload_n (i := 3) (j := 5) dX11_likely_130 rfl rfl ?_
          refine J_iconst (v := (-1)) dX11_likely_131 (by decide) ?_
          refine J_icmp_ne (tgt := 142) dX11_likely_132 (by decide) (fun c23 => ?_) (fun c23 => ?_)
          · exact (bd_no (bd_ne_lo (bd_r c13 (bd_c (v := (-1)) (lo := (-1)) (hi := (-1)) (by decide))) c23 (by decide)) (by decide)).elim
          · refine J_aload_n (i := 0) (j := 2) dX11_likely_135 rfl rfl ?_
            refine J_callV (As := []) (rest := []) dX11_likely_136 (c_M_allParts (d := 0) (u := u5) (g := g) (ex := ex)   (by decide) h6) hq.n k1583 k1585 k67 wc_162 rfl rfl k97 k1586 np_X11_allParts (Nat.le_trans (by decide) hd) (by decide) (Nat.le_refl _) (Nat.le_refl _) wlen rfl (Nat.le_of_ble_eq_true rfl) (fun r_ h_ p24 => ?_)
            obtain ⟨l25, rfl, rfl⟩ := p24
            refine J_goto (tgt := 144) dX11_likely_139 (by decide) ?_
            exact J_lret hq dX11_likely_144 rfl wlen (Nat.le_refl _) (Nat.le_refl _) ⟨l25, u5, rfl, rfl, h6, h7, h8, (bd_r ((fc11 31 (Nat.ne_of_beq_eq_false rfl) (Nat.ne_of_beq_eq_false rfl) (Nat.ne_of_beq_eq_false rfl) (Nat.ne_of_beq_eq_false rfl) (Nat.ne_of_beq_eq_false rfl) (Nat.ne_of_beq_eq_false rfl)).trans (ms_i e2 (Nat.ne_of_beq_eq_false rfl))) hp8), (fun c k_ => ((fr10 c (nin_ne (a := 162) k_ rfl) (nin_ne (a := 172) k_ rfl)).trans (ms_c e2 (nin_ne (a := 162) k_ rfl)))), (fun j k0_ k22_ k23_ k24_ k25_ k26_ k27_ k31_ k32_ k33_ => ((fc11 j k22_ k23_ k24_ k25_ k26_ k27_).trans (ms_i e2 k0_)))⟩
        · exact (bd_no (bd_ne_lo (bd_r c13 (bd_c (v := (-1)) (lo := (-1)) (hi := (-1)) (by decide))) c22 (by decide)) (by decide)).elim
    · refine J_aload_n (i := 0) (j := 0) dX11_likely_19 rfl rfl ?_
      refine J_iload_n (i := 3) (j := 3) dX11_likely_20 rfl rfl ?_
      refine J_callV (As := [.int pond]) (rest := []) dX11_likely_21 (c_M_isPond (d := 1) (u := u5) (g := g) (ex := ex) (p := pond)  (by decide) h6) hq.n k1523 k1525 k57 wc_162 rfl rfl k97 k1526 np_X11_isPond (Nat.le_trans (by decide) hd) (by decide) (Nat.le_refl _) (Nat.le_refl _) wlen rfl (Nat.le_of_ble_eq_true rfl) (fun r_ h_ p26 => ?_)
      obtain ⟨t27, rfl, rfl, h28⟩ := p26
      refine J_ifB_ne (tgt := 31) dX11_likely_24 (by decide) (fun c29 => ?_) (fun c29 => ?_)
      · refine J_lconst (v := 0) dX11_likely_31 (by decide) ?_
        refine J_lstore (i := 4) (lw := [(4, .long 0), (0, .ref 162), (1, .int hill), (2, .int plan), (3, .int pond)]) dX11_likely_32 (by decide) rfl ?_
        refine J_iconst (v := 0) dX11_likely_34 (by decide) ?_
        refine J_istore (i := 6) (lw := [(6, .int 0), (4, .long 0), (0, .ref 162), (1, .int hill), (2, .int plan), (3, .int pond)]) dX11_likely_35 (by decide) rfl ?_
        have lp7359 : ∀ (n7360 : Nat) (w5525 : Int64) (w5526 : Int32) (u5527 : Nat → Nat → Int32), Bd 0 4 w5526 → (∀ c, nin c [(162, 162), (173, 175)] = true → u5527 c = u5 c) → (∀ j, j ≠ 31 → j ≠ 32 → j ≠ 33 → u5527 162 j = u5 162 j) → Bd 0 511 (u5527 162 31) → (4 - w5526.toInt).toNat < n7360 → J x yX11_likely cX11_likely 10 (some .long) d 0 0 (Wd u g ex).length 37 [(0, .ref 162), (3, .int pond), (4, .long w5525), (6, .int w5526)] [] (Wd u5527 g ex) 0 0 := by
          intro n7360
          induction n7360 with
          | zero => intro w5525 w5526 u5527 bw5526 fr5528 fc5529 bm5530 hm7362; exact absurd hm7362 (Nat.not_lt_zero _)
          | succ n7360 ih7361 =>
            intro w5525 w5526 u5527 bw5526 fr5528 fc5529 bm5530 hm7362
            refine J_iload (i := 6) (j := 3) dX11_likely_37 rfl ?_
            refine J_aload_n (i := 0) (j := 0) dX11_likely_39 rfl rfl ?_
            refine J_get (C := RX11) (T := TX11) (Z := 43) (ci := 11) (f := 21) dX11_likely_40 inG11 rfl (by decide) k1285 wc_162 rfl ?_
            refine J_iconst (v := 1) dX11_likely_43 (by decide) ?_
            refine J_iald dX11_likely_44 wc_172 (vin (bd_c (v := 1) (lo := 1) (hi := 1) (by decide)) (by decide)) ?_
            refine J_ci (v := u5 172 1) (congrFun (fr5528 172 rfl) 1) ?_
            refine J_icmp_ge (tgt := 130) dX11_likely_45 (by decide) (fun c7363 => ?_) (fun c7363 => ?_)
            · refine J_iload_n (i := 3) (j := 1) dX11_likely_130 rfl rfl ?_
              refine J_iconst (v := (-1)) dX11_likely_131 (by decide) ?_
              refine J_icmp_ne (tgt := 142) dX11_likely_132 (by decide) (fun c7973 => ?_) (fun c7973 => ?_)
              · refine J_lload (i := 4) (j := 2) dX11_likely_142 rfl ?_
                exact J_lret hq dX11_likely_144 rfl wlen (Nat.le_refl _) (Nat.le_refl _) ⟨w5525, u5527, rfl, rfl, (bd_r (fc5529 22 (Nat.ne_of_beq_eq_false rfl) (Nat.ne_of_beq_eq_false rfl) (Nat.ne_of_beq_eq_false rfl)) h6), (dn_c (fr5528 172 rfl) h7), (n0_c (fr5528 172 rfl) h8), bm5530, (fun c k_ => ((fr5528 c (nin_sub (M := [(162, 162), (173, 175)]) k_ rfl)).trans ((fr10 c (nin_ne (a := 162) k_ rfl) (nin_ne (a := 172) k_ rfl)).trans (ms_c e2 (nin_ne (a := 162) k_ rfl))))), (fun j k0_ k22_ k23_ k24_ k25_ k26_ k27_ k31_ k32_ k33_ => ((fc5529 j k31_ k32_ k33_).trans ((fc11 j k22_ k23_ k24_ k25_ k26_ k27_).trans (ms_i e2 k0_))))⟩
              · exact (bd_neq c7973 (h28 c29) (bd_c (v := (-1)) (lo := (-1)) (hi := (-1)) (by decide)) (by decide)).elim
            · refine J_iload_n (i := 3) (j := 1) dX11_likely_48 rfl rfl ?_
              refine J_iconst (v := (-1)) dX11_likely_49 (by decide) ?_
              refine J_icmp_eq (tgt := 130) dX11_likely_50 (by decide) (fun c7974 => ?_) (fun c7974 => ?_)
              · exact (bd_neq c7974 (h28 c29) (bd_c (v := (-1)) (lo := (-1)) (hi := (-1)) (by decide)) (by decide)).elim
              · refine J_iconst (v := 0) dX11_likely_53 (by decide) ?_
                refine J_istore (i := 7) (lw := [(7, .int 0), (0, .ref 162), (3, .int pond), (4, .long w5525), (6, .int w5526)]) dX11_likely_54 (by decide) rfl ?_
                have lp9116 : ∀ (n9117 : Nat) (w9039 : Int64) (w9040 : Int32) (u9041 : Nat → Nat → Int32), Bd 0 512 w9040 → (∀ c, nin c [(162, 162), (173, 175)] = true → u9041 c = u5527 c) → (∀ j, j ≠ 31 → j ≠ 32 → j ≠ 33 → u9041 162 j = u5527 162 j) → Bd 0 511 (u9041 162 31) → (512 - w9040.toInt).toNat < n9117 → J x yX11_likely cX11_likely 10 (some .long) d 0 0 (Wd u g ex).length 56 [(0, .ref 162), (3, .int pond), (4, .long w9039), (6, .int w5526), (7, .int w9040)] [] (Wd u9041 g ex) 0 0 := by
                  intro n9117
                  induction n9117 with
                  | zero => intro w9039 w9040 u9041 bw9040 fr9042 fc9043 bm9044 hm9119; exact absurd hm9119 (Nat.not_lt_zero _)
                  | succ n9117 ih9118 =>
                    intro w9039 w9040 u9041 bw9040 fr9042 fc9043 bm9044 hm9119
                    refine J_iload (i := 7) (j := 4) dX11_likely_56 rfl ?_
                    refine J_iconst (v := 1) dX11_likely_58 (by decide) ?_
                    refine J_aload_n (i := 0) (j := 0) dX11_likely_59 rfl rfl ?_
                    refine J_get (C := RX11) (T := TX11) (Z := 43) (ci := 11) (f := 22) dX11_likely_60 inG11 rfl (by decide) k1286 wc_162 rfl ?_
                    refine J_ci (v := u5 162 22) ((fc9043 22 (Nat.ne_of_beq_eq_false rfl) (Nat.ne_of_beq_eq_false rfl) (Nat.ne_of_beq_eq_false rfl)).trans (fc5529 22 (Nat.ne_of_beq_eq_false rfl) (Nat.ne_of_beq_eq_false rfl) (Nat.ne_of_beq_eq_false rfl))) ?_
                    refine J_ishl dX11_likely_63 ?_
                    refine J_icmp_ge (tgt := 124) dX11_likely_64 (by decide) (fun c9120 => ?_) (fun c9120 => ?_)
                    · refine J_iinc (i := 6) (j := 3) (v := (w5526 + 1)) (lw := [(6, .int (w5526 + 1)), (0, .ref 162), (3, .int pond), (4, .long w9039), (7, .int w9040)]) dX11_likely_124 rfl rfl (by decide) rfl ?_
                      refine J_goto (tgt := 37) dX11_likely_127 (by decide) ?_
                      refine J_lv [1, 2, 3, 0] rfl ?_
                      exact ih7361 w9039 (w5526 + 1) u9041 (bd_w (l := 0) (h := 4) (bd_add (l := 1) (h := 4) (bd_lt_hi bw5526 (i_nle c7363) ((h9 c12).1).1) (bd_c (v := 1) (lo := 1) (hi := 1) (by decide)) (by decide)) (by decide)) (fun c k_ => ((fr9042 c (nin_sub (M := [(162, 162), (173, 175)]) k_ rfl)).trans (fr5528 c (nin_sub (M := [(162, 162), (173, 175)]) k_ rfl)))) (fun j k31_ k32_ k33_ => ((fc9043 j k31_ k32_ k33_).trans (fc5529 j k31_ k32_ k33_))) bm9044 (mu_up 1 bw5526 rfl (by decide) (bd_w (l := 1) (h := 4) (bd_add (l := 1) (h := 4) (bd_lt_hi bw5526 (i_nle c7363) ((h9 c12).1).1) (bd_c (v := 1) (lo := 1) (hi := 1) (by decide)) (by decide)) (by decide)) hm7362)
                    · refine J_aload_n (i := 0) (j := 0) dX11_likely_67 rfl rfl ?_
                      refine J_iload (i := 6) (j := 3) dX11_likely_68 rfl ?_
                      refine J_iload (i := 7) (j := 4) dX11_likely_70 rfl ?_
                      refine J_callV (As := [.int w5526, .int w9040]) (rest := []) dX11_likely_72 (c_M_partsOf (d := 1) (u := u9041) (g := g) (ex := ex) (rain := w5526) (banks := w9040)  (by decide) (bd_r ((fc9043 22 (Nat.ne_of_beq_eq_false rfl) (Nat.ne_of_beq_eq_false rfl) (Nat.ne_of_beq_eq_false rfl)).trans (fc5529 22 (Nat.ne_of_beq_eq_false rfl) (Nat.ne_of_beq_eq_false rfl) (Nat.ne_of_beq_eq_false rfl))) h6) (bd_w (l := (-1)) (h := 75) (bd_lt_hi bw5526 (i_nle c7363) ((h9 c12).1).1) (by decide))) hq.n k1579 k1581 k66 wc_162 rfl rfl k97 k1582 np_X11_partsOf (Nat.le_trans (by decide) hd) (by decide) (Nat.le_refl _) (Nat.le_refl _) wlen rfl (Nat.le_of_ble_eq_true rfl) (fun r_ h_ p9156 => ?_)
                      obtain ⟨l9157, rfl, rfl⟩ := p9156
                      refine J_lstore (i := 8) (lw := [(8, .long l9157), (0, .ref 162), (3, .int pond), (4, .long w9039), (6, .int w5526), (7, .int w9040)]) dX11_likely_75 (by decide) rfl ?_
                      refine J_lload (i := 8) (j := 0) dX11_likely_77 rfl ?_
                      refine J_lconst (v := 0) dX11_likely_79 (by decide) ?_
                      refine J_lcmp dX11_likely_80 ?_
                      have jn9177 : ∀ (w9172 : Int64) (u9173 : Nat → Nat → Int32), (∀ c, nin c [(162, 162), (173, 175)] = true → u9173 c = u9041 c) → (∀ j, j ≠ 31 → j ≠ 32 → j ≠ 33 → u9173 162 j = u9041 162 j) → Bd 0 511 (u9173 162 31) → J x yX11_likely cX11_likely 10 (some .long) d 0 0 (Wd u g ex).length 118 [(0, .ref 162), (3, .int pond), (4, .long w9172), (6, .int w5526), (7, .int w9040)] [] (Wd u9173 g ex) 0 0 := by
                        intro w9172 u9173 fr9174 fc9175 bm9176
                        refine J_iinc (i := 7) (j := 4) (v := (w9040 + 1)) (lw := [(7, .int (w9040 + 1)), (0, .ref 162), (3, .int pond), (4, .long w9172), (6, .int w5526)]) dX11_likely_118 rfl rfl (by decide) rfl ?_
                        refine J_goto (tgt := 56) dX11_likely_121 (by decide) ?_
                        refine J_lv [1, 2, 3, 4, 0] rfl ?_
                        exact ih9118 w9172 (w9040 + 1) u9173 (bd_w (l := 0) (h := 512) (bd_add (l := 1) (h := 512) (bd_lt_hi bw9040 (i_nle c9120) (bd_shl (lo := 0) (hi := 9) (l := 1) (h := 512) h6 (by decide))) (bd_c (v := 1) (lo := 1) (hi := 1) (by decide)) (by decide)) (by decide)) (fun c k_ => ((fr9174 c (nin_sub (M := [(162, 162), (173, 175)]) k_ rfl)).trans (fr9042 c (nin_sub (M := [(162, 162), (173, 175)]) k_ rfl)))) (fun j k31_ k32_ k33_ => ((fc9175 j k31_ k32_ k33_).trans (fc9043 j k31_ k32_ k33_))) bm9176 (mu_up 1 bw9040 rfl (by decide) (bd_w (l := 1) (h := 512) (bd_add (l := 1) (h := 512) (bd_lt_hi bw9040 (i_nle c9120) (bd_shl (lo := 0) (hi := 9) (l := 1) (h := 512) h6 (by decide))) (bd_c (v := 1) (lo := 1) (hi := 1) (by decide)) (by decide)) (by decide)) hm9119)
                      refine J_if_le (tgt := 118) dX11_likely_81 (by decide) (fun c9158 => ?_) (fun c9158 => ?_)
                      · refine J_lv [1, 2, 3, 4, 5] rfl ?_
                        exact jn9177 w9039 u9041 (fun c k_ => rfl) (fun j k31_ k32_ k33_ => rfl) bm9044
                      · refine J_aload_n (i := 0) (j := 1) dX11_likely_84 rfl rfl ?_
                        refine J_aload_n (i := 0) (j := 1) dX11_likely_85 rfl rfl ?_
                        refine J_iload (i := 6) (j := 4) dX11_likely_86 rfl ?_
                        refine J_callV (As := [.int w5526]) (rest := [.ref 162]) dX11_likely_88 (c_M_stepsOf (d := 0) (u := u9041) (g := g) (ex := ex) (rain := w5526)  (by decide) (bd_w (l := 0) (h := 75) (bd_lt_hi bw5526 (i_nle c7363) ((h9 c12).1).1) (by decide))) hq.n k1547 k1549 k60 wc_162 rfl rfl k97 k1550 np_X11_stepsOf (Nat.le_trans (by decide) hd) (by decide) (Nat.le_refl _) (Nat.le_refl _) wlen rfl (Nat.le_of_ble_eq_true rfl) (fun r_ h_ p9178 => ?_)
                        obtain ⟨v9179, rfl, rfl⟩ := p9178
                        refine J_iload (i := 7) (j := 5) dX11_likely_91 rfl ?_
                        refine J_callV (As := [.int v9179, .int w9040]) (rest := []) dX11_likely_93 (c_M_blow (d := 3) (u := u9041) (g := g) (ex := ex) (steps := v9179) (banks := w9040)  (by decide) (bd_r ((fc9043 22 (Nat.ne_of_beq_eq_false rfl) (Nat.ne_of_beq_eq_false rfl) (Nat.ne_of_beq_eq_false rfl)).trans (fc5529 22 (Nat.ne_of_beq_eq_false rfl) (Nat.ne_of_beq_eq_false rfl) (Nat.ne_of_beq_eq_false rfl))) h6) (dn_c ((fr9042 172 rfl).trans (fr5528 172 rfl)) h7)) hq.n k1551 k1553 k61 wc_162 rfl rfl k97 k1554 np_X11_blow (Nat.le_trans (by decide) hd) (by decide) (Nat.le_refl _) (Nat.le_refl _) wlen rfl (Nat.le_of_ble_eq_true rfl) (fun r_ h_ p9180 => ?_)
                        obtain ⟨u9181, rfl, rfl, h9182, fr9183, fc9184⟩ := p9180
                        refine J_lload (i := 4) (j := 3) dX11_likely_96 rfl ?_
                        refine J_aload_n (i := 0) (j := 1) dX11_likely_98 rfl rfl ?_
                        refine J_get (C := RX11) (T := TX11) (Z := 43) (ci := 11) (f := 31) dX11_likely_99 inG11 rfl (by decide) k1295 wc_162 rfl ?_
                        refine J_iload_n (i := 3) (j := 2) dX11_likely_102 rfl rfl ?_
                        refine J_callS (As := [.int (u9181 162 31), .int pond]) (rest := [.long w9039]) dX11_likely_103 (c_M_has (d := 0) (u := u9181) (g := g) (ex := ex) (set := u9181 162 31) (k := pond)  (by decide) ) hq.n k1555 k1556 k97 k1557 np_X11_has (Nat.le_trans (by decide) hd) (by decide) (Nat.le_refl _) (Nat.le_refl _) wlen rfl (Nat.le_of_ble_eq_true rfl) (fun r_ h_ p9185 => ?_)
                        obtain ⟨t9186, rfl, rfl⟩ := p9185
                        have jn9189 : ∀ (w9188 : Int64), J x yX11_likely cX11_likely 10 (some .long) d 0 0 (Wd u g ex).length 115 [(0, .ref 162), (3, .int pond), (6, .int w5526), (7, .int w9040)] [.long w9188, .long w9039] (Wd u9181 g ex) 0 0 := by
                          intro w9188
                          refine J_ladd dX11_likely_115 ?_
                          refine J_topl (fun l9190 _ => ?_)
                          refine J_lstore (i := 4) (lw := [(4, .long l9190), (0, .ref 162), (3, .int pond), (6, .int w5526), (7, .int w9040)]) dX11_likely_116 (by decide) rfl ?_
                          refine J_lv [1, 2, 0, 3, 4] rfl ?_
                          exact jn9177 l9190 u9181 (fun c k_ => (fr9183 c (nin_sub (M := [(162, 162), (173, 175)]) k_ rfl))) (fun j k31_ k32_ k33_ => (fc9184 j k31_ k32_ k33_)) h9182
                        refine J_ifB_eq (tgt := 114) dX11_likely_106 (by decide) (fun c9187 => ?_) (fun c9187 => ?_)
                        · refine J_lconst (v := 0) dX11_likely_114 (by decide) ?_
                          refine J_lv [1, 2, 4, 5] rfl ?_
                          exact jn9189 (0 : Int64) 
                        · refine J_lload (i := 8) (j := 0) dX11_likely_109 rfl ?_
                          refine J_goto (tgt := 115) dX11_likely_111 (by decide) ?_
                          refine J_lv [1, 2, 4, 5] rfl ?_
                          exact jn9189 l9157 
                refine J_lv [1, 2, 3, 4, 0] rfl ?_
                exact lp9116 _ w5525 (0 : Int32) u5527 (bd_w (l := 0) (h := 512) (bd_c (v := 0) (lo := 0) (hi := 0) (by decide)) (by decide)) (fun c k_ => rfl) (fun j k31_ k32_ k33_ => rfl) bm5530 (Nat.lt_succ_self _)
        refine J_lv [2, 5, 1, 0] rfl ?_
        exact lp7359 _ (0 : Int64) (0 : Int32) u5 (bd_w (l := 0) (h := 4) (bd_c (v := 0) (lo := 0) (hi := 0) (by decide)) (by decide)) (fun c k_ => rfl) (fun j k31_ k32_ k33_ => rfl) (bd_r ((fc11 31 (Nat.ne_of_beq_eq_false rfl) (Nat.ne_of_beq_eq_false rfl) (Nat.ne_of_beq_eq_false rfl) (Nat.ne_of_beq_eq_false rfl) (Nat.ne_of_beq_eq_false rfl) (Nat.ne_of_beq_eq_false rfl)).trans (ms_i e2 (Nat.ne_of_beq_eq_false rfl))) hp8) (Nat.lt_succ_self _)
      · refine J_ldc2 (v := (-1)) dX11_likely_27 k1578 ?_
        exact J_lret hq dX11_likely_30 rfl wlen (Nat.le_refl _) (Nat.le_refl _) ⟨((-1) : Int64), u5, rfl, rfl, h6, h7, h8, (bd_r ((fc11 31 (Nat.ne_of_beq_eq_false rfl) (Nat.ne_of_beq_eq_false rfl) (Nat.ne_of_beq_eq_false rfl) (Nat.ne_of_beq_eq_false rfl) (Nat.ne_of_beq_eq_false rfl) (Nat.ne_of_beq_eq_false rfl)).trans (ms_i e2 (Nat.ne_of_beq_eq_false rfl))) hp8), (fun c k_ => ((fr10 c (nin_ne (a := 162) k_ rfl) (nin_ne (a := 172) k_ rfl)).trans (ms_c e2 (nin_ne (a := 162) k_ rfl)))), (fun j k0_ k22_ k23_ k24_ k25_ k26_ k27_ k31_ k32_ k33_ => ((fc11 j k22_ k23_ k24_ k25_ k26_ k27_).trans (ms_i e2 k0_)))⟩
set_option maxHeartbeats 4000000 in
set_option maxRecDepth 100000 in
theorem c_M_mean {d : Nat} {u : Nat → Nat → Int32} {g : Nat → Nat → Int64} {ex : List MC} {hill : Int32} {plan : Int32} {owner : Int32} (hd : 5 ≤ d) (hp0 : (MY u)) (hp1 : AB u 168 (-1) 999) (hp2 : (HD u)) (hp3 : (HC u)) (hp4 : (PL u)) (hp5 : (N0 u)) (hp6 : (DN u)) (hp7 : Bd 0 9 (u 162 22)) (hp8 : Bd 0 511 (u 162 31)) (hp9 : AB u 177 (-1) 999) : CT con0 d 0 0 yX11_mean cX11_mean 4 (some .long) [.ref 162, .int hill, .int plan, .int owner] (Wd u g ex) (fun r h2 => ∃ (z : Int64) (u2 : Nat → Nat → Int32), r = some (.long z) ∧ h2 = Wd u2 g ex ∧ Bd 0 9 (u2 162 22) ∧ (DN u2) ∧ (N0 u2) ∧ Bd 0 511 (u2 162 31) ∧ (∀ c, nin c [(162, 162), (172, 175)] = true → u2 c = u c) ∧ (∀ j, j ≠ 0 → j ≠ 22 → j ≠ 23 → j ≠ 24 → j ≠ 25 → j ≠ 26 → j ≠ 27 → j ≠ 31 → j ≠ 32 → j ≠ 33 → u2 162 j = u 162 j)) := by
  refine CT_of (by decide) (Nat.le_of_ble_eq_true rfl) (fun x hq => ?_)
  show J x yX11_mean cX11_mean 4 (some .long) d 0 0 (Wd u g ex).length 0 [(0, .ref 162), (1, .int hill), (2, .int plan), (3, .int owner)] [] (Wd u g ex) 0 0
  refine J_aload_n (i := 0) (j := 0) dX11_mean_0 rfl rfl ?_
  refine J_iconst (v := 0) dX11_mean_1 (by decide) ?_
  obtain ⟨u1, e2⟩ : ∃ z, z = ms u 162 0 0 := ⟨_, rfl⟩
  refine J_put (C := RX11) (T := TX11) (Z := 43) (ci := 11) (f := 0) (ty0 := tyX11) dX11_mean_2 inG11 rfl tyX11_ok nmX11 (by decide) k1264 rfl rfl wc_162 (Nat.le_of_ble_eq_true rfl) (fun _ _ => ⟨rfl, rfl⟩) (ws e2 wk_162 rfl) ?_
  refine J_aload_n (i := 0) (j := 0) dX11_mean_5 rfl rfl ?_
  refine J_iload_n (i := 1) (j := 1) dX11_mean_6 rfl rfl ?_
  refine J_iload_n (i := 2) (j := 2) dX11_mean_7 rfl rfl ?_
  refine J_callV (As := [.int hill, .int plan]) (rest := []) dX11_mean_8 (c_M_lay (d := 2) (u := u1) (g := g) (ex := ex) (h := hill) (plan := plan)  (by decide) (my_c (ms_c e2 (Nat.ne_of_beq_eq_false rfl)) hp0) (ab_c (ms_c e2 (Nat.ne_of_beq_eq_false rfl)) hp1) (hd_c (ms_c e2 (Nat.ne_of_beq_eq_false rfl)) hp2) (hc_c (ms_c e2 (Nat.ne_of_beq_eq_false rfl)) (ms_c e2 (Nat.ne_of_beq_eq_false rfl)) hp3) (pl_c (ms_c e2 (Nat.ne_of_beq_eq_false rfl)) hp4) (n0_c (ms_c e2 (Nat.ne_of_beq_eq_false rfl)) hp5) (dn_c (ms_c e2 (Nat.ne_of_beq_eq_false rfl)) hp6) (bd_r (ms_i e2 (Nat.ne_of_beq_eq_false rfl)) hp7)) hq.n k1503 k1505 k52 wc_162 rfl rfl k97 k1506 np_X11_lay (Nat.le_trans (by decide) hd) (by decide) (Nat.le_refl _) (Nat.le_refl _) wlen rfl (Nat.le_of_ble_eq_true rfl) (fun r_ h_ p3 => ?_)
  obtain ⟨t4, u5, rfl, rfl, h6, h7, h8, h9, fr10, fc11⟩ := p3
  refine J_ifB_eq (tgt := 34) dX11_mean_11 (by decide) (fun c12 => ?_) (fun c12 => ?_)
  · refine J_ldc2 (v := (-1)) dX11_mean_34 k1578 ?_
    exact J_lret hq dX11_mean_37 rfl wlen (Nat.le_refl _) (Nat.le_refl _) ⟨((-1) : Int64), u5, rfl, rfl, h6, h7, h8, (bd_r ((fc11 31 (Nat.ne_of_beq_eq_false rfl) (Nat.ne_of_beq_eq_false rfl) (Nat.ne_of_beq_eq_false rfl) (Nat.ne_of_beq_eq_false rfl) (Nat.ne_of_beq_eq_false rfl) (Nat.ne_of_beq_eq_false rfl)).trans (ms_i e2 (Nat.ne_of_beq_eq_false rfl))) hp8), (fun c k_ => ((fr10 c (nin_ne (a := 162) k_ rfl) (nin_ne (a := 172) k_ rfl)).trans (ms_c e2 (nin_ne (a := 162) k_ rfl)))), (fun j k0_ k22_ k23_ k24_ k25_ k26_ k27_ k31_ k32_ k33_ => ((fc11 j k22_ k23_ k24_ k25_ k26_ k27_).trans (ms_i e2 k0_)))⟩
  · refine J_iload_n (i := 3) (j := 3) dX11_mean_14 rfl rfl ?_
    refine J_iconst (v := (-1)) dX11_mean_15 (by decide) ?_
    refine J_icmp_eq (tgt := 26) dX11_mean_16 (by decide) (fun c13 => ?_) (fun c13 => ?_)
    · refine J_aload_n (i := 0) (j := 0) dX11_mean_26 rfl rfl ?_
      refine J_iload_n (i := 3) (j := 3) dX11_mean_27 rfl rfl ?_
      refine J_callV (As := [.int owner]) (rest := []) dX11_mean_28 (c_M_meanBy (d := 4) (u := u5) (g := g) (ex := ex) (owner := owner)  (by decide) h6 (h9 c12).1 h7 (bd_r ((fc11 31 (Nat.ne_of_beq_eq_false rfl) (Nat.ne_of_beq_eq_false rfl) (Nat.ne_of_beq_eq_false rfl) (Nat.ne_of_beq_eq_false rfl) (Nat.ne_of_beq_eq_false rfl) (Nat.ne_of_beq_eq_false rfl)).trans (ms_i e2 (Nat.ne_of_beq_eq_false rfl))) hp8)) hq.n k1596 k1598 k68 wc_162 rfl rfl k97 k1599 np_X11_meanBy (Nat.le_trans (by decide) hd) (by decide) (Nat.le_refl _) (Nat.le_refl _) wlen rfl (Nat.le_of_ble_eq_true rfl) (fun r_ h_ p14 => ?_)
      obtain ⟨l15, u16, rfl, rfl, h17, fr18, fc19⟩ := p14
      refine J_goto (tgt := 37) dX11_mean_31 (by decide) ?_
      exact J_lret hq dX11_mean_37 rfl wlen (Nat.le_refl _) (Nat.le_refl _) ⟨l15, u16, rfl, rfl, (bd_r (fc19 22 (Nat.ne_of_beq_eq_false rfl) (Nat.ne_of_beq_eq_false rfl) (Nat.ne_of_beq_eq_false rfl)) h6), (dn_c (fr18 172 rfl) h7), (n0_c (fr18 172 rfl) h8), h17, (fun c k_ => ((fr18 c (nin_sub (M := [(162, 162), (173, 175)]) k_ rfl)).trans ((fr10 c (nin_ne (a := 162) k_ rfl) (nin_ne (a := 172) k_ rfl)).trans (ms_c e2 (nin_ne (a := 162) k_ rfl))))), (fun j k0_ k22_ k23_ k24_ k25_ k26_ k27_ k31_ k32_ k33_ => ((fc19 j k31_ k32_ k33_).trans ((fc11 j k22_ k23_ k24_ k25_ k26_ k27_).trans (ms_i e2 k0_))))⟩
    · refine J_iload_n (i := 3) (j := 3) dX11_mean_19 rfl rfl ?_
      refine J_callS (As := [.int owner]) (rest := []) dX11_mean_20 (c_M_isOwner (d := 1) (u := u5) (g := g) (ex := ex) (o := owner)  (by decide) ) hq.n k1593 k1594 k97 k1595 np_X11_isOwner (Nat.le_trans (by decide) hd) (by decide) (Nat.le_refl _) (Nat.le_refl _) wlen rfl (Nat.le_of_ble_eq_true rfl) (fun r_ h_ p20 => ?_)
      obtain ⟨t21, rfl, rfl⟩ := p20
      refine J_ifB_eq (tgt := 34) dX11_mean_23 (by decide) (fun c22 => ?_) (fun c22 => ?_)
      · refine J_ldc2 (v := (-1)) dX11_mean_34 k1578 ?_
        exact J_lret hq dX11_mean_37 rfl wlen (Nat.le_refl _) (Nat.le_refl _) ⟨((-1) : Int64), u5, rfl, rfl, h6, h7, h8, (bd_r ((fc11 31 (Nat.ne_of_beq_eq_false rfl) (Nat.ne_of_beq_eq_false rfl) (Nat.ne_of_beq_eq_false rfl) (Nat.ne_of_beq_eq_false rfl) (Nat.ne_of_beq_eq_false rfl) (Nat.ne_of_beq_eq_false rfl)).trans (ms_i e2 (Nat.ne_of_beq_eq_false rfl))) hp8), (fun c k_ => ((fr10 c (nin_ne (a := 162) k_ rfl) (nin_ne (a := 172) k_ rfl)).trans (ms_c e2 (nin_ne (a := 162) k_ rfl)))), (fun j k0_ k22_ k23_ k24_ k25_ k26_ k27_ k31_ k32_ k33_ => ((fc11 j k22_ k23_ k24_ k25_ k26_ k27_).trans (ms_i e2 k0_)))⟩
      · refine J_aload_n (i := 0) (j := 0) dX11_mean_26 rfl rfl ?_
        refine J_iload_n (i := 3) (j := 3) dX11_mean_27 rfl rfl ?_
        refine J_callV (As := [.int owner]) (rest := []) dX11_mean_28 (c_M_meanBy (d := 4) (u := u5) (g := g) (ex := ex) (owner := owner)  (by decide) h6 (h9 c12).1 h7 (bd_r ((fc11 31 (Nat.ne_of_beq_eq_false rfl) (Nat.ne_of_beq_eq_false rfl) (Nat.ne_of_beq_eq_false rfl) (Nat.ne_of_beq_eq_false rfl) (Nat.ne_of_beq_eq_false rfl) (Nat.ne_of_beq_eq_false rfl)).trans (ms_i e2 (Nat.ne_of_beq_eq_false rfl))) hp8)) hq.n k1596 k1598 k68 wc_162 rfl rfl k97 k1599 np_X11_meanBy (Nat.le_trans (by decide) hd) (by decide) (Nat.le_refl _) (Nat.le_refl _) wlen rfl (Nat.le_of_ble_eq_true rfl) (fun r_ h_ p23 => ?_)
        obtain ⟨l24, u25, rfl, rfl, h26, fr27, fc28⟩ := p23
        refine J_goto (tgt := 37) dX11_mean_31 (by decide) ?_
        exact J_lret hq dX11_mean_37 rfl wlen (Nat.le_refl _) (Nat.le_refl _) ⟨l24, u25, rfl, rfl, (bd_r (fc28 22 (Nat.ne_of_beq_eq_false rfl) (Nat.ne_of_beq_eq_false rfl) (Nat.ne_of_beq_eq_false rfl)) h6), (dn_c (fr27 172 rfl) h7), (n0_c (fr27 172 rfl) h8), h26, (fun c k_ => ((fr27 c (nin_sub (M := [(162, 162), (173, 175)]) k_ rfl)).trans ((fr10 c (nin_ne (a := 162) k_ rfl) (nin_ne (a := 172) k_ rfl)).trans (ms_c e2 (nin_ne (a := 162) k_ rfl))))), (fun j k0_ k22_ k23_ k24_ k25_ k26_ k27_ k31_ k32_ k33_ => ((fc28 j k31_ k32_ k33_).trans ((fc11 j k22_ k23_ k24_ k25_ k26_ k27_).trans (ms_i e2 k0_))))⟩
set_option maxHeartbeats 4000000 in
set_option maxRecDepth 100000 in
theorem c_M_rows {d : Nat} {u : Nat → Nat → Int32} {g : Nat → Nat → Int64} {ex : List MC} {hill : Int32} {plan : Int32} {parts : Int32} (hd : 4 ≤ d) (hp0 : (MY u)) (hp1 : AB u 168 (-1) 999) (hp2 : (HD u)) (hp3 : (HC u)) (hp4 : (PL u)) (hp5 : (N0 u)) (hp6 : (DN u)) (hp7 : Bd 0 9 (u 162 22)) (hp8 : Bd 0 511 (u 162 31)) (hp9 : AB u 177 (-1) 999) : CT con0 d 0 0 yX11_rows cX11_rows 8 (some .long) [.ref 162, .int hill, .int plan, .int parts] (Wd u g ex) (fun r h2 => ∃ (z : Int64) (u2 : Nat → Nat → Int32) (g2 : Nat → Nat → Int64), r = some (.long z) ∧ h2 = Wd u2 g2 ex ∧ Bd 0 9 (u2 162 22) ∧ (DN u2) ∧ (N0 u2) ∧ Bd 0 511 (u2 162 31) ∧ (∀ c, nin c [(162, 162), (172, 175)] = true → u2 c = u c) ∧ (∀ j, j ≠ 0 → j ≠ 22 → j ≠ 23 → j ≠ 24 → j ≠ 25 → j ≠ 26 → j ≠ 27 → j ≠ 31 → j ≠ 32 → j ≠ 33 → u2 162 j = u 162 j)) := by
  refine CT_of (by decide) (Nat.le_of_ble_eq_true rfl) (fun x hq => ?_)
  show J x yX11_rows cX11_rows 8 (some .long) d 0 0 (Wd u g ex).length 0 [(0, .ref 162), (1, .int hill), (2, .int plan), (3, .int parts)] [] (Wd u g ex) 0 0
  refine J_aload_n (i := 0) (j := 0) dX11_rows_0 rfl rfl ?_
  refine J_iconst (v := 0) dX11_rows_1 (by decide) ?_
  obtain ⟨u1, e2⟩ : ∃ z, z = ms u 162 0 0 := ⟨_, rfl⟩
  refine J_put (C := RX11) (T := TX11) (Z := 43) (ci := 11) (f := 0) (ty0 := tyX11) dX11_rows_2 inG11 rfl tyX11_ok nmX11 (by decide) k1264 rfl rfl wc_162 (Nat.le_of_ble_eq_true rfl) (fun _ _ => ⟨rfl, rfl⟩) (ws e2 wk_162 rfl) ?_
  refine J_aload_n (i := 0) (j := 0) dX11_rows_5 rfl rfl ?_
  refine J_iload_n (i := 1) (j := 1) dX11_rows_6 rfl rfl ?_
  refine J_iload_n (i := 2) (j := 2) dX11_rows_7 rfl rfl ?_
  refine J_callV (As := [.int hill, .int plan]) (rest := []) dX11_rows_8 (c_M_lay (d := 2) (u := u1) (g := g) (ex := ex) (h := hill) (plan := plan)  (by decide) (my_c (ms_c e2 (Nat.ne_of_beq_eq_false rfl)) hp0) (ab_c (ms_c e2 (Nat.ne_of_beq_eq_false rfl)) hp1) (hd_c (ms_c e2 (Nat.ne_of_beq_eq_false rfl)) hp2) (hc_c (ms_c e2 (Nat.ne_of_beq_eq_false rfl)) (ms_c e2 (Nat.ne_of_beq_eq_false rfl)) hp3) (pl_c (ms_c e2 (Nat.ne_of_beq_eq_false rfl)) hp4) (n0_c (ms_c e2 (Nat.ne_of_beq_eq_false rfl)) hp5) (dn_c (ms_c e2 (Nat.ne_of_beq_eq_false rfl)) hp6) (bd_r (ms_i e2 (Nat.ne_of_beq_eq_false rfl)) hp7)) hq.n k1503 k1505 k52 wc_162 rfl rfl k97 k1506 np_X11_lay (Nat.le_trans (by decide) hd) (by decide) (Nat.le_refl _) (Nat.le_refl _) wlen rfl (Nat.le_of_ble_eq_true rfl) (fun r_ h_ p3 => ?_)
  obtain ⟨t4, u5, rfl, rfl, h6, h7, h8, h9, fr10, fc11⟩ := p3
  refine J_ifB_ne (tgt := 18) dX11_rows_11 (by decide) (fun c12 => ?_) (fun c12 => ?_)
  · refine J_iconst (v := 0) dX11_rows_18 (by decide) ?_
    refine J_istore (i := 4) (lw := [(4, .int 0), (0, .ref 162), (1, .int hill), (2, .int plan), (3, .int parts)]) dX11_rows_19 (by decide) rfl ?_
    have lp24628 : ∀ (n24629 : Nat) (w18646 : Int32) (g18647 : Nat → Nat → Int64), Bd 0 512 w18646 → (512 - w18646.toInt).toNat < n24629 → J x yX11_rows cX11_rows 8 (some .long) d 0 0 (Wd u g ex).length 21 [(0, .ref 162), (3, .int parts), (4, .int w18646)] [] (Wd u5 g18647 ex) 0 0 := by
      intro n24629
      induction n24629 with
      | zero => intro w18646 g18647 bw18646 hm24631; exact absurd hm24631 (Nat.not_lt_zero _)
      | succ n24629 ih24630 =>
        intro w18646 g18647 bw18646 hm24631
        refine J_iload (i := 4) (j := 2) dX11_rows_21 rfl ?_
        refine J_iconst (v := 1) dX11_rows_23 (by decide) ?_
        refine J_aload_n (i := 0) (j := 0) dX11_rows_24 rfl rfl ?_
        refine J_get (C := RX11) (T := TX11) (Z := 43) (ci := 11) (f := 22) dX11_rows_25 inG11 rfl (by decide) k1286 wc_162 rfl ?_
        refine J_ishl dX11_rows_28 ?_
        refine J_icmp_ge (tgt := 46) dX11_rows_29 (by decide) (fun c24632 => ?_) (fun c24632 => ?_)
        · refine J_iconst (v := 0) dX11_rows_46 (by decide) ?_
          refine J_istore (i := 4) (lw := [(4, .int 0), (0, .ref 162), (3, .int parts)]) dX11_rows_47 (by decide) rfl ?_
          have lp29390 : ∀ (n29391 : Nat) (w28168 : Int32) (u28169 : Nat → Nat → Int32) (g28173 : Nat → Nat → Int64), Bd 0 4 w28168 → (∀ c, nin c [(162, 162), (173, 175)] = true → u28169 c = u5 c) → (∀ j, j ≠ 31 → j ≠ 32 → j ≠ 33 → u28169 162 j = u5 162 j) → Bd 0 511 (u28169 162 31) → (4 - w28168.toInt).toNat < n29391 → J x yX11_rows cX11_rows 8 (some .long) d 0 0 (Wd u g ex).length 49 [(0, .ref 162), (3, .int parts), (4, .int w28168)] [] (Wd u28169 g28173 ex) 0 0 := by
            intro n29391
            induction n29391 with
            | zero => intro w28168 u28169 g28173 bw28168 fr28170 fc28171 bm28172 hm29393; exact absurd hm29393 (Nat.not_lt_zero _)
            | succ n29391 ih29392 =>
              intro w28168 u28169 g28173 bw28168 fr28170 fc28171 bm28172 hm29393
              refine J_iload (i := 4) (j := 2) dX11_rows_49 rfl ?_
              refine J_aload_n (i := 0) (j := 0) dX11_rows_51 rfl rfl ?_
              refine J_get (C := RX11) (T := TX11) (Z := 43) (ci := 11) (f := 21) dX11_rows_52 inG11 rfl (by decide) k1285 wc_162 rfl ?_
              refine J_iconst (v := 1) dX11_rows_55 (by decide) ?_
              refine J_iald dX11_rows_56 wc_172 (vin (bd_c (v := 1) (lo := 1) (hi := 1) (by decide)) (by decide)) ?_
              refine J_ci (v := u5 172 1) (congrFun (fr28170 172 rfl) 1) ?_
              refine J_icmp_ge (tgt := 129) dX11_rows_57 (by decide) (fun c29394 => ?_) (fun c29394 => ?_)
              · refine J_iconst (v := 0) dX11_rows_129 (by decide) ?_
                refine J_istore (i := 4) (lw := [(4, .int 0), (0, .ref 162), (3, .int parts)]) dX11_rows_130 (by decide) rfl ?_
                refine J_iconst (v := 1) dX11_rows_132 (by decide) ?_
                refine J_istore (i := 5) (lw := [(5, .int 1), (4, .int 0), (0, .ref 162), (3, .int parts)]) dX11_rows_133 (by decide) rfl ?_
                have lp30048 : ∀ (n30049 : Nat) (w30032 : Int32) (w30033 : Int32), Bd 0 511 w30032 → Bd 1 512 w30033 → (512 - w30033.toInt).toNat < n30049 → J x yX11_rows cX11_rows 8 (some .long) d 0 0 (Wd u g ex).length 135 [(0, .ref 162), (3, .int parts), (4, .int w30032), (5, .int w30033)] [] (Wd u28169 g28173 ex) 0 0 := by
                  intro n30049
                  induction n30049 with
                  | zero => intro w30032 w30033 bw30032 bw30033 hm30051; exact absurd hm30051 (Nat.not_lt_zero _)
                  | succ n30049 ih30050 =>
                    intro w30032 w30033 bw30032 bw30033 hm30051
                    refine J_iload (i := 5) (j := 3) dX11_rows_135 rfl ?_
                    refine J_iconst (v := 1) dX11_rows_137 (by decide) ?_
                    refine J_aload_n (i := 0) (j := 0) dX11_rows_138 rfl rfl ?_
                    refine J_get (C := RX11) (T := TX11) (Z := 43) (ci := 11) (f := 22) dX11_rows_139 inG11 rfl (by decide) k1286 wc_162 rfl ?_
                    refine J_ci (v := u5 162 22) (fc28171 22 (Nat.ne_of_beq_eq_false rfl) (Nat.ne_of_beq_eq_false rfl) (Nat.ne_of_beq_eq_false rfl)) ?_
                    refine J_ishl dX11_rows_142 ?_
                    refine J_icmp_ge (tgt := 179) dX11_rows_143 (by decide) (fun c30052 => ?_) (fun c30052 => ?_)
                    · refine J_iload_n (i := 3) (j := 1) dX11_rows_179 rfl rfl ?_
                      refine J_if_eq (tgt := 193) dX11_rows_180 (by decide) (fun c30058 => ?_) (fun c30058 => ?_)
                      · refine J_iload (i := 4) (j := 2) dX11_rows_193 rfl ?_
                        refine J_i2l dX11_rows_195 rfl ?_
                        refine J_topl (fun l30059 _ => ?_)
                        exact J_lret hq dX11_rows_196 rfl wlen (Nat.le_refl _) (Nat.le_refl _) ⟨l30059, u28169, g28173, rfl, rfl, (bd_r (fc28171 22 (Nat.ne_of_beq_eq_false rfl) (Nat.ne_of_beq_eq_false rfl) (Nat.ne_of_beq_eq_false rfl)) h6), (dn_c (fr28170 172 rfl) h7), (n0_c (fr28170 172 rfl) h8), bm28172, (fun c k_ => ((fr28170 c (nin_sub (M := [(162, 162), (173, 175)]) k_ rfl)).trans ((fr10 c (nin_ne (a := 162) k_ rfl) (nin_ne (a := 172) k_ rfl)).trans (ms_c e2 (nin_ne (a := 162) k_ rfl))))), (fun j k0_ k22_ k23_ k24_ k25_ k26_ k27_ k31_ k32_ k33_ => ((fc28171 j k31_ k32_ k33_).trans ((fc11 j k22_ k23_ k24_ k25_ k26_ k27_).trans (ms_i e2 k0_))))⟩
                      · refine J_aload_n (i := 0) (j := 0) dX11_rows_183 rfl rfl ?_
                        refine J_get (C := RX11) (T := TX11) (Z := 43) (ci := 11) (f := 34) dX11_rows_184 inG11 rfl (by decide) k1298 wc_162 rfl ?_
                        refine J_iload (i := 4) (j := 2) dX11_rows_187 rfl ?_
                        refine J_lald dX11_rows_189 wc_176 (vin bw30032 (by decide)) ?_
                        refine J_topl (fun l30060 _ => ?_)
                        refine J_goto (tgt := 196) dX11_rows_190 (by decide) ?_
                        exact J_lret hq dX11_rows_196 rfl wlen (Nat.le_refl _) (Nat.le_refl _) ⟨l30060, u28169, g28173, rfl, rfl, (bd_r (fc28171 22 (Nat.ne_of_beq_eq_false rfl) (Nat.ne_of_beq_eq_false rfl) (Nat.ne_of_beq_eq_false rfl)) h6), (dn_c (fr28170 172 rfl) h7), (n0_c (fr28170 172 rfl) h8), bm28172, (fun c k_ => ((fr28170 c (nin_sub (M := [(162, 162), (173, 175)]) k_ rfl)).trans ((fr10 c (nin_ne (a := 162) k_ rfl) (nin_ne (a := 172) k_ rfl)).trans (ms_c e2 (nin_ne (a := 162) k_ rfl))))), (fun j k0_ k22_ k23_ k24_ k25_ k26_ k27_ k31_ k32_ k33_ => ((fc28171 j k31_ k32_ k33_).trans ((fc11 j k22_ k23_ k24_ k25_ k26_ k27_).trans (ms_i e2 k0_))))⟩
                    · refine J_aload_n (i := 0) (j := 0) dX11_rows_146 rfl rfl ?_
                      refine J_get (C := RX11) (T := TX11) (Z := 43) (ci := 11) (f := 34) dX11_rows_147 inG11 rfl (by decide) k1298 wc_162 rfl ?_
                      refine J_iload (i := 5) (j := 3) dX11_rows_150 rfl ?_
                      refine J_lald dX11_rows_152 wc_176 (vin (bd_lt_hi bw30033 (i_nle c30052) (bd_shl (lo := 0) (hi := 9) (l := 1) (h := 512) h6 (by decide))) (by decide)) ?_
                      refine J_topl (fun l30061 _ => ?_)
                      refine J_aload_n (i := 0) (j := 0) dX11_rows_153 rfl rfl ?_
                      refine J_get (C := RX11) (T := TX11) (Z := 43) (ci := 11) (f := 34) dX11_rows_154 inG11 rfl (by decide) k1298 wc_162 rfl ?_
                      refine J_iload (i := 4) (j := 2) dX11_rows_157 rfl ?_
                      refine J_lald dX11_rows_159 wc_176 (vin bw30032 (by decide)) ?_
                      refine J_topl (fun l30062 _ => ?_)
                      refine J_lcmp dX11_rows_160 ?_
                      have jn30065 : ∀ (w30064 : Int32), Bd 0 511 w30064 → J x yX11_rows cX11_rows 8 (some .long) d 0 0 (Wd u g ex).length 171 [(0, .ref 162), (3, .int parts), (5, .int w30033)] [.int w30064] (Wd u28169 g28173 ex) 0 0 := by
                        intro w30064 bw30064
                        refine J_istore (i := 4) (lw := [(4, .int w30064), (0, .ref 162), (3, .int parts), (5, .int w30033)]) dX11_rows_171 (by decide) rfl ?_
                        refine J_iinc (i := 5) (j := 3) (v := (w30033 + 1)) (lw := [(5, .int (w30033 + 1)), (4, .int w30064), (0, .ref 162), (3, .int parts)]) dX11_rows_173 rfl rfl (by decide) rfl ?_
                        refine J_goto (tgt := 135) dX11_rows_176 (by decide) ?_
                        refine J_lv [2, 3, 1, 0] rfl ?_
                        exact ih30050 w30064 (w30033 + 1) bw30064 (bd_w (l := 1) (h := 512) (bd_add (l := 2) (h := 512) (bd_lt_hi bw30033 (i_nle c30052) (bd_shl (lo := 0) (hi := 9) (l := 1) (h := 512) h6 (by decide))) (bd_c (v := 1) (lo := 1) (hi := 1) (by decide)) (by decide)) (by decide)) (mu_up 1 bw30033 rfl (by decide) (bd_w (l := 2) (h := 512) (bd_add (l := 2) (h := 512) (bd_lt_hi bw30033 (i_nle c30052) (bd_shl (lo := 0) (hi := 9) (l := 1) (h := 512) h6 (by decide))) (bd_c (v := 1) (lo := 1) (hi := 1) (by decide)) (by decide)) (by decide)) hm30051)
                      refine J_if_le (tgt := 169) dX11_rows_161 (by decide) (fun c30063 => ?_) (fun c30063 => ?_)
                      · refine J_iload (i := 4) (j := 2) dX11_rows_169 rfl ?_
                        refine J_lv [0, 1, 3] rfl ?_
                        exact jn30065 w30032 bw30032
                      · refine J_iload (i := 5) (j := 3) dX11_rows_164 rfl ?_
                        refine J_goto (tgt := 171) dX11_rows_166 (by decide) ?_
                        refine J_lv [0, 1, 3] rfl ?_
                        exact jn30065 w30033 (bd_w (l := 0) (h := 511) (bd_lt_hi bw30033 (i_nle c30052) (bd_shl (lo := 0) (hi := 9) (l := 1) (h := 512) h6 (by decide))) (by decide))
                refine J_lv [2, 3, 1, 0] rfl ?_
                exact lp30048 _ (0 : Int32) (1 : Int32) (bd_w (l := 0) (h := 511) (bd_c (v := 0) (lo := 0) (hi := 0) (by decide)) (by decide)) (bd_w (l := 1) (h := 512) (bd_c (v := 1) (lo := 1) (hi := 1) (by decide)) (by decide)) (Nat.lt_succ_self _)
              · refine J_iconst (v := 0) dX11_rows_60 (by decide) ?_
                refine J_istore (i := 5) (lw := [(5, .int 0), (0, .ref 162), (3, .int parts), (4, .int w28168)]) dX11_rows_61 (by decide) rfl ?_
                have lp30543 : ∀ (n30544 : Nat) (w30474 : Int32) (u30475 : Nat → Nat → Int32) (g30479 : Nat → Nat → Int64), Bd 0 512 w30474 → (∀ c, nin c [(162, 162), (173, 175)] = true → u30475 c = u28169 c) → (∀ j, j ≠ 31 → j ≠ 32 → j ≠ 33 → u30475 162 j = u28169 162 j) → Bd 0 511 (u30475 162 31) → (512 - w30474.toInt).toNat < n30544 → J x yX11_rows cX11_rows 8 (some .long) d 0 0 (Wd u g ex).length 63 [(0, .ref 162), (3, .int parts), (4, .int w28168), (5, .int w30474)] [] (Wd u30475 g30479 ex) 0 0 := by
                  intro n30544
                  induction n30544 with
                  | zero => intro w30474 u30475 g30479 bw30474 fr30476 fc30477 bm30478 hm30546; exact absurd hm30546 (Nat.not_lt_zero _)
                  | succ n30544 ih30545 =>
                    intro w30474 u30475 g30479 bw30474 fr30476 fc30477 bm30478 hm30546
                    refine J_iload (i := 5) (j := 3) dX11_rows_63 rfl ?_
                    refine J_iconst (v := 1) dX11_rows_65 (by decide) ?_
                    refine J_aload_n (i := 0) (j := 0) dX11_rows_66 rfl rfl ?_
                    refine J_get (C := RX11) (T := TX11) (Z := 43) (ci := 11) (f := 22) dX11_rows_67 inG11 rfl (by decide) k1286 wc_162 rfl ?_
                    refine J_ci (v := u5 162 22) ((fc30477 22 (Nat.ne_of_beq_eq_false rfl) (Nat.ne_of_beq_eq_false rfl) (Nat.ne_of_beq_eq_false rfl)).trans (fc28171 22 (Nat.ne_of_beq_eq_false rfl) (Nat.ne_of_beq_eq_false rfl) (Nat.ne_of_beq_eq_false rfl))) ?_
                    refine J_ishl dX11_rows_70 ?_
                    refine J_icmp_ge (tgt := 123) dX11_rows_71 (by decide) (fun c30547 => ?_) (fun c30547 => ?_)
                    · refine J_iinc (i := 4) (j := 2) (v := (w28168 + 1)) (lw := [(4, .int (w28168 + 1)), (0, .ref 162), (3, .int parts), (5, .int w30474)]) dX11_rows_123 rfl rfl (by decide) rfl ?_
                      refine J_goto (tgt := 49) dX11_rows_126 (by decide) ?_
                      refine J_lv [1, 2, 0] rfl ?_
                      exact ih29392 (w28168 + 1) u30475 g30479 (bd_w (l := 0) (h := 4) (bd_add (l := 1) (h := 4) (bd_lt_hi bw28168 (i_nle c29394) ((h9 c12).1).1) (bd_c (v := 1) (lo := 1) (hi := 1) (by decide)) (by decide)) (by decide)) (fun c k_ => ((fr30476 c (nin_sub (M := [(162, 162), (173, 175)]) k_ rfl)).trans (fr28170 c (nin_sub (M := [(162, 162), (173, 175)]) k_ rfl)))) (fun j k31_ k32_ k33_ => ((fc30477 j k31_ k32_ k33_).trans (fc28171 j k31_ k32_ k33_))) bm30478 (mu_up 1 bw28168 rfl (by decide) (bd_w (l := 1) (h := 4) (bd_add (l := 1) (h := 4) (bd_lt_hi bw28168 (i_nle c29394) ((h9 c12).1).1) (bd_c (v := 1) (lo := 1) (hi := 1) (by decide)) (by decide)) (by decide)) hm29393)
                    · refine J_aload_n (i := 0) (j := 0) dX11_rows_74 rfl rfl ?_
                      refine J_iload (i := 4) (j := 2) dX11_rows_75 rfl ?_
                      refine J_iload (i := 5) (j := 3) dX11_rows_77 rfl ?_
                      refine J_callV (As := [.int w28168, .int w30474]) (rest := []) dX11_rows_79 (c_M_partsOf (d := 1) (u := u30475) (g := g30479) (ex := ex) (rain := w28168) (banks := w30474)  (by decide) (bd_r ((fc30477 22 (Nat.ne_of_beq_eq_false rfl) (Nat.ne_of_beq_eq_false rfl) (Nat.ne_of_beq_eq_false rfl)).trans (fc28171 22 (Nat.ne_of_beq_eq_false rfl) (Nat.ne_of_beq_eq_false rfl) (Nat.ne_of_beq_eq_false rfl))) h6) (bd_w (l := (-1)) (h := 75) (bd_lt_hi bw28168 (i_nle c29394) ((h9 c12).1).1) (by decide))) hq.n k1579 k1581 k66 wc_162 rfl rfl k97 k1582 np_X11_partsOf (Nat.le_trans (by decide) hd) (by decide) (Nat.le_refl _) (Nat.le_refl _) wlen rfl (Nat.le_of_ble_eq_true rfl) (fun r_ h_ p30579 => ?_)
                      obtain ⟨l30580, rfl, rfl⟩ := p30579
                      refine J_lstore (i := 6) (lw := [(6, .long l30580), (0, .ref 162), (3, .int parts), (4, .int w28168), (5, .int w30474)]) dX11_rows_82 (by decide) rfl ?_
                      refine J_lload (i := 6) (j := 0) dX11_rows_84 rfl ?_
                      refine J_lconst (v := 0) dX11_rows_86 (by decide) ?_
                      refine J_lcmp dX11_rows_87 ?_
                      have jn30598 : ∀ (u30593 : Nat → Nat → Int32) (g30597 : Nat → Nat → Int64), (∀ c, nin c [(162, 162), (173, 175)] = true → u30593 c = u30475 c) → (∀ j, j ≠ 31 → j ≠ 32 → j ≠ 33 → u30593 162 j = u30475 162 j) → Bd 0 511 (u30593 162 31) → J x yX11_rows cX11_rows 8 (some .long) d 0 0 (Wd u g ex).length 117 [(0, .ref 162), (3, .int parts), (4, .int w28168), (5, .int w30474)] [] (Wd u30593 g30597 ex) 0 0 := by
                        intro u30593 g30597 fr30594 fc30595 bm30596
                        refine J_iinc (i := 5) (j := 3) (v := (w30474 + 1)) (lw := [(5, .int (w30474 + 1)), (0, .ref 162), (3, .int parts), (4, .int w28168)]) dX11_rows_117 rfl rfl (by decide) rfl ?_
                        refine J_goto (tgt := 63) dX11_rows_120 (by decide) ?_
                        refine J_lv [1, 2, 3, 0] rfl ?_
                        exact ih30545 (w30474 + 1) u30593 g30597 (bd_w (l := 0) (h := 512) (bd_add (l := 1) (h := 512) (bd_lt_hi bw30474 (i_nle c30547) (bd_shl (lo := 0) (hi := 9) (l := 1) (h := 512) h6 (by decide))) (bd_c (v := 1) (lo := 1) (hi := 1) (by decide)) (by decide)) (by decide)) (fun c k_ => ((fr30594 c (nin_sub (M := [(162, 162), (173, 175)]) k_ rfl)).trans (fr30476 c (nin_sub (M := [(162, 162), (173, 175)]) k_ rfl)))) (fun j k31_ k32_ k33_ => ((fc30595 j k31_ k32_ k33_).trans (fc30477 j k31_ k32_ k33_))) bm30596 (mu_up 1 bw30474 rfl (by decide) (bd_w (l := 1) (h := 512) (bd_add (l := 1) (h := 512) (bd_lt_hi bw30474 (i_nle c30547) (bd_shl (lo := 0) (hi := 9) (l := 1) (h := 512) h6 (by decide))) (bd_c (v := 1) (lo := 1) (hi := 1) (by decide)) (by decide)) (by decide)) hm30546)
                      refine J_if_le (tgt := 117) dX11_rows_88 (by decide) (fun c30581 => ?_) (fun c30581 => ?_)
                      · refine J_lv [1, 2, 3, 4] rfl ?_
                        exact jn30598 u30475 g30479 (fun c k_ => rfl) (fun j k31_ k32_ k33_ => rfl) bm30478
                      · refine J_aload_n (i := 0) (j := 1) dX11_rows_91 rfl rfl ?_
                        refine J_aload_n (i := 0) (j := 1) dX11_rows_92 rfl rfl ?_
                        refine J_iload (i := 4) (j := 3) dX11_rows_93 rfl ?_
                        refine J_callV (As := [.int w28168]) (rest := [.ref 162]) dX11_rows_95 (c_M_stepsOf (d := 0) (u := u30475) (g := g30479) (ex := ex) (rain := w28168)  (by decide) (bd_w (l := 0) (h := 75) (bd_lt_hi bw28168 (i_nle c29394) ((h9 c12).1).1) (by decide))) hq.n k1547 k1549 k60 wc_162 rfl rfl k97 k1550 np_X11_stepsOf (Nat.le_trans (by decide) hd) (by decide) (Nat.le_refl _) (Nat.le_refl _) wlen rfl (Nat.le_of_ble_eq_true rfl) (fun r_ h_ p30599 => ?_)
                        obtain ⟨v30600, rfl, rfl⟩ := p30599
                        refine J_iload (i := 5) (j := 4) dX11_rows_98 rfl ?_
                        refine J_callV (As := [.int v30600, .int w30474]) (rest := []) dX11_rows_100 (c_M_blow (d := 3) (u := u30475) (g := g30479) (ex := ex) (steps := v30600) (banks := w30474)  (by decide) (bd_r ((fc30477 22 (Nat.ne_of_beq_eq_false rfl) (Nat.ne_of_beq_eq_false rfl) (Nat.ne_of_beq_eq_false rfl)).trans (fc28171 22 (Nat.ne_of_beq_eq_false rfl) (Nat.ne_of_beq_eq_false rfl) (Nat.ne_of_beq_eq_false rfl))) h6) (dn_c ((fr30476 172 rfl).trans (fr28170 172 rfl)) h7)) hq.n k1551 k1553 k61 wc_162 rfl rfl k97 k1554 np_X11_blow (Nat.le_trans (by decide) hd) (by decide) (Nat.le_refl _) (Nat.le_refl _) wlen rfl (Nat.le_of_ble_eq_true rfl) (fun r_ h_ p30601 => ?_)
                        obtain ⟨u30602, rfl, rfl, h30603, fr30604, fc30605⟩ := p30601
                        refine J_aload_n (i := 0) (j := 1) dX11_rows_103 rfl rfl ?_
                        refine J_get (C := RX11) (T := TX11) (Z := 43) (ci := 11) (f := 34) dX11_rows_104 inG11 rfl (by decide) k1298 wc_162 rfl ?_
                        refine J_aload_n (i := 0) (j := 1) dX11_rows_107 rfl rfl ?_
                        refine J_get (C := RX11) (T := TX11) (Z := 43) (ci := 11) (f := 31) dX11_rows_108 inG11 rfl (by decide) k1295 wc_162 rfl ?_
                        refine J_dup2_11 dX11_rows_111 rfl rfl ?_
                        refine J_lald dX11_rows_112 wc_176 (vin h30603 (by decide)) ?_
                        refine J_topl (fun l30606 _ => ?_)
                        refine J_lload (i := 6) (j := 0) dX11_rows_113 rfl ?_
                        refine J_ladd dX11_rows_115 ?_
                        refine J_topl (fun l30607 _ => ?_)
                        obtain ⟨g30608, e30609⟩ : ∃ z, z = ml g30479 176 ((u30602 162 31).toNatClampNeg) l30607 := ⟨_, rfl⟩
                        refine J_last dX11_rows_116 wc_176 (vin h30603 (by decide)) (wsl e30609 wk_176 rfl) ?_
                        refine J_lv [1, 2, 3, 4] rfl ?_
                        exact jn30598 u30602 g30608 (fun c k_ => (fr30604 c (nin_sub (M := [(162, 162), (173, 175)]) k_ rfl))) (fun j k31_ k32_ k33_ => (fc30605 j k31_ k32_ k33_)) h30603
                refine J_lv [1, 2, 3, 0] rfl ?_
                exact lp30543 _ (0 : Int32) u28169 g28173 (bd_w (l := 0) (h := 512) (bd_c (v := 0) (lo := 0) (hi := 0) (by decide)) (by decide)) (fun c k_ => rfl) (fun j k31_ k32_ k33_ => rfl) bm28172 (Nat.lt_succ_self _)
          refine J_lv [1, 2, 0] rfl ?_
          exact lp29390 _ (0 : Int32) u5 g18647 (bd_w (l := 0) (h := 4) (bd_c (v := 0) (lo := 0) (hi := 0) (by decide)) (by decide)) (fun c k_ => rfl) (fun j k31_ k32_ k33_ => rfl) (bd_r ((fc11 31 (Nat.ne_of_beq_eq_false rfl) (Nat.ne_of_beq_eq_false rfl) (Nat.ne_of_beq_eq_false rfl) (Nat.ne_of_beq_eq_false rfl) (Nat.ne_of_beq_eq_false rfl) (Nat.ne_of_beq_eq_false rfl)).trans (ms_i e2 (Nat.ne_of_beq_eq_false rfl))) hp8) (Nat.lt_succ_self _)
        · refine J_aload_n (i := 0) (j := 0) dX11_rows_32 rfl rfl ?_
          refine J_get (C := RX11) (T := TX11) (Z := 43) (ci := 11) (f := 34) dX11_rows_33 inG11 rfl (by decide) k1298 wc_162 rfl ?_
          refine J_iload (i := 4) (j := 2) dX11_rows_36 rfl ?_
          refine J_lconst (v := 0) dX11_rows_38 (by decide) ?_
          obtain ⟨g30610, e30611⟩ : ∃ z, z = ml g18647 176 w18646.toNatClampNeg 0 := ⟨_, rfl⟩
          refine J_last dX11_rows_39 wc_176 (vin (bd_lt_hi bw18646 (i_nle c24632) (bd_shl (lo := 0) (hi := 9) (l := 1) (h := 512) h6 (by decide))) (by decide)) (wsl e30611 wk_176 rfl) ?_
          refine J_iinc (i := 4) (j := 2) (v := (w18646 + 1)) (lw := [(4, .int (w18646 + 1)), (0, .ref 162), (3, .int parts)]) dX11_rows_40 rfl rfl (by decide) rfl ?_
          refine J_goto (tgt := 21) dX11_rows_43 (by decide) ?_
          refine J_lv [1, 2, 0] rfl ?_
          exact ih24630 (w18646 + 1) g30610 (bd_w (l := 0) (h := 512) (bd_add (l := 1) (h := 512) (bd_lt_hi bw18646 (i_nle c24632) (bd_shl (lo := 0) (hi := 9) (l := 1) (h := 512) h6 (by decide))) (bd_c (v := 1) (lo := 1) (hi := 1) (by decide)) (by decide)) (by decide)) (mu_up 1 bw18646 rfl (by decide) (bd_w (l := 1) (h := 512) (bd_add (l := 1) (h := 512) (bd_lt_hi bw18646 (i_nle c24632) (bd_shl (lo := 0) (hi := 9) (l := 1) (h := 512) h6 (by decide))) (bd_c (v := 1) (lo := 1) (hi := 1) (by decide)) (by decide)) (by decide)) hm24631)
    refine J_lv [1, 4, 0] rfl ?_
    exact lp24628 _ (0 : Int32) g (bd_w (l := 0) (h := 512) (bd_c (v := 0) (lo := 0) (hi := 0) (by decide)) (by decide)) (Nat.lt_succ_self _)
  · refine J_ldc2 (v := (-1)) dX11_rows_14 k1578 ?_
    exact J_lret hq dX11_rows_17 rfl wlen (Nat.le_refl _) (Nat.le_refl _) ⟨((-1) : Int64), u5, g, rfl, rfl, h6, h7, h8, (bd_r ((fc11 31 (Nat.ne_of_beq_eq_false rfl) (Nat.ne_of_beq_eq_false rfl) (Nat.ne_of_beq_eq_false rfl) (Nat.ne_of_beq_eq_false rfl) (Nat.ne_of_beq_eq_false rfl) (Nat.ne_of_beq_eq_false rfl)).trans (ms_i e2 (Nat.ne_of_beq_eq_false rfl))) hp8), (fun c k_ => ((fr10 c (nin_ne (a := 162) k_ rfl) (nin_ne (a := 172) k_ rfl)).trans (ms_c e2 (nin_ne (a := 162) k_ rfl)))), (fun j k0_ k22_ k23_ k24_ k25_ k26_ k27_ k31_ k32_ k33_ => ((fc11 j k22_ k23_ k24_ k25_ k26_ k27_).trans (ms_i e2 k0_)))⟩
set_option maxHeartbeats 4000000 in
set_option maxRecDepth 100000 in
theorem c_M_brings {d : Nat} {u : Nat → Nat → Int32} {g : Nat → Nat → Int64} {ex : List MC} {hill : Int32} {plan : Int32} {rain : Int32} {pond : Int32} (hd : 4 ≤ d) (hp0 : (MY u)) (hp1 : AB u 168 (-1) 999) (hp2 : (HD u)) (hp3 : (HC u)) (hp4 : (PL u)) (hp5 : (N0 u)) (hp6 : (DN u)) (hp7 : Bd 0 9 (u 162 22)) (hp8 : Bd 0 511 (u 162 31)) (hp9 : AB u 177 (-1) 999) : CT con0 d 0 0 yX11_brings cX11_brings 7 (some .int) [.ref 162, .int hill, .int plan, .int rain, .int pond] (Wd u g ex) (fun r h2 => ∃ (z : Int32) (u2 : Nat → Nat → Int32), r = some (.int z) ∧ h2 = Wd u2 g ex ∧ Bd 0 9 (u2 162 22) ∧ (DN u2) ∧ (N0 u2) ∧ Bd 0 511 (u2 162 31) ∧ (∀ c, nin c [(162, 162), (172, 175)] = true → u2 c = u c) ∧ (∀ j, j ≠ 0 → j ≠ 22 → j ≠ 23 → j ≠ 24 → j ≠ 25 → j ≠ 26 → j ≠ 27 → j ≠ 31 → j ≠ 32 → j ≠ 33 → u2 162 j = u 162 j)) := by
  refine CT_of (by decide) (Nat.le_of_ble_eq_true rfl) (fun x hq => ?_)
  show J x yX11_brings cX11_brings 7 (some .int) d 0 0 (Wd u g ex).length 0 [(0, .ref 162), (1, .int hill), (2, .int plan), (3, .int rain), (4, .int pond)] [] (Wd u g ex) 0 0
  refine J_aload_n (i := 0) (j := 0) dX11_brings_0 rfl rfl ?_
  refine J_iconst (v := 0) dX11_brings_1 (by decide) ?_
  obtain ⟨u1, e2⟩ : ∃ z, z = ms u 162 0 0 := ⟨_, rfl⟩
  refine J_put (C := RX11) (T := TX11) (Z := 43) (ci := 11) (f := 0) (ty0 := tyX11) dX11_brings_2 inG11 rfl tyX11_ok nmX11 (by decide) k1264 rfl rfl wc_162 (Nat.le_of_ble_eq_true rfl) (fun _ _ => ⟨rfl, rfl⟩) (ws e2 wk_162 rfl) ?_
  refine J_aload_n (i := 0) (j := 0) dX11_brings_5 rfl rfl ?_
  refine J_iload_n (i := 1) (j := 1) dX11_brings_6 rfl rfl ?_
  refine J_iload_n (i := 2) (j := 2) dX11_brings_7 rfl rfl ?_
  refine J_callV (As := [.int hill, .int plan]) (rest := []) dX11_brings_8 (c_M_lay (d := 2) (u := u1) (g := g) (ex := ex) (h := hill) (plan := plan)  (by decide) (my_c (ms_c e2 (Nat.ne_of_beq_eq_false rfl)) hp0) (ab_c (ms_c e2 (Nat.ne_of_beq_eq_false rfl)) hp1) (hd_c (ms_c e2 (Nat.ne_of_beq_eq_false rfl)) hp2) (hc_c (ms_c e2 (Nat.ne_of_beq_eq_false rfl)) (ms_c e2 (Nat.ne_of_beq_eq_false rfl)) hp3) (pl_c (ms_c e2 (Nat.ne_of_beq_eq_false rfl)) hp4) (n0_c (ms_c e2 (Nat.ne_of_beq_eq_false rfl)) hp5) (dn_c (ms_c e2 (Nat.ne_of_beq_eq_false rfl)) hp6) (bd_r (ms_i e2 (Nat.ne_of_beq_eq_false rfl)) hp7)) hq.n k1503 k1505 k52 wc_162 rfl rfl k97 k1506 np_X11_lay (Nat.le_trans (by decide) hd) (by decide) (Nat.le_refl _) (Nat.le_refl _) wlen rfl (Nat.le_of_ble_eq_true rfl) (fun r_ h_ p3 => ?_)
  obtain ⟨t4, u5, rfl, rfl, h6, h7, h8, h9, fr10, fc11⟩ := p3
  refine J_ifB_eq (tgt := 31) dX11_brings_11 (by decide) (fun c12 => ?_) (fun c12 => ?_)
  · refine J_iconst (v := (-1)) dX11_brings_31 (by decide) ?_
    exact J_iret hq dX11_brings_32 rfl wlen (Nat.le_refl _) (Nat.le_refl _) ⟨((-1) : Int32), u5, rfl, rfl, h6, h7, h8, (bd_r ((fc11 31 (Nat.ne_of_beq_eq_false rfl) (Nat.ne_of_beq_eq_false rfl) (Nat.ne_of_beq_eq_false rfl) (Nat.ne_of_beq_eq_false rfl) (Nat.ne_of_beq_eq_false rfl) (Nat.ne_of_beq_eq_false rfl)).trans (ms_i e2 (Nat.ne_of_beq_eq_false rfl))) hp8), (fun c k_ => ((fr10 c (nin_ne (a := 162) k_ rfl) (nin_ne (a := 172) k_ rfl)).trans (ms_c e2 (nin_ne (a := 162) k_ rfl)))), (fun j k0_ k22_ k23_ k24_ k25_ k26_ k27_ k31_ k32_ k33_ => ((fc11 j k22_ k23_ k24_ k25_ k26_ k27_).trans (ms_i e2 k0_)))⟩
  · refine J_aload_n (i := 0) (j := 0) dX11_brings_14 rfl rfl ?_
    refine J_iload_n (i := 3) (j := 3) dX11_brings_15 rfl rfl ?_
    refine J_callV (As := [.int rain]) (rest := []) dX11_brings_16 (c_M_isRain (d := 1) (u := u5) (g := g) (ex := ex) (rr := rain)  (by decide) (h9 c12).1) hq.n k1539 k1541 k58 wc_162 rfl rfl k97 k1542 np_X11_isRain (Nat.le_trans (by decide) hd) (by decide) (Nat.le_refl _) (Nat.le_refl _) wlen rfl (Nat.le_of_ble_eq_true rfl) (fun r_ h_ p13 => ?_)
    obtain ⟨t14, rfl, rfl, h15⟩ := p13
    refine J_ifB_eq (tgt := 31) dX11_brings_19 (by decide) (fun c16 => ?_) (fun c16 => ?_)
    · refine J_iconst (v := (-1)) dX11_brings_31 (by decide) ?_
      exact J_iret hq dX11_brings_32 rfl wlen (Nat.le_refl _) (Nat.le_refl _) ⟨((-1) : Int32), u5, rfl, rfl, h6, h7, h8, (bd_r ((fc11 31 (Nat.ne_of_beq_eq_false rfl) (Nat.ne_of_beq_eq_false rfl) (Nat.ne_of_beq_eq_false rfl) (Nat.ne_of_beq_eq_false rfl) (Nat.ne_of_beq_eq_false rfl) (Nat.ne_of_beq_eq_false rfl)).trans (ms_i e2 (Nat.ne_of_beq_eq_false rfl))) hp8), (fun c k_ => ((fr10 c (nin_ne (a := 162) k_ rfl) (nin_ne (a := 172) k_ rfl)).trans (ms_c e2 (nin_ne (a := 162) k_ rfl)))), (fun j k0_ k22_ k23_ k24_ k25_ k26_ k27_ k31_ k32_ k33_ => ((fc11 j k22_ k23_ k24_ k25_ k26_ k27_).trans (ms_i e2 k0_)))⟩
    · refine J_aload_n (i := 0) (j := 0) dX11_brings_22 rfl rfl ?_
      refine J_iload (i := 4) (j := 4) dX11_brings_23 rfl ?_
      refine J_callV (As := [.int pond]) (rest := []) dX11_brings_25 (c_M_isPond (d := 1) (u := u5) (g := g) (ex := ex) (p := pond)  (by decide) h6) hq.n k1523 k1525 k57 wc_162 rfl rfl k97 k1526 np_X11_isPond (Nat.le_trans (by decide) hd) (by decide) (Nat.le_refl _) (Nat.le_refl _) wlen rfl (Nat.le_of_ble_eq_true rfl) (fun r_ h_ p17 => ?_)
      obtain ⟨t18, rfl, rfl, h19⟩ := p17
      refine J_ifB_ne (tgt := 33) dX11_brings_28 (by decide) (fun c20 => ?_) (fun c20 => ?_)
      · refine J_iconst (v := (-1)) dX11_brings_33 (by decide) ?_
        refine J_istore (i := 5) (lw := [(5, .int (-1)), (0, .ref 162), (1, .int hill), (2, .int plan), (3, .int rain), (4, .int pond)]) dX11_brings_34 (by decide) rfl ?_
        refine J_iconst (v := 0) dX11_brings_36 (by decide) ?_
        refine J_istore (i := 6) (lw := [(6, .int 0), (5, .int (-1)), (0, .ref 162), (1, .int hill), (2, .int plan), (3, .int rain), (4, .int pond)]) dX11_brings_37 (by decide) rfl ?_
        have lp820 : ∀ (n821 : Nat) (w691 : Int32) (w692 : Int32) (u693 : Nat → Nat → Int32), Bd (-1) 511 w691 → Bd 0 512 w692 → (∀ c, nin c [(162, 162), (173, 175)] = true → u693 c = u5 c) → (∀ j, j ≠ 31 → j ≠ 32 → j ≠ 33 → u693 162 j = u5 162 j) → Bd 0 511 (u693 162 31) → (512 - w692.toInt).toNat < n821 → J x yX11_brings cX11_brings 7 (some .int) d 0 0 (Wd u g ex).length 39 [(0, .ref 162), (3, .int rain), (4, .int pond), (5, .int w691), (6, .int w692)] [] (Wd u693 g ex) 0 0 := by
          intro n821
          induction n821 with
          | zero => intro w691 w692 u693 bw691 bw692 fr694 fc695 bm696 hm823; exact absurd hm823 (Nat.not_lt_zero _)
          | succ n821 ih822 =>
            intro w691 w692 u693 bw691 bw692 fr694 fc695 bm696 hm823
            refine J_iload (i := 6) (j := 4) dX11_brings_39 rfl ?_
            refine J_iconst (v := 1) dX11_brings_41 (by decide) ?_
            refine J_aload_n (i := 0) (j := 0) dX11_brings_42 rfl rfl ?_
            refine J_get (C := RX11) (T := TX11) (Z := 43) (ci := 11) (f := 22) dX11_brings_43 inG11 rfl (by decide) k1286 wc_162 rfl ?_
            refine J_ci (v := u5 162 22) (fc695 22 (Nat.ne_of_beq_eq_false rfl) (Nat.ne_of_beq_eq_false rfl) (Nat.ne_of_beq_eq_false rfl)) ?_
            refine J_ishl dX11_brings_46 ?_
            refine J_icmp_ge (tgt := 107) dX11_brings_47 (by decide) (fun c824 => ?_) (fun c824 => ?_)
            · refine J_iload (i := 5) (j := 3) dX11_brings_107 rfl ?_
              exact J_iret hq dX11_brings_109 rfl wlen (Nat.le_refl _) (Nat.le_refl _) ⟨w691, u693, rfl, rfl, (bd_r (fc695 22 (Nat.ne_of_beq_eq_false rfl) (Nat.ne_of_beq_eq_false rfl) (Nat.ne_of_beq_eq_false rfl)) h6), (dn_c (fr694 172 rfl) h7), (n0_c (fr694 172 rfl) h8), bm696, (fun c k_ => ((fr694 c (nin_sub (M := [(162, 162), (173, 175)]) k_ rfl)).trans ((fr10 c (nin_ne (a := 162) k_ rfl) (nin_ne (a := 172) k_ rfl)).trans (ms_c e2 (nin_ne (a := 162) k_ rfl))))), (fun j k0_ k22_ k23_ k24_ k25_ k26_ k27_ k31_ k32_ k33_ => ((fc695 j k31_ k32_ k33_).trans ((fc11 j k22_ k23_ k24_ k25_ k26_ k27_).trans (ms_i e2 k0_))))⟩
            · refine J_iload (i := 5) (j := 3) dX11_brings_50 rfl ?_
              refine J_iconst (v := (-1)) dX11_brings_52 (by decide) ?_
              have jn919 : ∀ (w914 : Int32) (u915 : Nat → Nat → Int32), Bd (-1) 511 w914 → (∀ c, nin c [(162, 162), (173, 175)] = true → u915 c = u693 c) → (∀ j, j ≠ 31 → j ≠ 32 → j ≠ 33 → u915 162 j = u693 162 j) → Bd 0 511 (u915 162 31) → J x yX11_brings cX11_brings 7 (some .int) d 0 0 (Wd u g ex).length 101 [(0, .ref 162), (3, .int rain), (4, .int pond), (5, .int w914), (6, .int w692)] [] (Wd u915 g ex) 0 0 := by
                intro w914 u915 bw914 fr916 fc917 bm918
                refine J_iinc (i := 6) (j := 4) (v := (w692 + 1)) (lw := [(6, .int (w692 + 1)), (0, .ref 162), (3, .int rain), (4, .int pond), (5, .int w914)]) dX11_brings_101 rfl rfl (by decide) rfl ?_
                refine J_goto (tgt := 39) dX11_brings_104 (by decide) ?_
                refine J_lv [1, 2, 3, 4, 0] rfl ?_
                exact ih822 w914 (w692 + 1) u915 bw914 (bd_w (l := 0) (h := 512) (bd_add (l := 1) (h := 512) (bd_lt_hi bw692 (i_nle c824) (bd_shl (lo := 0) (hi := 9) (l := 1) (h := 512) h6 (by decide))) (bd_c (v := 1) (lo := 1) (hi := 1) (by decide)) (by decide)) (by decide)) (fun c k_ => ((fr916 c (nin_sub (M := [(162, 162), (173, 175)]) k_ rfl)).trans (fr694 c (nin_sub (M := [(162, 162), (173, 175)]) k_ rfl)))) (fun j k31_ k32_ k33_ => ((fc917 j k31_ k32_ k33_).trans (fc695 j k31_ k32_ k33_))) bm918 (mu_up 1 bw692 rfl (by decide) (bd_w (l := 1) (h := 512) (bd_add (l := 1) (h := 512) (bd_lt_hi bw692 (i_nle c824) (bd_shl (lo := 0) (hi := 9) (l := 1) (h := 512) h6 (by decide))) (bd_c (v := 1) (lo := 1) (hi := 1) (by decide)) (by decide)) (by decide)) hm823)
              refine J_icmp_eq (tgt := 69) dX11_brings_53 (by decide) (fun c886 => ?_) (fun c886 => ?_)
              · refine J_aload_n (i := 0) (j := 0) dX11_brings_69 rfl rfl ?_
                refine J_aload_n (i := 0) (j := 0) dX11_brings_70 rfl rfl ?_
                refine J_iload_n (i := 3) (j := 1) dX11_brings_71 rfl rfl ?_
                refine J_callV (As := [.int rain]) (rest := [.ref 162]) dX11_brings_72 (c_M_stepsOf (d := 0) (u := u693) (g := g) (ex := ex) (rain := rain)  (by decide) (bd_w (l := 0) (h := 75) (h15 c16) (by decide))) hq.n k1547 k1549 k60 wc_162 rfl rfl k97 k1550 np_X11_stepsOf (Nat.le_trans (by decide) hd) (by decide) (Nat.le_refl _) (Nat.le_refl _) wlen rfl (Nat.le_of_ble_eq_true rfl) (fun r_ h_ p920 => ?_)
                obtain ⟨v921, rfl, rfl⟩ := p920
                refine J_iload (i := 6) (j := 4) dX11_brings_75 rfl ?_
                refine J_callV (As := [.int v921, .int w692]) (rest := []) dX11_brings_77 (c_M_blow (d := 3) (u := u693) (g := g) (ex := ex) (steps := v921) (banks := w692)  (by decide) (bd_r (fc695 22 (Nat.ne_of_beq_eq_false rfl) (Nat.ne_of_beq_eq_false rfl) (Nat.ne_of_beq_eq_false rfl)) h6) (dn_c (fr694 172 rfl) h7)) hq.n k1551 k1553 k61 wc_162 rfl rfl k97 k1554 np_X11_blow (Nat.le_trans (by decide) hd) (by decide) (Nat.le_refl _) (Nat.le_refl _) wlen rfl (Nat.le_of_ble_eq_true rfl) (fun r_ h_ p922 => ?_)
                obtain ⟨u923, rfl, rfl, h924, fr925, fc926⟩ := p922
                refine J_aload_n (i := 0) (j := 0) dX11_brings_80 rfl rfl ?_
                refine J_get (C := RX11) (T := TX11) (Z := 43) (ci := 11) (f := 31) dX11_brings_81 inG11 rfl (by decide) k1295 wc_162 rfl ?_
                refine J_iload (i := 4) (j := 2) dX11_brings_84 rfl ?_
                refine J_callS (As := [.int (u923 162 31), .int pond]) (rest := []) dX11_brings_86 (c_M_has (d := 0) (u := u923) (g := g) (ex := ex) (set := u923 162 31) (k := pond)  (by decide) ) hq.n k1555 k1556 k97 k1557 np_X11_has (Nat.le_trans (by decide) hd) (by decide) (Nat.le_refl _) (Nat.le_refl _) wlen rfl (Nat.le_of_ble_eq_true rfl) (fun r_ h_ p927 => ?_)
                obtain ⟨t928, rfl, rfl⟩ := p927
                have jn931 : ∀ (w930 : Int32), Bd (-1) 511 w930 → J x yX11_brings cX11_brings 7 (some .int) d 0 0 (Wd u g ex).length 99 [(0, .ref 162), (3, .int rain), (4, .int pond), (6, .int w692)] [.int w930] (Wd u923 g ex) 0 0 := by
                  intro w930 bw930
                  refine J_istore (i := 5) (lw := [(5, .int w930), (0, .ref 162), (3, .int rain), (4, .int pond), (6, .int w692)]) dX11_brings_99 (by decide) rfl ?_
                  refine J_lv [1, 2, 3, 0, 4] rfl ?_
                  exact jn919 w930 u923 bw930 (fun c k_ => (fr925 c (nin_sub (M := [(162, 162), (173, 175)]) k_ rfl))) (fun j k31_ k32_ k33_ => (fc926 j k31_ k32_ k33_)) h924
                refine J_ifB_eq (tgt := 97) dX11_brings_89 (by decide) (fun c929 => ?_) (fun c929 => ?_)
                · refine J_iload (i := 5) (j := 3) dX11_brings_97 rfl ?_
                  refine J_lv [0, 1, 2, 4] rfl ?_
                  exact jn931 w691 (bd_w (l := (-1)) (h := 511) (bd_r c886 (bd_c (v := (-1)) (lo := (-1)) (hi := (-1)) (by decide))) (by decide))
                · refine J_iload (i := 6) (j := 4) dX11_brings_92 rfl ?_
                  refine J_goto (tgt := 99) dX11_brings_94 (by decide) ?_
                  refine J_lv [0, 1, 2, 4] rfl ?_
                  exact jn931 w692 (bd_w (l := (-1)) (h := 511) (bd_lt_hi bw692 (i_nle c824) (bd_shl (lo := 0) (hi := 9) (l := 1) (h := 512) h6 (by decide))) (by decide))
              · refine J_iload (i := 6) (j := 4) dX11_brings_56 rfl ?_
                refine J_callS (As := [.int w692]) (rest := []) dX11_brings_58 (c_M_ones (d := 0) (u := u693) (g := g) (ex := ex) (set := w692)  (by decide) ) hq.n k1608 k1609 k97 k1610 np_X11_ones (Nat.le_trans (by decide) hd) (by decide) (Nat.le_refl _) (Nat.le_refl _) wlen rfl (Nat.le_of_ble_eq_true rfl) (fun r_ h_ p932 => ?_)
                obtain ⟨rfl, rfl⟩ := p932
                refine J_iload (i := 5) (j := 3) dX11_brings_61 rfl ?_
                refine J_callS (As := [.int w691]) (rest := [.int (onesN w692 9)]) dX11_brings_63 (c_M_ones (d := 0) (u := u693) (g := g) (ex := ex) (set := w691)  (by decide) ) hq.n k1608 k1609 k97 k1610 np_X11_ones (Nat.le_trans (by decide) hd) (by decide) (Nat.le_refl _) (Nat.le_refl _) wlen rfl (Nat.le_of_ble_eq_true rfl) (fun r_ h_ p933 => ?_)
                obtain ⟨rfl, rfl⟩ := p933
                refine J_icmp_ge (tgt := 101) dX11_brings_66 (by decide) (fun c934 => ?_) (fun c934 => ?_)
                · refine J_lv [0, 1, 2, 3, 4] rfl ?_
                  exact jn919 w691 u693 (bd_w (l := (-1)) (h := 511) (bd_ne_lo bw691 c886 (by decide)) (by decide)) (fun c k_ => rfl) (fun j k31_ k32_ k33_ => rfl) bm696
                · refine J_aload_n (i := 0) (j := 0) dX11_brings_69 rfl rfl ?_
                  refine J_aload_n (i := 0) (j := 0) dX11_brings_70 rfl rfl ?_
                  refine J_iload_n (i := 3) (j := 1) dX11_brings_71 rfl rfl ?_
                  refine J_callV (As := [.int rain]) (rest := [.ref 162]) dX11_brings_72 (c_M_stepsOf (d := 0) (u := u693) (g := g) (ex := ex) (rain := rain)  (by decide) (bd_w (l := 0) (h := 75) (h15 c16) (by decide))) hq.n k1547 k1549 k60 wc_162 rfl rfl k97 k1550 np_X11_stepsOf (Nat.le_trans (by decide) hd) (by decide) (Nat.le_refl _) (Nat.le_refl _) wlen rfl (Nat.le_of_ble_eq_true rfl) (fun r_ h_ p935 => ?_)
                  obtain ⟨v936, rfl, rfl⟩ := p935
                  refine J_iload (i := 6) (j := 4) dX11_brings_75 rfl ?_
                  refine J_callV (As := [.int v936, .int w692]) (rest := []) dX11_brings_77 (c_M_blow (d := 3) (u := u693) (g := g) (ex := ex) (steps := v936) (banks := w692)  (by decide) (bd_r (fc695 22 (Nat.ne_of_beq_eq_false rfl) (Nat.ne_of_beq_eq_false rfl) (Nat.ne_of_beq_eq_false rfl)) h6) (dn_c (fr694 172 rfl) h7)) hq.n k1551 k1553 k61 wc_162 rfl rfl k97 k1554 np_X11_blow (Nat.le_trans (by decide) hd) (by decide) (Nat.le_refl _) (Nat.le_refl _) wlen rfl (Nat.le_of_ble_eq_true rfl) (fun r_ h_ p937 => ?_)
                  obtain ⟨u938, rfl, rfl, h939, fr940, fc941⟩ := p937
                  refine J_aload_n (i := 0) (j := 0) dX11_brings_80 rfl rfl ?_
                  refine J_get (C := RX11) (T := TX11) (Z := 43) (ci := 11) (f := 31) dX11_brings_81 inG11 rfl (by decide) k1295 wc_162 rfl ?_
                  refine J_iload (i := 4) (j := 2) dX11_brings_84 rfl ?_
                  refine J_callS (As := [.int (u938 162 31), .int pond]) (rest := []) dX11_brings_86 (c_M_has (d := 0) (u := u938) (g := g) (ex := ex) (set := u938 162 31) (k := pond)  (by decide) ) hq.n k1555 k1556 k97 k1557 np_X11_has (Nat.le_trans (by decide) hd) (by decide) (Nat.le_refl _) (Nat.le_refl _) wlen rfl (Nat.le_of_ble_eq_true rfl) (fun r_ h_ p942 => ?_)
                  obtain ⟨t943, rfl, rfl⟩ := p942
                  have jn946 : ∀ (w945 : Int32), Bd 0 511 w945 → J x yX11_brings cX11_brings 7 (some .int) d 0 0 (Wd u g ex).length 99 [(0, .ref 162), (3, .int rain), (4, .int pond), (6, .int w692)] [.int w945] (Wd u938 g ex) 0 0 := by
                    intro w945 bw945
                    refine J_istore (i := 5) (lw := [(5, .int w945), (0, .ref 162), (3, .int rain), (4, .int pond), (6, .int w692)]) dX11_brings_99 (by decide) rfl ?_
                    refine J_lv [1, 2, 3, 0, 4] rfl ?_
                    exact jn919 w945 u938 (bd_w (l := (-1)) (h := 511) bw945 (by decide)) (fun c k_ => (fr940 c (nin_sub (M := [(162, 162), (173, 175)]) k_ rfl))) (fun j k31_ k32_ k33_ => (fc941 j k31_ k32_ k33_)) h939
                  refine J_ifB_eq (tgt := 97) dX11_brings_89 (by decide) (fun c944 => ?_) (fun c944 => ?_)
                  · refine J_iload (i := 5) (j := 3) dX11_brings_97 rfl ?_
                    refine J_lv [0, 1, 2, 4] rfl ?_
                    exact jn946 w691 (bd_ne_lo bw691 c886 (by decide))
                  · refine J_iload (i := 6) (j := 4) dX11_brings_92 rfl ?_
                    refine J_goto (tgt := 99) dX11_brings_94 (by decide) ?_
                    refine J_lv [0, 1, 2, 4] rfl ?_
                    exact jn946 w692 (bd_lt_hi bw692 (i_nle c824) (bd_shl (lo := 0) (hi := 9) (l := 1) (h := 512) h6 (by decide)))
        refine J_lv [2, 5, 6, 1, 0] rfl ?_
        exact lp820 _ ((-1) : Int32) (0 : Int32) u5 (bd_w (l := (-1)) (h := 511) (bd_c (v := (-1)) (lo := (-1)) (hi := (-1)) (by decide)) (by decide)) (bd_w (l := 0) (h := 512) (bd_c (v := 0) (lo := 0) (hi := 0) (by decide)) (by decide)) (fun c k_ => rfl) (fun j k31_ k32_ k33_ => rfl) (bd_r ((fc11 31 (Nat.ne_of_beq_eq_false rfl) (Nat.ne_of_beq_eq_false rfl) (Nat.ne_of_beq_eq_false rfl) (Nat.ne_of_beq_eq_false rfl) (Nat.ne_of_beq_eq_false rfl) (Nat.ne_of_beq_eq_false rfl)).trans (ms_i e2 (Nat.ne_of_beq_eq_false rfl))) hp8) (Nat.lt_succ_self _)
      · refine J_iconst (v := (-1)) dX11_brings_31 (by decide) ?_
        exact J_iret hq dX11_brings_32 rfl wlen (Nat.le_refl _) (Nat.le_refl _) ⟨((-1) : Int32), u5, rfl, rfl, h6, h7, h8, (bd_r ((fc11 31 (Nat.ne_of_beq_eq_false rfl) (Nat.ne_of_beq_eq_false rfl) (Nat.ne_of_beq_eq_false rfl) (Nat.ne_of_beq_eq_false rfl) (Nat.ne_of_beq_eq_false rfl) (Nat.ne_of_beq_eq_false rfl)).trans (ms_i e2 (Nat.ne_of_beq_eq_false rfl))) hp8), (fun c k_ => ((fr10 c (nin_ne (a := 162) k_ rfl) (nin_ne (a := 172) k_ rfl)).trans (ms_c e2 (nin_ne (a := 162) k_ rfl)))), (fun j k0_ k22_ k23_ k24_ k25_ k26_ k27_ k31_ k32_ k33_ => ((fc11 j k22_ k23_ k24_ k25_ k26_ k27_).trans (ms_i e2 k0_)))⟩
set_option maxHeartbeats 4000000 in
set_option maxRecDepth 100000 in
theorem c_M_canMend {d : Nat} {u : Nat → Nat → Int32} {g : Nat → Nat → Int64} {ex : List MC} {h : Int32} {plan : Int32} {set : Int32} {left : Int32} (hd : 3 ≤ d) (hp0 : (MY u)) (hp1 : AB u 168 (-1) 999) (hp2 : (HD u)) (hp3 : (HC u)) (hp4 : (PL u)) (hp5 : (N0 u)) (hp6 : (DN u)) (hp7 : Bd 0 9 (u 162 22)) (hp8 : Bd 0 511 (u 162 31)) (hp9 : AB u 177 (-1) 999) : CT con0 d 0 0 yX11_canMend cX11_canMend 5 (some .boolean) [.ref 162, .int h, .int plan, .int set, .int left] (Wd u g ex) (fun r h2 => ∃ (z : Bool) (u2 : Nat → Nat → Int32), r = some (.int (bI z)) ∧ h2 = Wd u2 g ex ∧ (z = true → Bd 0 511 set) ∧ Bd 0 9 (u2 162 22) ∧ (DN u2) ∧ (N0 u2) ∧ AB u2 177 (-1) 999 ∧ (z = true → RC u2 ∧ AB u2 172 (-1) 999) ∧ (∀ c, nin c [(162, 162), (172, 172), (177, 177)] = true → u2 c = u c) ∧ (∀ j, j ≠ 22 → j ≠ 23 → j ≠ 24 → j ≠ 25 → j ≠ 26 → j ≠ 27 → u2 162 j = u 162 j)) := by
  refine CT_of (by decide) (Nat.le_of_ble_eq_true rfl) (fun x hq => ?_)
  show J x yX11_canMend cX11_canMend 5 (some .boolean) d 0 0 (Wd u g ex).length 0 [(0, .ref 162), (1, .int h), (2, .int plan), (3, .int set), (4, .int left)] [] (Wd u g ex) 0 0
  refine J_aload_n (i := 0) (j := 0) dX11_canMend_0 rfl rfl ?_
  refine J_iload_n (i := 1) (j := 1) dX11_canMend_1 rfl rfl ?_
  refine J_iload_n (i := 2) (j := 2) dX11_canMend_2 rfl rfl ?_
  refine J_callV (As := [.int h, .int plan]) (rest := []) dX11_canMend_3 (c_M_lay (d := 2) (u := u) (g := g) (ex := ex) (h := h) (plan := plan)  (by decide) hp0 hp1 hp2 hp3 hp4 hp5 hp6 hp7) hq.n k1503 k1505 k52 wc_162 rfl rfl k97 k1506 np_X11_lay (Nat.le_trans (by decide) hd) (by decide) (Nat.le_refl _) (Nat.le_refl _) wlen rfl (Nat.le_of_ble_eq_true rfl) (fun r_ h_ p1 => ?_)
  obtain ⟨t2, u3, rfl, rfl, h4, h5, h6, h7, fr8, fc9⟩ := p1
  refine J_ifB_eq (tgt := 37) dX11_canMend_6 (by decide) (fun c10 => ?_) (fun c10 => ?_)
  · refine J_iconst (v := 0) dX11_canMend_37 (by decide) ?_
    exact J_zret hq dX11_canMend_38 rfl rfl wlen (Nat.le_refl _) (Nat.le_refl _) ⟨false, u3, rfl, rfl, (fun q => absurd q (by decide)), h4, h5, h6, (ab_c (fr8 177 (Nat.ne_of_beq_eq_false rfl) (Nat.ne_of_beq_eq_false rfl)) hp9), (fun q => absurd q (by decide)), (fun c k_ => (fr8 c (nin_ne (a := 162) k_ rfl) (nin_ne (a := 172) k_ rfl))), (fun j k22_ k23_ k24_ k25_ k26_ k27_ => (fc9 j k22_ k23_ k24_ k25_ k26_ k27_))⟩
  · refine J_aload_n (i := 0) (j := 0) dX11_canMend_9 rfl rfl ?_
    refine J_iload_n (i := 3) (j := 3) dX11_canMend_10 rfl rfl ?_
    refine J_callV (As := [.int set]) (rest := []) dX11_canMend_11 (c_M_arePonds (d := 0) (u := u3) (g := g) (ex := ex) (set := set)  (by decide) h4) hq.n k1543 k1545 k59 wc_162 rfl rfl k97 k1546 np_X11_arePonds (Nat.le_trans (by decide) hd) (by decide) (Nat.le_refl _) (Nat.le_refl _) wlen rfl (Nat.le_of_ble_eq_true rfl) (fun r_ h_ p11 => ?_)
    obtain ⟨t12, rfl, rfl, h13⟩ := p11
    refine J_ifB_eq (tgt := 37) dX11_canMend_14 (by decide) (fun c14 => ?_) (fun c14 => ?_)
    · refine J_iconst (v := 0) dX11_canMend_37 (by decide) ?_
      exact J_zret hq dX11_canMend_38 rfl rfl wlen (Nat.le_refl _) (Nat.le_refl _) ⟨false, u3, rfl, rfl, (fun q => absurd q (by decide)), h4, h5, h6, (ab_c (fr8 177 (Nat.ne_of_beq_eq_false rfl) (Nat.ne_of_beq_eq_false rfl)) hp9), (fun q => absurd q (by decide)), (fun c k_ => (fr8 c (nin_ne (a := 162) k_ rfl) (nin_ne (a := 172) k_ rfl))), (fun j k22_ k23_ k24_ k25_ k26_ k27_ => (fc9 j k22_ k23_ k24_ k25_ k26_ k27_))⟩
    · refine J_iload_n (i := 3) (j := 3) dX11_canMend_17 rfl rfl ?_
      refine J_callS (As := [.int set]) (rest := []) dX11_canMend_18 (c_M_ones (d := 0) (u := u3) (g := g) (ex := ex) (set := set)  (by decide) ) hq.n k1608 k1609 k97 k1610 np_X11_ones (Nat.le_trans (by decide) hd) (by decide) (Nat.le_refl _) (Nat.le_refl _) wlen rfl (Nat.le_of_ble_eq_true rfl) (fun r_ h_ p15 => ?_)
      obtain ⟨rfl, rfl⟩ := p15
      refine J_iconst (v := 5) dX11_canMend_21 (by decide) ?_
      refine J_icmp_gt (tgt := 37) dX11_canMend_22 (by decide) (fun c16 => ?_) (fun c16 => ?_)
      · refine J_iconst (v := 0) dX11_canMend_37 (by decide) ?_
        exact J_zret hq dX11_canMend_38 rfl rfl wlen (Nat.le_refl _) (Nat.le_refl _) ⟨false, u3, rfl, rfl, (fun q => absurd q (by decide)), h4, h5, h6, (ab_c (fr8 177 (Nat.ne_of_beq_eq_false rfl) (Nat.ne_of_beq_eq_false rfl)) hp9), (fun q => absurd q (by decide)), (fun c k_ => (fr8 c (nin_ne (a := 162) k_ rfl) (nin_ne (a := 172) k_ rfl))), (fun j k22_ k23_ k24_ k25_ k26_ k27_ => (fc9 j k22_ k23_ k24_ k25_ k26_ k27_))⟩
      · refine J_iload (i := 4) (j := 4) dX11_canMend_25 rfl ?_
        refine J_iconst (v := 0) dX11_canMend_27 (by decide) ?_
        refine J_sipush (v := 9999) dX11_canMend_28 (by decide) ?_
        refine J_callS (As := [.int left, .int 0, .int 9999]) (rest := []) dX11_canMend_31 (c_M_in (d := 0) (u := u3) (g := g) (ex := ex) (v := left) (low := 0) (high := 9999)  (by decide) ) hq.n k1406 k1407 k97 k1408 np_X11_in (Nat.le_trans (by decide) hd) (by decide) (Nat.le_refl _) (Nat.le_refl _) wlen rfl (Nat.le_of_ble_eq_true rfl) (fun r_ h_ p17 => ?_)
        obtain ⟨t18, rfl, rfl, h19, h20⟩ := p17
        refine J_ifB_ne (tgt := 39) dX11_canMend_34 (by decide) (fun c21 => ?_) (fun c21 => ?_)
        · refine J_aload_n (i := 0) (j := 0) dX11_canMend_39 rfl rfl ?_
          refine J_callV (As := []) (rest := []) dX11_canMend_40 (c_M_keepChances (d := 1) (u := u3) (g := g) (ex := ex)   (by decide) h4 (h7 c10).2 (ab_c (fr8 177 (Nat.ne_of_beq_eq_false rfl) (Nat.ne_of_beq_eq_false rfl)) hp9)) hq.n k1619 k1621 k70 wc_162 rfl rfl k97 k1622 np_X11_keepChances (Nat.le_trans (by decide) hd) (by decide) (Nat.le_refl _) (Nat.le_refl _) wlen rfl (Nat.le_of_ble_eq_true rfl) (fun r_ h_ p22 => ?_)
          obtain ⟨u23, rfl, rfl, h24, fr25⟩ := p22
          refine J_iconst (v := 1) dX11_canMend_43 (by decide) ?_
          exact J_zret hq dX11_canMend_44 rfl rfl wlen (Nat.le_refl _) (Nat.le_refl _) ⟨true, u23, rfl, rfl, (fun qb => (h13 c14)), (bd_r (congrFun (fr25 162 (Nat.ne_of_beq_eq_false rfl)) 22) h4), (dn_c (fr25 172 (Nat.ne_of_beq_eq_false rfl)) h5), (n0_c (fr25 172 (Nat.ne_of_beq_eq_false rfl)) h6), h24, (fun _ => ⟨(rc_c (fr25 172 (Nat.ne_of_beq_eq_false rfl)) (h7 c10).1), (ab_c (fr25 172 (Nat.ne_of_beq_eq_false rfl)) (h7 c10).2)⟩), (fun c k_ => ((fr25 c (nin_ne (a := 177) k_ rfl)).trans (fr8 c (nin_ne (a := 162) k_ rfl) (nin_ne (a := 172) k_ rfl)))), (fun j k22_ k23_ k24_ k25_ k26_ k27_ => ((congrFun (fr25 162 (Nat.ne_of_beq_eq_false rfl)) j).trans (fc9 j k22_ k23_ k24_ k25_ k26_ k27_)))⟩
        · refine J_iconst (v := 0) dX11_canMend_37 (by decide) ?_
          exact J_zret hq dX11_canMend_38 rfl rfl wlen (Nat.le_refl _) (Nat.le_refl _) ⟨false, u3, rfl, rfl, (fun q => absurd q (by decide)), h4, h5, h6, (ab_c (fr8 177 (Nat.ne_of_beq_eq_false rfl) (Nat.ne_of_beq_eq_false rfl)) hp9), (fun q => absurd q (by decide)), (fun c k_ => (fr8 c (nin_ne (a := 162) k_ rfl) (nin_ne (a := 172) k_ rfl))), (fun j k22_ k23_ k24_ k25_ k26_ k27_ => (fc9 j k22_ k23_ k24_ k25_ k26_ k27_))⟩
set_option maxHeartbeats 4000000 in
set_option maxRecDepth 100000 in
theorem c_M_best {d : Nat} {u : Nat → Nat → Int32} {g : Nat → Nat → Int64} {ex : List MC} {hill : Int32} {plan : Int32} {ponds : Int32} {days : Int32} (hd : 6 ≤ d) (hp0 : (MY u)) (hp1 : AB u 168 (-1) 999) (hp2 : (HD u)) (hp3 : (HC u)) (hp4 : (PL u)) (hp5 : (N0 u)) (hp6 : (DN u)) (hp7 : Bd 0 9 (u 162 22)) (hp8 : Bd 0 511 (u 162 31)) (hp9 : AB u 177 (-1) 999) : CT con0 d 0 0 yX11_best cX11_best 11 (some .int) [.ref 162, .int hill, .int plan, .int ponds, .int days] (Wd u g ex) (fun r h2 => ∃ (z : Int32) (u2 : Nat → Nat → Int32), r = some (.int z) ∧ h2 = Wd u2 g ex ∧ Bd 0 9 (u2 162 22) ∧ (DN u2) ∧ (N0 u2) ∧ Bd 0 511 (u2 162 31) ∧ AB u2 177 (-1) 999 ∧ (∀ c, nin c [(162, 162), (172, 175), (177, 177)] = true → u2 c = u c) ∧ (∀ j, j ≠ 0 → j ≠ 22 → j ≠ 23 → j ≠ 24 → j ≠ 25 → j ≠ 26 → j ≠ 27 → j ≠ 31 → j ≠ 32 → j ≠ 33 → u2 162 j = u 162 j)) := by
  refine CT_of (by decide) (Nat.le_of_ble_eq_true rfl) (fun x hq => ?_)
  show J x yX11_best cX11_best 11 (some .int) d 0 0 (Wd u g ex).length 0 [(0, .ref 162), (1, .int hill), (2, .int plan), (3, .int ponds), (4, .int days)] [] (Wd u g ex) 0 0
  refine J_aload_n (i := 0) (j := 0) dX11_best_0 rfl rfl ?_
  refine J_iconst (v := 0) dX11_best_1 (by decide) ?_
  obtain ⟨u1, e2⟩ : ∃ z, z = ms u 162 0 0 := ⟨_, rfl⟩
  refine J_put (C := RX11) (T := TX11) (Z := 43) (ci := 11) (f := 0) (ty0 := tyX11) dX11_best_2 inG11 rfl tyX11_ok nmX11 (by decide) k1264 rfl rfl wc_162 (Nat.le_of_ble_eq_true rfl) (fun _ _ => ⟨rfl, rfl⟩) (ws e2 wk_162 rfl) ?_
  refine J_aload_n (i := 0) (j := 0) dX11_best_5 rfl rfl ?_
  refine J_iload_n (i := 1) (j := 1) dX11_best_6 rfl rfl ?_
  refine J_iload_n (i := 2) (j := 2) dX11_best_7 rfl rfl ?_
  refine J_iload_n (i := 3) (j := 3) dX11_best_8 rfl rfl ?_
  refine J_iload (i := 4) (j := 4) dX11_best_9 rfl ?_
  refine J_callV (As := [.int hill, .int plan, .int ponds, .int days]) (rest := []) dX11_best_11 (c_M_canMend (d := 3) (u := u1) (g := g) (ex := ex) (h := hill) (plan := plan) (set := ponds) (left := days)  (by decide) (my_c (ms_c e2 (Nat.ne_of_beq_eq_false rfl)) hp0) (ab_c (ms_c e2 (Nat.ne_of_beq_eq_false rfl)) hp1) (hd_c (ms_c e2 (Nat.ne_of_beq_eq_false rfl)) hp2) (hc_c (ms_c e2 (Nat.ne_of_beq_eq_false rfl)) (ms_c e2 (Nat.ne_of_beq_eq_false rfl)) hp3) (pl_c (ms_c e2 (Nat.ne_of_beq_eq_false rfl)) hp4) (n0_c (ms_c e2 (Nat.ne_of_beq_eq_false rfl)) hp5) (dn_c (ms_c e2 (Nat.ne_of_beq_eq_false rfl)) hp6) (bd_r (ms_i e2 (Nat.ne_of_beq_eq_false rfl)) hp7) (bd_r (ms_i e2 (Nat.ne_of_beq_eq_false rfl)) hp8) (ab_c (ms_c e2 (Nat.ne_of_beq_eq_false rfl)) hp9)) hq.n k1615 k1617 k69 wc_162 rfl rfl k97 k1618 np_X11_canMend (Nat.le_trans (by decide) hd) (by decide) (Nat.le_refl _) (Nat.le_refl _) wlen rfl (Nat.le_of_ble_eq_true rfl) (fun r_ h_ p3 => ?_)
  obtain ⟨t4, u5, rfl, rfl, h6, h7, h8, h9, h10, h11, fr12, fc13⟩ := p3
  refine J_ifB_ne (tgt := 19) dX11_best_14 (by decide) (fun c14 => ?_) (fun c14 => ?_)
  · refine J_iconst (v := (-1)) dX11_best_19 (by decide) ?_
    refine J_istore (i := 5) (lw := [(5, .int (-1)), (0, .ref 162), (1, .int hill), (2, .int plan), (3, .int ponds), (4, .int days)]) dX11_best_20 (by decide) rfl ?_
    refine J_lconst (v := 0) dX11_best_22 (by decide) ?_
    refine J_lstore (i := 6) (lw := [(6, .long 0), (5, .int (-1)), (0, .ref 162), (1, .int hill), (2, .int plan), (3, .int ponds), (4, .int days)]) dX11_best_23 (by decide) rfl ?_
    refine J_iconst (v := 0) dX11_best_25 (by decide) ?_
    refine J_istore (i := 8) (lw := [(8, .int 0), (6, .long 0), (5, .int (-1)), (0, .ref 162), (1, .int hill), (2, .int plan), (3, .int ponds), (4, .int days)]) dX11_best_26 (by decide) rfl ?_
    have lp812 : ∀ (n813 : Nat) (w692 : Int32) (w693 : Int64) (w694 : Int32) (u695 : Nat → Nat → Int32), Bd (-1) 511 w692 → Bd 0 512 w694 → (∀ c, nin c [(162, 162), (172, 175)] = true → u695 c = u5 c) → (∀ j, j ≠ 31 → j ≠ 32 → j ≠ 33 → u695 162 j = u5 162 j) → Bd 0 511 (u695 162 31) → AB u695 172 (-1) 999 → DN u695 → N0 u695 → RC u695 → (512 - w694.toInt).toNat < n813 → J x yX11_best cX11_best 11 (some .int) d 0 0 (Wd u g ex).length 28 [(0, .ref 162), (3, .int ponds), (4, .int days), (5, .int w692), (6, .long w693), (8, .int w694)] [] (Wd u695 g ex) 0 0 := by
      intro n813
      induction n813 with
      | zero => intro w692 w693 w694 u695 bw692 bw694 fr696 fc697 bm698 ab699 rf700 rf701 rf702 hm815; exact absurd hm815 (Nat.not_lt_zero _)
      | succ n813 ih814 =>
        intro w692 w693 w694 u695 bw692 bw694 fr696 fc697 bm698 ab699 rf700 rf701 rf702 hm815
        refine J_iload (i := 8) (j := 5) dX11_best_28 rfl ?_
        refine J_iload_n (i := 3) (j := 1) dX11_best_30 rfl rfl ?_
        refine J_icmp_gt (tgt := 117) dX11_best_31 (by decide) (fun c816 => ?_) (fun c816 => ?_)
        · refine J_iload (i := 5) (j := 3) dX11_best_117 rfl ?_
          exact J_iret hq dX11_best_119 rfl wlen (Nat.le_refl _) (Nat.le_refl _) ⟨w692, u695, rfl, rfl, (bd_r (fc697 22 (Nat.ne_of_beq_eq_false rfl) (Nat.ne_of_beq_eq_false rfl) (Nat.ne_of_beq_eq_false rfl)) h7), rf700, rf701, bm698, (ab_c (fr696 177 rfl) h10), (fun c k_ => ((fr696 c (nin_sub (M := [(162, 162), (172, 175)]) k_ rfl)).trans ((fr12 c (nin_sub (M := [(162, 162), (172, 172), (177, 177)]) k_ rfl)).trans (ms_c e2 (nin_ne (a := 162) k_ rfl))))), (fun j k0_ k22_ k23_ k24_ k25_ k26_ k27_ k31_ k32_ k33_ => ((fc697 j k31_ k32_ k33_).trans ((fc13 j k22_ k23_ k24_ k25_ k26_ k27_).trans (ms_i e2 k0_))))⟩
        · refine J_iload (i := 8) (j := 5) dX11_best_34 rfl ?_
          refine J_iload_n (i := 3) (j := 1) dX11_best_36 rfl rfl ?_
          refine J_iconst (v := (-1)) dX11_best_37 (by decide) ?_
          refine J_ixor dX11_best_38 ?_
          refine J_iand dX11_best_39 ?_
          have jn903 : ∀ (w893 : Int32) (w894 : Int64) (u895 : Nat → Nat → Int32), Bd (-1) 511 w893 → (∀ c, nin c [(162, 162), (172, 175)] = true → u895 c = u695 c) → (∀ j, j ≠ 31 → j ≠ 32 → j ≠ 33 → u895 162 j = u695 162 j) → Bd 0 511 (u895 162 31) → AB u895 172 (-1) 999 → DN u895 → N0 u895 → RC u895 → J x yX11_best cX11_best 11 (some .int) d 0 0 (Wd u g ex).length 111 [(0, .ref 162), (3, .int ponds), (4, .int days), (5, .int w893), (6, .long w894), (8, .int w694)] [] (Wd u895 g ex) 0 0 := by
            intro w893 w894 u895 bw893 fr896 fc897 bm898 ab899 rf900 rf901 rf902
            refine J_iinc (i := 8) (j := 5) (v := (w694 + 1)) (lw := [(8, .int (w694 + 1)), (0, .ref 162), (3, .int ponds), (4, .int days), (5, .int w893), (6, .long w894)]) dX11_best_111 rfl rfl (by decide) rfl ?_
            refine J_goto (tgt := 28) dX11_best_114 (by decide) ?_
            refine J_lv [1, 2, 3, 4, 5, 0] rfl ?_
            exact ih814 w893 w894 (w694 + 1) u895 bw893 (bd_w (l := 0) (h := 512) (bd_add (l := 1) (h := 512) (bd_le_hi bw694 (i_nlt c816) (h6 c14)) (bd_c (v := 1) (lo := 1) (hi := 1) (by decide)) (by decide)) (by decide)) (fun c k_ => ((fr896 c (nin_sub (M := [(162, 162), (172, 175)]) k_ rfl)).trans (fr696 c (nin_sub (M := [(162, 162), (172, 175)]) k_ rfl)))) (fun j k31_ k32_ k33_ => ((fc897 j k31_ k32_ k33_).trans (fc697 j k31_ k32_ k33_))) bm898 ab899 rf900 rf901 rf902 (mu_up 1 bw694 rfl (by decide) (bd_w (l := 1) (h := 512) (bd_add (l := 1) (h := 512) (bd_le_hi bw694 (i_nlt c816) (h6 c14)) (bd_c (v := 1) (lo := 1) (hi := 1) (by decide)) (by decide)) (by decide)) hm815)
          refine J_if_ne (tgt := 111) dX11_best_40 (by decide) (fun c871 => ?_) (fun c871 => ?_)
          · refine J_lv [0, 1, 2, 3, 4, 5] rfl ?_
            exact jn903 w692 w693 u695 bw692 (fun c k_ => rfl) (fun j k31_ k32_ k33_ => rfl) bm698 ab699 rf700 rf701 rf702
          · refine J_aload_n (i := 0) (j := 0) dX11_best_43 rfl rfl ?_
            refine J_iload (i := 8) (j := 5) dX11_best_44 rfl ?_
            refine J_callV (As := [.int w694]) (rest := []) dX11_best_46 (c_M_costOf (d := 1) (u := u695) (g := g) (ex := ex) (set := w694)  (by decide) (bd_r (fc697 22 (Nat.ne_of_beq_eq_false rfl) (Nat.ne_of_beq_eq_false rfl) (Nat.ne_of_beq_eq_false rfl)) h7)) hq.n k1623 k1625 k71 wc_162 rfl rfl k97 k1626 np_X11_costOf (Nat.le_trans (by decide) hd) (by decide) (Nat.le_refl _) (Nat.le_refl _) wlen rfl (Nat.le_of_ble_eq_true rfl) (fun r_ h_ p904 => ?_)
            obtain ⟨v905, rfl, rfl⟩ := p904
            refine J_iload (i := 4) (j := 2) dX11_best_49 rfl ?_
            refine J_icmp_le (tgt := 57) dX11_best_51 (by decide) (fun c906 => ?_) (fun c906 => ?_)
            · refine J_aload_n (i := 0) (j := 0) dX11_best_57 rfl rfl ?_
              refine J_iload (i := 8) (j := 5) dX11_best_58 rfl ?_
              refine J_iconst (v := (-1)) dX11_best_60 (by decide) ?_
              refine J_callV (As := [.int w694, .int (-1)]) (rest := []) dX11_best_61 (c_M_meanMendedN (d := 5) (u := u695) (g := g) (ex := ex) (set := w694) (owner := (-1))  (by decide) (bd_r (fc697 22 (Nat.ne_of_beq_eq_false rfl) (Nat.ne_of_beq_eq_false rfl) (Nat.ne_of_beq_eq_false rfl)) h7) rf702 rf700 bm698 ab699 (ab_c (fr696 177 rfl) h10) rf701) hq.n k1627 k1629 k72 wc_162 rfl rfl k97 k1630 np_X11_meanMended (Nat.le_trans (by decide) hd) (by decide) (Nat.le_refl _) (Nat.le_refl _) wlen rfl (Nat.le_of_ble_eq_true rfl) (fun r_ h_ p907 => ?_)
              obtain ⟨l908, u909, rfl, rfl, h910, h911, h912, h913, h914, fr915, fc916⟩ := p907
              refine J_lstore (i := 9) (lw := [(9, .long l908), (0, .ref 162), (3, .int ponds), (4, .int days), (5, .int w692), (6, .long w693), (8, .int w694)]) dX11_best_64 (by decide) rfl ?_
              refine J_iload (i := 5) (j := 4) dX11_best_66 rfl ?_
              refine J_iconst (v := (-1)) dX11_best_68 (by decide) ?_
              refine J_icmp_eq (tgt := 103) dX11_best_69 (by decide) (fun c917 => ?_) (fun c917 => ?_)
              · refine J_iload (i := 8) (j := 6) dX11_best_103 rfl ?_
                refine J_istore (i := 5) (lw := [(5, .int w694), (9, .long l908), (0, .ref 162), (3, .int ponds), (4, .int days), (6, .long w693), (8, .int w694)]) dX11_best_105 (by decide) rfl ?_
                refine J_lload (i := 9) (j := 1) dX11_best_107 rfl ?_
                refine J_lstore (i := 6) (lw := [(6, .long l908), (5, .int w694), (9, .long l908), (0, .ref 162), (3, .int ponds), (4, .int days), (8, .int w694)]) dX11_best_109 (by decide) rfl ?_
                refine J_lv [3, 4, 5, 1, 0, 6] rfl ?_
                exact jn903 w694 l908 u909 (bd_w (l := (-1)) (h := 511) (bd_le_hi bw694 (i_nlt c816) (h6 c14)) (by decide)) (fun c k_ => (fr915 c (nin_sub (M := [(162, 162), (172, 175)]) k_ rfl))) (fun j k31_ k32_ k33_ => (fc916 j k31_ k32_ k33_)) h910 h911 h912 h914 h913
              · refine J_lload (i := 9) (j := 0) dX11_best_72 rfl ?_
                refine J_lload (i := 6) (j := 5) dX11_best_74 rfl ?_
                refine J_lcmp dX11_best_76 ?_
                refine J_if_lt (tgt := 103) dX11_best_77 (by decide) (fun c918 => ?_) (fun c918 => ?_)
                · refine J_iload (i := 8) (j := 6) dX11_best_103 rfl ?_
                  refine J_istore (i := 5) (lw := [(5, .int w694), (9, .long l908), (0, .ref 162), (3, .int ponds), (4, .int days), (6, .long w693), (8, .int w694)]) dX11_best_105 (by decide) rfl ?_
                  refine J_lload (i := 9) (j := 1) dX11_best_107 rfl ?_
                  refine J_lstore (i := 6) (lw := [(6, .long l908), (5, .int w694), (9, .long l908), (0, .ref 162), (3, .int ponds), (4, .int days), (8, .int w694)]) dX11_best_109 (by decide) rfl ?_
                  refine J_lv [3, 4, 5, 1, 0, 6] rfl ?_
                  exact jn903 w694 l908 u909 (bd_w (l := (-1)) (h := 511) (bd_le_hi bw694 (i_nlt c816) (h6 c14)) (by decide)) (fun c k_ => (fr915 c (nin_sub (M := [(162, 162), (172, 175)]) k_ rfl))) (fun j k31_ k32_ k33_ => (fc916 j k31_ k32_ k33_)) h910 h911 h912 h914 h913
                · refine J_lload (i := 9) (j := 0) dX11_best_80 rfl ?_
                  refine J_lload (i := 6) (j := 5) dX11_best_82 rfl ?_
                  refine J_lcmp dX11_best_84 ?_
                  refine J_if_ne (tgt := 111) dX11_best_85 (by decide) (fun c919 => ?_) (fun c919 => ?_)
                  · refine J_lv [1, 2, 3, 4, 5, 6] rfl ?_
                    exact jn903 w692 w693 u909 (bd_w (l := (-1)) (h := 511) (bd_ne_lo bw692 c917 (by decide)) (by decide)) (fun c k_ => (fr915 c (nin_sub (M := [(162, 162), (172, 175)]) k_ rfl))) (fun j k31_ k32_ k33_ => (fc916 j k31_ k32_ k33_)) h910 h911 h912 h914 h913
                  · refine J_aload_n (i := 0) (j := 1) dX11_best_88 rfl rfl ?_
                    refine J_iload (i := 8) (j := 6) dX11_best_89 rfl ?_
                    refine J_callV (As := [.int w694]) (rest := []) dX11_best_91 (c_M_costOf (d := 1) (u := u909) (g := g) (ex := ex) (set := w694)  (by decide) (bd_r ((fc916 22 (Nat.ne_of_beq_eq_false rfl) (Nat.ne_of_beq_eq_false rfl) (Nat.ne_of_beq_eq_false rfl)).trans (fc697 22 (Nat.ne_of_beq_eq_false rfl) (Nat.ne_of_beq_eq_false rfl) (Nat.ne_of_beq_eq_false rfl))) h7)) hq.n k1623 k1625 k71 wc_162 rfl rfl k97 k1626 np_X11_costOf (Nat.le_trans (by decide) hd) (by decide) (Nat.le_refl _) (Nat.le_refl _) wlen rfl (Nat.le_of_ble_eq_true rfl) (fun r_ h_ p920 => ?_)
                    obtain ⟨v921, rfl, rfl⟩ := p920
                    refine J_aload_n (i := 0) (j := 1) dX11_best_94 rfl rfl ?_
                    refine J_iload (i := 5) (j := 4) dX11_best_95 rfl ?_
                    refine J_callV (As := [.int w692]) (rest := [.int v921]) dX11_best_97 (c_M_costOf (d := 1) (u := u909) (g := g) (ex := ex) (set := w692)  (by decide) (bd_r ((fc916 22 (Nat.ne_of_beq_eq_false rfl) (Nat.ne_of_beq_eq_false rfl) (Nat.ne_of_beq_eq_false rfl)).trans (fc697 22 (Nat.ne_of_beq_eq_false rfl) (Nat.ne_of_beq_eq_false rfl) (Nat.ne_of_beq_eq_false rfl))) h7)) hq.n k1623 k1625 k71 wc_162 rfl rfl k97 k1626 np_X11_costOf (Nat.le_trans (by decide) hd) (by decide) (Nat.le_refl _) (Nat.le_refl _) wlen rfl (Nat.le_of_ble_eq_true rfl) (fun r_ h_ p922 => ?_)
                    obtain ⟨v923, rfl, rfl⟩ := p922
                    refine J_icmp_ge (tgt := 111) dX11_best_100 (by decide) (fun c924 => ?_) (fun c924 => ?_)
                    · refine J_lv [1, 2, 3, 4, 5, 6] rfl ?_
                      exact jn903 w692 w693 u909 (bd_w (l := (-1)) (h := 511) (bd_ne_lo bw692 c917 (by decide)) (by decide)) (fun c k_ => (fr915 c (nin_sub (M := [(162, 162), (172, 175)]) k_ rfl))) (fun j k31_ k32_ k33_ => (fc916 j k31_ k32_ k33_)) h910 h911 h912 h914 h913
                    · refine J_iload (i := 8) (j := 6) dX11_best_103 rfl ?_
                      refine J_istore (i := 5) (lw := [(5, .int w694), (9, .long l908), (0, .ref 162), (3, .int ponds), (4, .int days), (6, .long w693), (8, .int w694)]) dX11_best_105 (by decide) rfl ?_
                      refine J_lload (i := 9) (j := 1) dX11_best_107 rfl ?_
                      refine J_lstore (i := 6) (lw := [(6, .long l908), (5, .int w694), (9, .long l908), (0, .ref 162), (3, .int ponds), (4, .int days), (8, .int w694)]) dX11_best_109 (by decide) rfl ?_
                      refine J_lv [3, 4, 5, 1, 0, 6] rfl ?_
                      exact jn903 w694 l908 u909 (bd_w (l := (-1)) (h := 511) (bd_le_hi bw694 (i_nlt c816) (h6 c14)) (by decide)) (fun c k_ => (fr915 c (nin_sub (M := [(162, 162), (172, 175)]) k_ rfl))) (fun j k31_ k32_ k33_ => (fc916 j k31_ k32_ k33_)) h910 h911 h912 h914 h913
            · refine J_goto (tgt := 111) dX11_best_54 (by decide) ?_
              refine J_lv [0, 1, 2, 3, 4, 5] rfl ?_
              exact jn903 w692 w693 u695 bw692 (fun c k_ => rfl) (fun j k31_ k32_ k33_ => rfl) bm698 ab699 rf700 rf701 rf702
    refine J_lv [3, 6, 7, 2, 1, 0] rfl ?_
    exact lp812 _ ((-1) : Int32) (0 : Int64) (0 : Int32) u5 (bd_w (l := (-1)) (h := 511) (bd_c (v := (-1)) (lo := (-1)) (hi := (-1)) (by decide)) (by decide)) (bd_w (l := 0) (h := 512) (bd_c (v := 0) (lo := 0) (hi := 0) (by decide)) (by decide)) (fun c k_ => rfl) (fun j k31_ k32_ k33_ => rfl) (bd_r ((fc13 31 (Nat.ne_of_beq_eq_false rfl) (Nat.ne_of_beq_eq_false rfl) (Nat.ne_of_beq_eq_false rfl) (Nat.ne_of_beq_eq_false rfl) (Nat.ne_of_beq_eq_false rfl) (Nat.ne_of_beq_eq_false rfl)).trans (ms_i e2 (Nat.ne_of_beq_eq_false rfl))) hp8) (h11 c14).2 h8 h9 (h11 c14).1 (Nat.lt_succ_self _)
  · refine J_iconst (v := (-1)) dX11_best_17 (by decide) ?_
    exact J_iret hq dX11_best_18 rfl wlen (Nat.le_refl _) (Nat.le_refl _) ⟨((-1) : Int32), u5, rfl, rfl, h7, h8, h9, (bd_r ((fc13 31 (Nat.ne_of_beq_eq_false rfl) (Nat.ne_of_beq_eq_false rfl) (Nat.ne_of_beq_eq_false rfl) (Nat.ne_of_beq_eq_false rfl) (Nat.ne_of_beq_eq_false rfl) (Nat.ne_of_beq_eq_false rfl)).trans (ms_i e2 (Nat.ne_of_beq_eq_false rfl))) hp8), h10, (fun c k_ => ((fr12 c (nin_sub (M := [(162, 162), (172, 172), (177, 177)]) k_ rfl)).trans (ms_c e2 (nin_ne (a := 162) k_ rfl)))), (fun j k0_ k22_ k23_ k24_ k25_ k26_ k27_ k31_ k32_ k33_ => ((fc13 j k22_ k23_ k24_ k25_ k26_ k27_).trans (ms_i e2 k0_)))⟩
set_option maxHeartbeats 4000000 in
set_option maxRecDepth 100000 in
theorem c_M_mended {d : Nat} {u : Nat → Nat → Int32} {g : Nat → Nat → Int64} {ex : List MC} {hill : Int32} {plan : Int32} {ponds : Int32} (hd : 6 ≤ d) (hp0 : (MY u)) (hp1 : AB u 168 (-1) 999) (hp2 : (HD u)) (hp3 : (HC u)) (hp4 : (PL u)) (hp5 : (N0 u)) (hp6 : (DN u)) (hp7 : Bd 0 9 (u 162 22)) (hp8 : Bd 0 511 (u 162 31)) (hp9 : AB u 177 (-1) 999) : CT con0 d 0 0 yX11_mended cX11_mended 4 (some .long) [.ref 162, .int hill, .int plan, .int ponds] (Wd u g ex) (fun r h2 => ∃ (z : Int64) (u2 : Nat → Nat → Int32), r = some (.long z) ∧ h2 = Wd u2 g ex ∧ Bd 0 9 (u2 162 22) ∧ (DN u2) ∧ (N0 u2) ∧ Bd 0 511 (u2 162 31) ∧ AB u2 177 (-1) 999 ∧ (∀ c, nin c [(162, 162), (172, 175), (177, 177)] = true → u2 c = u c) ∧ (∀ j, j ≠ 0 → j ≠ 22 → j ≠ 23 → j ≠ 24 → j ≠ 25 → j ≠ 26 → j ≠ 27 → j ≠ 31 → j ≠ 32 → j ≠ 33 → u2 162 j = u 162 j)) := by
  refine CT_of (by decide) (Nat.le_of_ble_eq_true rfl) (fun x hq => ?_)
  show J x yX11_mended cX11_mended 4 (some .long) d 0 0 (Wd u g ex).length 0 [(0, .ref 162), (1, .int hill), (2, .int plan), (3, .int ponds)] [] (Wd u g ex) 0 0
  refine J_aload_n (i := 0) (j := 0) dX11_mended_0 rfl rfl ?_
  refine J_iconst (v := 0) dX11_mended_1 (by decide) ?_
  obtain ⟨u1, e2⟩ : ∃ z, z = ms u 162 0 0 := ⟨_, rfl⟩
  refine J_put (C := RX11) (T := TX11) (Z := 43) (ci := 11) (f := 0) (ty0 := tyX11) dX11_mended_2 inG11 rfl tyX11_ok nmX11 (by decide) k1264 rfl rfl wc_162 (Nat.le_of_ble_eq_true rfl) (fun _ _ => ⟨rfl, rfl⟩) (ws e2 wk_162 rfl) ?_
  refine J_aload_n (i := 0) (j := 0) dX11_mended_5 rfl rfl ?_
  refine J_iload_n (i := 1) (j := 1) dX11_mended_6 rfl rfl ?_
  refine J_iload_n (i := 2) (j := 2) dX11_mended_7 rfl rfl ?_
  refine J_callV (As := [.int hill, .int plan]) (rest := []) dX11_mended_8 (c_M_lay (d := 2) (u := u1) (g := g) (ex := ex) (h := hill) (plan := plan)  (by decide) (my_c (ms_c e2 (Nat.ne_of_beq_eq_false rfl)) hp0) (ab_c (ms_c e2 (Nat.ne_of_beq_eq_false rfl)) hp1) (hd_c (ms_c e2 (Nat.ne_of_beq_eq_false rfl)) hp2) (hc_c (ms_c e2 (Nat.ne_of_beq_eq_false rfl)) (ms_c e2 (Nat.ne_of_beq_eq_false rfl)) hp3) (pl_c (ms_c e2 (Nat.ne_of_beq_eq_false rfl)) hp4) (n0_c (ms_c e2 (Nat.ne_of_beq_eq_false rfl)) hp5) (dn_c (ms_c e2 (Nat.ne_of_beq_eq_false rfl)) hp6) (bd_r (ms_i e2 (Nat.ne_of_beq_eq_false rfl)) hp7)) hq.n k1503 k1505 k52 wc_162 rfl rfl k97 k1506 np_X11_lay (Nat.le_trans (by decide) hd) (by decide) (Nat.le_refl _) (Nat.le_refl _) wlen rfl (Nat.le_of_ble_eq_true rfl) (fun r_ h_ p3 => ?_)
  obtain ⟨t4, u5, rfl, rfl, h6, h7, h8, h9, fr10, fc11⟩ := p3
  refine J_ifB_eq (tgt := 22) dX11_mended_11 (by decide) (fun c12 => ?_) (fun c12 => ?_)
  · refine J_ldc2 (v := (-1)) dX11_mended_22 k1578 ?_
    exact J_lret hq dX11_mended_25 rfl wlen (Nat.le_refl _) (Nat.le_refl _) ⟨((-1) : Int64), u5, rfl, rfl, h6, h7, h8, (bd_r ((fc11 31 (Nat.ne_of_beq_eq_false rfl) (Nat.ne_of_beq_eq_false rfl) (Nat.ne_of_beq_eq_false rfl) (Nat.ne_of_beq_eq_false rfl) (Nat.ne_of_beq_eq_false rfl) (Nat.ne_of_beq_eq_false rfl)).trans (ms_i e2 (Nat.ne_of_beq_eq_false rfl))) hp8), (ab_c ((fr10 177 (Nat.ne_of_beq_eq_false rfl) (Nat.ne_of_beq_eq_false rfl)).trans (ms_c e2 (Nat.ne_of_beq_eq_false rfl))) hp9), (fun c k_ => ((fr10 c (nin_ne (a := 162) k_ rfl) (nin_ne (a := 172) k_ rfl)).trans (ms_c e2 (nin_ne (a := 162) k_ rfl)))), (fun j k0_ k22_ k23_ k24_ k25_ k26_ k27_ k31_ k32_ k33_ => ((fc11 j k22_ k23_ k24_ k25_ k26_ k27_).trans (ms_i e2 k0_)))⟩
  · refine J_aload_n (i := 0) (j := 0) dX11_mended_14 rfl rfl ?_
    refine J_iload_n (i := 3) (j := 3) dX11_mended_15 rfl rfl ?_
    refine J_callV (As := [.int ponds]) (rest := []) dX11_mended_16 (c_M_arePonds (d := 0) (u := u5) (g := g) (ex := ex) (set := ponds)  (by decide) h6) hq.n k1543 k1545 k59 wc_162 rfl rfl k97 k1546 np_X11_arePonds (Nat.le_trans (by decide) hd) (by decide) (Nat.le_refl _) (Nat.le_refl _) wlen rfl (Nat.le_of_ble_eq_true rfl) (fun r_ h_ p13 => ?_)
    obtain ⟨t14, rfl, rfl, h15⟩ := p13
    refine J_ifB_ne (tgt := 26) dX11_mended_19 (by decide) (fun c16 => ?_) (fun c16 => ?_)
    · refine J_aload_n (i := 0) (j := 0) dX11_mended_26 rfl rfl ?_
      refine J_callV (As := []) (rest := []) dX11_mended_27 (c_M_keepChances (d := 1) (u := u5) (g := g) (ex := ex)   (by decide) h6 (h9 c12).2 (ab_c ((fr10 177 (Nat.ne_of_beq_eq_false rfl) (Nat.ne_of_beq_eq_false rfl)).trans (ms_c e2 (Nat.ne_of_beq_eq_false rfl))) hp9)) hq.n k1619 k1621 k70 wc_162 rfl rfl k97 k1622 np_X11_keepChances (Nat.le_trans (by decide) hd) (by decide) (Nat.le_refl _) (Nat.le_refl _) wlen rfl (Nat.le_of_ble_eq_true rfl) (fun r_ h_ p17 => ?_)
      obtain ⟨u18, rfl, rfl, h19, fr20⟩ := p17
      refine J_aload_n (i := 0) (j := 0) dX11_mended_30 rfl rfl ?_
      refine J_iload_n (i := 3) (j := 3) dX11_mended_31 rfl rfl ?_
      refine J_iconst (v := (-1)) dX11_mended_32 (by decide) ?_
      refine J_callV (As := [.int ponds, .int (-1)]) (rest := []) dX11_mended_33 (c_M_meanMendedN (d := 5) (u := u18) (g := g) (ex := ex) (set := ponds) (owner := (-1))  (by decide) (bd_r (congrFun (fr20 162 (Nat.ne_of_beq_eq_false rfl)) 22) h6) (rc_c (fr20 172 (Nat.ne_of_beq_eq_false rfl)) (h9 c12).1) (dn_c (fr20 172 (Nat.ne_of_beq_eq_false rfl)) h7) (bd_r ((congrFun (fr20 162 (Nat.ne_of_beq_eq_false rfl)) 31).trans ((fc11 31 (Nat.ne_of_beq_eq_false rfl) (Nat.ne_of_beq_eq_false rfl) (Nat.ne_of_beq_eq_false rfl) (Nat.ne_of_beq_eq_false rfl) (Nat.ne_of_beq_eq_false rfl) (Nat.ne_of_beq_eq_false rfl)).trans (ms_i e2 (Nat.ne_of_beq_eq_false rfl)))) hp8) (ab_c (fr20 172 (Nat.ne_of_beq_eq_false rfl)) (h9 c12).2) h19 (n0_c (fr20 172 (Nat.ne_of_beq_eq_false rfl)) h8)) hq.n k1627 k1629 k72 wc_162 rfl rfl k97 k1630 np_X11_meanMended (Nat.le_trans (by decide) hd) (by decide) (Nat.le_refl _) (Nat.le_refl _) wlen rfl (Nat.le_of_ble_eq_true rfl) (fun r_ h_ p21 => ?_)
      obtain ⟨l22, u23, rfl, rfl, h24, h25, h26, h27, h28, fr29, fc30⟩ := p21
      exact J_lret hq dX11_mended_36 rfl wlen (Nat.le_refl _) (Nat.le_refl _) ⟨l22, u23, rfl, rfl, (bd_r ((fc30 22 (Nat.ne_of_beq_eq_false rfl) (Nat.ne_of_beq_eq_false rfl) (Nat.ne_of_beq_eq_false rfl)).trans (congrFun (fr20 162 (Nat.ne_of_beq_eq_false rfl)) 22)) h6), h26, h28, h24, (ab_c (fr29 177 rfl) h19), (fun c k_ => ((fr29 c (nin_sub (M := [(162, 162), (172, 175)]) k_ rfl)).trans ((fr20 c (nin_ne (a := 177) k_ rfl)).trans ((fr10 c (nin_ne (a := 162) k_ rfl) (nin_ne (a := 172) k_ rfl)).trans (ms_c e2 (nin_ne (a := 162) k_ rfl)))))), (fun j k0_ k22_ k23_ k24_ k25_ k26_ k27_ k31_ k32_ k33_ => ((fc30 j k31_ k32_ k33_).trans ((congrFun (fr20 162 (Nat.ne_of_beq_eq_false rfl)) j).trans ((fc11 j k22_ k23_ k24_ k25_ k26_ k27_).trans (ms_i e2 k0_)))))⟩
    · refine J_ldc2 (v := (-1)) dX11_mended_22 k1578 ?_
      exact J_lret hq dX11_mended_25 rfl wlen (Nat.le_refl _) (Nat.le_refl _) ⟨((-1) : Int64), u5, rfl, rfl, h6, h7, h8, (bd_r ((fc11 31 (Nat.ne_of_beq_eq_false rfl) (Nat.ne_of_beq_eq_false rfl) (Nat.ne_of_beq_eq_false rfl) (Nat.ne_of_beq_eq_false rfl) (Nat.ne_of_beq_eq_false rfl) (Nat.ne_of_beq_eq_false rfl)).trans (ms_i e2 (Nat.ne_of_beq_eq_false rfl))) hp8), (ab_c ((fr10 177 (Nat.ne_of_beq_eq_false rfl) (Nat.ne_of_beq_eq_false rfl)).trans (ms_c e2 (Nat.ne_of_beq_eq_false rfl))) hp9), (fun c k_ => ((fr10 c (nin_ne (a := 162) k_ rfl) (nin_ne (a := 172) k_ rfl)).trans (ms_c e2 (nin_ne (a := 162) k_ rfl)))), (fun j k0_ k22_ k23_ k24_ k25_ k26_ k27_ k31_ k32_ k33_ => ((fc11 j k22_ k23_ k24_ k25_ k26_ k27_).trans (ms_i e2 k0_)))⟩
set_option maxHeartbeats 4000000 in
set_option maxRecDepth 100000 in
theorem c_M_one {d : Nat} {u : Nat → Nat → Int32} {g : Nat → Nat → Int64} {ex : List MC} {hill : Int32} {plan : Int32} {much : Int32} (hd : 5 ≤ d) (hp0 : (MY u)) (hp1 : AB u 168 (-1) 999) (hp2 : (HD u)) (hp3 : (HC u)) (hp4 : (PL u)) (hp5 : (N0 u)) (hp6 : (DN u)) (hp7 : Bd 0 9 (u 162 22)) (hp8 : Bd 0 511 (u 162 31)) (hp9 : AB u 177 (-1) 999) : CT con0 d 0 0 yX11_one cX11_one 10 (some .long) [.ref 162, .int hill, .int plan, .int much] (Wd u g ex) (fun r h2 => ∃ (z : Int64) (u2 : Nat → Nat → Int32), r = some (.long z) ∧ h2 = Wd u2 g ex ∧ Bd 0 9 (u2 162 22) ∧ (DN u2) ∧ (N0 u2) ∧ Bd 0 511 (u2 162 31) ∧ (∀ c, nin c [(162, 162), (172, 175)] = true → u2 c = u c) ∧ (∀ j, j ≠ 0 → j ≠ 22 → j ≠ 23 → j ≠ 24 → j ≠ 25 → j ≠ 26 → j ≠ 27 → j ≠ 31 → j ≠ 32 → j ≠ 33 → u2 162 j = u 162 j)) := by
  refine CT_of (by decide) (Nat.le_of_ble_eq_true rfl) (fun x hq => ?_)
  show J x yX11_one cX11_one 10 (some .long) d 0 0 (Wd u g ex).length 0 [(0, .ref 162), (1, .int hill), (2, .int plan), (3, .int much)] [] (Wd u g ex) 0 0
  refine J_aload_n (i := 0) (j := 0) dX11_one_0 rfl rfl ?_
  refine J_iconst (v := 0) dX11_one_1 (by decide) ?_
  obtain ⟨u1, e2⟩ : ∃ z, z = ms u 162 0 0 := ⟨_, rfl⟩
  refine J_put (C := RX11) (T := TX11) (Z := 43) (ci := 11) (f := 0) (ty0 := tyX11) dX11_one_2 inG11 rfl tyX11_ok nmX11 (by decide) k1264 rfl rfl wc_162 (Nat.le_of_ble_eq_true rfl) (fun _ _ => ⟨rfl, rfl⟩) (ws e2 wk_162 rfl) ?_
  refine J_aload_n (i := 0) (j := 0) dX11_one_5 rfl rfl ?_
  refine J_iload_n (i := 1) (j := 1) dX11_one_6 rfl rfl ?_
  refine J_iload_n (i := 2) (j := 2) dX11_one_7 rfl rfl ?_
  refine J_callV (As := [.int hill, .int plan]) (rest := []) dX11_one_8 (c_M_lay (d := 2) (u := u1) (g := g) (ex := ex) (h := hill) (plan := plan)  (by decide) (my_c (ms_c e2 (Nat.ne_of_beq_eq_false rfl)) hp0) (ab_c (ms_c e2 (Nat.ne_of_beq_eq_false rfl)) hp1) (hd_c (ms_c e2 (Nat.ne_of_beq_eq_false rfl)) hp2) (hc_c (ms_c e2 (Nat.ne_of_beq_eq_false rfl)) (ms_c e2 (Nat.ne_of_beq_eq_false rfl)) hp3) (pl_c (ms_c e2 (Nat.ne_of_beq_eq_false rfl)) hp4) (n0_c (ms_c e2 (Nat.ne_of_beq_eq_false rfl)) hp5) (dn_c (ms_c e2 (Nat.ne_of_beq_eq_false rfl)) hp6) (bd_r (ms_i e2 (Nat.ne_of_beq_eq_false rfl)) hp7)) hq.n k1503 k1505 k52 wc_162 rfl rfl k97 k1506 np_X11_lay (Nat.le_trans (by decide) hd) (by decide) (Nat.le_refl _) (Nat.le_refl _) wlen rfl (Nat.le_of_ble_eq_true rfl) (fun r_ h_ p3 => ?_)
  obtain ⟨t4, u5, rfl, rfl, h6, h7, h8, h9, fr10, fc11⟩ := p3
  refine J_ifB_eq (tgt := 21) dX11_one_11 (by decide) (fun c12 => ?_) (fun c12 => ?_)
  · refine J_ldc2 (v := (-1)) dX11_one_21 k1578 ?_
    exact J_lret hq dX11_one_24 rfl wlen (Nat.le_refl _) (Nat.le_refl _) ⟨((-1) : Int64), u5, rfl, rfl, h6, h7, h8, (bd_r ((fc11 31 (Nat.ne_of_beq_eq_false rfl) (Nat.ne_of_beq_eq_false rfl) (Nat.ne_of_beq_eq_false rfl) (Nat.ne_of_beq_eq_false rfl) (Nat.ne_of_beq_eq_false rfl) (Nat.ne_of_beq_eq_false rfl)).trans (ms_i e2 (Nat.ne_of_beq_eq_false rfl))) hp8), (fun c k_ => ((fr10 c (nin_ne (a := 162) k_ rfl) (nin_ne (a := 172) k_ rfl)).trans (ms_c e2 (nin_ne (a := 162) k_ rfl)))), (fun j k0_ k22_ k23_ k24_ k25_ k26_ k27_ k31_ k32_ k33_ => ((fc11 j k22_ k23_ k24_ k25_ k26_ k27_).trans (ms_i e2 k0_)))⟩
  · refine J_aload_n (i := 0) (j := 0) dX11_one_14 rfl rfl ?_
    refine J_get (C := RX11) (T := TX11) (Z := 43) (ci := 11) (f := 22) dX11_one_15 inG11 rfl (by decide) k1286 wc_162 rfl ?_
    refine J_if_ne (tgt := 25) dX11_one_18 (by decide) (fun c13 => ?_) (fun c13 => ?_)
    · refine J_iconst (v := (-1)) dX11_one_25 (by decide) ?_
      refine J_istore (i := 4) (lw := [(4, .int (-1)), (0, .ref 162), (1, .int hill), (2, .int plan), (3, .int much)]) dX11_one_26 (by decide) rfl ?_
      refine J_lconst (v := 0) dX11_one_28 (by decide) ?_
      refine J_lstore (i := 5) (lw := [(5, .long 0), (4, .int (-1)), (0, .ref 162), (1, .int hill), (2, .int plan), (3, .int much)]) dX11_one_29 (by decide) rfl ?_
      refine J_iconst (v := 0) dX11_one_31 (by decide) ?_
      refine J_istore (i := 7) (lw := [(7, .int 0), (5, .long 0), (4, .int (-1)), (0, .ref 162), (1, .int hill), (2, .int plan), (3, .int much)]) dX11_one_32 (by decide) rfl ?_
      have lp107 : ∀ (n108 : Nat) (w69 : Int32) (w70 : Int64) (w71 : Int32) (u72 : Nat → Nat → Int32), Bd (-1) 9 w69 → Bd 0 9 w71 → (∀ c, nin c [(162, 162), (173, 175)] = true → u72 c = u5 c) → (∀ j, j ≠ 26 → j ≠ 31 → j ≠ 32 → j ≠ 33 → u72 162 j = u5 162 j) → Bd 0 511 (u72 162 31) → (9 - w71.toInt).toNat < n108 → J x yX11_one cX11_one 10 (some .long) d 0 0 (Wd u g ex).length 34 [(0, .ref 162), (3, .int much), (4, .int w69), (5, .long w70), (7, .int w71)] [] (Wd u72 g ex) 0 0 := by
        intro n108
        induction n108 with
        | zero => intro w69 w70 w71 u72 bw69 bw71 fr73 fc74 bm75 hm110; exact absurd hm110 (Nat.not_lt_zero _)
        | succ n108 ih109 =>
          intro w69 w70 w71 u72 bw69 bw71 fr73 fc74 bm75 hm110
          refine J_iload (i := 7) (j := 4) dX11_one_34 rfl ?_
          refine J_aload_n (i := 0) (j := 0) dX11_one_36 rfl rfl ?_
          refine J_get (C := RX11) (T := TX11) (Z := 43) (ci := 11) (f := 22) dX11_one_37 inG11 rfl (by decide) k1286 wc_162 rfl ?_
          refine J_ci (v := u5 162 22) (fc74 22 (Nat.ne_of_beq_eq_false rfl) (Nat.ne_of_beq_eq_false rfl) (Nat.ne_of_beq_eq_false rfl) (Nat.ne_of_beq_eq_false rfl)) ?_
          refine J_icmp_ge (tgt := 84) dX11_one_40 (by decide) (fun c111 => ?_) (fun c111 => ?_)
          · refine J_iload_n (i := 3) (j := 1) dX11_one_84 rfl rfl ?_
            refine J_if_eq (tgt := 93) dX11_one_85 (by decide) (fun c126 => ?_) (fun c126 => ?_)
            · refine J_iload (i := 4) (j := 2) dX11_one_93 rfl ?_
              refine J_i2l dX11_one_95 rfl ?_
              refine J_topl (fun l127 _ => ?_)
              exact J_lret hq dX11_one_96 rfl wlen (Nat.le_refl _) (Nat.le_refl _) ⟨l127, u72, rfl, rfl, (bd_r (fc74 22 (Nat.ne_of_beq_eq_false rfl) (Nat.ne_of_beq_eq_false rfl) (Nat.ne_of_beq_eq_false rfl) (Nat.ne_of_beq_eq_false rfl)) (bd_w (l := 0) (h := 9) (bd_ne_lo h6 c13 (by decide)) (by decide))), (dn_c (fr73 172 rfl) h7), (n0_c (fr73 172 rfl) h8), bm75, (fun c k_ => ((fr73 c (nin_sub (M := [(162, 162), (173, 175)]) k_ rfl)).trans ((fr10 c (nin_ne (a := 162) k_ rfl) (nin_ne (a := 172) k_ rfl)).trans (ms_c e2 (nin_ne (a := 162) k_ rfl))))), (fun j k0_ k22_ k23_ k24_ k25_ k26_ k27_ k31_ k32_ k33_ => ((fc74 j k26_ k31_ k32_ k33_).trans ((fc11 j k22_ k23_ k24_ k25_ k26_ k27_).trans (ms_i e2 k0_))))⟩
            · refine J_lload (i := 5) (j := 3) dX11_one_88 rfl ?_
              refine J_goto (tgt := 96) dX11_one_90 (by decide) ?_
              exact J_lret hq dX11_one_96 rfl wlen (Nat.le_refl _) (Nat.le_refl _) ⟨w70, u72, rfl, rfl, (bd_r (fc74 22 (Nat.ne_of_beq_eq_false rfl) (Nat.ne_of_beq_eq_false rfl) (Nat.ne_of_beq_eq_false rfl) (Nat.ne_of_beq_eq_false rfl)) (bd_w (l := 0) (h := 9) (bd_ne_lo h6 c13 (by decide)) (by decide))), (dn_c (fr73 172 rfl) h7), (n0_c (fr73 172 rfl) h8), bm75, (fun c k_ => ((fr73 c (nin_sub (M := [(162, 162), (173, 175)]) k_ rfl)).trans ((fr10 c (nin_ne (a := 162) k_ rfl) (nin_ne (a := 172) k_ rfl)).trans (ms_c e2 (nin_ne (a := 162) k_ rfl))))), (fun j k0_ k22_ k23_ k24_ k25_ k26_ k27_ k31_ k32_ k33_ => ((fc74 j k26_ k31_ k32_ k33_).trans ((fc11 j k22_ k23_ k24_ k25_ k26_ k27_).trans (ms_i e2 k0_))))⟩
          · refine J_aload_n (i := 0) (j := 0) dX11_one_43 rfl rfl ?_
            refine J_iload (i := 7) (j := 4) dX11_one_44 rfl ?_
            obtain ⟨u128, e129⟩ : ∃ z, z = ms u72 162 26 w71 := ⟨_, rfl⟩
            refine J_put (C := RX11) (T := TX11) (Z := 43) (ci := 11) (f := 26) (ty0 := tyX11) dX11_one_46 inG11 rfl tyX11_ok nmX11 (by decide) k1290 rfl rfl wc_162 (Nat.le_of_ble_eq_true rfl) (fun _ _ => ⟨rfl, rfl⟩) (ws e129 wk_162 rfl) ?_
            refine J_aload_n (i := 0) (j := 0) dX11_one_49 rfl rfl ?_
            refine J_iconst (v := (-1)) dX11_one_50 (by decide) ?_
            refine J_callV (As := [.int (-1)]) (rest := []) dX11_one_51 (c_M_meanBy (d := 4) (u := u128) (g := g) (ex := ex) (owner := (-1))  (by decide) (bd_r ((ms_i e129 (Nat.ne_of_beq_eq_false rfl)).trans (fc74 22 (Nat.ne_of_beq_eq_false rfl) (Nat.ne_of_beq_eq_false rfl) (Nat.ne_of_beq_eq_false rfl) (Nat.ne_of_beq_eq_false rfl))) (bd_w (l := 0) (h := 9) (bd_ne_lo h6 c13 (by decide)) (by decide))) (rc_c ((ms_c e129 (Nat.ne_of_beq_eq_false rfl)).trans (fr73 172 rfl)) (h9 c12).1) (dn_c ((ms_c e129 (Nat.ne_of_beq_eq_false rfl)).trans (fr73 172 rfl)) h7) (bd_r (ms_i e129 (Nat.ne_of_beq_eq_false rfl)) bm75)) hq.n k1596 k1598 k68 wc_162 rfl rfl k97 k1599 np_X11_meanBy (Nat.le_trans (by decide) hd) (by decide) (Nat.le_refl _) (Nat.le_refl _) wlen rfl (Nat.le_of_ble_eq_true rfl) (fun r_ h_ p130 => ?_)
            obtain ⟨l131, u132, rfl, rfl, h133, fr134, fc135⟩ := p130
            refine J_lstore (i := 8) (lw := [(8, .long l131), (0, .ref 162), (3, .int much), (4, .int w69), (5, .long w70), (7, .int w71)]) dX11_one_54 (by decide) rfl ?_
            refine J_iload (i := 4) (j := 3) dX11_one_56 rfl ?_
            refine J_iconst (v := (-1)) dX11_one_58 (by decide) ?_
            have jn140 : ∀ (w138 : Int32) (w139 : Int64), Bd 0 9 w138 → J x yX11_one cX11_one 10 (some .long) d 0 0 (Wd u g ex).length 78 [(0, .ref 162), (3, .int much), (4, .int w138), (5, .long w139), (7, .int w71)] [] (Wd u132 g ex) 0 0 := by
              intro w138 w139 bw138
              refine J_iinc (i := 7) (j := 4) (v := (w71 + 1)) (lw := [(7, .int (w71 + 1)), (0, .ref 162), (3, .int much), (4, .int w138), (5, .long w139)]) dX11_one_78 rfl rfl (by decide) rfl ?_
              refine J_goto (tgt := 34) dX11_one_81 (by decide) ?_
              refine J_lv [1, 2, 3, 4, 0] rfl ?_
              exact ih109 w138 w139 (w71 + 1) u132 (bd_w (l := (-1)) (h := 9) bw138 (by decide)) (bd_w (l := 0) (h := 9) (bd_add (l := 1) (h := 9) (bd_lt_hi bw71 (i_nle c111) (bd_ne_lo h6 c13 (by decide))) (bd_c (v := 1) (lo := 1) (hi := 1) (by decide)) (by decide)) (by decide)) (fun c k_ => ((fr134 c (nin_sub (M := [(162, 162), (173, 175)]) k_ rfl)).trans ((ms_c e129 (nin_ne (a := 162) k_ rfl)).trans (fr73 c (nin_sub (M := [(162, 162), (173, 175)]) k_ rfl))))) (fun j k26_ k31_ k32_ k33_ => ((fc135 j k31_ k32_ k33_).trans ((ms_i e129 k26_).trans (fc74 j k26_ k31_ k32_ k33_)))) h133 (mu_up 1 bw71 rfl (by decide) (bd_w (l := 1) (h := 9) (bd_add (l := 1) (h := 9) (bd_lt_hi bw71 (i_nle c111) (bd_ne_lo h6 c13 (by decide))) (bd_c (v := 1) (lo := 1) (hi := 1) (by decide)) (by decide)) (by decide)) hm110)
            refine J_icmp_eq (tgt := 70) dX11_one_59 (by decide) (fun c136 => ?_) (fun c136 => ?_)
            · refine J_iload (i := 7) (j := 5) dX11_one_70 rfl ?_
              refine J_istore (i := 4) (lw := [(4, .int w71), (8, .long l131), (0, .ref 162), (3, .int much), (5, .long w70), (7, .int w71)]) dX11_one_72 (by decide) rfl ?_
              refine J_lload (i := 8) (j := 1) dX11_one_74 rfl ?_
              refine J_lstore (i := 5) (lw := [(5, .long l131), (4, .int w71), (8, .long l131), (0, .ref 162), (3, .int much), (7, .int w71)]) dX11_one_76 (by decide) rfl ?_
              refine J_lv [3, 4, 1, 0, 5] rfl ?_
              exact jn140 w71 l131 (bd_w (l := 0) (h := 9) (bd_lt_hi bw71 (i_nle c111) (bd_ne_lo h6 c13 (by decide))) (by decide))
            · refine J_lload (i := 8) (j := 0) dX11_one_62 rfl ?_
              refine J_lload (i := 5) (j := 4) dX11_one_64 rfl ?_
              refine J_lcmp dX11_one_66 ?_
              refine J_if_ge (tgt := 78) dX11_one_67 (by decide) (fun c141 => ?_) (fun c141 => ?_)
              · refine J_lv [1, 2, 3, 4, 5] rfl ?_
                exact jn140 w69 w70 (bd_ne_lo bw69 c136 (by decide))
              · refine J_iload (i := 7) (j := 5) dX11_one_70 rfl ?_
                refine J_istore (i := 4) (lw := [(4, .int w71), (8, .long l131), (0, .ref 162), (3, .int much), (5, .long w70), (7, .int w71)]) dX11_one_72 (by decide) rfl ?_
                refine J_lload (i := 8) (j := 1) dX11_one_74 rfl ?_
                refine J_lstore (i := 5) (lw := [(5, .long l131), (4, .int w71), (8, .long l131), (0, .ref 162), (3, .int much), (7, .int w71)]) dX11_one_76 (by decide) rfl ?_
                refine J_lv [3, 4, 1, 0, 5] rfl ?_
                exact jn140 w71 l131 (bd_w (l := 0) (h := 9) (bd_lt_hi bw71 (i_nle c111) (bd_ne_lo h6 c13 (by decide))) (by decide))
      refine J_lv [3, 6, 2, 1, 0] rfl ?_
      exact lp107 _ ((-1) : Int32) (0 : Int64) (0 : Int32) u5 (bd_w (l := (-1)) (h := 9) (bd_c (v := (-1)) (lo := (-1)) (hi := (-1)) (by decide)) (by decide)) (bd_w (l := 0) (h := 9) (bd_c (v := 0) (lo := 0) (hi := 0) (by decide)) (by decide)) (fun c k_ => rfl) (fun j k26_ k31_ k32_ k33_ => rfl) (bd_r ((fc11 31 (Nat.ne_of_beq_eq_false rfl) (Nat.ne_of_beq_eq_false rfl) (Nat.ne_of_beq_eq_false rfl) (Nat.ne_of_beq_eq_false rfl) (Nat.ne_of_beq_eq_false rfl) (Nat.ne_of_beq_eq_false rfl)).trans (ms_i e2 (Nat.ne_of_beq_eq_false rfl))) hp8) (Nat.lt_succ_self _)
    · refine J_ldc2 (v := (-1)) dX11_one_21 k1578 ?_
      exact J_lret hq dX11_one_24 rfl wlen (Nat.le_refl _) (Nat.le_refl _) ⟨((-1) : Int64), u5, rfl, rfl, (bd_w (l := 0) (h := 9) (bd_r c13 (bd_c (v := 0) (lo := 0) (hi := 0) (by decide))) (by decide)), h7, h8, (bd_r ((fc11 31 (Nat.ne_of_beq_eq_false rfl) (Nat.ne_of_beq_eq_false rfl) (Nat.ne_of_beq_eq_false rfl) (Nat.ne_of_beq_eq_false rfl) (Nat.ne_of_beq_eq_false rfl) (Nat.ne_of_beq_eq_false rfl)).trans (ms_i e2 (Nat.ne_of_beq_eq_false rfl))) hp8), (fun c k_ => ((fr10 c (nin_ne (a := 162) k_ rfl) (nin_ne (a := 172) k_ rfl)).trans (ms_c e2 (nin_ne (a := 162) k_ rfl)))), (fun j k0_ k22_ k23_ k24_ k25_ k26_ k27_ k31_ k32_ k33_ => ((fc11 j k22_ k23_ k24_ k25_ k26_ k27_).trans (ms_i e2 k0_)))⟩
set_option maxHeartbeats 4000000 in
set_option maxRecDepth 100000 in
theorem c_M_low {d : Nat} {u : Nat → Nat → Int32} {g : Nat → Nat → Int64} {ex : List MC} {hill : Int32} {plan : Int32} {pond : Int32} (hd : 5 ≤ d) (hp0 : (MY u)) (hp1 : AB u 168 (-1) 999) (hp2 : (HD u)) (hp3 : (HC u)) (hp4 : (PL u)) (hp5 : (N0 u)) (hp6 : (DN u)) (hp7 : Bd 0 9 (u 162 22)) (hp8 : Bd 0 511 (u 162 31)) (hp9 : AB u 177 (-1) 999) : CT con0 d 0 0 yX11_low cX11_low 11 (some .int) [.ref 162, .int hill, .int plan, .int pond] (Wd u g ex) (fun r h2 => ∃ (z : Int32) (u2 : Nat → Nat → Int32), r = some (.int z) ∧ h2 = Wd u2 g ex ∧ Bd 0 9 (u2 162 22) ∧ (DN u2) ∧ (N0 u2) ∧ Bd 0 511 (u2 162 31) ∧ (∀ c, nin c [(162, 162), (172, 175)] = true → u2 c = u c) ∧ (∀ j, j ≠ 0 → j ≠ 22 → j ≠ 23 → j ≠ 24 → j ≠ 25 → j ≠ 26 → j ≠ 27 → j ≠ 31 → j ≠ 32 → j ≠ 33 → u2 162 j = u 162 j)) := by
  refine CT_of (by decide) (Nat.le_of_ble_eq_true rfl) (fun x hq => ?_)
  show J x yX11_low cX11_low 11 (some .int) d 0 0 (Wd u g ex).length 0 [(0, .ref 162), (1, .int hill), (2, .int plan), (3, .int pond)] [] (Wd u g ex) 0 0
  refine J_aload_n (i := 0) (j := 0) dX11_low_0 rfl rfl ?_
  refine J_iconst (v := 0) dX11_low_1 (by decide) ?_
  obtain ⟨u1, e2⟩ : ∃ z, z = ms u 162 0 0 := ⟨_, rfl⟩
  refine J_put (C := RX11) (T := TX11) (Z := 43) (ci := 11) (f := 0) (ty0 := tyX11) dX11_low_2 inG11 rfl tyX11_ok nmX11 (by decide) k1264 rfl rfl wc_162 (Nat.le_of_ble_eq_true rfl) (fun _ _ => ⟨rfl, rfl⟩) (ws e2 wk_162 rfl) ?_
  refine J_aload_n (i := 0) (j := 0) dX11_low_5 rfl rfl ?_
  refine J_iload_n (i := 1) (j := 1) dX11_low_6 rfl rfl ?_
  refine J_iload_n (i := 2) (j := 2) dX11_low_7 rfl rfl ?_
  refine J_callV (As := [.int hill, .int plan]) (rest := []) dX11_low_8 (c_M_lay (d := 2) (u := u1) (g := g) (ex := ex) (h := hill) (plan := plan)  (by decide) (my_c (ms_c e2 (Nat.ne_of_beq_eq_false rfl)) hp0) (ab_c (ms_c e2 (Nat.ne_of_beq_eq_false rfl)) hp1) (hd_c (ms_c e2 (Nat.ne_of_beq_eq_false rfl)) hp2) (hc_c (ms_c e2 (Nat.ne_of_beq_eq_false rfl)) (ms_c e2 (Nat.ne_of_beq_eq_false rfl)) hp3) (pl_c (ms_c e2 (Nat.ne_of_beq_eq_false rfl)) hp4) (n0_c (ms_c e2 (Nat.ne_of_beq_eq_false rfl)) hp5) (dn_c (ms_c e2 (Nat.ne_of_beq_eq_false rfl)) hp6) (bd_r (ms_i e2 (Nat.ne_of_beq_eq_false rfl)) hp7)) hq.n k1503 k1505 k52 wc_162 rfl rfl k97 k1506 np_X11_lay (Nat.le_trans (by decide) hd) (by decide) (Nat.le_refl _) (Nat.le_refl _) wlen rfl (Nat.le_of_ble_eq_true rfl) (fun r_ h_ p3 => ?_)
  obtain ⟨t4, u5, rfl, rfl, h6, h7, h8, h9, fr10, fc11⟩ := p3
  refine J_ifB_eq (tgt := 22) dX11_low_11 (by decide) (fun c12 => ?_) (fun c12 => ?_)
  · refine J_iconst (v := (-1)) dX11_low_22 (by decide) ?_
    exact J_iret hq dX11_low_23 rfl wlen (Nat.le_refl _) (Nat.le_refl _) ⟨((-1) : Int32), u5, rfl, rfl, h6, h7, h8, (bd_r ((fc11 31 (Nat.ne_of_beq_eq_false rfl) (Nat.ne_of_beq_eq_false rfl) (Nat.ne_of_beq_eq_false rfl) (Nat.ne_of_beq_eq_false rfl) (Nat.ne_of_beq_eq_false rfl) (Nat.ne_of_beq_eq_false rfl)).trans (ms_i e2 (Nat.ne_of_beq_eq_false rfl))) hp8), (fun c k_ => ((fr10 c (nin_ne (a := 162) k_ rfl) (nin_ne (a := 172) k_ rfl)).trans (ms_c e2 (nin_ne (a := 162) k_ rfl)))), (fun j k0_ k22_ k23_ k24_ k25_ k26_ k27_ k31_ k32_ k33_ => ((fc11 j k22_ k23_ k24_ k25_ k26_ k27_).trans (ms_i e2 k0_)))⟩
  · refine J_aload_n (i := 0) (j := 0) dX11_low_14 rfl rfl ?_
    refine J_iload_n (i := 3) (j := 3) dX11_low_15 rfl rfl ?_
    refine J_callV (As := [.int pond]) (rest := []) dX11_low_16 (c_M_isPond (d := 1) (u := u5) (g := g) (ex := ex) (p := pond)  (by decide) h6) hq.n k1523 k1525 k57 wc_162 rfl rfl k97 k1526 np_X11_isPond (Nat.le_trans (by decide) hd) (by decide) (Nat.le_refl _) (Nat.le_refl _) wlen rfl (Nat.le_of_ble_eq_true rfl) (fun r_ h_ p13 => ?_)
    obtain ⟨t14, rfl, rfl, h15⟩ := p13
    refine J_ifB_ne (tgt := 24) dX11_low_19 (by decide) (fun c16 => ?_) (fun c16 => ?_)
    · refine J_aload_n (i := 0) (j := 0) dX11_low_24 rfl rfl ?_
      refine J_iload_n (i := 3) (j := 3) dX11_low_25 rfl rfl ?_
      refine J_iconst (v := 1) dX11_low_26 (by decide) ?_
      refine J_callV (As := [.int pond, .int 1]) (rest := []) dX11_low_27 (c_M_of (d := 0) (u := u5) (g := g) (ex := ex) (p := pond) (what := 1)  (by decide) (h15 c16) (bd_w (l := 0) (h := 15) (bd_c (v := 1) (lo := 1) (hi := 1) (by decide)) (by decide))) hq.n k1515 k1517 k55 wc_162 rfl rfl k97 k1518 np_X11_of (Nat.le_trans (by decide) hd) (by decide) (Nat.le_refl _) (Nat.le_refl _) wlen rfl (Nat.le_of_ble_eq_true rfl) (fun r_ h_ p17 => ?_)
      obtain ⟨rfl, rfl⟩ := p17
      refine J_istore (i := 4) (lw := [(4, .int (mof u5 pond (1 : Int32))), (0, .ref 162), (1, .int hill), (2, .int plan), (3, .int pond)]) dX11_low_30 (by decide) rfl ?_
      refine J_iconst (v := 0) dX11_low_32 (by decide) ?_
      refine J_istore (i := 5) (lw := [(5, .int 0), (4, .int (mof u5 pond (1 : Int32))), (0, .ref 162), (1, .int hill), (2, .int plan), (3, .int pond)]) dX11_low_33 (by decide) rfl ?_
      refine J_lconst (v := 0) dX11_low_35 (by decide) ?_
      refine J_lstore (i := 6) (lw := [(6, .long 0), (5, .int 0), (4, .int (mof u5 pond (1 : Int32))), (0, .ref 162), (1, .int hill), (2, .int plan), (3, .int pond)]) dX11_low_36 (by decide) rfl ?_
      refine J_iconst (v := 0) dX11_low_38 (by decide) ?_
      refine J_istore (i := 8) (lw := [(8, .int 0), (6, .long 0), (5, .int 0), (4, .int (mof u5 pond (1 : Int32))), (0, .ref 162), (1, .int hill), (2, .int plan), (3, .int pond)]) dX11_low_39 (by decide) rfl ?_
      have lp592 : ∀ (n593 : Nat) (w532 : Int32) (w533 : Int64) (w534 : Int32) (u535 : Nat → Nat → Int32), Bd 0 1000 w532 → Bd 0 1000 w534 → (∀ c, nin c [(162, 162), (172, 175)] = true → u535 c = u5 c) → (∀ j, j ≠ 31 → j ≠ 32 → j ≠ 33 → u535 162 j = u5 162 j) → Bd 0 511 (u535 162 31) → AB u535 172 (-1) 999 → DN u535 → N0 u535 → RC u535 → (1000 - w534.toInt).toNat < n593 → J x yX11_low cX11_low 11 (some .int) d 0 0 (Wd u g ex).length 41 [(0, .ref 162), (3, .int pond), (4, .int (mof u5 pond (1 : Int32))), (5, .int w532), (6, .long w533), (8, .int w534)] [] (Wd u535 g ex) 0 0 := by
        intro n593
        induction n593 with
        | zero => intro w532 w533 w534 u535 bw532 bw534 fr536 fc537 bm538 ab539 rf540 rf541 rf542 hm595; exact absurd hm595 (Nat.not_lt_zero _)
        | succ n593 ih594 =>
          intro w532 w533 w534 u535 bw532 bw534 fr536 fc537 bm538 ab539 rf540 rf541 rf542 hm595
          refine J_iload (i := 8) (j := 5) dX11_low_41 rfl ?_
          refine J_iload (i := 4) (j := 2) dX11_low_43 rfl ?_
          refine J_icmp_gt (tgt := 111) dX11_low_45 (by decide) (fun c596 => ?_) (fun c596 => ?_)
          · refine J_iload (i := 5) (j := 3) dX11_low_111 rfl ?_
            exact J_iret hq dX11_low_113 rfl wlen (Nat.le_refl _) (Nat.le_refl _) ⟨w532, u535, rfl, rfl, (bd_r (fc537 22 (Nat.ne_of_beq_eq_false rfl) (Nat.ne_of_beq_eq_false rfl) (Nat.ne_of_beq_eq_false rfl)) h6), rf540, rf541, bm538, (fun c k_ => ((fr536 c (nin_sub (M := [(162, 162), (172, 175)]) k_ rfl)).trans ((fr10 c (nin_ne (a := 162) k_ rfl) (nin_ne (a := 172) k_ rfl)).trans (ms_c e2 (nin_ne (a := 162) k_ rfl))))), (fun j k0_ k22_ k23_ k24_ k25_ k26_ k27_ k31_ k32_ k33_ => ((fc537 j k31_ k32_ k33_).trans ((fc11 j k22_ k23_ k24_ k25_ k26_ k27_).trans (ms_i e2 k0_))))⟩
          · refine J_aload_n (i := 0) (j := 0) dX11_low_48 rfl rfl ?_
            refine J_iload_n (i := 3) (j := 1) dX11_low_49 rfl rfl ?_
            refine J_iconst (v := 1) dX11_low_50 (by decide) ?_
            refine J_iload (i := 4) (j := 2) dX11_low_51 rfl ?_
            refine J_iload (i := 8) (j := 5) dX11_low_53 rfl ?_
            refine J_isub dX11_low_55 ?_
            refine J_callV (As := [.int pond, .int 1, .int ((mof u5 pond (1 : Int32)) - w534)]) (rest := []) dX11_low_56 (c_M_set (d := 0) (u := u535) (g := g) (ex := ex) (p := pond) (what := 1) (v := ((mof u5 pond (1 : Int32)) - w534))  (by decide) (h15 c16) (bd_w (l := 0) (h := 15) (bd_c (v := 1) (lo := 1) (hi := 1) (by decide)) (by decide))) hq.n k1519 k1521 k56 wc_162 rfl rfl k97 k1522 np_X11_set (Nat.le_trans (by decide) hd) (by decide) (Nat.le_refl _) (Nat.le_refl _) wlen rfl (Nat.le_of_ble_eq_true rfl) (fun r_ h_ p621 => ?_)
            obtain ⟨u622, rfl, rfl, h623, fr624⟩ := p621
            refine J_aload_n (i := 0) (j := 0) dX11_low_59 rfl rfl ?_
            refine J_iconst (v := (-1)) dX11_low_60 (by decide) ?_
            refine J_callV (As := [.int (-1)]) (rest := []) dX11_low_61 (c_M_meanBy (d := 4) (u := u622) (g := g) (ex := ex) (owner := (-1))  (by decide) (bd_r ((congrFun (ms_c h623 (Nat.ne_of_beq_eq_false rfl)) 22).trans (fc537 22 (Nat.ne_of_beq_eq_false rfl) (Nat.ne_of_beq_eq_false rfl) (Nat.ne_of_beq_eq_false rfl))) h6) (rc_s h623 (h15 c16) (bd_w (l := 0) (h := 15) (bd_c (v := 1) (lo := 1) (hi := 1) (by decide)) (by decide)) rf542) (dn_s h623 (h15 c16) (by decide) rf540) (bd_r (congrFun (ms_c h623 (Nat.ne_of_beq_eq_false rfl)) 31) bm538)) hq.n k1596 k1598 k68 wc_162 rfl rfl k97 k1599 np_X11_meanBy (Nat.le_trans (by decide) hd) (by decide) (Nat.le_refl _) (Nat.le_refl _) wlen rfl (Nat.le_of_ble_eq_true rfl) (fun r_ h_ p625 => ?_)
            obtain ⟨l626, u627, rfl, rfl, h628, fr629, fc630⟩ := p625
            refine J_aload_n (i := 0) (j := 0) dX11_low_64 rfl rfl ?_
            refine J_callV (As := []) (rest := [.long l626]) dX11_low_65 (c_M_allParts (d := 0) (u := u627) (g := g) (ex := ex)   (by decide) (bd_r ((fc630 22 (Nat.ne_of_beq_eq_false rfl) (Nat.ne_of_beq_eq_false rfl) (Nat.ne_of_beq_eq_false rfl)).trans ((congrFun (ms_c h623 (Nat.ne_of_beq_eq_false rfl)) 22).trans (fc537 22 (Nat.ne_of_beq_eq_false rfl) (Nat.ne_of_beq_eq_false rfl) (Nat.ne_of_beq_eq_false rfl)))) h6)) hq.n k1583 k1585 k67 wc_162 rfl rfl k97 k1586 np_X11_allParts (Nat.le_trans (by decide) hd) (by decide) (Nat.le_refl _) (Nat.le_refl _) wlen rfl (Nat.le_of_ble_eq_true rfl) (fun r_ h_ p631 => ?_)
            obtain ⟨l632, rfl, rfl⟩ := p631
            refine J_iload (i := 8) (j := 5) dX11_low_68 rfl ?_
            refine J_i2l dX11_low_70 rfl ?_
            refine J_topl (fun l633 _ => ?_)
            refine J_lmul dX11_low_71 ?_
            refine J_topl (fun l634 _ => ?_)
            refine J_aload_n (i := 0) (j := 0) dX11_low_72 rfl rfl ?_
            refine J_iload_n (i := 3) (j := 1) dX11_low_73 rfl rfl ?_
            refine J_bipush (v := 7) dX11_low_74 (by decide) ?_
            refine J_callV (As := [.int pond, .int 7]) (rest := [.long l634, .long l626]) dX11_low_76 (c_M_of (d := 0) (u := u627) (g := g) (ex := ex) (p := pond) (what := 7)  (by decide) (h15 c16) (bd_w (l := 0) (h := 15) (bd_c (v := 7) (lo := 7) (hi := 7) (by decide)) (by decide))) hq.n k1515 k1517 k55 wc_162 rfl rfl k97 k1518 np_X11_of (Nat.le_trans (by decide) hd) (by decide) (Nat.le_refl _) (Nat.le_refl _) wlen rfl (Nat.le_of_ble_eq_true rfl) (fun r_ h_ p635 => ?_)
            obtain ⟨rfl, rfl⟩ := p635
            refine J_ci (v := (mof u622 pond (7 : Int32))) (mof_c (fr629 172 rfl)) ?_
            refine J_i2l dX11_low_79 rfl ?_
            refine J_topl (fun l636 _ => ?_)
            refine J_lmul dX11_low_80 ?_
            refine J_topl (fun l637 _ => ?_)
            refine J_ladd dX11_low_81 ?_
            refine J_topl (fun l638 _ => ?_)
            refine J_lstore (i := 9) (lw := [(9, .long l638), (0, .ref 162), (3, .int pond), (4, .int (mof u5 pond (1 : Int32))), (5, .int w532), (6, .long w533), (8, .int w534)]) dX11_low_82 (by decide) rfl ?_
            refine J_iload (i := 8) (j := 6) dX11_low_84 rfl ?_
            have jn643 : ∀ (w641 : Int32) (w642 : Int64), Bd 0 1000 w641 → J x yX11_low cX11_low 11 (some .int) d 0 0 (Wd u g ex).length 105 [(0, .ref 162), (3, .int pond), (4, .int (mof u5 pond (1 : Int32))), (5, .int w641), (6, .long w642), (8, .int w534)] [] (Wd u627 g ex) 0 0 := by
              intro w641 w642 bw641
              refine J_iinc (i := 8) (j := 5) (v := (w534 + 1)) (lw := [(8, .int (w534 + 1)), (0, .ref 162), (3, .int pond), (4, .int (mof u5 pond (1 : Int32))), (5, .int w641), (6, .long w642)]) dX11_low_105 rfl rfl (by decide) rfl ?_
              refine J_goto (tgt := 41) dX11_low_108 (by decide) ?_
              refine J_lv [1, 2, 3, 4, 5, 0] rfl ?_
              exact ih594 w641 w642 (w534 + 1) u627 bw641 (bd_w (l := 0) (h := 1000) (bd_add (l := 1) (h := 1000) (bd_le_hi bw534 (i_nlt c596) ((h9 c12).2 _)) (bd_c (v := 1) (lo := 1) (hi := 1) (by decide)) (by decide)) (by decide)) (fun c k_ => ((fr629 c (nin_sub (M := [(162, 162), (173, 175)]) k_ rfl)).trans ((ms_c h623 (nin_ne (a := 172) k_ rfl)).trans (fr536 c (nin_sub (M := [(162, 162), (172, 175)]) k_ rfl))))) (fun j k31_ k32_ k33_ => ((fc630 j k31_ k32_ k33_).trans ((congrFun (ms_c h623 (Nat.ne_of_beq_eq_false rfl)) j).trans (fc537 j k31_ k32_ k33_)))) h628 (ab_c (fr629 172 rfl) (ab_s h623 ab539 (bd_w (l := (-1)) (h := 999) (bd_subl (h := 999) (bd_le_lo ((h9 c12).2 _) (i_nlt c596) bw534) (bd_le_hi bw534 (i_nlt c596) ((h9 c12).2 _)) (i_nlt c596) (by decide)) (by decide)))) (dn_c (fr629 172 rfl) (dn_s h623 (h15 c16) (by decide) rf540)) (n0_c (fr629 172 rfl) (n0_s h623 (h15 c16) (bd_w (l := 0) (h := 15) (bd_c (v := 1) (lo := 1) (hi := 1) (by decide)) (by decide)) rf541)) (rc_c (fr629 172 rfl) (rc_s h623 (h15 c16) (bd_w (l := 0) (h := 15) (bd_c (v := 1) (lo := 1) (hi := 1) (by decide)) (by decide)) rf542)) (mu_up 1 bw534 rfl (by decide) (bd_w (l := 1) (h := 1000) (bd_add (l := 1) (h := 1000) (bd_le_hi bw534 (i_nlt c596) ((h9 c12).2 _)) (bd_c (v := 1) (lo := 1) (hi := 1) (by decide)) (by decide)) (by decide)) hm595)
            refine J_if_eq (tgt := 97) dX11_low_86 (by decide) (fun c639 => ?_) (fun c639 => ?_)
            · refine J_iload (i := 8) (j := 6) dX11_low_97 rfl ?_
              refine J_istore (i := 5) (lw := [(5, .int w534), (9, .long l638), (0, .ref 162), (3, .int pond), (4, .int (mof u5 pond (1 : Int32))), (6, .long w533), (8, .int w534)]) dX11_low_99 (by decide) rfl ?_
              refine J_lload (i := 9) (j := 1) dX11_low_101 rfl ?_
              refine J_lstore (i := 6) (lw := [(6, .long l638), (5, .int w534), (9, .long l638), (0, .ref 162), (3, .int pond), (4, .int (mof u5 pond (1 : Int32))), (8, .int w534)]) dX11_low_103 (by decide) rfl ?_
              refine J_lv [3, 4, 5, 1, 0, 6] rfl ?_
              exact jn643 w534 l638 (bd_w (l := 0) (h := 1000) (bd_r c639 (bd_c (v := 0) (lo := 0) (hi := 0) (by decide))) (by decide))
            · refine J_lload (i := 9) (j := 0) dX11_low_89 rfl ?_
              refine J_lload (i := 6) (j := 5) dX11_low_91 rfl ?_
              refine J_lcmp dX11_low_93 ?_
              refine J_if_ge (tgt := 105) dX11_low_94 (by decide) (fun c644 => ?_) (fun c644 => ?_)
              · refine J_lv [1, 2, 3, 4, 5, 6] rfl ?_
                exact jn643 w532 w533 bw532
              · refine J_iload (i := 8) (j := 6) dX11_low_97 rfl ?_
                refine J_istore (i := 5) (lw := [(5, .int w534), (9, .long l638), (0, .ref 162), (3, .int pond), (4, .int (mof u5 pond (1 : Int32))), (6, .long w533), (8, .int w534)]) dX11_low_99 (by decide) rfl ?_
                refine J_lload (i := 9) (j := 1) dX11_low_101 rfl ?_
                refine J_lstore (i := 6) (lw := [(6, .long l638), (5, .int w534), (9, .long l638), (0, .ref 162), (3, .int pond), (4, .int (mof u5 pond (1 : Int32))), (8, .int w534)]) dX11_low_103 (by decide) rfl ?_
                refine J_lv [3, 4, 5, 1, 0, 6] rfl ?_
                exact jn643 w534 l638 (bd_w (l := 0) (h := 1000) (bd_ne_lo (bd_le_hi bw534 (i_nlt c596) ((h9 c12).2 _)) c639 (by decide)) (by decide))
      refine J_lv [4, 7, 3, 2, 1, 0] rfl ?_
      exact lp592 _ (0 : Int32) (0 : Int64) (0 : Int32) u5 (bd_w (l := 0) (h := 1000) (bd_c (v := 0) (lo := 0) (hi := 0) (by decide)) (by decide)) (bd_w (l := 0) (h := 1000) (bd_c (v := 0) (lo := 0) (hi := 0) (by decide)) (by decide)) (fun c k_ => rfl) (fun j k31_ k32_ k33_ => rfl) (bd_r ((fc11 31 (Nat.ne_of_beq_eq_false rfl) (Nat.ne_of_beq_eq_false rfl) (Nat.ne_of_beq_eq_false rfl) (Nat.ne_of_beq_eq_false rfl) (Nat.ne_of_beq_eq_false rfl) (Nat.ne_of_beq_eq_false rfl)).trans (ms_i e2 (Nat.ne_of_beq_eq_false rfl))) hp8) (h9 c12).2 h7 h8 (h9 c12).1 (Nat.lt_succ_self _)
    · refine J_iconst (v := (-1)) dX11_low_22 (by decide) ?_
      exact J_iret hq dX11_low_23 rfl wlen (Nat.le_refl _) (Nat.le_refl _) ⟨((-1) : Int32), u5, rfl, rfl, h6, h7, h8, (bd_r ((fc11 31 (Nat.ne_of_beq_eq_false rfl) (Nat.ne_of_beq_eq_false rfl) (Nat.ne_of_beq_eq_false rfl) (Nat.ne_of_beq_eq_false rfl) (Nat.ne_of_beq_eq_false rfl) (Nat.ne_of_beq_eq_false rfl)).trans (ms_i e2 (Nat.ne_of_beq_eq_false rfl))) hp8), (fun c k_ => ((fr10 c (nin_ne (a := 162) k_ rfl) (nin_ne (a := 172) k_ rfl)).trans (ms_c e2 (nin_ne (a := 162) k_ rfl)))), (fun j k0_ k22_ k23_ k24_ k25_ k26_ k27_ k31_ k32_ k33_ => ((fc11 j k22_ k23_ k24_ k25_ k26_ k27_).trans (ms_i e2 k0_)))⟩
set_option maxHeartbeats 4000000 in
set_option maxRecDepth 100000 in
theorem c_M_helps {d : Nat} {u : Nat → Nat → Int32} {g : Nat → Nat → Int64} {ex : List MC} {hill : Int32} {plan : Int32} {owner : Int32} {other : Int32} (hd : 6 ≤ d) (hp0 : (MY u)) (hp1 : AB u 168 (-1) 999) (hp2 : (HD u)) (hp3 : (HC u)) (hp4 : (PL u)) (hp5 : (N0 u)) (hp6 : (DN u)) (hp7 : Bd 0 9 (u 162 22)) (hp8 : Bd 0 511 (u 162 31)) (hp9 : AB u 177 (-1) 999) : CT con0 d 0 0 yX11_helps cX11_helps 5 (some .long) [.ref 162, .int hill, .int plan, .int owner, .int other] (Wd u g ex) (fun r h2 => ∃ (z : Int64) (u2 : Nat → Nat → Int32), r = some (.long z) ∧ h2 = Wd u2 g ex ∧ Bd 0 9 (u2 162 22) ∧ (DN u2) ∧ (N0 u2) ∧ Bd 0 511 (u2 162 31) ∧ AB u2 177 (-1) 999 ∧ (∀ c, nin c [(162, 162), (172, 175), (177, 177)] = true → u2 c = u c) ∧ (∀ j, j ≠ 0 → j ≠ 22 → j ≠ 23 → j ≠ 24 → j ≠ 25 → j ≠ 26 → j ≠ 27 → j ≠ 31 → j ≠ 32 → j ≠ 33 → u2 162 j = u 162 j)) := by
  refine CT_of (by decide) (Nat.le_of_ble_eq_true rfl) (fun x hq => ?_)
  show J x yX11_helps cX11_helps 5 (some .long) d 0 0 (Wd u g ex).length 0 [(0, .ref 162), (1, .int hill), (2, .int plan), (3, .int owner), (4, .int other)] [] (Wd u g ex) 0 0
  refine J_aload_n (i := 0) (j := 0) dX11_helps_0 rfl rfl ?_
  refine J_iconst (v := 0) dX11_helps_1 (by decide) ?_
  obtain ⟨u1, e2⟩ : ∃ z, z = ms u 162 0 0 := ⟨_, rfl⟩
  refine J_put (C := RX11) (T := TX11) (Z := 43) (ci := 11) (f := 0) (ty0 := tyX11) dX11_helps_2 inG11 rfl tyX11_ok nmX11 (by decide) k1264 rfl rfl wc_162 (Nat.le_of_ble_eq_true rfl) (fun _ _ => ⟨rfl, rfl⟩) (ws e2 wk_162 rfl) ?_
  refine J_aload_n (i := 0) (j := 0) dX11_helps_5 rfl rfl ?_
  refine J_iload_n (i := 1) (j := 1) dX11_helps_6 rfl rfl ?_
  refine J_iload_n (i := 2) (j := 2) dX11_helps_7 rfl rfl ?_
  refine J_callV (As := [.int hill, .int plan]) (rest := []) dX11_helps_8 (c_M_lay (d := 2) (u := u1) (g := g) (ex := ex) (h := hill) (plan := plan)  (by decide) (my_c (ms_c e2 (Nat.ne_of_beq_eq_false rfl)) hp0) (ab_c (ms_c e2 (Nat.ne_of_beq_eq_false rfl)) hp1) (hd_c (ms_c e2 (Nat.ne_of_beq_eq_false rfl)) hp2) (hc_c (ms_c e2 (Nat.ne_of_beq_eq_false rfl)) (ms_c e2 (Nat.ne_of_beq_eq_false rfl)) hp3) (pl_c (ms_c e2 (Nat.ne_of_beq_eq_false rfl)) hp4) (n0_c (ms_c e2 (Nat.ne_of_beq_eq_false rfl)) hp5) (dn_c (ms_c e2 (Nat.ne_of_beq_eq_false rfl)) hp6) (bd_r (ms_i e2 (Nat.ne_of_beq_eq_false rfl)) hp7)) hq.n k1503 k1505 k52 wc_162 rfl rfl k97 k1506 np_X11_lay (Nat.le_trans (by decide) hd) (by decide) (Nat.le_refl _) (Nat.le_refl _) wlen rfl (Nat.le_of_ble_eq_true rfl) (fun r_ h_ p3 => ?_)
  obtain ⟨t4, u5, rfl, rfl, h6, h7, h8, h9, fr10, fc11⟩ := p3
  refine J_ifB_eq (tgt := 29) dX11_helps_11 (by decide) (fun c12 => ?_) (fun c12 => ?_)
  · refine J_ldc2 (v := (-1)) dX11_helps_29 k1578 ?_
    exact J_lret hq dX11_helps_32 rfl wlen (Nat.le_refl _) (Nat.le_refl _) ⟨((-1) : Int64), u5, rfl, rfl, h6, h7, h8, (bd_r ((fc11 31 (Nat.ne_of_beq_eq_false rfl) (Nat.ne_of_beq_eq_false rfl) (Nat.ne_of_beq_eq_false rfl) (Nat.ne_of_beq_eq_false rfl) (Nat.ne_of_beq_eq_false rfl) (Nat.ne_of_beq_eq_false rfl)).trans (ms_i e2 (Nat.ne_of_beq_eq_false rfl))) hp8), (ab_c ((fr10 177 (Nat.ne_of_beq_eq_false rfl) (Nat.ne_of_beq_eq_false rfl)).trans (ms_c e2 (Nat.ne_of_beq_eq_false rfl))) hp9), (fun c k_ => ((fr10 c (nin_ne (a := 162) k_ rfl) (nin_ne (a := 172) k_ rfl)).trans (ms_c e2 (nin_ne (a := 162) k_ rfl)))), (fun j k0_ k22_ k23_ k24_ k25_ k26_ k27_ k31_ k32_ k33_ => ((fc11 j k22_ k23_ k24_ k25_ k26_ k27_).trans (ms_i e2 k0_)))⟩
  · refine J_iload_n (i := 3) (j := 3) dX11_helps_14 rfl rfl ?_
    refine J_callS (As := [.int owner]) (rest := []) dX11_helps_15 (c_M_isOwner (d := 1) (u := u5) (g := g) (ex := ex) (o := owner)  (by decide) ) hq.n k1593 k1594 k97 k1595 np_X11_isOwner (Nat.le_trans (by decide) hd) (by decide) (Nat.le_refl _) (Nat.le_refl _) wlen rfl (Nat.le_of_ble_eq_true rfl) (fun r_ h_ p13 => ?_)
    obtain ⟨t14, rfl, rfl⟩ := p13
    refine J_ifB_eq (tgt := 29) dX11_helps_18 (by decide) (fun c15 => ?_) (fun c15 => ?_)
    · refine J_ldc2 (v := (-1)) dX11_helps_29 k1578 ?_
      exact J_lret hq dX11_helps_32 rfl wlen (Nat.le_refl _) (Nat.le_refl _) ⟨((-1) : Int64), u5, rfl, rfl, h6, h7, h8, (bd_r ((fc11 31 (Nat.ne_of_beq_eq_false rfl) (Nat.ne_of_beq_eq_false rfl) (Nat.ne_of_beq_eq_false rfl) (Nat.ne_of_beq_eq_false rfl) (Nat.ne_of_beq_eq_false rfl) (Nat.ne_of_beq_eq_false rfl)).trans (ms_i e2 (Nat.ne_of_beq_eq_false rfl))) hp8), (ab_c ((fr10 177 (Nat.ne_of_beq_eq_false rfl) (Nat.ne_of_beq_eq_false rfl)).trans (ms_c e2 (Nat.ne_of_beq_eq_false rfl))) hp9), (fun c k_ => ((fr10 c (nin_ne (a := 162) k_ rfl) (nin_ne (a := 172) k_ rfl)).trans (ms_c e2 (nin_ne (a := 162) k_ rfl)))), (fun j k0_ k22_ k23_ k24_ k25_ k26_ k27_ k31_ k32_ k33_ => ((fc11 j k22_ k23_ k24_ k25_ k26_ k27_).trans (ms_i e2 k0_)))⟩
    · refine J_iload (i := 4) (j := 4) dX11_helps_21 rfl ?_
      refine J_callS (As := [.int other]) (rest := []) dX11_helps_23 (c_M_isOwner (d := 1) (u := u5) (g := g) (ex := ex) (o := other)  (by decide) ) hq.n k1593 k1594 k97 k1595 np_X11_isOwner (Nat.le_trans (by decide) hd) (by decide) (Nat.le_refl _) (Nat.le_refl _) wlen rfl (Nat.le_of_ble_eq_true rfl) (fun r_ h_ p16 => ?_)
      obtain ⟨t17, rfl, rfl⟩ := p16
      refine J_ifB_ne (tgt := 33) dX11_helps_26 (by decide) (fun c18 => ?_) (fun c18 => ?_)
      · refine J_aload_n (i := 0) (j := 0) dX11_helps_33 rfl rfl ?_
        refine J_callV (As := []) (rest := []) dX11_helps_34 (c_M_keepChances (d := 1) (u := u5) (g := g) (ex := ex)   (by decide) h6 (h9 c12).2 (ab_c ((fr10 177 (Nat.ne_of_beq_eq_false rfl) (Nat.ne_of_beq_eq_false rfl)).trans (ms_c e2 (Nat.ne_of_beq_eq_false rfl))) hp9)) hq.n k1619 k1621 k70 wc_162 rfl rfl k97 k1622 np_X11_keepChances (Nat.le_trans (by decide) hd) (by decide) (Nat.le_refl _) (Nat.le_refl _) wlen rfl (Nat.le_of_ble_eq_true rfl) (fun r_ h_ p19 => ?_)
        obtain ⟨u20, rfl, rfl, h21, fr22⟩ := p19
        refine J_aload_n (i := 0) (j := 0) dX11_helps_37 rfl rfl ?_
        refine J_iload (i := 4) (j := 4) dX11_helps_38 rfl ?_
        refine J_callV (As := [.int other]) (rest := []) dX11_helps_40 (c_M_meanBy (d := 4) (u := u20) (g := g) (ex := ex) (owner := other)  (by decide) (bd_r (congrFun (fr22 162 (Nat.ne_of_beq_eq_false rfl)) 22) h6) (rc_c (fr22 172 (Nat.ne_of_beq_eq_false rfl)) (h9 c12).1) (dn_c (fr22 172 (Nat.ne_of_beq_eq_false rfl)) h7) (bd_r ((congrFun (fr22 162 (Nat.ne_of_beq_eq_false rfl)) 31).trans ((fc11 31 (Nat.ne_of_beq_eq_false rfl) (Nat.ne_of_beq_eq_false rfl) (Nat.ne_of_beq_eq_false rfl) (Nat.ne_of_beq_eq_false rfl) (Nat.ne_of_beq_eq_false rfl) (Nat.ne_of_beq_eq_false rfl)).trans (ms_i e2 (Nat.ne_of_beq_eq_false rfl)))) hp8)) hq.n k1596 k1598 k68 wc_162 rfl rfl k97 k1599 np_X11_meanBy (Nat.le_trans (by decide) hd) (by decide) (Nat.le_refl _) (Nat.le_refl _) wlen rfl (Nat.le_of_ble_eq_true rfl) (fun r_ h_ p23 => ?_)
        obtain ⟨l24, u25, rfl, rfl, h26, fr27, fc28⟩ := p23
        refine J_aload_n (i := 0) (j := 0) dX11_helps_43 rfl rfl ?_
        refine J_aload_n (i := 0) (j := 0) dX11_helps_44 rfl rfl ?_
        refine J_iload_n (i := 3) (j := 3) dX11_helps_45 rfl rfl ?_
        refine J_callV (As := [.int owner]) (rest := [.ref 162, .long l24]) dX11_helps_46 (c_M_pondsOf (d := 1) (u := u25) (g := g) (ex := ex) (owner := owner)  (by decide) (bd_r ((fc28 22 (Nat.ne_of_beq_eq_false rfl) (Nat.ne_of_beq_eq_false rfl) (Nat.ne_of_beq_eq_false rfl)).trans (congrFun (fr22 162 (Nat.ne_of_beq_eq_false rfl)) 22)) h6)) hq.n k1662 k1664 k75 wc_162 rfl rfl k97 k1665 np_X11_pondsOf (Nat.le_trans (by decide) hd) (by decide) (Nat.le_refl _) (Nat.le_refl _) wlen rfl (Nat.le_of_ble_eq_true rfl) (fun r_ h_ p29 => ?_)
        obtain ⟨v30, rfl, rfl⟩ := p29
        refine J_iload (i := 4) (j := 4) dX11_helps_49 rfl ?_
        refine J_callV (As := [.int v30, .int other]) (rest := [.long l24]) dX11_helps_51 (c_M_meanMendedN (d := 5) (u := u25) (g := g) (ex := ex) (set := v30) (owner := other)  (by decide) (bd_r ((fc28 22 (Nat.ne_of_beq_eq_false rfl) (Nat.ne_of_beq_eq_false rfl) (Nat.ne_of_beq_eq_false rfl)).trans (congrFun (fr22 162 (Nat.ne_of_beq_eq_false rfl)) 22)) h6) (rc_c ((fr27 172 rfl).trans (fr22 172 (Nat.ne_of_beq_eq_false rfl))) (h9 c12).1) (dn_c ((fr27 172 rfl).trans (fr22 172 (Nat.ne_of_beq_eq_false rfl))) h7) h26 (ab_c ((fr27 172 rfl).trans (fr22 172 (Nat.ne_of_beq_eq_false rfl))) (h9 c12).2) (ab_c (fr27 177 rfl) h21) (n0_c ((fr27 172 rfl).trans (fr22 172 (Nat.ne_of_beq_eq_false rfl))) h8)) hq.n k1627 k1629 k72 wc_162 rfl rfl k97 k1630 np_X11_meanMended (Nat.le_trans (by decide) hd) (by decide) (Nat.le_refl _) (Nat.le_refl _) wlen rfl (Nat.le_of_ble_eq_true rfl) (fun r_ h_ p31 => ?_)
        obtain ⟨l32, u33, rfl, rfl, h34, h35, h36, h37, h38, fr39, fc40⟩ := p31
        refine J_lsub dX11_helps_54 ?_
        refine J_topl (fun l41 _ => ?_)
        exact J_lret hq dX11_helps_55 rfl wlen (Nat.le_refl _) (Nat.le_refl _) ⟨l41, u33, rfl, rfl, (bd_r ((fc40 22 (Nat.ne_of_beq_eq_false rfl) (Nat.ne_of_beq_eq_false rfl) (Nat.ne_of_beq_eq_false rfl)).trans ((fc28 22 (Nat.ne_of_beq_eq_false rfl) (Nat.ne_of_beq_eq_false rfl) (Nat.ne_of_beq_eq_false rfl)).trans (congrFun (fr22 162 (Nat.ne_of_beq_eq_false rfl)) 22))) h6), h36, h38, h34, (ab_c ((fr39 177 rfl).trans (fr27 177 rfl)) h21), (fun c k_ => ((fr39 c (nin_sub (M := [(162, 162), (172, 175)]) k_ rfl)).trans ((fr27 c (nin_sub (M := [(162, 162), (173, 175)]) k_ rfl)).trans ((fr22 c (nin_ne (a := 177) k_ rfl)).trans ((fr10 c (nin_ne (a := 162) k_ rfl) (nin_ne (a := 172) k_ rfl)).trans (ms_c e2 (nin_ne (a := 162) k_ rfl))))))), (fun j k0_ k22_ k23_ k24_ k25_ k26_ k27_ k31_ k32_ k33_ => ((fc40 j k31_ k32_ k33_).trans ((fc28 j k31_ k32_ k33_).trans ((congrFun (fr22 162 (Nat.ne_of_beq_eq_false rfl)) j).trans ((fc11 j k22_ k23_ k24_ k25_ k26_ k27_).trans (ms_i e2 k0_))))))⟩
      · refine J_ldc2 (v := (-1)) dX11_helps_29 k1578 ?_
        exact J_lret hq dX11_helps_32 rfl wlen (Nat.le_refl _) (Nat.le_refl _) ⟨((-1) : Int64), u5, rfl, rfl, h6, h7, h8, (bd_r ((fc11 31 (Nat.ne_of_beq_eq_false rfl) (Nat.ne_of_beq_eq_false rfl) (Nat.ne_of_beq_eq_false rfl) (Nat.ne_of_beq_eq_false rfl) (Nat.ne_of_beq_eq_false rfl) (Nat.ne_of_beq_eq_false rfl)).trans (ms_i e2 (Nat.ne_of_beq_eq_false rfl))) hp8), (ab_c ((fr10 177 (Nat.ne_of_beq_eq_false rfl) (Nat.ne_of_beq_eq_false rfl)).trans (ms_c e2 (Nat.ne_of_beq_eq_false rfl))) hp9), (fun c k_ => ((fr10 c (nin_ne (a := 162) k_ rfl) (nin_ne (a := 172) k_ rfl)).trans (ms_c e2 (nin_ne (a := 162) k_ rfl)))), (fun j k0_ k22_ k23_ k24_ k25_ k26_ k27_ k31_ k32_ k33_ => ((fc11 j k22_ k23_ k24_ k25_ k26_ k27_).trans (ms_i e2 k0_)))⟩
set_option maxHeartbeats 4000000 in
set_option maxRecDepth 100000 in
theorem c_M_alone {d : Nat} {u : Nat → Nat → Int32} {g : Nat → Nat → Int64} {ex : List MC} {hill : Int32} {plan : Int32} {owner : Int32} (hd : 6 ≤ d) (hp0 : (MY u)) (hp1 : AB u 168 (-1) 999) (hp2 : (HD u)) (hp3 : (HC u)) (hp4 : (PL u)) (hp5 : (N0 u)) (hp6 : (DN u)) (hp7 : Bd 0 9 (u 162 22)) (hp8 : Bd 0 511 (u 162 31)) (hp9 : AB u 177 (-1) 999) : CT con0 d 0 0 yX11_alone cX11_alone 4 (some .long) [.ref 162, .int hill, .int plan, .int owner] (Wd u g ex) (fun r h2 => ∃ (z : Int64) (u2 : Nat → Nat → Int32), r = some (.long z) ∧ h2 = Wd u2 g ex ∧ Bd 0 9 (u2 162 22) ∧ (DN u2) ∧ (N0 u2) ∧ Bd 0 511 (u2 162 31) ∧ AB u2 177 (-1) 999 ∧ (∀ c, nin c [(162, 162), (172, 175), (177, 177)] = true → u2 c = u c) ∧ (∀ j, j ≠ 0 → j ≠ 22 → j ≠ 23 → j ≠ 24 → j ≠ 25 → j ≠ 26 → j ≠ 27 → j ≠ 31 → j ≠ 32 → j ≠ 33 → u2 162 j = u 162 j)) := by
  refine CT_of (by decide) (Nat.le_of_ble_eq_true rfl) (fun x hq => ?_)
  show J x yX11_alone cX11_alone 4 (some .long) d 0 0 (Wd u g ex).length 0 [(0, .ref 162), (1, .int hill), (2, .int plan), (3, .int owner)] [] (Wd u g ex) 0 0
  refine J_aload_n (i := 0) (j := 0) dX11_alone_0 rfl rfl ?_
  refine J_iconst (v := 0) dX11_alone_1 (by decide) ?_
  obtain ⟨u1, e2⟩ : ∃ z, z = ms u 162 0 0 := ⟨_, rfl⟩
  refine J_put (C := RX11) (T := TX11) (Z := 43) (ci := 11) (f := 0) (ty0 := tyX11) dX11_alone_2 inG11 rfl tyX11_ok nmX11 (by decide) k1264 rfl rfl wc_162 (Nat.le_of_ble_eq_true rfl) (fun _ _ => ⟨rfl, rfl⟩) (ws e2 wk_162 rfl) ?_
  refine J_aload_n (i := 0) (j := 0) dX11_alone_5 rfl rfl ?_
  refine J_iload_n (i := 1) (j := 1) dX11_alone_6 rfl rfl ?_
  refine J_iload_n (i := 2) (j := 2) dX11_alone_7 rfl rfl ?_
  refine J_callV (As := [.int hill, .int plan]) (rest := []) dX11_alone_8 (c_M_lay (d := 2) (u := u1) (g := g) (ex := ex) (h := hill) (plan := plan)  (by decide) (my_c (ms_c e2 (Nat.ne_of_beq_eq_false rfl)) hp0) (ab_c (ms_c e2 (Nat.ne_of_beq_eq_false rfl)) hp1) (hd_c (ms_c e2 (Nat.ne_of_beq_eq_false rfl)) hp2) (hc_c (ms_c e2 (Nat.ne_of_beq_eq_false rfl)) (ms_c e2 (Nat.ne_of_beq_eq_false rfl)) hp3) (pl_c (ms_c e2 (Nat.ne_of_beq_eq_false rfl)) hp4) (n0_c (ms_c e2 (Nat.ne_of_beq_eq_false rfl)) hp5) (dn_c (ms_c e2 (Nat.ne_of_beq_eq_false rfl)) hp6) (bd_r (ms_i e2 (Nat.ne_of_beq_eq_false rfl)) hp7)) hq.n k1503 k1505 k52 wc_162 rfl rfl k97 k1506 np_X11_lay (Nat.le_trans (by decide) hd) (by decide) (Nat.le_refl _) (Nat.le_refl _) wlen rfl (Nat.le_of_ble_eq_true rfl) (fun r_ h_ p3 => ?_)
  obtain ⟨t4, u5, rfl, rfl, h6, h7, h8, h9, fr10, fc11⟩ := p3
  refine J_ifB_eq (tgt := 21) dX11_alone_11 (by decide) (fun c12 => ?_) (fun c12 => ?_)
  · refine J_ldc2 (v := (-1)) dX11_alone_21 k1578 ?_
    exact J_lret hq dX11_alone_24 rfl wlen (Nat.le_refl _) (Nat.le_refl _) ⟨((-1) : Int64), u5, rfl, rfl, h6, h7, h8, (bd_r ((fc11 31 (Nat.ne_of_beq_eq_false rfl) (Nat.ne_of_beq_eq_false rfl) (Nat.ne_of_beq_eq_false rfl) (Nat.ne_of_beq_eq_false rfl) (Nat.ne_of_beq_eq_false rfl) (Nat.ne_of_beq_eq_false rfl)).trans (ms_i e2 (Nat.ne_of_beq_eq_false rfl))) hp8), (ab_c ((fr10 177 (Nat.ne_of_beq_eq_false rfl) (Nat.ne_of_beq_eq_false rfl)).trans (ms_c e2 (Nat.ne_of_beq_eq_false rfl))) hp9), (fun c k_ => ((fr10 c (nin_ne (a := 162) k_ rfl) (nin_ne (a := 172) k_ rfl)).trans (ms_c e2 (nin_ne (a := 162) k_ rfl)))), (fun j k0_ k22_ k23_ k24_ k25_ k26_ k27_ k31_ k32_ k33_ => ((fc11 j k22_ k23_ k24_ k25_ k26_ k27_).trans (ms_i e2 k0_)))⟩
  · refine J_iload_n (i := 3) (j := 3) dX11_alone_14 rfl rfl ?_
    refine J_callS (As := [.int owner]) (rest := []) dX11_alone_15 (c_M_isOwner (d := 1) (u := u5) (g := g) (ex := ex) (o := owner)  (by decide) ) hq.n k1593 k1594 k97 k1595 np_X11_isOwner (Nat.le_trans (by decide) hd) (by decide) (Nat.le_refl _) (Nat.le_refl _) wlen rfl (Nat.le_of_ble_eq_true rfl) (fun r_ h_ p13 => ?_)
    obtain ⟨t14, rfl, rfl⟩ := p13
    refine J_ifB_ne (tgt := 25) dX11_alone_18 (by decide) (fun c15 => ?_) (fun c15 => ?_)
    · refine J_aload_n (i := 0) (j := 0) dX11_alone_25 rfl rfl ?_
      refine J_callV (As := []) (rest := []) dX11_alone_26 (c_M_keepChances (d := 1) (u := u5) (g := g) (ex := ex)   (by decide) h6 (h9 c12).2 (ab_c ((fr10 177 (Nat.ne_of_beq_eq_false rfl) (Nat.ne_of_beq_eq_false rfl)).trans (ms_c e2 (Nat.ne_of_beq_eq_false rfl))) hp9)) hq.n k1619 k1621 k70 wc_162 rfl rfl k97 k1622 np_X11_keepChances (Nat.le_trans (by decide) hd) (by decide) (Nat.le_refl _) (Nat.le_refl _) wlen rfl (Nat.le_of_ble_eq_true rfl) (fun r_ h_ p16 => ?_)
      obtain ⟨u17, rfl, rfl, h18, fr19⟩ := p16
      refine J_aload_n (i := 0) (j := 0) dX11_alone_29 rfl rfl ?_
      refine J_iconst (v := 1) dX11_alone_30 (by decide) ?_
      refine J_aload_n (i := 0) (j := 0) dX11_alone_31 rfl rfl ?_
      refine J_get (C := RX11) (T := TX11) (Z := 43) (ci := 11) (f := 22) dX11_alone_32 inG11 rfl (by decide) k1286 wc_162 rfl ?_
      refine J_ci (v := u5 162 22) (congrFun (fr19 162 (Nat.ne_of_beq_eq_false rfl)) 22) ?_
      refine J_ishl dX11_alone_35 ?_
      refine J_iconst (v := 1) dX11_alone_36 (by decide) ?_
      refine J_isub dX11_alone_37 ?_
      refine J_aload_n (i := 0) (j := 0) dX11_alone_38 rfl rfl ?_
      refine J_iload_n (i := 3) (j := 3) dX11_alone_39 rfl rfl ?_
      refine J_callV (As := [.int owner]) (rest := [.int (((1 : Int32) <<< ((u5 162 22) &&& 31)) - 1), .ref 162]) dX11_alone_40 (c_M_pondsOf (d := 1) (u := u17) (g := g) (ex := ex) (owner := owner)  (by decide) (bd_r (congrFun (fr19 162 (Nat.ne_of_beq_eq_false rfl)) 22) h6)) hq.n k1662 k1664 k75 wc_162 rfl rfl k97 k1665 np_X11_pondsOf (Nat.le_trans (by decide) hd) (by decide) (Nat.le_refl _) (Nat.le_refl _) wlen rfl (Nat.le_of_ble_eq_true rfl) (fun r_ h_ p20 => ?_)
      obtain ⟨v21, rfl, rfl⟩ := p20
      refine J_iconst (v := (-1)) dX11_alone_43 (by decide) ?_
      refine J_ixor dX11_alone_44 ?_
      refine J_iand dX11_alone_45 ?_
      refine J_iload_n (i := 3) (j := 3) dX11_alone_46 rfl rfl ?_
      refine J_callV (As := [.int ((((1 : Int32) <<< ((u5 162 22) &&& 31)) - 1) &&& (v21 ^^^ (-1))), .int owner]) (rest := []) dX11_alone_47 (c_M_meanMendedN (d := 5) (u := u17) (g := g) (ex := ex) (set := ((((1 : Int32) <<< ((u5 162 22) &&& 31)) - 1) &&& (v21 ^^^ (-1)))) (owner := owner)  (by decide) (bd_r (congrFun (fr19 162 (Nat.ne_of_beq_eq_false rfl)) 22) h6) (rc_c (fr19 172 (Nat.ne_of_beq_eq_false rfl)) (h9 c12).1) (dn_c (fr19 172 (Nat.ne_of_beq_eq_false rfl)) h7) (bd_r ((congrFun (fr19 162 (Nat.ne_of_beq_eq_false rfl)) 31).trans ((fc11 31 (Nat.ne_of_beq_eq_false rfl) (Nat.ne_of_beq_eq_false rfl) (Nat.ne_of_beq_eq_false rfl) (Nat.ne_of_beq_eq_false rfl) (Nat.ne_of_beq_eq_false rfl) (Nat.ne_of_beq_eq_false rfl)).trans (ms_i e2 (Nat.ne_of_beq_eq_false rfl)))) hp8) (ab_c (fr19 172 (Nat.ne_of_beq_eq_false rfl)) (h9 c12).2) h18 (n0_c (fr19 172 (Nat.ne_of_beq_eq_false rfl)) h8)) hq.n k1627 k1629 k72 wc_162 rfl rfl k97 k1630 np_X11_meanMended (Nat.le_trans (by decide) hd) (by decide) (Nat.le_refl _) (Nat.le_refl _) wlen rfl (Nat.le_of_ble_eq_true rfl) (fun r_ h_ p22 => ?_)
      obtain ⟨l23, u24, rfl, rfl, h25, h26, h27, h28, h29, fr30, fc31⟩ := p22
      exact J_lret hq dX11_alone_50 rfl wlen (Nat.le_refl _) (Nat.le_refl _) ⟨l23, u24, rfl, rfl, (bd_r ((fc31 22 (Nat.ne_of_beq_eq_false rfl) (Nat.ne_of_beq_eq_false rfl) (Nat.ne_of_beq_eq_false rfl)).trans (congrFun (fr19 162 (Nat.ne_of_beq_eq_false rfl)) 22)) h6), h27, h29, h25, (ab_c (fr30 177 rfl) h18), (fun c k_ => ((fr30 c (nin_sub (M := [(162, 162), (172, 175)]) k_ rfl)).trans ((fr19 c (nin_ne (a := 177) k_ rfl)).trans ((fr10 c (nin_ne (a := 162) k_ rfl) (nin_ne (a := 172) k_ rfl)).trans (ms_c e2 (nin_ne (a := 162) k_ rfl)))))), (fun j k0_ k22_ k23_ k24_ k25_ k26_ k27_ k31_ k32_ k33_ => ((fc31 j k31_ k32_ k33_).trans ((congrFun (fr19 162 (Nat.ne_of_beq_eq_false rfl)) j).trans ((fc11 j k22_ k23_ k24_ k25_ k26_ k27_).trans (ms_i e2 k0_)))))⟩
    · refine J_ldc2 (v := (-1)) dX11_alone_21 k1578 ?_
      exact J_lret hq dX11_alone_24 rfl wlen (Nat.le_refl _) (Nat.le_refl _) ⟨((-1) : Int64), u5, rfl, rfl, h6, h7, h8, (bd_r ((fc11 31 (Nat.ne_of_beq_eq_false rfl) (Nat.ne_of_beq_eq_false rfl) (Nat.ne_of_beq_eq_false rfl) (Nat.ne_of_beq_eq_false rfl) (Nat.ne_of_beq_eq_false rfl) (Nat.ne_of_beq_eq_false rfl)).trans (ms_i e2 (Nat.ne_of_beq_eq_false rfl))) hp8), (ab_c ((fr10 177 (Nat.ne_of_beq_eq_false rfl) (Nat.ne_of_beq_eq_false rfl)).trans (ms_c e2 (Nat.ne_of_beq_eq_false rfl))) hp9), (fun c k_ => ((fr10 c (nin_ne (a := 162) k_ rfl) (nin_ne (a := 172) k_ rfl)).trans (ms_c e2 (nin_ne (a := 162) k_ rfl)))), (fun j k0_ k22_ k23_ k24_ k25_ k26_ k27_ k31_ k32_ k33_ => ((fc11 j k22_ k23_ k24_ k25_ k26_ k27_).trans (ms_i e2 k0_)))⟩
set_option maxHeartbeats 4000000 in
set_option maxRecDepth 100000 in
theorem c_M_hear {d : Nat} {u : Nat → Nat → Int32} {g : Nat → Nat → Int64} {ex : List MC} {hill : Int32} {plan : Int32} {pond : Int32} {mm : Int32} (hd : 5 ≤ d) (hp0 : (MY u)) (hp1 : AB u 168 (-1) 999) (hp2 : (HD u)) (hp3 : (HC u)) (hp4 : (PL u)) (hp5 : (N0 u)) (hp6 : (DN u)) (hp7 : Bd 0 9 (u 162 22)) (hp8 : Bd 0 511 (u 162 31)) (hp9 : AB u 177 (-1) 999) : CT con0 d 0 0 yX11_hear cX11_hear 7 (some .long) [.ref 162, .int hill, .int plan, .int pond, .int mm] (Wd u g ex) (fun r h2 => ∃ (z : Int64) (u2 : Nat → Nat → Int32), r = some (.long z) ∧ h2 = Wd u2 g ex ∧ Bd 0 9 (u2 162 22) ∧ (DN u2) ∧ (N0 u2) ∧ Bd 0 511 (u2 162 31) ∧ (∀ c, nin c [(162, 162), (172, 175)] = true → u2 c = u c) ∧ (∀ j, j ≠ 0 → j ≠ 22 → j ≠ 23 → j ≠ 24 → j ≠ 25 → j ≠ 26 → j ≠ 27 → j ≠ 31 → j ≠ 32 → j ≠ 33 → u2 162 j = u 162 j)) := by
  refine CT_of (by decide) (Nat.le_of_ble_eq_true rfl) (fun x hq => ?_)
  show J x yX11_hear cX11_hear 7 (some .long) d 0 0 (Wd u g ex).length 0 [(0, .ref 162), (1, .int hill), (2, .int plan), (3, .int pond), (4, .int mm)] [] (Wd u g ex) 0 0
  refine J_aload_n (i := 0) (j := 0) dX11_hear_0 rfl rfl ?_
  refine J_iconst (v := 0) dX11_hear_1 (by decide) ?_
  obtain ⟨u1, e2⟩ : ∃ z, z = ms u 162 0 0 := ⟨_, rfl⟩
  refine J_put (C := RX11) (T := TX11) (Z := 43) (ci := 11) (f := 0) (ty0 := tyX11) dX11_hear_2 inG11 rfl tyX11_ok nmX11 (by decide) k1264 rfl rfl wc_162 (Nat.le_of_ble_eq_true rfl) (fun _ _ => ⟨rfl, rfl⟩) (ws e2 wk_162 rfl) ?_
  refine J_aload_n (i := 0) (j := 0) dX11_hear_5 rfl rfl ?_
  refine J_iload_n (i := 1) (j := 1) dX11_hear_6 rfl rfl ?_
  refine J_iload_n (i := 2) (j := 2) dX11_hear_7 rfl rfl ?_
  refine J_callV (As := [.int hill, .int plan]) (rest := []) dX11_hear_8 (c_M_lay (d := 2) (u := u1) (g := g) (ex := ex) (h := hill) (plan := plan)  (by decide) (my_c (ms_c e2 (Nat.ne_of_beq_eq_false rfl)) hp0) (ab_c (ms_c e2 (Nat.ne_of_beq_eq_false rfl)) hp1) (hd_c (ms_c e2 (Nat.ne_of_beq_eq_false rfl)) hp2) (hc_c (ms_c e2 (Nat.ne_of_beq_eq_false rfl)) (ms_c e2 (Nat.ne_of_beq_eq_false rfl)) hp3) (pl_c (ms_c e2 (Nat.ne_of_beq_eq_false rfl)) hp4) (n0_c (ms_c e2 (Nat.ne_of_beq_eq_false rfl)) hp5) (dn_c (ms_c e2 (Nat.ne_of_beq_eq_false rfl)) hp6) (bd_r (ms_i e2 (Nat.ne_of_beq_eq_false rfl)) hp7)) hq.n k1503 k1505 k52 wc_162 rfl rfl k97 k1506 np_X11_lay (Nat.le_trans (by decide) hd) (by decide) (Nat.le_refl _) (Nat.le_refl _) wlen rfl (Nat.le_of_ble_eq_true rfl) (fun r_ h_ p3 => ?_)
  obtain ⟨t4, u5, rfl, rfl, h6, h7, h8, h9, fr10, fc11⟩ := p3
  refine J_ifB_eq (tgt := 33) dX11_hear_11 (by decide) (fun c12 => ?_) (fun c12 => ?_)
  · refine J_ldc2 (v := (-9223372036854775808)) dX11_hear_33 k1674 ?_
    exact J_lret hq dX11_hear_36 rfl wlen (Nat.le_refl _) (Nat.le_refl _) ⟨((-9223372036854775808) : Int64), u5, rfl, rfl, h6, h7, h8, (bd_r ((fc11 31 (Nat.ne_of_beq_eq_false rfl) (Nat.ne_of_beq_eq_false rfl) (Nat.ne_of_beq_eq_false rfl) (Nat.ne_of_beq_eq_false rfl) (Nat.ne_of_beq_eq_false rfl) (Nat.ne_of_beq_eq_false rfl)).trans (ms_i e2 (Nat.ne_of_beq_eq_false rfl))) hp8), (fun c k_ => ((fr10 c (nin_ne (a := 162) k_ rfl) (nin_ne (a := 172) k_ rfl)).trans (ms_c e2 (nin_ne (a := 162) k_ rfl)))), (fun j k0_ k22_ k23_ k24_ k25_ k26_ k27_ k31_ k32_ k33_ => ((fc11 j k22_ k23_ k24_ k25_ k26_ k27_).trans (ms_i e2 k0_)))⟩
  · refine J_aload_n (i := 0) (j := 0) dX11_hear_14 rfl rfl ?_
    refine J_iload_n (i := 3) (j := 3) dX11_hear_15 rfl rfl ?_
    refine J_callV (As := [.int pond]) (rest := []) dX11_hear_16 (c_M_isPond (d := 1) (u := u5) (g := g) (ex := ex) (p := pond)  (by decide) h6) hq.n k1523 k1525 k57 wc_162 rfl rfl k97 k1526 np_X11_isPond (Nat.le_trans (by decide) hd) (by decide) (Nat.le_refl _) (Nat.le_refl _) wlen rfl (Nat.le_of_ble_eq_true rfl) (fun r_ h_ p13 => ?_)
    obtain ⟨t14, rfl, rfl, h15⟩ := p13
    refine J_ifB_eq (tgt := 33) dX11_hear_19 (by decide) (fun c16 => ?_) (fun c16 => ?_)
    · refine J_ldc2 (v := (-9223372036854775808)) dX11_hear_33 k1674 ?_
      exact J_lret hq dX11_hear_36 rfl wlen (Nat.le_refl _) (Nat.le_refl _) ⟨((-9223372036854775808) : Int64), u5, rfl, rfl, h6, h7, h8, (bd_r ((fc11 31 (Nat.ne_of_beq_eq_false rfl) (Nat.ne_of_beq_eq_false rfl) (Nat.ne_of_beq_eq_false rfl) (Nat.ne_of_beq_eq_false rfl) (Nat.ne_of_beq_eq_false rfl) (Nat.ne_of_beq_eq_false rfl)).trans (ms_i e2 (Nat.ne_of_beq_eq_false rfl))) hp8), (fun c k_ => ((fr10 c (nin_ne (a := 162) k_ rfl) (nin_ne (a := 172) k_ rfl)).trans (ms_c e2 (nin_ne (a := 162) k_ rfl)))), (fun j k0_ k22_ k23_ k24_ k25_ k26_ k27_ k31_ k32_ k33_ => ((fc11 j k22_ k23_ k24_ k25_ k26_ k27_).trans (ms_i e2 k0_)))⟩
    · refine J_iload (i := 4) (j := 4) dX11_hear_22 rfl ?_
      refine J_iconst (v := 0) dX11_hear_24 (by decide) ?_
      refine J_bipush (v := 99) dX11_hear_25 (by decide) ?_
      refine J_callS (As := [.int mm, .int 0, .int 99]) (rest := []) dX11_hear_27 (c_M_in (d := 0) (u := u5) (g := g) (ex := ex) (v := mm) (low := 0) (high := 99)  (by decide) ) hq.n k1406 k1407 k97 k1408 np_X11_in (Nat.le_trans (by decide) hd) (by decide) (Nat.le_refl _) (Nat.le_refl _) wlen rfl (Nat.le_of_ble_eq_true rfl) (fun r_ h_ p17 => ?_)
      obtain ⟨t18, rfl, rfl, h19, h20⟩ := p17
      refine J_ifB_ne (tgt := 37) dX11_hear_30 (by decide) (fun c21 => ?_) (fun c21 => ?_)
      · refine J_aload_n (i := 0) (j := 0) dX11_hear_37 rfl rfl ?_
        refine J_iconst (v := (-1)) dX11_hear_38 (by decide) ?_
        refine J_callV (As := [.int (-1)]) (rest := []) dX11_hear_39 (c_M_meanBy (d := 4) (u := u5) (g := g) (ex := ex) (owner := (-1))  (by decide) h6 (h9 c12).1 h7 (bd_r ((fc11 31 (Nat.ne_of_beq_eq_false rfl) (Nat.ne_of_beq_eq_false rfl) (Nat.ne_of_beq_eq_false rfl) (Nat.ne_of_beq_eq_false rfl) (Nat.ne_of_beq_eq_false rfl) (Nat.ne_of_beq_eq_false rfl)).trans (ms_i e2 (Nat.ne_of_beq_eq_false rfl))) hp8)) hq.n k1596 k1598 k68 wc_162 rfl rfl k97 k1599 np_X11_meanBy (Nat.le_trans (by decide) hd) (by decide) (Nat.le_refl _) (Nat.le_refl _) wlen rfl (Nat.le_of_ble_eq_true rfl) (fun r_ h_ p22 => ?_)
        obtain ⟨l23, u24, rfl, rfl, h25, fr26, fc27⟩ := p22
        refine J_lstore (i := 5) (lw := [(5, .long l23), (0, .ref 162), (1, .int hill), (2, .int plan), (3, .int pond), (4, .int mm)]) dX11_hear_42 (by decide) rfl ?_
        refine J_aload_n (i := 0) (j := 1) dX11_hear_44 rfl rfl ?_
        refine J_iload_n (i := 3) (j := 4) dX11_hear_45 rfl rfl ?_
        refine J_bipush (v := 12) dX11_hear_46 (by decide) ?_
        refine J_iload (i := 4) (j := 5) dX11_hear_48 rfl ?_
        refine J_callV (As := [.int pond, .int 12, .int mm]) (rest := []) dX11_hear_50 (c_M_set (d := 0) (u := u24) (g := g) (ex := ex) (p := pond) (what := 12) (v := mm)  (by decide) (h15 c16) (bd_w (l := 0) (h := 15) (bd_c (v := 12) (lo := 12) (hi := 12) (by decide)) (by decide))) hq.n k1519 k1521 k56 wc_162 rfl rfl k97 k1522 np_X11_set (Nat.le_trans (by decide) hd) (by decide) (Nat.le_refl _) (Nat.le_refl _) wlen rfl (Nat.le_of_ble_eq_true rfl) (fun r_ h_ p28 => ?_)
        obtain ⟨u29, rfl, rfl, h30, fr31⟩ := p28
        refine J_lload (i := 5) (j := 0) dX11_hear_53 rfl ?_
        refine J_aload_n (i := 0) (j := 1) dX11_hear_55 rfl rfl ?_
        refine J_iconst (v := (-1)) dX11_hear_56 (by decide) ?_
        refine J_callV (As := [.int (-1)]) (rest := [.long l23]) dX11_hear_57 (c_M_meanBy (d := 4) (u := u29) (g := g) (ex := ex) (owner := (-1))  (by decide) (bd_r ((congrFun (ms_c h30 (Nat.ne_of_beq_eq_false rfl)) 22).trans (fc27 22 (Nat.ne_of_beq_eq_false rfl) (Nat.ne_of_beq_eq_false rfl) (Nat.ne_of_beq_eq_false rfl))) h6) (rc_s h30 (h15 c16) (bd_w (l := 0) (h := 15) (bd_c (v := 12) (lo := 12) (hi := 12) (by decide)) (by decide)) (rc_c (fr26 172 rfl) (h9 c12).1)) (dn_s h30 (h15 c16) (by decide) (dn_c (fr26 172 rfl) h7)) (bd_r (congrFun (ms_c h30 (Nat.ne_of_beq_eq_false rfl)) 31) h25)) hq.n k1596 k1598 k68 wc_162 rfl rfl k97 k1599 np_X11_meanBy (Nat.le_trans (by decide) hd) (by decide) (Nat.le_refl _) (Nat.le_refl _) wlen rfl (Nat.le_of_ble_eq_true rfl) (fun r_ h_ p32 => ?_)
        obtain ⟨l33, u34, rfl, rfl, h35, fr36, fc37⟩ := p32
        refine J_lsub dX11_hear_60 ?_
        refine J_topl (fun l38 _ => ?_)
        exact J_lret hq dX11_hear_61 rfl wlen (Nat.le_refl _) (Nat.le_refl _) ⟨l38, u34, rfl, rfl, (bd_r ((fc37 22 (Nat.ne_of_beq_eq_false rfl) (Nat.ne_of_beq_eq_false rfl) (Nat.ne_of_beq_eq_false rfl)).trans ((congrFun (ms_c h30 (Nat.ne_of_beq_eq_false rfl)) 22).trans (fc27 22 (Nat.ne_of_beq_eq_false rfl) (Nat.ne_of_beq_eq_false rfl) (Nat.ne_of_beq_eq_false rfl)))) h6), (dn_c (fr36 172 rfl) (dn_s h30 (h15 c16) (by decide) (dn_c (fr26 172 rfl) h7))), (n0_c (fr36 172 rfl) (n0_s h30 (h15 c16) (bd_w (l := 0) (h := 15) (bd_c (v := 12) (lo := 12) (hi := 12) (by decide)) (by decide)) (n0_c (fr26 172 rfl) h8))), h35, (fun c k_ => ((fr36 c (nin_sub (M := [(162, 162), (173, 175)]) k_ rfl)).trans ((ms_c h30 (nin_ne (a := 172) k_ rfl)).trans ((fr26 c (nin_sub (M := [(162, 162), (173, 175)]) k_ rfl)).trans ((fr10 c (nin_ne (a := 162) k_ rfl) (nin_ne (a := 172) k_ rfl)).trans (ms_c e2 (nin_ne (a := 162) k_ rfl))))))), (fun j k0_ k22_ k23_ k24_ k25_ k26_ k27_ k31_ k32_ k33_ => ((fc37 j k31_ k32_ k33_).trans ((congrFun (ms_c h30 (Nat.ne_of_beq_eq_false rfl)) j).trans ((fc27 j k31_ k32_ k33_).trans ((fc11 j k22_ k23_ k24_ k25_ k26_ k27_).trans (ms_i e2 k0_))))))⟩
      · refine J_ldc2 (v := (-9223372036854775808)) dX11_hear_33 k1674 ?_
        exact J_lret hq dX11_hear_36 rfl wlen (Nat.le_refl _) (Nat.le_refl _) ⟨((-9223372036854775808) : Int64), u5, rfl, rfl, h6, h7, h8, (bd_r ((fc11 31 (Nat.ne_of_beq_eq_false rfl) (Nat.ne_of_beq_eq_false rfl) (Nat.ne_of_beq_eq_false rfl) (Nat.ne_of_beq_eq_false rfl) (Nat.ne_of_beq_eq_false rfl) (Nat.ne_of_beq_eq_false rfl)).trans (ms_i e2 (Nat.ne_of_beq_eq_false rfl))) hp8), (fun c k_ => ((fr10 c (nin_ne (a := 162) k_ rfl) (nin_ne (a := 172) k_ rfl)).trans (ms_c e2 (nin_ne (a := 162) k_ rfl)))), (fun j k0_ k22_ k23_ k24_ k25_ k26_ k27_ k31_ k32_ k33_ => ((fc11 j k22_ k23_ k24_ k25_ k26_ k27_).trans (ms_i e2 k0_)))⟩
set_option maxHeartbeats 4000000 in
set_option maxRecDepth 100000 in
theorem c_M_now {d : Nat} {u : Nat → Nat → Int32} {g : Nat → Nat → Int64} {ex : List MC} {hill : Int32} {plan : Int32} (hd : 3 ≤ d) (hp0 : (MY u)) (hp1 : AB u 168 (-1) 999) (hp2 : (HD u)) (hp3 : (HC u)) (hp4 : (PL u)) (hp5 : (N0 u)) (hp6 : (DN u)) (hp7 : Bd 0 9 (u 162 22)) (hp8 : Bd 0 511 (u 162 31)) (hp9 : AB u 177 (-1) 999) : CT con0 d 0 0 yX11_now cX11_now 11 (some .int) [.ref 162, .int hill, .int plan] (Wd u g ex) (fun r h2 => ∃ (z : Int32) (u2 : Nat → Nat → Int32), r = some (.int z) ∧ h2 = Wd u2 g ex ∧ Bd 0 9 (u2 162 22) ∧ (DN u2) ∧ (N0 u2) ∧ Bd 0 511 (u2 162 31) ∧ (∀ c, nin c [(162, 162), (172, 175)] = true → u2 c = u c) ∧ (∀ j, j ≠ 0 → j ≠ 22 → j ≠ 23 → j ≠ 24 → j ≠ 25 → j ≠ 26 → j ≠ 27 → j ≠ 31 → j ≠ 32 → j ≠ 33 → u2 162 j = u 162 j)) := by
  refine CT_of (by decide) (Nat.le_of_ble_eq_true rfl) (fun x hq => ?_)
  show J x yX11_now cX11_now 11 (some .int) d 0 0 (Wd u g ex).length 0 [(0, .ref 162), (1, .int hill), (2, .int plan)] [] (Wd u g ex) 0 0
  refine J_aload_n (i := 0) (j := 0) dX11_now_0 rfl rfl ?_
  refine J_iconst (v := 0) dX11_now_1 (by decide) ?_
  obtain ⟨u1, e2⟩ : ∃ z, z = ms u 162 0 0 := ⟨_, rfl⟩
  refine J_put (C := RX11) (T := TX11) (Z := 43) (ci := 11) (f := 0) (ty0 := tyX11) dX11_now_2 inG11 rfl tyX11_ok nmX11 (by decide) k1264 rfl rfl wc_162 (Nat.le_of_ble_eq_true rfl) (fun _ _ => ⟨rfl, rfl⟩) (ws e2 wk_162 rfl) ?_
  refine J_aload_n (i := 0) (j := 0) dX11_now_5 rfl rfl ?_
  refine J_iload_n (i := 1) (j := 1) dX11_now_6 rfl rfl ?_
  refine J_iload_n (i := 2) (j := 2) dX11_now_7 rfl rfl ?_
  refine J_callV (As := [.int hill, .int plan]) (rest := []) dX11_now_8 (c_M_lay (d := 2) (u := u1) (g := g) (ex := ex) (h := hill) (plan := plan)  (by decide) (my_c (ms_c e2 (Nat.ne_of_beq_eq_false rfl)) hp0) (ab_c (ms_c e2 (Nat.ne_of_beq_eq_false rfl)) hp1) (hd_c (ms_c e2 (Nat.ne_of_beq_eq_false rfl)) hp2) (hc_c (ms_c e2 (Nat.ne_of_beq_eq_false rfl)) (ms_c e2 (Nat.ne_of_beq_eq_false rfl)) hp3) (pl_c (ms_c e2 (Nat.ne_of_beq_eq_false rfl)) hp4) (n0_c (ms_c e2 (Nat.ne_of_beq_eq_false rfl)) hp5) (dn_c (ms_c e2 (Nat.ne_of_beq_eq_false rfl)) hp6) (bd_r (ms_i e2 (Nat.ne_of_beq_eq_false rfl)) hp7)) hq.n k1503 k1505 k52 wc_162 rfl rfl k97 k1506 np_X11_lay (Nat.le_trans (by decide) hd) (by decide) (Nat.le_refl _) (Nat.le_refl _) wlen rfl (Nat.le_of_ble_eq_true rfl) (fun r_ h_ p3 => ?_)
  obtain ⟨t4, u5, rfl, rfl, h6, h7, h8, h9, fr10, fc11⟩ := p3
  refine J_ifB_ne (tgt := 16) dX11_now_11 (by decide) (fun c12 => ?_) (fun c12 => ?_)
  · refine J_iconst (v := (-1)) dX11_now_16 (by decide) ?_
    refine J_istore_n (i := 3) (lw := [(3, .int (-1)), (0, .ref 162), (1, .int hill), (2, .int plan)]) dX11_now_17 rfl (by decide) rfl ?_
    refine J_lconst (v := 0) dX11_now_18 (by decide) ?_
    refine J_lstore (i := 4) (lw := [(4, .long 0), (3, .int (-1)), (0, .ref 162), (1, .int hill), (2, .int plan)]) dX11_now_19 (by decide) rfl ?_
    refine J_lconst (v := 1) dX11_now_21 (by decide) ?_
    refine J_lstore (i := 6) (lw := [(6, .long 1), (4, .long 0), (3, .int (-1)), (0, .ref 162), (1, .int hill), (2, .int plan)]) dX11_now_22 (by decide) rfl ?_
    refine J_iconst (v := 0) dX11_now_24 (by decide) ?_
    refine J_istore (i := 8) (lw := [(8, .int 0), (6, .long 1), (4, .long 0), (3, .int (-1)), (0, .ref 162), (1, .int hill), (2, .int plan)]) dX11_now_25 (by decide) rfl ?_
    have lp198 : ∀ (n199 : Nat) (w135 : Int32) (w136 : Int64) (w137 : Int64) (w138 : Int32), Bd (-1) 9 w135 → Bd 0 9 w138 → (9 - w138.toInt).toNat < n199 → J x yX11_now cX11_now 11 (some .int) d 0 0 (Wd u g ex).length 27 [(0, .ref 162), (3, .int w135), (4, .long w136), (6, .long w137), (8, .int w138)] [] (Wd u5 g ex) 0 0 := by
      intro n199
      induction n199 with
      | zero => intro w135 w136 w137 w138 bw135 bw138 hm201; exact absurd hm201 (Nat.not_lt_zero _)
      | succ n199 ih200 =>
        intro w135 w136 w137 w138 bw135 bw138 hm201
        refine J_iload (i := 8) (j := 4) dX11_now_27 rfl ?_
        refine J_aload_n (i := 0) (j := 0) dX11_now_29 rfl rfl ?_
        refine J_get (C := RX11) (T := TX11) (Z := 43) (ci := 11) (f := 22) dX11_now_30 inG11 rfl (by decide) k1286 wc_162 rfl ?_
        refine J_icmp_ge (tgt := 102) dX11_now_33 (by decide) (fun c202 => ?_) (fun c202 => ?_)
        · refine J_iload_n (i := 3) (j := 1) dX11_now_102 rfl rfl ?_
          exact J_iret hq dX11_now_103 rfl wlen (Nat.le_refl _) (Nat.le_refl _) ⟨w135, u5, rfl, rfl, h6, h7, h8, (bd_r ((fc11 31 (Nat.ne_of_beq_eq_false rfl) (Nat.ne_of_beq_eq_false rfl) (Nat.ne_of_beq_eq_false rfl) (Nat.ne_of_beq_eq_false rfl) (Nat.ne_of_beq_eq_false rfl) (Nat.ne_of_beq_eq_false rfl)).trans (ms_i e2 (Nat.ne_of_beq_eq_false rfl))) hp8), (fun c k_ => ((fr10 c (nin_ne (a := 162) k_ rfl) (nin_ne (a := 172) k_ rfl)).trans (ms_c e2 (nin_ne (a := 162) k_ rfl)))), (fun j k0_ k22_ k23_ k24_ k25_ k26_ k27_ k31_ k32_ k33_ => ((fc11 j k22_ k23_ k24_ k25_ k26_ k27_).trans (ms_i e2 k0_)))⟩
        · refine J_aload_n (i := 0) (j := 0) dX11_now_36 rfl rfl ?_
          refine J_iload (i := 8) (j := 4) dX11_now_37 rfl ?_
          refine J_callV (As := [.int w138]) (rest := []) dX11_now_39 (c_M_seenBy (d := 1) (u := u5) (g := g) (ex := ex) (p := w138)  (by decide) (bd_lt_hi bw138 (i_nle c202) h6)) hq.n k1699 k1701 k79 wc_162 rfl rfl k97 k1702 np_X11_seenBy (Nat.le_trans (by decide) hd) (by decide) (Nat.le_refl _) (Nat.le_refl _) wlen rfl (Nat.le_of_ble_eq_true rfl) (fun r_ h_ p232 => ?_)
          obtain ⟨v233, rfl, rfl⟩ := p232
          refine J_i2l dX11_now_42 rfl ?_
          refine J_topl (fun l234 _ => ?_)
          refine J_aload_n (i := 0) (j := 0) dX11_now_43 rfl rfl ?_
          refine J_iload (i := 8) (j := 4) dX11_now_44 rfl ?_
          refine J_iconst (v := 5) dX11_now_46 (by decide) ?_
          refine J_callV (As := [.int w138, .int 5]) (rest := [.long l234]) dX11_now_47 (c_M_of (d := 0) (u := u5) (g := g) (ex := ex) (p := w138) (what := 5)  (by decide) (bd_lt_hi bw138 (i_nle c202) h6) (bd_w (l := 0) (h := 15) (bd_c (v := 5) (lo := 5) (hi := 5) (by decide)) (by decide))) hq.n k1515 k1517 k55 wc_162 rfl rfl k97 k1518 np_X11_of (Nat.le_trans (by decide) hd) (by decide) (Nat.le_refl _) (Nat.le_refl _) wlen rfl (Nat.le_of_ble_eq_true rfl) (fun r_ h_ p235 => ?_)
          obtain ⟨rfl, rfl⟩ := p235
          refine J_i2l dX11_now_50 rfl ?_
          refine J_topl (fun l236 _ => ?_)
          refine J_lmul dX11_now_51 ?_
          refine J_topl (fun l237 _ => ?_)
          refine J_lstore (i := 9) (lw := [(9, .long l237), (0, .ref 162), (3, .int w135), (4, .long w136), (6, .long w137), (8, .int w138)]) dX11_now_52 (by decide) rfl ?_
          refine J_lload (i := 9) (j := 0) dX11_now_54 rfl ?_
          refine J_lconst (v := 0) dX11_now_56 (by decide) ?_
          refine J_lcmp dX11_now_57 ?_
          have jn251 : ∀ (w248 : Int32) (w249 : Int64) (w250 : Int64), Bd (-1) 9 w248 → J x yX11_now cX11_now 11 (some .int) d 0 0 (Wd u g ex).length 96 [(0, .ref 162), (3, .int w248), (4, .long w249), (6, .long w250), (8, .int w138)] [] (Wd u5 g ex) 0 0 := by
            intro w248 w249 w250 bw248
            refine J_iinc (i := 8) (j := 4) (v := (w138 + 1)) (lw := [(8, .int (w138 + 1)), (0, .ref 162), (3, .int w248), (4, .long w249), (6, .long w250)]) dX11_now_96 rfl rfl (by decide) rfl ?_
            refine J_goto (tgt := 27) dX11_now_99 (by decide) ?_
            refine J_lv [1, 2, 3, 4, 0] rfl ?_
            exact ih200 w248 w249 w250 (w138 + 1) bw248 (bd_w (l := 0) (h := 9) (bd_add (l := 1) (h := 9) (bd_lt_hi bw138 (i_nle c202) h6) (bd_c (v := 1) (lo := 1) (hi := 1) (by decide)) (by decide)) (by decide)) (mu_up 1 bw138 rfl (by decide) (bd_w (l := 1) (h := 9) (bd_add (l := 1) (h := 9) (bd_lt_hi bw138 (i_nle c202) h6) (bd_c (v := 1) (lo := 1) (hi := 1) (by decide)) (by decide)) (by decide)) hm201)
          refine J_if_le (tgt := 96) dX11_now_58 (by decide) (fun c238 => ?_) (fun c238 => ?_)
          · refine J_lv [1, 2, 3, 4, 5] rfl ?_
            exact jn251 w135 w136 w137 bw135
          · refine J_lload (i := 9) (j := 0) dX11_now_61 rfl ?_
            refine J_lload (i := 6) (j := 4) dX11_now_63 rfl ?_
            refine J_lmul dX11_now_65 ?_
            refine J_topl (fun l252 _ => ?_)
            refine J_lload (i := 4) (j := 3) dX11_now_66 rfl ?_
            refine J_aload_n (i := 0) (j := 1) dX11_now_68 rfl rfl ?_
            refine J_iload (i := 8) (j := 5) dX11_now_69 rfl ?_
            refine J_callV (As := [.int w138]) (rest := [.long w136, .long l252]) dX11_now_71 (c_M_seenAll (d := 2) (u := u5) (g := g) (ex := ex) (p := w138)  (by decide) (bd_lt_hi bw138 (i_nle c202) h6)) hq.n k1703 k1705 k80 wc_162 rfl rfl k97 k1706 np_X11_seenAll (Nat.le_trans (by decide) hd) (by decide) (Nat.le_refl _) (Nat.le_refl _) wlen rfl (Nat.le_of_ble_eq_true rfl) (fun r_ h_ p253 => ?_)
            obtain ⟨v254, rfl, rfl⟩ := p253
            refine J_i2l dX11_now_74 rfl ?_
            refine J_topl (fun l255 _ => ?_)
            refine J_lmul dX11_now_75 ?_
            refine J_topl (fun l256 _ => ?_)
            refine J_lcmp dX11_now_76 ?_
            refine J_if_le (tgt := 96) dX11_now_77 (by decide) (fun c257 => ?_) (fun c257 => ?_)
            · refine J_lv [1, 2, 3, 4, 5] rfl ?_
              exact jn251 w135 w136 w137 bw135
            · refine J_iload (i := 8) (j := 5) dX11_now_80 rfl ?_
              refine J_istore_n (i := 3) (lw := [(3, .int w138), (9, .long l237), (0, .ref 162), (4, .long w136), (6, .long w137), (8, .int w138)]) dX11_now_82 rfl (by decide) rfl ?_
              refine J_lload (i := 9) (j := 1) dX11_now_83 rfl ?_
              refine J_lstore (i := 4) (lw := [(4, .long l237), (3, .int w138), (9, .long l237), (0, .ref 162), (6, .long w137), (8, .int w138)]) dX11_now_85 (by decide) rfl ?_
              refine J_aload_n (i := 0) (j := 3) dX11_now_87 rfl rfl ?_
              refine J_iload (i := 8) (j := 5) dX11_now_88 rfl ?_
              refine J_callV (As := [.int w138]) (rest := []) dX11_now_90 (c_M_seenAll (d := 2) (u := u5) (g := g) (ex := ex) (p := w138)  (by decide) (bd_lt_hi bw138 (i_nle c202) h6)) hq.n k1703 k1705 k80 wc_162 rfl rfl k97 k1706 np_X11_seenAll (Nat.le_trans (by decide) hd) (by decide) (Nat.le_refl _) (Nat.le_refl _) wlen rfl (Nat.le_of_ble_eq_true rfl) (fun r_ h_ p258 => ?_)
              obtain ⟨v259, rfl, rfl⟩ := p258
              refine J_i2l dX11_now_93 rfl ?_
              refine J_topl (fun l260 _ => ?_)
              refine J_lstore (i := 6) (lw := [(6, .long l260), (4, .long l237), (3, .int w138), (9, .long l237), (0, .ref 162), (8, .int w138)]) dX11_now_94 (by decide) rfl ?_
              refine J_lv [4, 2, 1, 0, 5] rfl ?_
              exact jn251 w138 l237 l260 (bd_w (l := (-1)) (h := 9) (bd_lt_hi bw138 (i_nle c202) h6) (by decide))
    refine J_lv [4, 3, 2, 1, 0] rfl ?_
    exact lp198 _ ((-1) : Int32) (0 : Int64) (1 : Int64) (0 : Int32) (bd_w (l := (-1)) (h := 9) (bd_c (v := (-1)) (lo := (-1)) (hi := (-1)) (by decide)) (by decide)) (bd_w (l := 0) (h := 9) (bd_c (v := 0) (lo := 0) (hi := 0) (by decide)) (by decide)) (Nat.lt_succ_self _)
  · refine J_iconst (v := (-1)) dX11_now_14 (by decide) ?_
    exact J_iret hq dX11_now_15 rfl wlen (Nat.le_refl _) (Nat.le_refl _) ⟨((-1) : Int32), u5, rfl, rfl, h6, h7, h8, (bd_r ((fc11 31 (Nat.ne_of_beq_eq_false rfl) (Nat.ne_of_beq_eq_false rfl) (Nat.ne_of_beq_eq_false rfl) (Nat.ne_of_beq_eq_false rfl) (Nat.ne_of_beq_eq_false rfl) (Nat.ne_of_beq_eq_false rfl)).trans (ms_i e2 (Nat.ne_of_beq_eq_false rfl))) hp8), (fun c k_ => ((fr10 c (nin_ne (a := 162) k_ rfl) (nin_ne (a := 172) k_ rfl)).trans (ms_c e2 (nin_ne (a := 162) k_ rfl)))), (fun j k0_ k22_ k23_ k24_ k25_ k26_ k27_ k31_ k32_ k33_ => ((fc11 j k22_ k23_ k24_ k25_ k26_ k27_).trans (ms_i e2 k0_)))⟩
set_option maxHeartbeats 4000000 in
set_option maxRecDepth 100000 in
theorem c_M_spared {d : Nat} {u : Nat → Nat → Int32} {g : Nat → Nat → Int64} {ex : List MC} {hill : Int32} {plan : Int32} {rain : Int32} (hd : 4 ≤ d) (hp0 : (MY u)) (hp1 : AB u 168 (-1) 999) (hp2 : (HD u)) (hp3 : (HC u)) (hp4 : (PL u)) (hp5 : (N0 u)) (hp6 : (DN u)) (hp7 : Bd 0 9 (u 162 22)) (hp8 : Bd 0 511 (u 162 31)) (hp9 : AB u 177 (-1) 999) : CT con0 d 0 0 yX11_spared cX11_spared 6 (some .int) [.ref 162, .int hill, .int plan, .int rain] (Wd u g ex) (fun r h2 => ∃ (z : Int32) (u2 : Nat → Nat → Int32), r = some (.int z) ∧ h2 = Wd u2 g ex ∧ Bd 0 9 (u2 162 22) ∧ (DN u2) ∧ (N0 u2) ∧ Bd 0 511 (u2 162 31) ∧ (∀ c, nin c [(162, 162), (172, 175)] = true → u2 c = u c) ∧ (∀ j, j ≠ 0 → j ≠ 22 → j ≠ 23 → j ≠ 24 → j ≠ 25 → j ≠ 26 → j ≠ 27 → j ≠ 31 → j ≠ 32 → j ≠ 33 → u2 162 j = u 162 j)) := by
  refine CT_of (by decide) (Nat.le_of_ble_eq_true rfl) (fun x hq => ?_)
  show J x yX11_spared cX11_spared 6 (some .int) d 0 0 (Wd u g ex).length 0 [(0, .ref 162), (1, .int hill), (2, .int plan), (3, .int rain)] [] (Wd u g ex) 0 0
  refine J_aload_n (i := 0) (j := 0) dX11_spared_0 rfl rfl ?_
  refine J_iconst (v := 0) dX11_spared_1 (by decide) ?_
  obtain ⟨u1, e2⟩ : ∃ z, z = ms u 162 0 0 := ⟨_, rfl⟩
  refine J_put (C := RX11) (T := TX11) (Z := 43) (ci := 11) (f := 0) (ty0 := tyX11) dX11_spared_2 inG11 rfl tyX11_ok nmX11 (by decide) k1264 rfl rfl wc_162 (Nat.le_of_ble_eq_true rfl) (fun _ _ => ⟨rfl, rfl⟩) (ws e2 wk_162 rfl) ?_
  refine J_aload_n (i := 0) (j := 0) dX11_spared_5 rfl rfl ?_
  refine J_iload_n (i := 1) (j := 1) dX11_spared_6 rfl rfl ?_
  refine J_iload_n (i := 2) (j := 2) dX11_spared_7 rfl rfl ?_
  refine J_callV (As := [.int hill, .int plan]) (rest := []) dX11_spared_8 (c_M_lay (d := 2) (u := u1) (g := g) (ex := ex) (h := hill) (plan := plan)  (by decide) (my_c (ms_c e2 (Nat.ne_of_beq_eq_false rfl)) hp0) (ab_c (ms_c e2 (Nat.ne_of_beq_eq_false rfl)) hp1) (hd_c (ms_c e2 (Nat.ne_of_beq_eq_false rfl)) hp2) (hc_c (ms_c e2 (Nat.ne_of_beq_eq_false rfl)) (ms_c e2 (Nat.ne_of_beq_eq_false rfl)) hp3) (pl_c (ms_c e2 (Nat.ne_of_beq_eq_false rfl)) hp4) (n0_c (ms_c e2 (Nat.ne_of_beq_eq_false rfl)) hp5) (dn_c (ms_c e2 (Nat.ne_of_beq_eq_false rfl)) hp6) (bd_r (ms_i e2 (Nat.ne_of_beq_eq_false rfl)) hp7)) hq.n k1503 k1505 k52 wc_162 rfl rfl k97 k1506 np_X11_lay (Nat.le_trans (by decide) hd) (by decide) (Nat.le_refl _) (Nat.le_refl _) wlen rfl (Nat.le_of_ble_eq_true rfl) (fun r_ h_ p3 => ?_)
  obtain ⟨t4, u5, rfl, rfl, h6, h7, h8, h9, fr10, fc11⟩ := p3
  refine J_ifB_eq (tgt := 22) dX11_spared_11 (by decide) (fun c12 => ?_) (fun c12 => ?_)
  · refine J_iconst (v := (-1)) dX11_spared_22 (by decide) ?_
    exact J_iret hq dX11_spared_23 rfl wlen (Nat.le_refl _) (Nat.le_refl _) ⟨((-1) : Int32), u5, rfl, rfl, h6, h7, h8, (bd_r ((fc11 31 (Nat.ne_of_beq_eq_false rfl) (Nat.ne_of_beq_eq_false rfl) (Nat.ne_of_beq_eq_false rfl) (Nat.ne_of_beq_eq_false rfl) (Nat.ne_of_beq_eq_false rfl) (Nat.ne_of_beq_eq_false rfl)).trans (ms_i e2 (Nat.ne_of_beq_eq_false rfl))) hp8), (fun c k_ => ((fr10 c (nin_ne (a := 162) k_ rfl) (nin_ne (a := 172) k_ rfl)).trans (ms_c e2 (nin_ne (a := 162) k_ rfl)))), (fun j k0_ k22_ k23_ k24_ k25_ k26_ k27_ k31_ k32_ k33_ => ((fc11 j k22_ k23_ k24_ k25_ k26_ k27_).trans (ms_i e2 k0_)))⟩
  · refine J_aload_n (i := 0) (j := 0) dX11_spared_14 rfl rfl ?_
    refine J_iload_n (i := 3) (j := 3) dX11_spared_15 rfl rfl ?_
    refine J_callV (As := [.int rain]) (rest := []) dX11_spared_16 (c_M_isRain (d := 1) (u := u5) (g := g) (ex := ex) (rr := rain)  (by decide) (h9 c12).1) hq.n k1539 k1541 k58 wc_162 rfl rfl k97 k1542 np_X11_isRain (Nat.le_trans (by decide) hd) (by decide) (Nat.le_refl _) (Nat.le_refl _) wlen rfl (Nat.le_of_ble_eq_true rfl) (fun r_ h_ p13 => ?_)
    obtain ⟨t14, rfl, rfl, h15⟩ := p13
    refine J_ifB_ne (tgt := 24) dX11_spared_19 (by decide) (fun c16 => ?_) (fun c16 => ?_)
    · refine J_iconst (v := 0) dX11_spared_24 (by decide) ?_
      refine J_istore (i := 4) (lw := [(4, .int 0), (0, .ref 162), (1, .int hill), (2, .int plan), (3, .int rain)]) dX11_spared_25 (by decide) rfl ?_
      refine J_iconst (v := 0) dX11_spared_27 (by decide) ?_
      refine J_istore (i := 5) (lw := [(5, .int 0), (4, .int 0), (0, .ref 162), (1, .int hill), (2, .int plan), (3, .int rain)]) dX11_spared_28 (by decide) rfl ?_
      have lp308 : ∀ (n309 : Nat) (w281 : Int32) (w282 : Int32) (u283 : Nat → Nat → Int32), Bd 0 512 w282 → (∀ c, nin c [(162, 162), (173, 175)] = true → u283 c = u5 c) → (∀ j, j ≠ 31 → j ≠ 32 → j ≠ 33 → u283 162 j = u5 162 j) → Bd 0 511 (u283 162 31) → (512 - w282.toInt).toNat < n309 → J x yX11_spared cX11_spared 6 (some .int) d 0 0 (Wd u g ex).length 30 [(0, .ref 162), (3, .int rain), (4, .int w281), (5, .int w282)] [] (Wd u283 g ex) 0 0 := by
        intro n309
        induction n309 with
        | zero => intro w281 w282 u283 bw282 fr284 fc285 bm286 hm311; exact absurd hm311 (Nat.not_lt_zero _)
        | succ n309 ih310 =>
          intro w281 w282 u283 bw282 fr284 fc285 bm286 hm311
          refine J_iload (i := 5) (j := 3) dX11_spared_30 rfl ?_
          refine J_iconst (v := 1) dX11_spared_32 (by decide) ?_
          refine J_aload_n (i := 0) (j := 0) dX11_spared_33 rfl rfl ?_
          refine J_get (C := RX11) (T := TX11) (Z := 43) (ci := 11) (f := 22) dX11_spared_34 inG11 rfl (by decide) k1286 wc_162 rfl ?_
          refine J_ci (v := u5 162 22) (fc285 22 (Nat.ne_of_beq_eq_false rfl) (Nat.ne_of_beq_eq_false rfl) (Nat.ne_of_beq_eq_false rfl)) ?_
          refine J_ishl dX11_spared_37 ?_
          refine J_icmp_ge (tgt := 80) dX11_spared_38 (by decide) (fun c312 => ?_) (fun c312 => ?_)
          · refine J_iload (i := 4) (j := 2) dX11_spared_80 rfl ?_
            exact J_iret hq dX11_spared_82 rfl wlen (Nat.le_refl _) (Nat.le_refl _) ⟨w281, u283, rfl, rfl, (bd_r (fc285 22 (Nat.ne_of_beq_eq_false rfl) (Nat.ne_of_beq_eq_false rfl) (Nat.ne_of_beq_eq_false rfl)) h6), (dn_c (fr284 172 rfl) h7), (n0_c (fr284 172 rfl) h8), bm286, (fun c k_ => ((fr284 c (nin_sub (M := [(162, 162), (173, 175)]) k_ rfl)).trans ((fr10 c (nin_ne (a := 162) k_ rfl) (nin_ne (a := 172) k_ rfl)).trans (ms_c e2 (nin_ne (a := 162) k_ rfl))))), (fun j k0_ k22_ k23_ k24_ k25_ k26_ k27_ k31_ k32_ k33_ => ((fc285 j k31_ k32_ k33_).trans ((fc11 j k22_ k23_ k24_ k25_ k26_ k27_).trans (ms_i e2 k0_))))⟩
          · refine J_aload_n (i := 0) (j := 0) dX11_spared_41 rfl rfl ?_
            refine J_aload_n (i := 0) (j := 0) dX11_spared_42 rfl rfl ?_
            refine J_iload_n (i := 3) (j := 1) dX11_spared_43 rfl rfl ?_
            refine J_callV (As := [.int rain]) (rest := [.ref 162]) dX11_spared_44 (c_M_stepsOf (d := 0) (u := u283) (g := g) (ex := ex) (rain := rain)  (by decide) (bd_w (l := 0) (h := 75) (h15 c16) (by decide))) hq.n k1547 k1549 k60 wc_162 rfl rfl k97 k1550 np_X11_stepsOf (Nat.le_trans (by decide) hd) (by decide) (Nat.le_refl _) (Nat.le_refl _) wlen rfl (Nat.le_of_ble_eq_true rfl) (fun r_ h_ p323 => ?_)
            obtain ⟨v324, rfl, rfl⟩ := p323
            refine J_iload (i := 5) (j := 3) dX11_spared_47 rfl ?_
            refine J_callV (As := [.int v324, .int w282]) (rest := []) dX11_spared_49 (c_M_blow (d := 3) (u := u283) (g := g) (ex := ex) (steps := v324) (banks := w282)  (by decide) (bd_r (fc285 22 (Nat.ne_of_beq_eq_false rfl) (Nat.ne_of_beq_eq_false rfl) (Nat.ne_of_beq_eq_false rfl)) h6) (dn_c (fr284 172 rfl) h7)) hq.n k1551 k1553 k61 wc_162 rfl rfl k97 k1554 np_X11_blow (Nat.le_trans (by decide) hd) (by decide) (Nat.le_refl _) (Nat.le_refl _) wlen rfl (Nat.le_of_ble_eq_true rfl) (fun r_ h_ p325 => ?_)
            obtain ⟨u326, rfl, rfl, h327, fr328, fc329⟩ := p325
            refine J_iload (i := 4) (j := 2) dX11_spared_52 rfl ?_
            refine J_aload_n (i := 0) (j := 0) dX11_spared_54 rfl rfl ?_
            refine J_get (C := RX11) (T := TX11) (Z := 43) (ci := 11) (f := 31) dX11_spared_55 inG11 rfl (by decide) k1295 wc_162 rfl ?_
            refine J_iload (i := 5) (j := 3) dX11_spared_58 rfl ?_
            refine J_iconst (v := (-1)) dX11_spared_60 (by decide) ?_
            refine J_ixor dX11_spared_61 ?_
            refine J_iand dX11_spared_62 ?_
            have jn332 : ∀ (w331 : Int32), Bd 0 1 w331 → J x yX11_spared cX11_spared 6 (some .int) d 0 0 (Wd u g ex).length 71 [(0, .ref 162), (3, .int rain), (5, .int w282)] [.int w331, .int w281] (Wd u326 g ex) 0 0 := by
              intro w331 bw331
              refine J_iadd dX11_spared_71 ?_
              refine J_istore (i := 4) (lw := [(4, .int (w281 + w331)), (0, .ref 162), (3, .int rain), (5, .int w282)]) dX11_spared_72 (by decide) rfl ?_
              refine J_iinc (i := 5) (j := 3) (v := (w282 + 1)) (lw := [(5, .int (w282 + 1)), (4, .int (w281 + w331)), (0, .ref 162), (3, .int rain)]) dX11_spared_74 rfl rfl (by decide) rfl ?_
              refine J_goto (tgt := 30) dX11_spared_77 (by decide) ?_
              refine J_lv [2, 3, 1, 0] rfl ?_
              exact ih310 (w281 + w331) (w282 + 1) u326 (bd_w (l := 0) (h := 512) (bd_add (l := 1) (h := 512) (bd_lt_hi bw282 (i_nle c312) (bd_shl (lo := 0) (hi := 9) (l := 1) (h := 512) h6 (by decide))) (bd_c (v := 1) (lo := 1) (hi := 1) (by decide)) (by decide)) (by decide)) (fun c k_ => ((fr328 c (nin_sub (M := [(162, 162), (173, 175)]) k_ rfl)).trans (fr284 c (nin_sub (M := [(162, 162), (173, 175)]) k_ rfl)))) (fun j k31_ k32_ k33_ => ((fc329 j k31_ k32_ k33_).trans (fc285 j k31_ k32_ k33_))) h327 (mu_up 1 bw282 rfl (by decide) (bd_w (l := 1) (h := 512) (bd_add (l := 1) (h := 512) (bd_lt_hi bw282 (i_nle c312) (bd_shl (lo := 0) (hi := 9) (l := 1) (h := 512) h6 (by decide))) (bd_c (v := 1) (lo := 1) (hi := 1) (by decide)) (by decide)) (by decide)) hm311)
            refine J_if_ne (tgt := 70) dX11_spared_63 (by decide) (fun c330 => ?_) (fun c330 => ?_)
            · refine J_iconst (v := 0) dX11_spared_70 (by decide) ?_
              refine J_lv [0, 1, 3] rfl ?_
              exact jn332 (0 : Int32) (bd_w (l := 0) (h := 1) (bd_c (v := 0) (lo := 0) (hi := 0) (by decide)) (by decide))
            · refine J_iconst (v := 1) dX11_spared_66 (by decide) ?_
              refine J_goto (tgt := 71) dX11_spared_67 (by decide) ?_
              refine J_lv [0, 1, 3] rfl ?_
              exact jn332 (1 : Int32) (bd_w (l := 0) (h := 1) (bd_c (v := 1) (lo := 1) (hi := 1) (by decide)) (by decide))
      refine J_lv [2, 5, 1, 0] rfl ?_
      exact lp308 _ (0 : Int32) (0 : Int32) u5 (bd_w (l := 0) (h := 512) (bd_c (v := 0) (lo := 0) (hi := 0) (by decide)) (by decide)) (fun c k_ => rfl) (fun j k31_ k32_ k33_ => rfl) (bd_r ((fc11 31 (Nat.ne_of_beq_eq_false rfl) (Nat.ne_of_beq_eq_false rfl) (Nat.ne_of_beq_eq_false rfl) (Nat.ne_of_beq_eq_false rfl) (Nat.ne_of_beq_eq_false rfl) (Nat.ne_of_beq_eq_false rfl)).trans (ms_i e2 (Nat.ne_of_beq_eq_false rfl))) hp8) (Nat.lt_succ_self _)
    · refine J_iconst (v := (-1)) dX11_spared_22 (by decide) ?_
      exact J_iret hq dX11_spared_23 rfl wlen (Nat.le_refl _) (Nat.le_refl _) ⟨((-1) : Int32), u5, rfl, rfl, h6, h7, h8, (bd_r ((fc11 31 (Nat.ne_of_beq_eq_false rfl) (Nat.ne_of_beq_eq_false rfl) (Nat.ne_of_beq_eq_false rfl) (Nat.ne_of_beq_eq_false rfl) (Nat.ne_of_beq_eq_false rfl) (Nat.ne_of_beq_eq_false rfl)).trans (ms_i e2 (Nat.ne_of_beq_eq_false rfl))) hp8), (fun c k_ => ((fr10 c (nin_ne (a := 162) k_ rfl) (nin_ne (a := 172) k_ rfl)).trans (ms_c e2 (nin_ne (a := 162) k_ rfl)))), (fun j k0_ k22_ k23_ k24_ k25_ k26_ k27_ k31_ k32_ k33_ => ((fc11 j k22_ k23_ k24_ k25_ k26_ k27_).trans (ms_i e2 k0_)))⟩
set_option maxHeartbeats 4000000 in
set_option maxRecDepth 100000 in
theorem c_M_deep {d : Nat} {u : Nat → Nat → Int32} {g : Nat → Nat → Int64} {ex : List MC} {hill : Int32} {plan : Int32} (hd : 4 ≤ d) (hp0 : (MY u)) (hp1 : AB u 168 (-1) 999) (hp2 : (HD u)) (hp3 : (HC u)) (hp4 : (PL u)) (hp5 : (N0 u)) (hp6 : (DN u)) (hp7 : Bd 0 9 (u 162 22)) (hp8 : Bd 0 511 (u 162 31)) (hp9 : AB u 177 (-1) 999) : CT con0 d 0 0 yX11_deep cX11_deep 7 (some .int) [.ref 162, .int hill, .int plan] (Wd u g ex) (fun r h2 => ∃ (z : Int32) (u2 : Nat → Nat → Int32), r = some (.int z) ∧ h2 = Wd u2 g ex ∧ Bd 0 9 (u2 162 22) ∧ (DN u2) ∧ (N0 u2) ∧ Bd 0 511 (u2 162 31) ∧ (∀ c, nin c [(162, 162), (172, 175)] = true → u2 c = u c) ∧ (∀ j, j ≠ 0 → j ≠ 22 → j ≠ 23 → j ≠ 24 → j ≠ 25 → j ≠ 26 → j ≠ 27 → j ≠ 31 → j ≠ 32 → j ≠ 33 → u2 162 j = u 162 j)) := by
  refine CT_of (by decide) (Nat.le_of_ble_eq_true rfl) (fun x hq => ?_)
  show J x yX11_deep cX11_deep 7 (some .int) d 0 0 (Wd u g ex).length 0 [(0, .ref 162), (1, .int hill), (2, .int plan)] [] (Wd u g ex) 0 0
  refine J_aload_n (i := 0) (j := 0) dX11_deep_0 rfl rfl ?_
  refine J_iconst (v := 0) dX11_deep_1 (by decide) ?_
  obtain ⟨u1, e2⟩ : ∃ z, z = ms u 162 0 0 := ⟨_, rfl⟩
  refine J_put (C := RX11) (T := TX11) (Z := 43) (ci := 11) (f := 0) (ty0 := tyX11) dX11_deep_2 inG11 rfl tyX11_ok nmX11 (by decide) k1264 rfl rfl wc_162 (Nat.le_of_ble_eq_true rfl) (fun _ _ => ⟨rfl, rfl⟩) (ws e2 wk_162 rfl) ?_
  refine J_aload_n (i := 0) (j := 0) dX11_deep_5 rfl rfl ?_
  refine J_iload_n (i := 1) (j := 1) dX11_deep_6 rfl rfl ?_
  refine J_iload_n (i := 2) (j := 2) dX11_deep_7 rfl rfl ?_
  refine J_callV (As := [.int hill, .int plan]) (rest := []) dX11_deep_8 (c_M_lay (d := 2) (u := u1) (g := g) (ex := ex) (h := hill) (plan := plan)  (by decide) (my_c (ms_c e2 (Nat.ne_of_beq_eq_false rfl)) hp0) (ab_c (ms_c e2 (Nat.ne_of_beq_eq_false rfl)) hp1) (hd_c (ms_c e2 (Nat.ne_of_beq_eq_false rfl)) hp2) (hc_c (ms_c e2 (Nat.ne_of_beq_eq_false rfl)) (ms_c e2 (Nat.ne_of_beq_eq_false rfl)) hp3) (pl_c (ms_c e2 (Nat.ne_of_beq_eq_false rfl)) hp4) (n0_c (ms_c e2 (Nat.ne_of_beq_eq_false rfl)) hp5) (dn_c (ms_c e2 (Nat.ne_of_beq_eq_false rfl)) hp6) (bd_r (ms_i e2 (Nat.ne_of_beq_eq_false rfl)) hp7)) hq.n k1503 k1505 k52 wc_162 rfl rfl k97 k1506 np_X11_lay (Nat.le_trans (by decide) hd) (by decide) (Nat.le_refl _) (Nat.le_refl _) wlen rfl (Nat.le_of_ble_eq_true rfl) (fun r_ h_ p3 => ?_)
  obtain ⟨t4, u5, rfl, rfl, h6, h7, h8, h9, fr10, fc11⟩ := p3
  refine J_ifB_ne (tgt := 16) dX11_deep_11 (by decide) (fun c12 => ?_) (fun c12 => ?_)
  · refine J_iconst (v := 0) dX11_deep_16 (by decide) ?_
    refine J_istore_n (i := 3) (lw := [(3, .int 0), (0, .ref 162), (1, .int hill), (2, .int plan)]) dX11_deep_17 rfl (by decide) rfl ?_
    refine J_iconst (v := 0) dX11_deep_18 (by decide) ?_
    refine J_istore (i := 4) (lw := [(4, .int 0), (3, .int 0), (0, .ref 162), (1, .int hill), (2, .int plan)]) dX11_deep_19 (by decide) rfl ?_
    have lp14763 : ∀ (n14764 : Nat) (w9085 : Int32) (w9086 : Int32), Bd 0 511 w9085 → Bd 0 9 w9086 → (9 - w9086.toInt).toNat < n14764 → J x yX11_deep cX11_deep 7 (some .int) d 0 0 (Wd u g ex).length 21 [(0, .ref 162), (3, .int w9085), (4, .int w9086)] [] (Wd u5 g ex) 0 0 := by
      intro n14764
      induction n14764 with
      | zero => intro w9085 w9086 bw9085 bw9086 hm14766; exact absurd hm14766 (Nat.not_lt_zero _)
      | succ n14764 ih14765 =>
        intro w9085 w9086 bw9085 bw9086 hm14766
        refine J_iload (i := 4) (j := 2) dX11_deep_21 rfl ?_
        refine J_aload_n (i := 0) (j := 0) dX11_deep_23 rfl rfl ?_
        refine J_get (C := RX11) (T := TX11) (Z := 43) (ci := 11) (f := 22) dX11_deep_24 inG11 rfl (by decide) k1286 wc_162 rfl ?_
        refine J_icmp_ge (tgt := 57) dX11_deep_27 (by decide) (fun c14767 => ?_) (fun c14767 => ?_)
        · refine J_iconst (v := 0) dX11_deep_57 (by decide) ?_
          refine J_istore (i := 4) (lw := [(4, .int 0), (0, .ref 162), (3, .int w9085)]) dX11_deep_58 (by decide) rfl ?_
          refine J_iconst (v := 0) dX11_deep_60 (by decide) ?_
          refine J_istore (i := 5) (lw := [(5, .int 0), (4, .int 0), (0, .ref 162), (3, .int w9085)]) dX11_deep_61 (by decide) rfl ?_
          have lp19306 : ∀ (n19307 : Nat) (w18171 : Int32) (w18172 : Int32) (u18173 : Nat → Nat → Int32), Bd 0 2147483647 w18171 → Bd 0 4 w18172 → (∀ c, nin c [(162, 162), (173, 175)] = true → u18173 c = u5 c) → (∀ j, j ≠ 31 → j ≠ 32 → j ≠ 33 → u18173 162 j = u5 162 j) → Bd 0 511 (u18173 162 31) → (4 - w18172.toInt).toNat < n19307 → J x yX11_deep cX11_deep 7 (some .int) d 0 0 (Wd u g ex).length 63 [(0, .ref 162), (3, .int w9085), (4, .int w18171), (5, .int w18172)] [] (Wd u18173 g ex) 0 0 := by
            intro n19307
            induction n19307 with
            | zero => intro w18171 w18172 u18173 bw18171 bw18172 fr18174 fc18175 bm18176 hm19309; exact absurd hm19309 (Nat.not_lt_zero _)
            | succ n19307 ih19308 =>
              intro w18171 w18172 u18173 bw18171 bw18172 fr18174 fc18175 bm18176 hm19309
              refine J_iload (i := 5) (j := 3) dX11_deep_63 rfl ?_
              refine J_aload_n (i := 0) (j := 0) dX11_deep_65 rfl rfl ?_
              refine J_get (C := RX11) (T := TX11) (Z := 43) (ci := 11) (f := 21) dX11_deep_66 inG11 rfl (by decide) k1285 wc_162 rfl ?_
              refine J_iconst (v := 1) dX11_deep_69 (by decide) ?_
              refine J_iald dX11_deep_70 wc_172 (vin (bd_c (v := 1) (lo := 1) (hi := 1) (by decide)) (by decide)) ?_
              refine J_ci (v := u5 172 1) (congrFun (fr18174 172 rfl) 1) ?_
              refine J_icmp_ge (tgt := 142) dX11_deep_71 (by decide) (fun c19310 => ?_) (fun c19310 => ?_)
              · refine J_iload (i := 4) (j := 2) dX11_deep_142 rfl ?_
                exact J_iret hq dX11_deep_144 rfl wlen (Nat.le_refl _) (Nat.le_refl _) ⟨w18171, u18173, rfl, rfl, (bd_r (fc18175 22 (Nat.ne_of_beq_eq_false rfl) (Nat.ne_of_beq_eq_false rfl) (Nat.ne_of_beq_eq_false rfl)) h6), (dn_c (fr18174 172 rfl) h7), (n0_c (fr18174 172 rfl) h8), bm18176, (fun c k_ => ((fr18174 c (nin_sub (M := [(162, 162), (173, 175)]) k_ rfl)).trans ((fr10 c (nin_ne (a := 162) k_ rfl) (nin_ne (a := 172) k_ rfl)).trans (ms_c e2 (nin_ne (a := 162) k_ rfl))))), (fun j k0_ k22_ k23_ k24_ k25_ k26_ k27_ k31_ k32_ k33_ => ((fc18175 j k31_ k32_ k33_).trans ((fc11 j k22_ k23_ k24_ k25_ k26_ k27_).trans (ms_i e2 k0_))))⟩
              · refine J_iconst (v := 0) dX11_deep_74 (by decide) ?_
                refine J_istore (i := 6) (lw := [(6, .int 0), (0, .ref 162), (3, .int w9085), (4, .int w18171), (5, .int w18172)]) dX11_deep_75 (by decide) rfl ?_
                have lp20368 : ∀ (n20369 : Nat) (w20295 : Int32) (w20296 : Int32) (u20297 : Nat → Nat → Int32), Bd 0 2147483647 w20295 → Bd 0 512 w20296 → (∀ c, nin c [(162, 162), (173, 175)] = true → u20297 c = u18173 c) → (∀ j, j ≠ 31 → j ≠ 32 → j ≠ 33 → u20297 162 j = u18173 162 j) → Bd 0 511 (u20297 162 31) → (512 - w20296.toInt).toNat < n20369 → J x yX11_deep cX11_deep 7 (some .int) d 0 0 (Wd u g ex).length 77 [(0, .ref 162), (3, .int w9085), (4, .int w20295), (5, .int w18172), (6, .int w20296)] [] (Wd u20297 g ex) 0 0 := by
                  intro n20369
                  induction n20369 with
                  | zero => intro w20295 w20296 u20297 bw20295 bw20296 fr20298 fc20299 bm20300 hm20371; exact absurd hm20371 (Nat.not_lt_zero _)
                  | succ n20369 ih20370 =>
                    intro w20295 w20296 u20297 bw20295 bw20296 fr20298 fc20299 bm20300 hm20371
                    refine J_iload (i := 6) (j := 4) dX11_deep_77 rfl ?_
                    refine J_iload_n (i := 3) (j := 1) dX11_deep_79 rfl rfl ?_
                    refine J_icmp_gt (tgt := 136) dX11_deep_80 (by decide) (fun c20372 => ?_) (fun c20372 => ?_)
                    · refine J_iinc (i := 5) (j := 3) (v := (w18172 + 1)) (lw := [(5, .int (w18172 + 1)), (0, .ref 162), (3, .int w9085), (4, .int w20295), (6, .int w20296)]) dX11_deep_136 rfl rfl (by decide) rfl ?_
                      refine J_goto (tgt := 63) dX11_deep_139 (by decide) ?_
                      refine J_lv [1, 2, 3, 0] rfl ?_
                      exact ih19308 w20295 (w18172 + 1) u20297 bw20295 (bd_w (l := 0) (h := 4) (bd_add (l := 1) (h := 4) (bd_lt_hi bw18172 (i_nle c19310) ((h9 c12).1).1) (bd_c (v := 1) (lo := 1) (hi := 1) (by decide)) (by decide)) (by decide)) (fun c k_ => ((fr20298 c (nin_sub (M := [(162, 162), (173, 175)]) k_ rfl)).trans (fr18174 c (nin_sub (M := [(162, 162), (173, 175)]) k_ rfl)))) (fun j k31_ k32_ k33_ => ((fc20299 j k31_ k32_ k33_).trans (fc18175 j k31_ k32_ k33_))) bm20300 (mu_up 1 bw18172 rfl (by decide) (bd_w (l := 1) (h := 4) (bd_add (l := 1) (h := 4) (bd_lt_hi bw18172 (i_nle c19310) ((h9 c12).1).1) (bd_c (v := 1) (lo := 1) (hi := 1) (by decide)) (by decide)) (by decide)) hm19309)
                    · refine J_iload (i := 6) (j := 4) dX11_deep_83 rfl ?_
                      refine J_iload_n (i := 3) (j := 1) dX11_deep_85 rfl rfl ?_
                      refine J_iconst (v := (-1)) dX11_deep_86 (by decide) ?_
                      refine J_ixor dX11_deep_87 ?_
                      refine J_iand dX11_deep_88 ?_
                      have jn20425 : ∀ (w20420 : Int32) (u20421 : Nat → Nat → Int32), Bd 0 2147483647 w20420 → (∀ c, nin c [(162, 162), (173, 175)] = true → u20421 c = u20297 c) → (∀ j, j ≠ 31 → j ≠ 32 → j ≠ 33 → u20421 162 j = u20297 162 j) → Bd 0 511 (u20421 162 31) → J x yX11_deep cX11_deep 7 (some .int) d 0 0 (Wd u g ex).length 130 [(0, .ref 162), (3, .int w9085), (4, .int w20420), (5, .int w18172), (6, .int w20296)] [] (Wd u20421 g ex) 0 0 := by
                        intro w20420 u20421 bw20420 fr20422 fc20423 bm20424
                        refine J_iinc (i := 6) (j := 4) (v := (w20296 + 1)) (lw := [(6, .int (w20296 + 1)), (0, .ref 162), (3, .int w9085), (4, .int w20420), (5, .int w18172)]) dX11_deep_130 rfl rfl (by decide) rfl ?_
                        refine J_goto (tgt := 77) dX11_deep_133 (by decide) ?_
                        refine J_lv [1, 2, 3, 4, 0] rfl ?_
                        exact ih20370 w20420 (w20296 + 1) u20421 bw20420 (bd_w (l := 0) (h := 512) (bd_add (l := 1) (h := 512) (bd_le_hi bw20296 (i_nlt c20372) bw9085) (bd_c (v := 1) (lo := 1) (hi := 1) (by decide)) (by decide)) (by decide)) (fun c k_ => ((fr20422 c (nin_sub (M := [(162, 162), (173, 175)]) k_ rfl)).trans (fr20298 c (nin_sub (M := [(162, 162), (173, 175)]) k_ rfl)))) (fun j k31_ k32_ k33_ => ((fc20423 j k31_ k32_ k33_).trans (fc20299 j k31_ k32_ k33_))) bm20424 (mu_up 1 bw20296 rfl (by decide) (bd_w (l := 1) (h := 512) (bd_add (l := 1) (h := 512) (bd_le_hi bw20296 (i_nlt c20372) bw9085) (bd_c (v := 1) (lo := 1) (hi := 1) (by decide)) (by decide)) (by decide)) hm20371)
                      refine J_if_ne (tgt := 130) dX11_deep_89 (by decide) (fun c20406 => ?_) (fun c20406 => ?_)
                      · refine J_lv [0, 1, 2, 3, 4] rfl ?_
                        exact jn20425 w20295 u20297 bw20295 (fun c k_ => rfl) (fun j k31_ k32_ k33_ => rfl) bm20300
                      · refine J_aload_n (i := 0) (j := 0) dX11_deep_92 rfl rfl ?_
                        refine J_aload_n (i := 0) (j := 0) dX11_deep_93 rfl rfl ?_
                        refine J_iload (i := 5) (j := 3) dX11_deep_94 rfl ?_
                        refine J_callV (As := [.int w18172]) (rest := [.ref 162]) dX11_deep_96 (c_M_stepsOf (d := 0) (u := u20297) (g := g) (ex := ex) (rain := w18172)  (by decide) (bd_w (l := 0) (h := 75) (bd_lt_hi bw18172 (i_nle c19310) ((h9 c12).1).1) (by decide))) hq.n k1547 k1549 k60 wc_162 rfl rfl k97 k1550 np_X11_stepsOf (Nat.le_trans (by decide) hd) (by decide) (Nat.le_refl _) (Nat.le_refl _) wlen rfl (Nat.le_of_ble_eq_true rfl) (fun r_ h_ p20426 => ?_)
                        obtain ⟨v20427, rfl, rfl⟩ := p20426
                        refine J_iload (i := 6) (j := 4) dX11_deep_99 rfl ?_
                        refine J_callV (As := [.int v20427, .int w20296]) (rest := []) dX11_deep_101 (c_M_blow (d := 3) (u := u20297) (g := g) (ex := ex) (steps := v20427) (banks := w20296)  (by decide) (bd_r ((fc20299 22 (Nat.ne_of_beq_eq_false rfl) (Nat.ne_of_beq_eq_false rfl) (Nat.ne_of_beq_eq_false rfl)).trans (fc18175 22 (Nat.ne_of_beq_eq_false rfl) (Nat.ne_of_beq_eq_false rfl) (Nat.ne_of_beq_eq_false rfl))) h6) (dn_c ((fr20298 172 rfl).trans (fr18174 172 rfl)) h7)) hq.n k1551 k1553 k61 wc_162 rfl rfl k97 k1554 np_X11_blow (Nat.le_trans (by decide) hd) (by decide) (Nat.le_refl _) (Nat.le_refl _) wlen rfl (Nat.le_of_ble_eq_true rfl) (fun r_ h_ p20428 => ?_)
                        obtain ⟨u20429, rfl, rfl, h20430, fr20431, fc20432⟩ := p20428
                        refine J_aload_n (i := 0) (j := 0) dX11_deep_104 rfl rfl ?_
                        refine J_get (C := RX11) (T := TX11) (Z := 43) (ci := 11) (f := 31) dX11_deep_105 inG11 rfl (by decide) k1295 wc_162 rfl ?_
                        refine J_callS (As := [.int (u20429 162 31)]) (rest := []) dX11_deep_108 (c_M_ones (d := 0) (u := u20429) (g := g) (ex := ex) (set := u20429 162 31)  (by decide) ) hq.n k1608 k1609 k97 k1610 np_X11_ones (Nat.le_trans (by decide) hd) (by decide) (Nat.le_refl _) (Nat.le_refl _) wlen rfl (Nat.le_of_ble_eq_true rfl) (fun r_ h_ p20433 => ?_)
                        obtain ⟨rfl, rfl⟩ := p20433
                        refine J_iload (i := 4) (j := 2) dX11_deep_111 rfl ?_
                        have jn20437 : ∀ (w20436 : Int32), Bd 0 2147483647 w20436 → J x yX11_deep cX11_deep 7 (some .int) d 0 0 (Wd u g ex).length 128 [(0, .ref 162), (3, .int w9085), (5, .int w18172), (6, .int w20296)] [.int w20436] (Wd u20429 g ex) 0 0 := by
                          intro w20436 bw20436
                          refine J_istore (i := 4) (lw := [(4, .int w20436), (0, .ref 162), (3, .int w9085), (5, .int w18172), (6, .int w20296)]) dX11_deep_128 (by decide) rfl ?_
                          refine J_lv [1, 2, 0, 3, 4] rfl ?_
                          exact jn20425 w20436 u20429 bw20436 (fun c k_ => (fr20431 c (nin_sub (M := [(162, 162), (173, 175)]) k_ rfl))) (fun j k31_ k32_ k33_ => (fc20432 j k31_ k32_ k33_)) h20430
                        refine J_icmp_le (tgt := 126) dX11_deep_113 (by decide) (fun c20434 => ?_) (fun c20434 => ?_)
                        · refine J_iload (i := 4) (j := 2) dX11_deep_126 rfl ?_
                          refine J_lv [0, 1, 3, 4] rfl ?_
                          exact jn20437 w20295 bw20295
                        · refine J_aload_n (i := 0) (j := 0) dX11_deep_116 rfl rfl ?_
                          refine J_get (C := RX11) (T := TX11) (Z := 43) (ci := 11) (f := 31) dX11_deep_117 inG11 rfl (by decide) k1295 wc_162 rfl ?_
                          refine J_callS (As := [.int (u20429 162 31)]) (rest := []) dX11_deep_120 (c_M_ones (d := 0) (u := u20429) (g := g) (ex := ex) (set := u20429 162 31)  (by decide) ) hq.n k1608 k1609 k97 k1610 np_X11_ones (Nat.le_trans (by decide) hd) (by decide) (Nat.le_refl _) (Nat.le_refl _) wlen rfl (Nat.le_of_ble_eq_true rfl) (fun r_ h_ p20438 => ?_)
                          obtain ⟨rfl, rfl⟩ := p20438
                          refine J_goto (tgt := 128) dX11_deep_123 (by decide) ?_
                          refine J_lv [0, 1, 3, 4] rfl ?_
                          exact jn20437 (onesN (u20429 162 31) 9) (bd_w (l := 0) (h := 2147483647) (bd_lt_lo (bd_any (onesN (u20429 162 31) 9)) (i_nle c20434) bw20295) (by decide))
                refine J_lv [1, 2, 3, 4, 0] rfl ?_
                exact lp20368 _ w18171 (0 : Int32) u18173 bw18171 (bd_w (l := 0) (h := 512) (bd_c (v := 0) (lo := 0) (hi := 0) (by decide)) (by decide)) (fun c k_ => rfl) (fun j k31_ k32_ k33_ => rfl) bm18176 (Nat.lt_succ_self _)
          refine J_lv [2, 3, 1, 0] rfl ?_
          exact lp19306 _ (0 : Int32) (0 : Int32) u5 (bd_w (l := 0) (h := 2147483647) (bd_c (v := 0) (lo := 0) (hi := 0) (by decide)) (by decide)) (bd_w (l := 0) (h := 4) (bd_c (v := 0) (lo := 0) (hi := 0) (by decide)) (by decide)) (fun c k_ => rfl) (fun j k31_ k32_ k33_ => rfl) (bd_r ((fc11 31 (Nat.ne_of_beq_eq_false rfl) (Nat.ne_of_beq_eq_false rfl) (Nat.ne_of_beq_eq_false rfl) (Nat.ne_of_beq_eq_false rfl) (Nat.ne_of_beq_eq_false rfl) (Nat.ne_of_beq_eq_false rfl)).trans (ms_i e2 (Nat.ne_of_beq_eq_false rfl))) hp8) (Nat.lt_succ_self _)
        · refine J_iload_n (i := 3) (j := 1) dX11_deep_30 rfl rfl ?_
          refine J_aload_n (i := 0) (j := 0) dX11_deep_31 rfl rfl ?_
          refine J_iload (i := 4) (j := 2) dX11_deep_32 rfl ?_
          refine J_iconst (v := 4) dX11_deep_34 (by decide) ?_
          refine J_callV (As := [.int w9086, .int 4]) (rest := [.int w9085]) dX11_deep_35 (c_M_of (d := 0) (u := u5) (g := g) (ex := ex) (p := w9086) (what := 4)  (by decide) (bd_lt_hi bw9086 (i_nle c14767) h6) (bd_w (l := 0) (h := 15) (bd_c (v := 4) (lo := 4) (hi := 4) (by decide)) (by decide))) hq.n k1515 k1517 k55 wc_162 rfl rfl k97 k1518 np_X11_of (Nat.le_trans (by decide) hd) (by decide) (Nat.le_refl _) (Nat.le_refl _) wlen rfl (Nat.le_of_ble_eq_true rfl) (fun r_ h_ p20439 => ?_)
          obtain ⟨rfl, rfl⟩ := p20439
          have jn20442 : ∀ (w20441 : Int32), Bd 0 256 w20441 → J x yX11_deep cX11_deep 7 (some .int) d 0 0 (Wd u g ex).length 49 [(0, .ref 162), (4, .int w9086)] [.int w20441, .int w9085] (Wd u5 g ex) 0 0 := by
            intro w20441 bw20441
            refine J_ior dX11_deep_49 ?_
            refine J_istore_n (i := 3) (lw := [(3, .int (w9085 ||| w20441)), (0, .ref 162), (4, .int w9086)]) dX11_deep_50 rfl (by decide) rfl ?_
            refine J_iinc (i := 4) (j := 2) (v := (w9086 + 1)) (lw := [(4, .int (w9086 + 1)), (3, .int (w9085 ||| w20441)), (0, .ref 162)]) dX11_deep_51 rfl rfl (by decide) rfl ?_
            refine J_goto (tgt := 21) dX11_deep_54 (by decide) ?_
            refine J_lv [2, 1, 0] rfl ?_
            exact ih14765 (w9085 ||| w20441) (w9086 + 1) (bd_or (k := 9) (h := 511) bw9085 bw20441 (by decide)) (bd_w (l := 0) (h := 9) (bd_add (l := 1) (h := 9) (bd_lt_hi bw9086 (i_nle c14767) h6) (bd_c (v := 1) (lo := 1) (hi := 1) (by decide)) (by decide)) (by decide)) (mu_up 1 bw9086 rfl (by decide) (bd_w (l := 1) (h := 9) (bd_add (l := 1) (h := 9) (bd_lt_hi bw9086 (i_nle c14767) h6) (bd_c (v := 1) (lo := 1) (hi := 1) (by decide)) (by decide)) (by decide)) hm14766)
          refine J_if_le (tgt := 48) dX11_deep_38 (by decide) (fun c20440 => ?_) (fun c20440 => ?_)
          · refine J_iconst (v := 0) dX11_deep_48 (by decide) ?_
            refine J_lv [0, 2] rfl ?_
            exact jn20442 (0 : Int32) (bd_w (l := 0) (h := 256) (bd_c (v := 0) (lo := 0) (hi := 0) (by decide)) (by decide))
          · refine J_iconst (v := 1) dX11_deep_41 (by decide) ?_
            refine J_iload (i := 4) (j := 2) dX11_deep_42 rfl ?_
            refine J_ishl dX11_deep_44 ?_
            refine J_goto (tgt := 49) dX11_deep_45 (by decide) ?_
            refine J_lv [0, 2] rfl ?_
            exact jn20442 ((1 : Int32) <<< (w9086 &&& 31)) (bd_w (l := 0) (h := 256) (bd_shl (lo := 0) (hi := 8) (l := 1) (h := 256) (bd_lt_hi bw9086 (i_nle c14767) h6) (by decide)) (by decide))
    refine J_lv [2, 1, 0] rfl ?_
    exact lp14763 _ (0 : Int32) (0 : Int32) (bd_w (l := 0) (h := 511) (bd_c (v := 0) (lo := 0) (hi := 0) (by decide)) (by decide)) (bd_w (l := 0) (h := 9) (bd_c (v := 0) (lo := 0) (hi := 0) (by decide)) (by decide)) (Nat.lt_succ_self _)
  · refine J_iconst (v := (-1)) dX11_deep_14 (by decide) ?_
    exact J_iret hq dX11_deep_15 rfl wlen (Nat.le_refl _) (Nat.le_refl _) ⟨((-1) : Int32), u5, rfl, rfl, h6, h7, h8, (bd_r ((fc11 31 (Nat.ne_of_beq_eq_false rfl) (Nat.ne_of_beq_eq_false rfl) (Nat.ne_of_beq_eq_false rfl) (Nat.ne_of_beq_eq_false rfl) (Nat.ne_of_beq_eq_false rfl) (Nat.ne_of_beq_eq_false rfl)).trans (ms_i e2 (Nat.ne_of_beq_eq_false rfl))) hp8), (fun c k_ => ((fr10 c (nin_ne (a := 162) k_ rfl) (nin_ne (a := 172) k_ rfl)).trans (ms_c e2 (nin_ne (a := 162) k_ rfl)))), (fun j k0_ k22_ k23_ k24_ k25_ k26_ k27_ k31_ k32_ k33_ => ((fc11 j k22_ k23_ k24_ k25_ k26_ k27_).trans (ms_i e2 k0_)))⟩
set_option maxHeartbeats 4000000 in
set_option maxRecDepth 100000 in
theorem c_M_safe {d : Nat} {u : Nat → Nat → Int32} {g : Nat → Nat → Int64} {ex : List MC} {hill : Int32} {plan : Int32} (hd : 4 ≤ d) (hp0 : (MY u)) (hp1 : AB u 168 (-1) 999) (hp2 : (HD u)) (hp3 : (HC u)) (hp4 : (PL u)) (hp5 : (N0 u)) (hp6 : (DN u)) (hp7 : Bd 0 9 (u 162 22)) (hp8 : Bd 0 511 (u 162 31)) (hp9 : AB u 177 (-1) 999) : CT con0 d 0 0 yX11_safe cX11_safe 5 (some .int) [.ref 162, .int hill, .int plan] (Wd u g ex) (fun r h2 => ∃ (z : Int32) (u2 : Nat → Nat → Int32), r = some (.int z) ∧ h2 = Wd u2 g ex ∧ Bd 0 9 (u2 162 22) ∧ (DN u2) ∧ (N0 u2) ∧ Bd 0 511 (u2 162 31) ∧ (∀ c, nin c [(162, 162), (172, 175)] = true → u2 c = u c) ∧ (∀ j, j ≠ 0 → j ≠ 22 → j ≠ 23 → j ≠ 24 → j ≠ 25 → j ≠ 26 → j ≠ 27 → j ≠ 31 → j ≠ 32 → j ≠ 33 → u2 162 j = u 162 j)) := by
  refine CT_of (by decide) (Nat.le_of_ble_eq_true rfl) (fun x hq => ?_)
  show J x yX11_safe cX11_safe 5 (some .int) d 0 0 (Wd u g ex).length 0 [(0, .ref 162), (1, .int hill), (2, .int plan)] [] (Wd u g ex) 0 0
  refine J_aload_n (i := 0) (j := 0) dX11_safe_0 rfl rfl ?_
  refine J_iconst (v := 0) dX11_safe_1 (by decide) ?_
  obtain ⟨u1, e2⟩ : ∃ z, z = ms u 162 0 0 := ⟨_, rfl⟩
  refine J_put (C := RX11) (T := TX11) (Z := 43) (ci := 11) (f := 0) (ty0 := tyX11) dX11_safe_2 inG11 rfl tyX11_ok nmX11 (by decide) k1264 rfl rfl wc_162 (Nat.le_of_ble_eq_true rfl) (fun _ _ => ⟨rfl, rfl⟩) (ws e2 wk_162 rfl) ?_
  refine J_aload_n (i := 0) (j := 0) dX11_safe_5 rfl rfl ?_
  refine J_iload_n (i := 1) (j := 1) dX11_safe_6 rfl rfl ?_
  refine J_iload_n (i := 2) (j := 2) dX11_safe_7 rfl rfl ?_
  refine J_callV (As := [.int hill, .int plan]) (rest := []) dX11_safe_8 (c_M_lay (d := 2) (u := u1) (g := g) (ex := ex) (h := hill) (plan := plan)  (by decide) (my_c (ms_c e2 (Nat.ne_of_beq_eq_false rfl)) hp0) (ab_c (ms_c e2 (Nat.ne_of_beq_eq_false rfl)) hp1) (hd_c (ms_c e2 (Nat.ne_of_beq_eq_false rfl)) hp2) (hc_c (ms_c e2 (Nat.ne_of_beq_eq_false rfl)) (ms_c e2 (Nat.ne_of_beq_eq_false rfl)) hp3) (pl_c (ms_c e2 (Nat.ne_of_beq_eq_false rfl)) hp4) (n0_c (ms_c e2 (Nat.ne_of_beq_eq_false rfl)) hp5) (dn_c (ms_c e2 (Nat.ne_of_beq_eq_false rfl)) hp6) (bd_r (ms_i e2 (Nat.ne_of_beq_eq_false rfl)) hp7)) hq.n k1503 k1505 k52 wc_162 rfl rfl k97 k1506 np_X11_lay (Nat.le_trans (by decide) hd) (by decide) (Nat.le_refl _) (Nat.le_refl _) wlen rfl (Nat.le_of_ble_eq_true rfl) (fun r_ h_ p3 => ?_)
  obtain ⟨t4, u5, rfl, rfl, h6, h7, h8, h9, fr10, fc11⟩ := p3
  refine J_ifB_ne (tgt := 16) dX11_safe_11 (by decide) (fun c12 => ?_) (fun c12 => ?_)
  · refine J_iconst (v := (-1)) dX11_safe_16 (by decide) ?_
    refine J_istore_n (i := 3) (lw := [(3, .int (-1)), (0, .ref 162), (1, .int hill), (2, .int plan)]) dX11_safe_17 rfl (by decide) rfl ?_
    refine J_iconst (v := 0) dX11_safe_18 (by decide) ?_
    refine J_istore (i := 4) (lw := [(4, .int 0), (3, .int (-1)), (0, .ref 162), (1, .int hill), (2, .int plan)]) dX11_safe_19 (by decide) rfl ?_
    have lp113 : ∀ (n114 : Nat) (w90 : Int32) (w91 : Int32) (u92 : Nat → Nat → Int32), Bd (-1) 9 w90 → Bd 0 10 w91 → (∀ c, nin c [(162, 162), (173, 175)] = true → u92 c = u5 c) → (∀ j, j ≠ 31 → j ≠ 32 → j ≠ 33 → u92 162 j = u5 162 j) → Bd 0 511 (u92 162 31) → (10 - w91.toInt).toNat < n114 → J x yX11_safe cX11_safe 5 (some .int) d 0 0 (Wd u g ex).length 21 [(0, .ref 162), (3, .int w90), (4, .int w91)] [] (Wd u92 g ex) 0 0 := by
      intro n114
      induction n114 with
      | zero => intro w90 w91 u92 bw90 bw91 fr93 fc94 bm95 hm116; exact absurd hm116 (Nat.not_lt_zero _)
      | succ n114 ih115 =>
        intro w90 w91 u92 bw90 bw91 fr93 fc94 bm95 hm116
        refine J_iload (i := 4) (j := 2) dX11_safe_21 rfl ?_
        refine J_bipush (v := 9) dX11_safe_23 (by decide) ?_
        refine J_icmp_gt (tgt := 55) dX11_safe_25 (by decide) (fun c117 => ?_) (fun c117 => ?_)
        · refine J_iload_n (i := 3) (j := 1) dX11_safe_55 rfl rfl ?_
          exact J_iret hq dX11_safe_56 rfl wlen (Nat.le_refl _) (Nat.le_refl _) ⟨w90, u92, rfl, rfl, (bd_r (fc94 22 (Nat.ne_of_beq_eq_false rfl) (Nat.ne_of_beq_eq_false rfl) (Nat.ne_of_beq_eq_false rfl)) h6), (dn_c (fr93 172 rfl) h7), (n0_c (fr93 172 rfl) h8), bm95, (fun c k_ => ((fr93 c (nin_sub (M := [(162, 162), (173, 175)]) k_ rfl)).trans ((fr10 c (nin_ne (a := 162) k_ rfl) (nin_ne (a := 172) k_ rfl)).trans (ms_c e2 (nin_ne (a := 162) k_ rfl))))), (fun j k0_ k22_ k23_ k24_ k25_ k26_ k27_ k31_ k32_ k33_ => ((fc94 j k31_ k32_ k33_).trans ((fc11 j k22_ k23_ k24_ k25_ k26_ k27_).trans (ms_i e2 k0_))))⟩
        · refine J_aload_n (i := 0) (j := 0) dX11_safe_28 rfl rfl ?_
          refine J_iload (i := 4) (j := 2) dX11_safe_29 rfl ?_
          refine J_iconst (v := 0) dX11_safe_31 (by decide) ?_
          refine J_callV (As := [.int w91, .int 0]) (rest := []) dX11_safe_32 (c_M_blow (d := 3) (u := u92) (g := g) (ex := ex) (steps := w91) (banks := 0)  (by decide) (bd_r (fc94 22 (Nat.ne_of_beq_eq_false rfl) (Nat.ne_of_beq_eq_false rfl) (Nat.ne_of_beq_eq_false rfl)) h6) (dn_c (fr93 172 rfl) h7)) hq.n k1551 k1553 k61 wc_162 rfl rfl k97 k1554 np_X11_blow (Nat.le_trans (by decide) hd) (by decide) (Nat.le_refl _) (Nat.le_refl _) wlen rfl (Nat.le_of_ble_eq_true rfl) (fun r_ h_ p126 => ?_)
          obtain ⟨u127, rfl, rfl, h128, fr129, fc130⟩ := p126
          refine J_aload_n (i := 0) (j := 0) dX11_safe_35 rfl rfl ?_
          refine J_get (C := RX11) (T := TX11) (Z := 43) (ci := 11) (f := 31) dX11_safe_36 inG11 rfl (by decide) k1295 wc_162 rfl ?_
          have jn133 : ∀ (w132 : Int32), Bd (-1) 9 w132 → J x yX11_safe cX11_safe 5 (some .int) d 0 0 (Wd u g ex).length 48 [(0, .ref 162), (4, .int w91)] [.int w132] (Wd u127 g ex) 0 0 := by
            intro w132 bw132
            refine J_istore_n (i := 3) (lw := [(3, .int w132), (0, .ref 162), (4, .int w91)]) dX11_safe_48 rfl (by decide) rfl ?_
            refine J_iinc (i := 4) (j := 2) (v := (w91 + 1)) (lw := [(4, .int (w91 + 1)), (3, .int w132), (0, .ref 162)]) dX11_safe_49 rfl rfl (by decide) rfl ?_
            refine J_goto (tgt := 21) dX11_safe_52 (by decide) ?_
            refine J_lv [2, 1, 0] rfl ?_
            exact ih115 w132 (w91 + 1) u127 bw132 (bd_w (l := 0) (h := 10) (bd_add (l := 1) (h := 10) (bd_le_hi bw91 (i_nlt c117) (bd_c (v := 9) (lo := 9) (hi := 9) (by decide))) (bd_c (v := 1) (lo := 1) (hi := 1) (by decide)) (by decide)) (by decide)) (fun c k_ => ((fr129 c (nin_sub (M := [(162, 162), (173, 175)]) k_ rfl)).trans (fr93 c (nin_sub (M := [(162, 162), (173, 175)]) k_ rfl)))) (fun j k31_ k32_ k33_ => ((fc130 j k31_ k32_ k33_).trans (fc94 j k31_ k32_ k33_))) h128 (mu_up 1 bw91 rfl (by decide) (bd_w (l := 1) (h := 10) (bd_add (l := 1) (h := 10) (bd_le_hi bw91 (i_nlt c117) (bd_c (v := 9) (lo := 9) (hi := 9) (by decide))) (bd_c (v := 1) (lo := 1) (hi := 1) (by decide)) (by decide)) (by decide)) hm116)
          refine J_if_ne (tgt := 47) dX11_safe_39 (by decide) (fun c131 => ?_) (fun c131 => ?_)
          · refine J_iload_n (i := 3) (j := 1) dX11_safe_47 rfl rfl ?_
            refine J_lv [0, 2] rfl ?_
            exact jn133 w90 bw90
          · refine J_iload (i := 4) (j := 2) dX11_safe_42 rfl ?_
            refine J_goto (tgt := 48) dX11_safe_44 (by decide) ?_
            refine J_lv [0, 2] rfl ?_
            exact jn133 w91 (bd_w (l := (-1)) (h := 9) (bd_le_hi bw91 (i_nlt c117) (bd_c (v := 9) (lo := 9) (hi := 9) (by decide))) (by decide))
    refine J_lv [2, 1, 0] rfl ?_
    exact lp113 _ ((-1) : Int32) (0 : Int32) u5 (bd_w (l := (-1)) (h := 9) (bd_c (v := (-1)) (lo := (-1)) (hi := (-1)) (by decide)) (by decide)) (bd_w (l := 0) (h := 10) (bd_c (v := 0) (lo := 0) (hi := 0) (by decide)) (by decide)) (fun c k_ => rfl) (fun j k31_ k32_ k33_ => rfl) (bd_r ((fc11 31 (Nat.ne_of_beq_eq_false rfl) (Nat.ne_of_beq_eq_false rfl) (Nat.ne_of_beq_eq_false rfl) (Nat.ne_of_beq_eq_false rfl) (Nat.ne_of_beq_eq_false rfl) (Nat.ne_of_beq_eq_false rfl)).trans (ms_i e2 (Nat.ne_of_beq_eq_false rfl))) hp8) (Nat.lt_succ_self _)
  · refine J_iconst (v := (-1)) dX11_safe_14 (by decide) ?_
    exact J_iret hq dX11_safe_15 rfl wlen (Nat.le_refl _) (Nat.le_refl _) ⟨((-1) : Int32), u5, rfl, rfl, h6, h7, h8, (bd_r ((fc11 31 (Nat.ne_of_beq_eq_false rfl) (Nat.ne_of_beq_eq_false rfl) (Nat.ne_of_beq_eq_false rfl) (Nat.ne_of_beq_eq_false rfl) (Nat.ne_of_beq_eq_false rfl) (Nat.ne_of_beq_eq_false rfl)).trans (ms_i e2 (Nat.ne_of_beq_eq_false rfl))) hp8), (fun c k_ => ((fr10 c (nin_ne (a := 162) k_ rfl) (nin_ne (a := 172) k_ rfl)).trans (ms_c e2 (nin_ne (a := 162) k_ rfl)))), (fun j k0_ k22_ k23_ k24_ k25_ k26_ k27_ k31_ k32_ k33_ => ((fc11 j k22_ k23_ k24_ k25_ k26_ k27_).trans (ms_i e2 k0_)))⟩
set_option maxHeartbeats 4000000 in
set_option maxRecDepth 100000 in
theorem c_M_weighs {d : Nat} {u : Nat → Nat → Int32} {g : Nat → Nat → Int64} {ex : List MC} {hill : Int32} {plan : Int32} (hd : 5 ≤ d) (hp0 : (MY u)) (hp1 : AB u 168 (-1) 999) (hp2 : (HD u)) (hp3 : (HC u)) (hp4 : (PL u)) (hp5 : (N0 u)) (hp6 : (DN u)) (hp7 : Bd 0 9 (u 162 22)) (hp8 : Bd 0 511 (u 162 31)) (hp9 : AB u 177 (-1) 999) : CT con0 d 0 0 yX11_weighs cX11_weighs 12 (some .int) [.ref 162, .int hill, .int plan] (Wd u g ex) (fun r h2 => ∃ (z : Int32) (u2 : Nat → Nat → Int32), r = some (.int z) ∧ h2 = Wd u2 g ex ∧ Bd 0 9 (u2 162 22) ∧ (DN u2) ∧ (N0 u2) ∧ Bd 0 511 (u2 162 31) ∧ (∀ c, nin c [(162, 162), (172, 175)] = true → u2 c = u c) ∧ (∀ j, j ≠ 0 → j ≠ 22 → j ≠ 23 → j ≠ 24 → j ≠ 25 → j ≠ 26 → j ≠ 27 → j ≠ 31 → j ≠ 32 → j ≠ 33 → u2 162 j = u 162 j)) := by
  refine CT_of (by decide) (Nat.le_of_ble_eq_true rfl) (fun x hq => ?_)
  show J x yX11_weighs cX11_weighs 12 (some .int) d 0 0 (Wd u g ex).length 0 [(0, .ref 162), (1, .int hill), (2, .int plan)] [] (Wd u g ex) 0 0
  refine J_aload_n (i := 0) (j := 0) dX11_weighs_0 rfl rfl ?_
  refine J_iconst (v := 0) dX11_weighs_1 (by decide) ?_
  obtain ⟨u1, e2⟩ : ∃ z, z = ms u 162 0 0 := ⟨_, rfl⟩
  refine J_put (C := RX11) (T := TX11) (Z := 43) (ci := 11) (f := 0) (ty0 := tyX11) dX11_weighs_2 inG11 rfl tyX11_ok nmX11 (by decide) k1264 rfl rfl wc_162 (Nat.le_of_ble_eq_true rfl) (fun _ _ => ⟨rfl, rfl⟩) (ws e2 wk_162 rfl) ?_
  refine J_aload_n (i := 0) (j := 0) dX11_weighs_5 rfl rfl ?_
  refine J_iload_n (i := 1) (j := 1) dX11_weighs_6 rfl rfl ?_
  refine J_iload_n (i := 2) (j := 2) dX11_weighs_7 rfl rfl ?_
  refine J_callV (As := [.int hill, .int plan]) (rest := []) dX11_weighs_8 (c_M_lay (d := 2) (u := u1) (g := g) (ex := ex) (h := hill) (plan := plan)  (by decide) (my_c (ms_c e2 (Nat.ne_of_beq_eq_false rfl)) hp0) (ab_c (ms_c e2 (Nat.ne_of_beq_eq_false rfl)) hp1) (hd_c (ms_c e2 (Nat.ne_of_beq_eq_false rfl)) hp2) (hc_c (ms_c e2 (Nat.ne_of_beq_eq_false rfl)) (ms_c e2 (Nat.ne_of_beq_eq_false rfl)) hp3) (pl_c (ms_c e2 (Nat.ne_of_beq_eq_false rfl)) hp4) (n0_c (ms_c e2 (Nat.ne_of_beq_eq_false rfl)) hp5) (dn_c (ms_c e2 (Nat.ne_of_beq_eq_false rfl)) hp6) (bd_r (ms_i e2 (Nat.ne_of_beq_eq_false rfl)) hp7)) hq.n k1503 k1505 k52 wc_162 rfl rfl k97 k1506 np_X11_lay (Nat.le_trans (by decide) hd) (by decide) (Nat.le_refl _) (Nat.le_refl _) wlen rfl (Nat.le_of_ble_eq_true rfl) (fun r_ h_ p3 => ?_)
  obtain ⟨t4, u5, rfl, rfl, h6, h7, h8, h9, fr10, fc11⟩ := p3
  refine J_ifB_ne (tgt := 16) dX11_weighs_11 (by decide) (fun c12 => ?_) (fun c12 => ?_)
  · refine J_aload_n (i := 0) (j := 0) dX11_weighs_16 rfl rfl ?_
    refine J_iconst (v := (-1)) dX11_weighs_17 (by decide) ?_
    refine J_callV (As := [.int (-1)]) (rest := []) dX11_weighs_18 (c_M_meanBy (d := 4) (u := u5) (g := g) (ex := ex) (owner := (-1))  (by decide) h6 (h9 c12).1 h7 (bd_r ((fc11 31 (Nat.ne_of_beq_eq_false rfl) (Nat.ne_of_beq_eq_false rfl) (Nat.ne_of_beq_eq_false rfl) (Nat.ne_of_beq_eq_false rfl) (Nat.ne_of_beq_eq_false rfl) (Nat.ne_of_beq_eq_false rfl)).trans (ms_i e2 (Nat.ne_of_beq_eq_false rfl))) hp8)) hq.n k1596 k1598 k68 wc_162 rfl rfl k97 k1599 np_X11_meanBy (Nat.le_trans (by decide) hd) (by decide) (Nat.le_refl _) (Nat.le_refl _) wlen rfl (Nat.le_of_ble_eq_true rfl) (fun r_ h_ p13 => ?_)
    obtain ⟨l14, u15, rfl, rfl, h16, fr17, fc18⟩ := p13
    refine J_lstore_n (i := 3) (lw := [(3, .long l14), (0, .ref 162), (1, .int hill), (2, .int plan)]) dX11_weighs_21 rfl (by decide) rfl ?_
    refine J_iconst (v := (-1)) dX11_weighs_22 (by decide) ?_
    refine J_istore (i := 5) (lw := [(5, .int (-1)), (3, .long l14), (0, .ref 162), (1, .int hill), (2, .int plan)]) dX11_weighs_23 (by decide) rfl ?_
    refine J_lconst (v := 0) dX11_weighs_25 (by decide) ?_
    refine J_lstore (i := 6) (lw := [(6, .long 0), (5, .int (-1)), (3, .long l14), (0, .ref 162), (1, .int hill), (2, .int plan)]) dX11_weighs_26 (by decide) rfl ?_
    refine J_iconst (v := 0) dX11_weighs_28 (by decide) ?_
    refine J_istore (i := 8) (lw := [(8, .int 0), (6, .long 0), (5, .int (-1)), (3, .long l14), (0, .ref 162), (1, .int hill), (2, .int plan)]) dX11_weighs_29 (by decide) rfl ?_
    have lp374 : ∀ (n375 : Nat) (w252 : Int32) (w253 : Int64) (w254 : Int32) (u255 : Nat → Nat → Int32), Bd (-1) 9 w252 → Bd 0 9 w254 → (∀ c, nin c [(162, 162), (172, 175)] = true → u255 c = u15 c) → (∀ j, j ≠ 31 → j ≠ 32 → j ≠ 33 → u255 162 j = u15 162 j) → Bd 0 511 (u255 162 31) → AB u255 172 (-1) 999 → DN u255 → N0 u255 → RC u255 → (9 - w254.toInt).toNat < n375 → J x yX11_weighs cX11_weighs 12 (some .int) d 0 0 (Wd u g ex).length 31 [(0, .ref 162), (3, .long l14), (5, .int w252), (6, .long w253), (8, .int w254)] [] (Wd u255 g ex) 0 0 := by
      intro n375
      induction n375 with
      | zero => intro w252 w253 w254 u255 bw252 bw254 fr256 fc257 bm258 ab259 rf260 rf261 rf262 hm377; exact absurd hm377 (Nat.not_lt_zero _)
      | succ n375 ih376 =>
        intro w252 w253 w254 u255 bw252 bw254 fr256 fc257 bm258 ab259 rf260 rf261 rf262 hm377
        refine J_iload (i := 8) (j := 4) dX11_weighs_31 rfl ?_
        refine J_aload_n (i := 0) (j := 0) dX11_weighs_33 rfl rfl ?_
        refine J_get (C := RX11) (T := TX11) (Z := 43) (ci := 11) (f := 22) dX11_weighs_34 inG11 rfl (by decide) k1286 wc_162 rfl ?_
        refine J_ci (v := u5 162 22) ((fc257 22 (Nat.ne_of_beq_eq_false rfl) (Nat.ne_of_beq_eq_false rfl) (Nat.ne_of_beq_eq_false rfl)).trans (fc18 22 (Nat.ne_of_beq_eq_false rfl) (Nat.ne_of_beq_eq_false rfl) (Nat.ne_of_beq_eq_false rfl))) ?_
        refine J_icmp_ge (tgt := 125) dX11_weighs_37 (by decide) (fun c378 => ?_) (fun c378 => ?_)
        · refine J_iload (i := 5) (j := 2) dX11_weighs_125 rfl ?_
          exact J_iret hq dX11_weighs_127 rfl wlen (Nat.le_refl _) (Nat.le_refl _) ⟨w252, u255, rfl, rfl, (bd_r ((fc257 22 (Nat.ne_of_beq_eq_false rfl) (Nat.ne_of_beq_eq_false rfl) (Nat.ne_of_beq_eq_false rfl)).trans (fc18 22 (Nat.ne_of_beq_eq_false rfl) (Nat.ne_of_beq_eq_false rfl) (Nat.ne_of_beq_eq_false rfl))) h6), rf260, rf261, bm258, (fun c k_ => ((fr256 c (nin_sub (M := [(162, 162), (172, 175)]) k_ rfl)).trans ((fr17 c (nin_sub (M := [(162, 162), (173, 175)]) k_ rfl)).trans ((fr10 c (nin_ne (a := 162) k_ rfl) (nin_ne (a := 172) k_ rfl)).trans (ms_c e2 (nin_ne (a := 162) k_ rfl)))))), (fun j k0_ k22_ k23_ k24_ k25_ k26_ k27_ k31_ k32_ k33_ => ((fc257 j k31_ k32_ k33_).trans ((fc18 j k31_ k32_ k33_).trans ((fc11 j k22_ k23_ k24_ k25_ k26_ k27_).trans (ms_i e2 k0_)))))⟩
        · refine J_aload_n (i := 0) (j := 0) dX11_weighs_40 rfl rfl ?_
          refine J_iload (i := 8) (j := 4) dX11_weighs_41 rfl ?_
          refine J_iconst (v := 4) dX11_weighs_43 (by decide) ?_
          refine J_callV (As := [.int w254, .int 4]) (rest := []) dX11_weighs_44 (c_M_of (d := 0) (u := u255) (g := g) (ex := ex) (p := w254) (what := 4)  (by decide) (bd_lt_hi bw254 (i_nle c378) h6) (bd_w (l := 0) (h := 15) (bd_c (v := 4) (lo := 4) (hi := 4) (by decide)) (by decide))) hq.n k1515 k1517 k55 wc_162 rfl rfl k97 k1518 np_X11_of (Nat.le_trans (by decide) hd) (by decide) (Nat.le_refl _) (Nat.le_refl _) wlen rfl (Nat.le_of_ble_eq_true rfl) (fun r_ h_ p434 => ?_)
          obtain ⟨rfl, rfl⟩ := p434
          refine J_istore (i := 9) (lw := [(9, .int (mof u255 w254 (4 : Int32))), (0, .ref 162), (3, .long l14), (5, .int w252), (6, .long w253), (8, .int w254)]) dX11_weighs_47 (by decide) rfl ?_
          refine J_iload (i := 9) (j := 0) dX11_weighs_49 rfl ?_
          refine J_bipush (v := 10) dX11_weighs_51 (by decide) ?_
          have jn467 : ∀ (w457 : Int32) (w458 : Int64) (u459 : Nat → Nat → Int32), Bd (-1) 9 w457 → (∀ c, nin c [(162, 162), (172, 175)] = true → u459 c = u255 c) → (∀ j, j ≠ 31 → j ≠ 32 → j ≠ 33 → u459 162 j = u255 162 j) → Bd 0 511 (u459 162 31) → AB u459 172 (-1) 999 → DN u459 → N0 u459 → RC u459 → J x yX11_weighs cX11_weighs 12 (some .int) d 0 0 (Wd u g ex).length 119 [(0, .ref 162), (3, .long l14), (5, .int w457), (6, .long w458), (8, .int w254)] [] (Wd u459 g ex) 0 0 := by
            intro w457 w458 u459 bw457 fr460 fc461 bm462 ab463 rf464 rf465 rf466
            refine J_iinc (i := 8) (j := 4) (v := (w254 + 1)) (lw := [(8, .int (w254 + 1)), (0, .ref 162), (3, .long l14), (5, .int w457), (6, .long w458)]) dX11_weighs_119 rfl rfl (by decide) rfl ?_
            refine J_goto (tgt := 31) dX11_weighs_122 (by decide) ?_
            refine J_lv [1, 2, 3, 4, 0] rfl ?_
            exact ih376 w457 w458 (w254 + 1) u459 bw457 (bd_w (l := 0) (h := 9) (bd_add (l := 1) (h := 9) (bd_lt_hi bw254 (i_nle c378) h6) (bd_c (v := 1) (lo := 1) (hi := 1) (by decide)) (by decide)) (by decide)) (fun c k_ => ((fr460 c (nin_sub (M := [(162, 162), (172, 175)]) k_ rfl)).trans (fr256 c (nin_sub (M := [(162, 162), (172, 175)]) k_ rfl)))) (fun j k31_ k32_ k33_ => ((fc461 j k31_ k32_ k33_).trans (fc257 j k31_ k32_ k33_))) bm462 ab463 rf464 rf465 rf466 (mu_up 1 bw254 rfl (by decide) (bd_w (l := 1) (h := 9) (bd_add (l := 1) (h := 9) (bd_lt_hi bw254 (i_nle c378) h6) (bd_c (v := 1) (lo := 1) (hi := 1) (by decide)) (by decide)) (by decide)) hm377)
          refine J_icmp_ge (tgt := 119) dX11_weighs_53 (by decide) (fun c435 => ?_) (fun c435 => ?_)
          · refine J_lv [1, 2, 3, 4, 5] rfl ?_
            exact jn467 w252 w253 u255 bw252 (fun c k_ => rfl) (fun j k31_ k32_ k33_ => rfl) bm258 ab259 rf260 rf261 rf262
          · refine J_aload_n (i := 0) (j := 1) dX11_weighs_56 rfl rfl ?_
            refine J_iload (i := 8) (j := 5) dX11_weighs_57 rfl ?_
            refine J_iconst (v := 4) dX11_weighs_59 (by decide) ?_
            refine J_iload (i := 9) (j := 0) dX11_weighs_60 rfl ?_
            refine J_iconst (v := 1) dX11_weighs_62 (by decide) ?_
            refine J_iadd dX11_weighs_63 ?_
            refine J_callV (As := [.int w254, .int 4, .int ((mof u255 w254 (4 : Int32)) + 1)]) (rest := []) dX11_weighs_64 (c_M_set (d := 0) (u := u255) (g := g) (ex := ex) (p := w254) (what := 4) (v := ((mof u255 w254 (4 : Int32)) + 1))  (by decide) (bd_lt_hi bw254 (i_nle c378) h6) (bd_w (l := 0) (h := 15) (bd_c (v := 4) (lo := 4) (hi := 4) (by decide)) (by decide))) hq.n k1519 k1521 k56 wc_162 rfl rfl k97 k1522 np_X11_set (Nat.le_trans (by decide) hd) (by decide) (Nat.le_refl _) (Nat.le_refl _) wlen rfl (Nat.le_of_ble_eq_true rfl) (fun r_ h_ p468 => ?_)
            obtain ⟨u469, rfl, rfl, h470, fr471⟩ := p468
            refine J_aload_n (i := 0) (j := 1) dX11_weighs_67 rfl rfl ?_
            refine J_iconst (v := (-1)) dX11_weighs_68 (by decide) ?_
            refine J_callV (As := [.int (-1)]) (rest := []) dX11_weighs_69 (c_M_meanBy (d := 4) (u := u469) (g := g) (ex := ex) (owner := (-1))  (by decide) (bd_r ((congrFun (ms_c h470 (Nat.ne_of_beq_eq_false rfl)) 22).trans ((fc257 22 (Nat.ne_of_beq_eq_false rfl) (Nat.ne_of_beq_eq_false rfl) (Nat.ne_of_beq_eq_false rfl)).trans (fc18 22 (Nat.ne_of_beq_eq_false rfl) (Nat.ne_of_beq_eq_false rfl) (Nat.ne_of_beq_eq_false rfl)))) (bd_w (l := 0) (h := 9) (bd_lt_lo h6 (i_nle c378) bw254) (by decide))) (rc_s h470 (bd_lt_hi bw254 (i_nle c378) h6) (bd_w (l := 0) (h := 15) (bd_c (v := 4) (lo := 4) (hi := 4) (by decide)) (by decide)) rf262) (dn_s h470 (bd_lt_hi bw254 (i_nle c378) h6) (by decide) rf260) (bd_r (congrFun (ms_c h470 (Nat.ne_of_beq_eq_false rfl)) 31) bm258)) hq.n k1596 k1598 k68 wc_162 rfl rfl k97 k1599 np_X11_meanBy (Nat.le_trans (by decide) hd) (by decide) (Nat.le_refl _) (Nat.le_refl _) wlen rfl (Nat.le_of_ble_eq_true rfl) (fun r_ h_ p472 => ?_)
            obtain ⟨l473, u474, rfl, rfl, h475, fr476, fc477⟩ := p472
            refine J_lload_n (i := 3) (j := 2) dX11_weighs_72 rfl rfl ?_
            refine J_lsub dX11_weighs_73 ?_
            refine J_topl (fun l478 _ => ?_)
            refine J_lstore (i := 10) (lw := [(10, .long l478), (9, .int (mof u255 w254 (4 : Int32))), (0, .ref 162), (3, .long l14), (5, .int w252), (6, .long w253), (8, .int w254)]) dX11_weighs_74 (by decide) rfl ?_
            refine J_aload_n (i := 0) (j := 2) dX11_weighs_76 rfl rfl ?_
            refine J_iload (i := 8) (j := 6) dX11_weighs_77 rfl ?_
            refine J_iconst (v := 4) dX11_weighs_79 (by decide) ?_
            refine J_iload (i := 9) (j := 1) dX11_weighs_80 rfl ?_
            refine J_callV (As := [.int w254, .int 4, .int (mof u255 w254 (4 : Int32))]) (rest := []) dX11_weighs_82 (c_M_set (d := 0) (u := u474) (g := g) (ex := ex) (p := w254) (what := 4) (v := (mof u255 w254 (4 : Int32)))  (by decide) (bd_lt_hi bw254 (i_nle c378) h6) (bd_w (l := 0) (h := 15) (bd_c (v := 4) (lo := 4) (hi := 4) (by decide)) (by decide))) hq.n k1519 k1521 k56 wc_162 rfl rfl k97 k1522 np_X11_set (Nat.le_trans (by decide) hd) (by decide) (Nat.le_refl _) (Nat.le_refl _) wlen rfl (Nat.le_of_ble_eq_true rfl) (fun r_ h_ p479 => ?_)
            obtain ⟨u480, rfl, rfl, h481, fr482⟩ := p479
            refine J_lload (i := 10) (j := 0) dX11_weighs_85 rfl ?_
            refine J_lload (i := 6) (j := 5) dX11_weighs_87 rfl ?_
            refine J_lcmp dX11_weighs_89 ?_
            have jn485 : ∀ (w484 : Int32), Bd (-1) 9 w484 → J x yX11_weighs cX11_weighs 12 (some .int) d 0 0 (Wd u g ex).length 100 [(0, .ref 162), (3, .long l14), (6, .long w253), (8, .int w254), (10, .long l478)] [.int w484] (Wd u480 g ex) 0 0 := by
              intro w484 bw484
              refine J_istore (i := 5) (lw := [(5, .int w484), (0, .ref 162), (3, .long l14), (6, .long w253), (8, .int w254), (10, .long l478)]) dX11_weighs_100 (by decide) rfl ?_
              refine J_lload (i := 10) (j := 5) dX11_weighs_102 rfl ?_
              refine J_lload (i := 6) (j := 3) dX11_weighs_104 rfl ?_
              refine J_lcmp dX11_weighs_106 ?_
              have jn488 : ∀ (w487 : Int64), J x yX11_weighs cX11_weighs 12 (some .int) d 0 0 (Wd u g ex).length 117 [(0, .ref 162), (3, .long l14), (5, .int w484), (8, .int w254)] [.long w487] (Wd u480 g ex) 0 0 := by
                intro w487
                refine J_lstore (i := 6) (lw := [(6, .long w487), (0, .ref 162), (3, .long l14), (5, .int w484), (8, .int w254)]) dX11_weighs_117 (by decide) rfl ?_
                refine J_lv [1, 2, 3, 0, 4] rfl ?_
                exact jn467 w484 w487 u480 bw484 (fun c k_ => ((ms_c h481 (nin_ne (a := 172) k_ rfl)).trans ((fr476 c (nin_sub (M := [(162, 162), (173, 175)]) k_ rfl)).trans (ms_c h470 (nin_ne (a := 172) k_ rfl))))) (fun j k31_ k32_ k33_ => ((congrFun (ms_c h481 (Nat.ne_of_beq_eq_false rfl)) j).trans ((fc477 j k31_ k32_ k33_).trans (congrFun (ms_c h470 (Nat.ne_of_beq_eq_false rfl)) j)))) (bd_r (congrFun (ms_c h481 (Nat.ne_of_beq_eq_false rfl)) 31) h475) (ab_s h481 (ab_c (fr476 172 rfl) (ab_s h470 ab259 (bd_w (l := (-1)) (h := 999) (bd_add (l := 0) (h := 10) (bd_lt_hi (ab259 _) (i_nle c435) (bd_c (v := 10) (lo := 10) (hi := 10) (by decide))) (bd_c (v := 1) (lo := 1) (hi := 1) (by decide)) (by decide)) (by decide)))) (bd_w (l := (-1)) (h := 999) (bd_lt_hi (ab259 _) (i_nle c435) (bd_c (v := 10) (lo := 10) (hi := 10) (by decide))) (by decide))) (dn_s h481 (bd_lt_hi bw254 (i_nle c378) h6) (by decide) (dn_c (fr476 172 rfl) (dn_s h470 (bd_lt_hi bw254 (i_nle c378) h6) (by decide) rf260))) (n0_s h481 (bd_lt_hi bw254 (i_nle c378) h6) (bd_w (l := 0) (h := 15) (bd_c (v := 4) (lo := 4) (hi := 4) (by decide)) (by decide)) (n0_c (fr476 172 rfl) (n0_s h470 (bd_lt_hi bw254 (i_nle c378) h6) (bd_w (l := 0) (h := 15) (bd_c (v := 4) (lo := 4) (hi := 4) (by decide)) (by decide)) rf261))) (rc_s h481 (bd_lt_hi bw254 (i_nle c378) h6) (bd_w (l := 0) (h := 15) (bd_c (v := 4) (lo := 4) (hi := 4) (by decide)) (by decide)) (rc_c (fr476 172 rfl) (rc_s h470 (bd_lt_hi bw254 (i_nle c378) h6) (bd_w (l := 0) (h := 15) (bd_c (v := 4) (lo := 4) (hi := 4) (by decide)) (by decide)) rf262)))
              refine J_if_le (tgt := 115) dX11_weighs_107 (by decide) (fun c486 => ?_) (fun c486 => ?_)
              · refine J_lload (i := 6) (j := 3) dX11_weighs_115 rfl ?_
                refine J_lv [1, 2, 0, 4] rfl ?_
                exact jn488 w253 
              · refine J_lload (i := 10) (j := 5) dX11_weighs_110 rfl ?_
                refine J_goto (tgt := 117) dX11_weighs_112 (by decide) ?_
                refine J_lv [1, 2, 0, 4] rfl ?_
                exact jn488 l478 
            refine J_if_le (tgt := 98) dX11_weighs_90 (by decide) (fun c483 => ?_) (fun c483 => ?_)
            · refine J_iload (i := 5) (j := 4) dX11_weighs_98 rfl ?_
              refine J_lv [2, 3, 5, 6, 0] rfl ?_
              exact jn485 w252 bw252
            · refine J_iload (i := 8) (j := 6) dX11_weighs_93 rfl ?_
              refine J_goto (tgt := 100) dX11_weighs_95 (by decide) ?_
              refine J_lv [2, 3, 5, 6, 0] rfl ?_
              exact jn485 w254 (bd_w (l := (-1)) (h := 9) (bd_lt_hi bw254 (i_nle c378) h6) (by decide))
    refine J_lv [4, 3, 2, 1, 0] rfl ?_
    exact lp374 _ ((-1) : Int32) (0 : Int64) (0 : Int32) u15 (bd_w (l := (-1)) (h := 9) (bd_c (v := (-1)) (lo := (-1)) (hi := (-1)) (by decide)) (by decide)) (bd_w (l := 0) (h := 9) (bd_c (v := 0) (lo := 0) (hi := 0) (by decide)) (by decide)) (fun c k_ => rfl) (fun j k31_ k32_ k33_ => rfl) h16 (ab_c (fr17 172 rfl) (h9 c12).2) (dn_c (fr17 172 rfl) h7) (n0_c (fr17 172 rfl) h8) (rc_c (fr17 172 rfl) (h9 c12).1) (Nat.lt_succ_self _)
  · refine J_iconst (v := (-1)) dX11_weighs_14 (by decide) ?_
    exact J_iret hq dX11_weighs_15 rfl wlen (Nat.le_refl _) (Nat.le_refl _) ⟨((-1) : Int32), u5, rfl, rfl, h6, h7, h8, (bd_r ((fc11 31 (Nat.ne_of_beq_eq_false rfl) (Nat.ne_of_beq_eq_false rfl) (Nat.ne_of_beq_eq_false rfl) (Nat.ne_of_beq_eq_false rfl) (Nat.ne_of_beq_eq_false rfl) (Nat.ne_of_beq_eq_false rfl)).trans (ms_i e2 (Nat.ne_of_beq_eq_false rfl))) hp8), (fun c k_ => ((fr10 c (nin_ne (a := 162) k_ rfl) (nin_ne (a := 172) k_ rfl)).trans (ms_c e2 (nin_ne (a := 162) k_ rfl)))), (fun j k0_ k22_ k23_ k24_ k25_ k26_ k27_ k31_ k32_ k33_ => ((fc11 j k22_ k23_ k24_ k25_ k26_ k27_).trans (ms_i e2 k0_)))⟩
set_option maxHeartbeats 4000000 in
set_option maxRecDepth 100000 in
theorem c_M_upon {d : Nat} {u : Nat → Nat → Int32} {g : Nat → Nat → Int64} {ex : List MC} {hill : Int32} {plan : Int32} {pond : Int32} {below : Int32} (hd : 3 ≤ d) (hp0 : (MY u)) (hp1 : AB u 168 (-1) 999) (hp2 : (HD u)) (hp3 : (HC u)) (hp4 : (PL u)) (hp5 : (N0 u)) (hp6 : (DN u)) (hp7 : Bd 0 9 (u 162 22)) (hp8 : Bd 0 511 (u 162 31)) (hp9 : AB u 177 (-1) 999) : CT con0 d 0 0 yX11_upon cX11_upon 9 (some .int) [.ref 162, .int hill, .int plan, .int pond, .int below] (Wd u g ex) (fun r h2 => ∃ (z : Int32) (u2 : Nat → Nat → Int32), r = some (.int z) ∧ h2 = Wd u2 g ex ∧ Bd 0 9 (u2 162 22) ∧ (DN u2) ∧ (N0 u2) ∧ Bd 0 511 (u2 162 31) ∧ (∀ c, nin c [(162, 162), (172, 175)] = true → u2 c = u c) ∧ (∀ j, j ≠ 0 → j ≠ 22 → j ≠ 23 → j ≠ 24 → j ≠ 25 → j ≠ 26 → j ≠ 27 → j ≠ 31 → j ≠ 32 → j ≠ 33 → u2 162 j = u 162 j)) := by
  refine CT_of (by decide) (Nat.le_of_ble_eq_true rfl) (fun x hq => ?_)
  show J x yX11_upon cX11_upon 9 (some .int) d 0 0 (Wd u g ex).length 0 [(0, .ref 162), (1, .int hill), (2, .int plan), (3, .int pond), (4, .int below)] [] (Wd u g ex) 0 0
  refine J_aload_n (i := 0) (j := 0) dX11_upon_0 rfl rfl ?_
  refine J_iconst (v := 0) dX11_upon_1 (by decide) ?_
  obtain ⟨u1, e2⟩ : ∃ z, z = ms u 162 0 0 := ⟨_, rfl⟩
  refine J_put (C := RX11) (T := TX11) (Z := 43) (ci := 11) (f := 0) (ty0 := tyX11) dX11_upon_2 inG11 rfl tyX11_ok nmX11 (by decide) k1264 rfl rfl wc_162 (Nat.le_of_ble_eq_true rfl) (fun _ _ => ⟨rfl, rfl⟩) (ws e2 wk_162 rfl) ?_
  refine J_aload_n (i := 0) (j := 0) dX11_upon_5 rfl rfl ?_
  refine J_iload_n (i := 1) (j := 1) dX11_upon_6 rfl rfl ?_
  refine J_iload_n (i := 2) (j := 2) dX11_upon_7 rfl rfl ?_
  refine J_callV (As := [.int hill, .int plan]) (rest := []) dX11_upon_8 (c_M_lay (d := 2) (u := u1) (g := g) (ex := ex) (h := hill) (plan := plan)  (by decide) (my_c (ms_c e2 (Nat.ne_of_beq_eq_false rfl)) hp0) (ab_c (ms_c e2 (Nat.ne_of_beq_eq_false rfl)) hp1) (hd_c (ms_c e2 (Nat.ne_of_beq_eq_false rfl)) hp2) (hc_c (ms_c e2 (Nat.ne_of_beq_eq_false rfl)) (ms_c e2 (Nat.ne_of_beq_eq_false rfl)) hp3) (pl_c (ms_c e2 (Nat.ne_of_beq_eq_false rfl)) hp4) (n0_c (ms_c e2 (Nat.ne_of_beq_eq_false rfl)) hp5) (dn_c (ms_c e2 (Nat.ne_of_beq_eq_false rfl)) hp6) (bd_r (ms_i e2 (Nat.ne_of_beq_eq_false rfl)) hp7)) hq.n k1503 k1505 k52 wc_162 rfl rfl k97 k1506 np_X11_lay (Nat.le_trans (by decide) hd) (by decide) (Nat.le_refl _) (Nat.le_refl _) wlen rfl (Nat.le_of_ble_eq_true rfl) (fun r_ h_ p3 => ?_)
  obtain ⟨t4, u5, rfl, rfl, h6, h7, h8, h9, fr10, fc11⟩ := p3
  refine J_ifB_eq (tgt := 22) dX11_upon_11 (by decide) (fun c12 => ?_) (fun c12 => ?_)
  · refine J_iconst (v := (-1)) dX11_upon_22 (by decide) ?_
    exact J_iret hq dX11_upon_23 rfl wlen (Nat.le_refl _) (Nat.le_refl _) ⟨((-1) : Int32), u5, rfl, rfl, h6, h7, h8, (bd_r ((fc11 31 (Nat.ne_of_beq_eq_false rfl) (Nat.ne_of_beq_eq_false rfl) (Nat.ne_of_beq_eq_false rfl) (Nat.ne_of_beq_eq_false rfl) (Nat.ne_of_beq_eq_false rfl) (Nat.ne_of_beq_eq_false rfl)).trans (ms_i e2 (Nat.ne_of_beq_eq_false rfl))) hp8), (fun c k_ => ((fr10 c (nin_ne (a := 162) k_ rfl) (nin_ne (a := 172) k_ rfl)).trans (ms_c e2 (nin_ne (a := 162) k_ rfl)))), (fun j k0_ k22_ k23_ k24_ k25_ k26_ k27_ k31_ k32_ k33_ => ((fc11 j k22_ k23_ k24_ k25_ k26_ k27_).trans (ms_i e2 k0_)))⟩
  · refine J_aload_n (i := 0) (j := 0) dX11_upon_14 rfl rfl ?_
    refine J_iload_n (i := 3) (j := 3) dX11_upon_15 rfl rfl ?_
    refine J_callV (As := [.int pond]) (rest := []) dX11_upon_16 (c_M_isPond (d := 1) (u := u5) (g := g) (ex := ex) (p := pond)  (by decide) h6) hq.n k1523 k1525 k57 wc_162 rfl rfl k97 k1526 np_X11_isPond (Nat.le_trans (by decide) hd) (by decide) (Nat.le_refl _) (Nat.le_refl _) wlen rfl (Nat.le_of_ble_eq_true rfl) (fun r_ h_ p13 => ?_)
    obtain ⟨t14, rfl, rfl, h15⟩ := p13
    refine J_ifB_ne (tgt := 24) dX11_upon_19 (by decide) (fun c16 => ?_) (fun c16 => ?_)
    · refine J_iconst (v := 1) dX11_upon_24 (by decide) ?_
      refine J_iload_n (i := 3) (j := 3) dX11_upon_25 rfl rfl ?_
      refine J_ishl dX11_upon_26 ?_
      refine J_istore (i := 5) (lw := [(5, .int ((1 : Int32) <<< (pond &&& 31))), (0, .ref 162), (1, .int hill), (2, .int plan), (3, .int pond), (4, .int below)]) dX11_upon_27 (by decide) rfl ?_
      refine J_iconst (v := 0) dX11_upon_29 (by decide) ?_
      refine J_istore (i := 6) (lw := [(6, .int 0), (5, .int ((1 : Int32) <<< (pond &&& 31))), (0, .ref 162), (1, .int hill), (2, .int plan), (3, .int pond), (4, .int below)]) dX11_upon_30 (by decide) rfl ?_
      have lp17184 : ∀ (n17185 : Nat) (w11461 : Int32) (w11462 : Int32), Bd 0 511 w11461 → Bd 0 9 w11462 → (9 - w11462.toInt).toNat < n17185 → J x yX11_upon cX11_upon 9 (some .int) d 0 0 (Wd u g ex).length 32 [(0, .ref 162), (3, .int pond), (4, .int below), (5, .int w11461), (6, .int w11462)] [] (Wd u5 g ex) 0 0 := by
        intro n17185
        induction n17185 with
        | zero => intro w11461 w11462 bw11461 bw11462 hm17187; exact absurd hm17187 (Nat.not_lt_zero _)
        | succ n17185 ih17186 =>
          intro w11461 w11462 bw11461 bw11462 hm17187
          refine J_iload (i := 6) (j := 4) dX11_upon_32 rfl ?_
          refine J_aload_n (i := 0) (j := 0) dX11_upon_34 rfl rfl ?_
          refine J_get (C := RX11) (T := TX11) (Z := 43) (ci := 11) (f := 22) dX11_upon_35 inG11 rfl (by decide) k1286 wc_162 rfl ?_
          refine J_icmp_ge (tgt := 144) dX11_upon_38 (by decide) (fun c17188 => ?_) (fun c17188 => ?_)
          · refine J_iload (i := 5) (j := 3) dX11_upon_144 rfl ?_
            refine J_iconst (v := 1) dX11_upon_146 (by decide) ?_
            refine J_iload_n (i := 3) (j := 1) dX11_upon_147 rfl rfl ?_
            refine J_ishl dX11_upon_148 ?_
            refine J_iconst (v := (-1)) dX11_upon_149 (by decide) ?_
            refine J_ixor dX11_upon_150 ?_
            refine J_iand dX11_upon_151 ?_
            exact J_iret hq dX11_upon_152 rfl wlen (Nat.le_refl _) (Nat.le_refl _) ⟨(w11461 &&& (((1 : Int32) <<< (pond &&& 31)) ^^^ (-1))), u5, rfl, rfl, h6, h7, h8, (bd_r ((fc11 31 (Nat.ne_of_beq_eq_false rfl) (Nat.ne_of_beq_eq_false rfl) (Nat.ne_of_beq_eq_false rfl) (Nat.ne_of_beq_eq_false rfl) (Nat.ne_of_beq_eq_false rfl) (Nat.ne_of_beq_eq_false rfl)).trans (ms_i e2 (Nat.ne_of_beq_eq_false rfl))) hp8), (fun c k_ => ((fr10 c (nin_ne (a := 162) k_ rfl) (nin_ne (a := 172) k_ rfl)).trans (ms_c e2 (nin_ne (a := 162) k_ rfl)))), (fun j k0_ k22_ k23_ k24_ k25_ k26_ k27_ k31_ k32_ k33_ => ((fc11 j k22_ k23_ k24_ k25_ k26_ k27_).trans (ms_i e2 k0_)))⟩
          · refine J_iconst (v := 0) dX11_upon_41 (by decide) ?_
            refine J_istore (i := 7) (lw := [(7, .int 0), (0, .ref 162), (3, .int pond), (4, .int below), (5, .int w11461), (6, .int w11462)]) dX11_upon_42 (by decide) rfl ?_
            have lp22192 : ∀ (n22193 : Nat) (w21477 : Int32) (w21478 : Int32), Bd 0 511 w21477 → Bd 0 9 w21478 → (9 - w21478.toInt).toNat < n22193 → J x yX11_upon cX11_upon 9 (some .int) d 0 0 (Wd u g ex).length 44 [(0, .ref 162), (3, .int pond), (4, .int below), (5, .int w21477), (6, .int w11462), (7, .int w21478)] [] (Wd u5 g ex) 0 0 := by
              intro n22193
              induction n22193 with
              | zero => intro w21477 w21478 bw21477 bw21478 hm22195; exact absurd hm22195 (Nat.not_lt_zero _)
              | succ n22193 ih22194 =>
                intro w21477 w21478 bw21477 bw21478 hm22195
                refine J_iload (i := 7) (j := 5) dX11_upon_44 rfl ?_
                refine J_aload_n (i := 0) (j := 0) dX11_upon_46 rfl rfl ?_
                refine J_get (C := RX11) (T := TX11) (Z := 43) (ci := 11) (f := 22) dX11_upon_47 inG11 rfl (by decide) k1286 wc_162 rfl ?_
                refine J_icmp_ge (tgt := 138) dX11_upon_50 (by decide) (fun c22196 => ?_) (fun c22196 => ?_)
                · refine J_iinc (i := 6) (j := 4) (v := (w11462 + 1)) (lw := [(6, .int (w11462 + 1)), (0, .ref 162), (3, .int pond), (4, .int below), (5, .int w21477), (7, .int w21478)]) dX11_upon_138 rfl rfl (by decide) rfl ?_
                  refine J_goto (tgt := 32) dX11_upon_141 (by decide) ?_
                  refine J_lv [1, 2, 3, 4, 0] rfl ?_
                  exact ih17186 w21477 (w11462 + 1) bw21477 (bd_w (l := 0) (h := 9) (bd_add (l := 1) (h := 9) (bd_lt_hi bw11462 (i_nle c17188) h6) (bd_c (v := 1) (lo := 1) (hi := 1) (by decide)) (by decide)) (by decide)) (mu_up 1 bw11462 rfl (by decide) (bd_w (l := 1) (h := 9) (bd_add (l := 1) (h := 9) (bd_lt_hi bw11462 (i_nle c17188) h6) (bd_c (v := 1) (lo := 1) (hi := 1) (by decide)) (by decide)) (by decide)) hm17187)
                · refine J_iconst (v := 0) dX11_upon_53 (by decide) ?_
                  refine J_istore (i := 8) (lw := [(8, .int 0), (0, .ref 162), (3, .int pond), (4, .int below), (5, .int w21477), (6, .int w11462), (7, .int w21478)]) dX11_upon_54 (by decide) rfl ?_
                  have lp22818 : ∀ (n22819 : Nat) (w22729 : Int32) (w22730 : Int32), Bd 0 511 w22729 → Bd 0 9 w22730 → (9 - w22730.toInt).toNat < n22819 → J x yX11_upon cX11_upon 9 (some .int) d 0 0 (Wd u g ex).length 56 [(0, .ref 162), (3, .int pond), (4, .int below), (5, .int w22729), (6, .int w11462), (7, .int w21478), (8, .int w22730)] [] (Wd u5 g ex) 0 0 := by
                    intro n22819
                    induction n22819 with
                    | zero => intro w22729 w22730 bw22729 bw22730 hm22821; exact absurd hm22821 (Nat.not_lt_zero _)
                    | succ n22819 ih22820 =>
                      intro w22729 w22730 bw22729 bw22730 hm22821
                      refine J_iload (i := 8) (j := 6) dX11_upon_56 rfl ?_
                      refine J_aload_n (i := 0) (j := 0) dX11_upon_58 rfl rfl ?_
                      refine J_get (C := RX11) (T := TX11) (Z := 43) (ci := 11) (f := 22) dX11_upon_59 inG11 rfl (by decide) k1286 wc_162 rfl ?_
                      refine J_icmp_ge (tgt := 132) dX11_upon_62 (by decide) (fun c22822 => ?_) (fun c22822 => ?_)
                      · refine J_iinc (i := 7) (j := 5) (v := (w21478 + 1)) (lw := [(7, .int (w21478 + 1)), (0, .ref 162), (3, .int pond), (4, .int below), (5, .int w22729), (6, .int w11462), (8, .int w22730)]) dX11_upon_132 rfl rfl (by decide) rfl ?_
                        refine J_goto (tgt := 44) dX11_upon_135 (by decide) ?_
                        refine J_lv [1, 2, 3, 4, 5, 0] rfl ?_
                        exact ih22194 w22729 (w21478 + 1) bw22729 (bd_w (l := 0) (h := 9) (bd_add (l := 1) (h := 9) (bd_lt_hi bw21478 (i_nle c22196) (bd_lt_lo h6 (i_nle c17188) bw11462)) (bd_c (v := 1) (lo := 1) (hi := 1) (by decide)) (by decide)) (by decide)) (mu_up 1 bw21478 rfl (by decide) (bd_w (l := 1) (h := 9) (bd_add (l := 1) (h := 9) (bd_lt_hi bw21478 (i_nle c22196) (bd_lt_lo h6 (i_nle c17188) bw11462)) (bd_c (v := 1) (lo := 1) (hi := 1) (by decide)) (by decide)) (by decide)) hm22195)
                      · refine J_aload_n (i := 0) (j := 0) dX11_upon_65 rfl rfl ?_
                        refine J_iload (i := 7) (j := 5) dX11_upon_66 rfl ?_
                        refine J_iload (i := 8) (j := 6) dX11_upon_68 rfl ?_
                        refine J_callV (As := [.int w21478, .int w22730]) (rest := []) dX11_upon_70 (c_M_leads (d := 1) (u := u5) (g := g) (ex := ex) (uu := w21478) (p := w22730)  (by decide) (bd_lt_hi bw21478 (i_nle c22196) (bd_lt_lo h6 (i_nle c17188) bw11462))) hq.n k1747 k1749 k83 wc_162 rfl rfl k97 k1750 np_X11_leads (Nat.le_trans (by decide) hd) (by decide) (Nat.le_refl _) (Nat.le_refl _) wlen rfl (Nat.le_of_ble_eq_true rfl) (fun r_ h_ p22866 => ?_)
                        obtain ⟨t22867, rfl, rfl⟩ := p22866
                        have jn22889 : ∀ (w22888 : Int32), Bd 0 511 w22888 → J x yX11_upon cX11_upon 9 (some .int) d 0 0 (Wd u g ex).length 126 [(0, .ref 162), (3, .int pond), (4, .int below), (5, .int w22888), (6, .int w11462), (7, .int w21478), (8, .int w22730)] [] (Wd u5 g ex) 0 0 := by
                          intro w22888 bw22888
                          refine J_iinc (i := 8) (j := 6) (v := (w22730 + 1)) (lw := [(8, .int (w22730 + 1)), (0, .ref 162), (3, .int pond), (4, .int below), (5, .int w22888), (6, .int w11462), (7, .int w21478)]) dX11_upon_126 rfl rfl (by decide) rfl ?_
                          refine J_goto (tgt := 56) dX11_upon_129 (by decide) ?_
                          refine J_lv [1, 2, 3, 4, 5, 6, 0] rfl ?_
                          exact ih22820 w22888 (w22730 + 1) bw22888 (bd_w (l := 0) (h := 9) (bd_add (l := 1) (h := 9) (bd_lt_hi bw22730 (i_nle c22822) (bd_lt_lo h6 (i_nle c17188) bw11462)) (bd_c (v := 1) (lo := 1) (hi := 1) (by decide)) (by decide)) (by decide)) (mu_up 1 bw22730 rfl (by decide) (bd_w (l := 1) (h := 9) (bd_add (l := 1) (h := 9) (bd_lt_hi bw22730 (i_nle c22822) (bd_lt_lo h6 (i_nle c17188) bw11462)) (bd_c (v := 1) (lo := 1) (hi := 1) (by decide)) (by decide)) (by decide)) hm22821)
                        refine J_ifB_eq (tgt := 126) dX11_upon_73 (by decide) (fun c22868 => ?_) (fun c22868 => ?_)
                        · refine J_lv [0, 1, 2, 3, 4, 5, 6] rfl ?_
                          exact jn22889 w22729 bw22729
                        · refine J_iload (i := 5) (j := 3) dX11_upon_76 rfl ?_
                          refine J_iload (i := 4) (j := 2) dX11_upon_78 rfl ?_
                          have jn22900 : ∀ (w22899 : Int32), Bd 0 256 w22899 → J x yX11_upon cX11_upon 9 (some .int) d 0 0 (Wd u g ex).length 123 [(0, .ref 162), (3, .int pond), (4, .int below), (6, .int w11462), (7, .int w21478), (8, .int w22730)] [.int w22899, .int w22729] (Wd u5 g ex) 0 0 := by
                            intro w22899 bw22899
                            refine J_ior dX11_upon_123 ?_
                            refine J_istore (i := 5) (lw := [(5, .int (w22729 ||| w22899)), (0, .ref 162), (3, .int pond), (4, .int below), (6, .int w11462), (7, .int w21478), (8, .int w22730)]) dX11_upon_124 (by decide) rfl ?_
                            refine J_lv [1, 2, 3, 0, 4, 5, 6] rfl ?_
                            exact jn22889 (w22729 ||| w22899) (bd_or (k := 9) (h := 511) bw22729 bw22899 (by decide))
                          refine J_if_eq (tgt := 100) dX11_upon_80 (by decide) (fun c22890 => ?_) (fun c22890 => ?_)
                          · refine J_iload (i := 4) (j := 2) dX11_upon_100 rfl ?_
                            refine J_if_ne (tgt := 122) dX11_upon_102 (by decide) (fun c22901 => ?_) (fun c22901 => ?_)
                            · exact (bd_no (bd_ne_lo (bd_r c22890 (bd_c (v := 0) (lo := 0) (hi := 0) (by decide))) c22901 (by decide)) (by decide)).elim
                            · refine J_iload (i := 5) (j := 3) dX11_upon_105 rfl ?_
                              refine J_iload (i := 8) (j := 6) dX11_upon_107 rfl ?_
                              refine J_callS (As := [.int w22729, .int w22730]) (rest := [.int w22729]) dX11_upon_109 (c_M_has (d := 0) (u := u5) (g := g) (ex := ex) (set := w22729) (k := w22730)  (by decide) ) hq.n k1555 k1556 k97 k1557 np_X11_has (Nat.le_trans (by decide) hd) (by decide) (Nat.le_refl _) (Nat.le_refl _) wlen rfl (Nat.le_of_ble_eq_true rfl) (fun r_ h_ p22902 => ?_)
                              obtain ⟨t22903, rfl, rfl⟩ := p22902
                              refine J_ifB_eq (tgt := 122) dX11_upon_112 (by decide) (fun c22904 => ?_) (fun c22904 => ?_)
                              · refine J_iconst (v := 0) dX11_upon_122 (by decide) ?_
                                refine J_lv [0, 1, 2, 4, 5, 6] rfl ?_
                                exact jn22900 (0 : Int32) (bd_w (l := 0) (h := 256) (bd_c (v := 0) (lo := 0) (hi := 0) (by decide)) (by decide))
                              · refine J_iconst (v := 1) dX11_upon_115 (by decide) ?_
                                refine J_iload (i := 7) (j := 5) dX11_upon_116 rfl ?_
                                refine J_ishl dX11_upon_118 ?_
                                refine J_goto (tgt := 123) dX11_upon_119 (by decide) ?_
                                refine J_lv [0, 1, 2, 4, 5, 6] rfl ?_
                                exact jn22900 ((1 : Int32) <<< (w21478 &&& 31)) (bd_w (l := 0) (h := 256) (bd_shl (lo := 0) (hi := 8) (l := 1) (h := 256) (bd_lt_hi bw21478 (i_nle c22196) (bd_lt_lo h6 (i_nle c17188) bw11462)) (by decide)) (by decide))
                          · refine J_iload (i := 5) (j := 3) dX11_upon_83 rfl ?_
                            refine J_iload (i := 7) (j := 5) dX11_upon_85 rfl ?_
                            refine J_callS (As := [.int w22729, .int w21478]) (rest := [.int w22729]) dX11_upon_87 (c_M_has (d := 0) (u := u5) (g := g) (ex := ex) (set := w22729) (k := w21478)  (by decide) ) hq.n k1555 k1556 k97 k1557 np_X11_has (Nat.le_trans (by decide) hd) (by decide) (Nat.le_refl _) (Nat.le_refl _) wlen rfl (Nat.le_of_ble_eq_true rfl) (fun r_ h_ p22905 => ?_)
                            obtain ⟨t22906, rfl, rfl⟩ := p22905
                            refine J_ifB_eq (tgt := 100) dX11_upon_90 (by decide) (fun c22907 => ?_) (fun c22907 => ?_)
                            · refine J_iload (i := 4) (j := 2) dX11_upon_100 rfl ?_
                              refine J_if_ne (tgt := 122) dX11_upon_102 (by decide) (fun c22908 => ?_) (fun c22908 => ?_)
                              · refine J_iconst (v := 0) dX11_upon_122 (by decide) ?_
                                refine J_lv [0, 1, 2, 4, 5, 6] rfl ?_
                                exact jn22900 (0 : Int32) (bd_w (l := 0) (h := 256) (bd_c (v := 0) (lo := 0) (hi := 0) (by decide)) (by decide))
                              · exact absurd c22908 c22890
                            · refine J_iconst (v := 1) dX11_upon_93 (by decide) ?_
                              refine J_iload (i := 8) (j := 6) dX11_upon_94 rfl ?_
                              refine J_ishl dX11_upon_96 ?_
                              refine J_goto (tgt := 123) dX11_upon_97 (by decide) ?_
                              refine J_lv [0, 1, 2, 4, 5, 6] rfl ?_
                              exact jn22900 ((1 : Int32) <<< (w22730 &&& 31)) (bd_w (l := 0) (h := 256) (bd_shl (lo := 0) (hi := 8) (l := 1) (h := 256) (bd_lt_hi bw22730 (i_nle c22822) (bd_lt_lo h6 (i_nle c17188) bw11462)) (by decide)) (by decide))
                  refine J_lv [1, 2, 3, 4, 5, 6, 0] rfl ?_
                  exact lp22818 _ w21477 (0 : Int32) bw21477 (bd_w (l := 0) (h := 9) (bd_c (v := 0) (lo := 0) (hi := 0) (by decide)) (by decide)) (Nat.lt_succ_self _)
            refine J_lv [1, 2, 3, 4, 5, 0] rfl ?_
            exact lp22192 _ w11461 (0 : Int32) bw11461 (bd_w (l := 0) (h := 9) (bd_c (v := 0) (lo := 0) (hi := 0) (by decide)) (by decide)) (Nat.lt_succ_self _)
      refine J_lv [2, 5, 6, 1, 0] rfl ?_
      exact lp17184 _ ((1 : Int32) <<< (pond &&& 31)) (0 : Int32) (bd_w (l := 0) (h := 511) (bd_shl (lo := 0) (hi := 8) (l := 1) (h := 256) (h15 c16) (by decide)) (by decide)) (bd_w (l := 0) (h := 9) (bd_c (v := 0) (lo := 0) (hi := 0) (by decide)) (by decide)) (Nat.lt_succ_self _)
    · refine J_iconst (v := (-1)) dX11_upon_22 (by decide) ?_
      exact J_iret hq dX11_upon_23 rfl wlen (Nat.le_refl _) (Nat.le_refl _) ⟨((-1) : Int32), u5, rfl, rfl, h6, h7, h8, (bd_r ((fc11 31 (Nat.ne_of_beq_eq_false rfl) (Nat.ne_of_beq_eq_false rfl) (Nat.ne_of_beq_eq_false rfl) (Nat.ne_of_beq_eq_false rfl) (Nat.ne_of_beq_eq_false rfl) (Nat.ne_of_beq_eq_false rfl)).trans (ms_i e2 (Nat.ne_of_beq_eq_false rfl))) hp8), (fun c k_ => ((fr10 c (nin_ne (a := 162) k_ rfl) (nin_ne (a := 172) k_ rfl)).trans (ms_c e2 (nin_ne (a := 162) k_ rfl)))), (fun j k0_ k22_ k23_ k24_ k25_ k26_ k27_ k31_ k32_ k33_ => ((fc11 j k22_ k23_ k24_ k25_ k26_ k27_).trans (ms_i e2 k0_)))⟩
set_option maxHeartbeats 4000000 in
set_option maxRecDepth 100000 in
theorem c_M_runs {d : Nat} {u : Nat → Nat → Int32} {g : Nat → Nat → Int64} {ex : List MC} {hill : Int32} {plan : Int32} {pond : Int32} (hd : 4 ≤ d) (hp0 : (MY u)) (hp1 : AB u 168 (-1) 999) (hp2 : (HD u)) (hp3 : (HC u)) (hp4 : (PL u)) (hp5 : (N0 u)) (hp6 : (DN u)) (hp7 : Bd 0 9 (u 162 22)) (hp8 : Bd 0 511 (u 162 31)) (hp9 : AB u 177 (-1) 999) : CT con0 d 0 0 yX11_runs cX11_runs 5 (some .int) [.ref 162, .int hill, .int plan, .int pond] (Wd u g ex) (fun r h2 => ∃ (z : Int32) (u2 : Nat → Nat → Int32), r = some (.int z) ∧ h2 = Wd u2 g ex ∧ Bd 0 9 (u2 162 22) ∧ (DN u2) ∧ (N0 u2) ∧ Bd 0 511 (u2 162 31) ∧ (∀ c, nin c [(162, 162), (172, 175)] = true → u2 c = u c) ∧ (∀ j, j ≠ 0 → j ≠ 22 → j ≠ 23 → j ≠ 24 → j ≠ 25 → j ≠ 26 → j ≠ 27 → j ≠ 31 → j ≠ 32 → j ≠ 33 → u2 162 j = u 162 j)) := by
  refine CT_of (by decide) (Nat.le_of_ble_eq_true rfl) (fun x hq => ?_)
  show J x yX11_runs cX11_runs 5 (some .int) d 0 0 (Wd u g ex).length 0 [(0, .ref 162), (1, .int hill), (2, .int plan), (3, .int pond)] [] (Wd u g ex) 0 0
  refine J_aload_n (i := 0) (j := 0) dX11_runs_0 rfl rfl ?_
  refine J_iconst (v := 0) dX11_runs_1 (by decide) ?_
  obtain ⟨u1, e2⟩ : ∃ z, z = ms u 162 0 0 := ⟨_, rfl⟩
  refine J_put (C := RX11) (T := TX11) (Z := 43) (ci := 11) (f := 0) (ty0 := tyX11) dX11_runs_2 inG11 rfl tyX11_ok nmX11 (by decide) k1264 rfl rfl wc_162 (Nat.le_of_ble_eq_true rfl) (fun _ _ => ⟨rfl, rfl⟩) (ws e2 wk_162 rfl) ?_
  refine J_aload_n (i := 0) (j := 0) dX11_runs_5 rfl rfl ?_
  refine J_iload_n (i := 1) (j := 1) dX11_runs_6 rfl rfl ?_
  refine J_iload_n (i := 2) (j := 2) dX11_runs_7 rfl rfl ?_
  refine J_callV (As := [.int hill, .int plan]) (rest := []) dX11_runs_8 (c_M_lay (d := 2) (u := u1) (g := g) (ex := ex) (h := hill) (plan := plan)  (by decide) (my_c (ms_c e2 (Nat.ne_of_beq_eq_false rfl)) hp0) (ab_c (ms_c e2 (Nat.ne_of_beq_eq_false rfl)) hp1) (hd_c (ms_c e2 (Nat.ne_of_beq_eq_false rfl)) hp2) (hc_c (ms_c e2 (Nat.ne_of_beq_eq_false rfl)) (ms_c e2 (Nat.ne_of_beq_eq_false rfl)) hp3) (pl_c (ms_c e2 (Nat.ne_of_beq_eq_false rfl)) hp4) (n0_c (ms_c e2 (Nat.ne_of_beq_eq_false rfl)) hp5) (dn_c (ms_c e2 (Nat.ne_of_beq_eq_false rfl)) hp6) (bd_r (ms_i e2 (Nat.ne_of_beq_eq_false rfl)) hp7)) hq.n k1503 k1505 k52 wc_162 rfl rfl k97 k1506 np_X11_lay (Nat.le_trans (by decide) hd) (by decide) (Nat.le_refl _) (Nat.le_refl _) wlen rfl (Nat.le_of_ble_eq_true rfl) (fun r_ h_ p3 => ?_)
  obtain ⟨t4, u5, rfl, rfl, h6, h7, h8, h9, fr10, fc11⟩ := p3
  refine J_ifB_eq (tgt := 22) dX11_runs_11 (by decide) (fun c12 => ?_) (fun c12 => ?_)
  · refine J_iconst (v := (-1)) dX11_runs_22 (by decide) ?_
    exact J_iret hq dX11_runs_23 rfl wlen (Nat.le_refl _) (Nat.le_refl _) ⟨((-1) : Int32), u5, rfl, rfl, h6, h7, h8, (bd_r ((fc11 31 (Nat.ne_of_beq_eq_false rfl) (Nat.ne_of_beq_eq_false rfl) (Nat.ne_of_beq_eq_false rfl) (Nat.ne_of_beq_eq_false rfl) (Nat.ne_of_beq_eq_false rfl) (Nat.ne_of_beq_eq_false rfl)).trans (ms_i e2 (Nat.ne_of_beq_eq_false rfl))) hp8), (fun c k_ => ((fr10 c (nin_ne (a := 162) k_ rfl) (nin_ne (a := 172) k_ rfl)).trans (ms_c e2 (nin_ne (a := 162) k_ rfl)))), (fun j k0_ k22_ k23_ k24_ k25_ k26_ k27_ k31_ k32_ k33_ => ((fc11 j k22_ k23_ k24_ k25_ k26_ k27_).trans (ms_i e2 k0_)))⟩
  · refine J_aload_n (i := 0) (j := 0) dX11_runs_14 rfl rfl ?_
    refine J_iload_n (i := 3) (j := 3) dX11_runs_15 rfl rfl ?_
    refine J_callV (As := [.int pond]) (rest := []) dX11_runs_16 (c_M_isPond (d := 1) (u := u5) (g := g) (ex := ex) (p := pond)  (by decide) h6) hq.n k1523 k1525 k57 wc_162 rfl rfl k97 k1526 np_X11_isPond (Nat.le_trans (by decide) hd) (by decide) (Nat.le_refl _) (Nat.le_refl _) wlen rfl (Nat.le_of_ble_eq_true rfl) (fun r_ h_ p13 => ?_)
    obtain ⟨t14, rfl, rfl, h15⟩ := p13
    refine J_ifB_ne (tgt := 24) dX11_runs_19 (by decide) (fun c16 => ?_) (fun c16 => ?_)
    · refine J_iconst (v := 0) dX11_runs_24 (by decide) ?_
      refine J_istore (i := 4) (lw := [(4, .int 0), (0, .ref 162), (1, .int hill), (2, .int plan), (3, .int pond)]) dX11_runs_25 (by decide) rfl ?_
      have lp81 : ∀ (n82 : Nat) (w67 : Int32) (u68 : Nat → Nat → Int32), Bd 0 10 w67 → (∀ c, nin c [(162, 162), (173, 175)] = true → u68 c = u5 c) → (∀ j, j ≠ 31 → j ≠ 32 → j ≠ 33 → u68 162 j = u5 162 j) → Bd 0 511 (u68 162 31) → (10 - w67.toInt).toNat < n82 → J x yX11_runs cX11_runs 5 (some .int) d 0 0 (Wd u g ex).length 27 [(0, .ref 162), (3, .int pond), (4, .int w67)] [] (Wd u68 g ex) 0 0 := by
        intro n82
        induction n82 with
        | zero => intro w67 u68 bw67 fr69 fc70 bm71 hm84; exact absurd hm84 (Nat.not_lt_zero _)
        | succ n82 ih83 =>
          intro w67 u68 bw67 fr69 fc70 bm71 hm84
          refine J_iload (i := 4) (j := 2) dX11_runs_27 rfl ?_
          refine J_bipush (v := 9) dX11_runs_29 (by decide) ?_
          refine J_icmp_gt (tgt := 61) dX11_runs_31 (by decide) (fun c85 => ?_) (fun c85 => ?_)
          · refine J_iconst (v := (-1)) dX11_runs_61 (by decide) ?_
            exact J_iret hq dX11_runs_62 rfl wlen (Nat.le_refl _) (Nat.le_refl _) ⟨((-1) : Int32), u68, rfl, rfl, (bd_r (fc70 22 (Nat.ne_of_beq_eq_false rfl) (Nat.ne_of_beq_eq_false rfl) (Nat.ne_of_beq_eq_false rfl)) h6), (dn_c (fr69 172 rfl) h7), (n0_c (fr69 172 rfl) h8), bm71, (fun c k_ => ((fr69 c (nin_sub (M := [(162, 162), (173, 175)]) k_ rfl)).trans ((fr10 c (nin_ne (a := 162) k_ rfl) (nin_ne (a := 172) k_ rfl)).trans (ms_c e2 (nin_ne (a := 162) k_ rfl))))), (fun j k0_ k22_ k23_ k24_ k25_ k26_ k27_ k31_ k32_ k33_ => ((fc70 j k31_ k32_ k33_).trans ((fc11 j k22_ k23_ k24_ k25_ k26_ k27_).trans (ms_i e2 k0_))))⟩
          · refine J_aload_n (i := 0) (j := 0) dX11_runs_34 rfl rfl ?_
            refine J_iload (i := 4) (j := 2) dX11_runs_35 rfl ?_
            refine J_iconst (v := 0) dX11_runs_37 (by decide) ?_
            refine J_callV (As := [.int w67, .int 0]) (rest := []) dX11_runs_38 (c_M_blow (d := 3) (u := u68) (g := g) (ex := ex) (steps := w67) (banks := 0)  (by decide) (bd_r (fc70 22 (Nat.ne_of_beq_eq_false rfl) (Nat.ne_of_beq_eq_false rfl) (Nat.ne_of_beq_eq_false rfl)) h6) (dn_c (fr69 172 rfl) h7)) hq.n k1551 k1553 k61 wc_162 rfl rfl k97 k1554 np_X11_blow (Nat.le_trans (by decide) hd) (by decide) (Nat.le_refl _) (Nat.le_refl _) wlen rfl (Nat.le_of_ble_eq_true rfl) (fun r_ h_ p86 => ?_)
            obtain ⟨u87, rfl, rfl, h88, fr89, fc90⟩ := p86
            refine J_aload_n (i := 0) (j := 0) dX11_runs_41 rfl rfl ?_
            refine J_get (C := RX11) (T := TX11) (Z := 43) (ci := 11) (f := 31) dX11_runs_42 inG11 rfl (by decide) k1295 wc_162 rfl ?_
            refine J_iload_n (i := 3) (j := 1) dX11_runs_45 rfl rfl ?_
            refine J_callS (As := [.int (u87 162 31), .int pond]) (rest := []) dX11_runs_46 (c_M_has (d := 0) (u := u87) (g := g) (ex := ex) (set := u87 162 31) (k := pond)  (by decide) ) hq.n k1555 k1556 k97 k1557 np_X11_has (Nat.le_trans (by decide) hd) (by decide) (Nat.le_refl _) (Nat.le_refl _) wlen rfl (Nat.le_of_ble_eq_true rfl) (fun r_ h_ p91 => ?_)
            obtain ⟨t92, rfl, rfl⟩ := p91
            refine J_ifB_eq (tgt := 55) dX11_runs_49 (by decide) (fun c93 => ?_) (fun c93 => ?_)
            · refine J_iinc (i := 4) (j := 2) (v := (w67 + 1)) (lw := [(4, .int (w67 + 1)), (0, .ref 162), (3, .int pond)]) dX11_runs_55 rfl rfl (by decide) rfl ?_
              refine J_goto (tgt := 27) dX11_runs_58 (by decide) ?_
              refine J_lv [1, 2, 0] rfl ?_
              exact ih83 (w67 + 1) u87 (bd_w (l := 0) (h := 10) (bd_add (l := 1) (h := 10) (bd_le_hi bw67 (i_nlt c85) (bd_c (v := 9) (lo := 9) (hi := 9) (by decide))) (bd_c (v := 1) (lo := 1) (hi := 1) (by decide)) (by decide)) (by decide)) (fun c k_ => ((fr89 c (nin_sub (M := [(162, 162), (173, 175)]) k_ rfl)).trans (fr69 c (nin_sub (M := [(162, 162), (173, 175)]) k_ rfl)))) (fun j k31_ k32_ k33_ => ((fc90 j k31_ k32_ k33_).trans (fc70 j k31_ k32_ k33_))) h88 (mu_up 1 bw67 rfl (by decide) (bd_w (l := 1) (h := 10) (bd_add (l := 1) (h := 10) (bd_le_hi bw67 (i_nlt c85) (bd_c (v := 9) (lo := 9) (hi := 9) (by decide))) (bd_c (v := 1) (lo := 1) (hi := 1) (by decide)) (by decide)) (by decide)) hm84)
            · refine J_iload (i := 4) (j := 2) dX11_runs_52 rfl ?_
              exact J_iret hq dX11_runs_54 rfl wlen (Nat.le_refl _) (Nat.le_refl _) ⟨w67, u87, rfl, rfl, (bd_r ((fc90 22 (Nat.ne_of_beq_eq_false rfl) (Nat.ne_of_beq_eq_false rfl) (Nat.ne_of_beq_eq_false rfl)).trans (fc70 22 (Nat.ne_of_beq_eq_false rfl) (Nat.ne_of_beq_eq_false rfl) (Nat.ne_of_beq_eq_false rfl))) h6), (dn_c ((fr89 172 rfl).trans (fr69 172 rfl)) h7), (n0_c ((fr89 172 rfl).trans (fr69 172 rfl)) h8), h88, (fun c k_ => ((fr89 c (nin_sub (M := [(162, 162), (173, 175)]) k_ rfl)).trans ((fr69 c (nin_sub (M := [(162, 162), (173, 175)]) k_ rfl)).trans ((fr10 c (nin_ne (a := 162) k_ rfl) (nin_ne (a := 172) k_ rfl)).trans (ms_c e2 (nin_ne (a := 162) k_ rfl)))))), (fun j k0_ k22_ k23_ k24_ k25_ k26_ k27_ k31_ k32_ k33_ => ((fc90 j k31_ k32_ k33_).trans ((fc70 j k31_ k32_ k33_).trans ((fc11 j k22_ k23_ k24_ k25_ k26_ k27_).trans (ms_i e2 k0_)))))⟩
      refine J_lv [1, 4, 0] rfl ?_
      exact lp81 _ (0 : Int32) u5 (bd_w (l := 0) (h := 10) (bd_c (v := 0) (lo := 0) (hi := 0) (by decide)) (by decide)) (fun c k_ => rfl) (fun j k31_ k32_ k33_ => rfl) (bd_r ((fc11 31 (Nat.ne_of_beq_eq_false rfl) (Nat.ne_of_beq_eq_false rfl) (Nat.ne_of_beq_eq_false rfl) (Nat.ne_of_beq_eq_false rfl) (Nat.ne_of_beq_eq_false rfl) (Nat.ne_of_beq_eq_false rfl)).trans (ms_i e2 (Nat.ne_of_beq_eq_false rfl))) hp8) (Nat.lt_succ_self _)
    · refine J_iconst (v := (-1)) dX11_runs_22 (by decide) ?_
      exact J_iret hq dX11_runs_23 rfl wlen (Nat.le_refl _) (Nat.le_refl _) ⟨((-1) : Int32), u5, rfl, rfl, h6, h7, h8, (bd_r ((fc11 31 (Nat.ne_of_beq_eq_false rfl) (Nat.ne_of_beq_eq_false rfl) (Nat.ne_of_beq_eq_false rfl) (Nat.ne_of_beq_eq_false rfl) (Nat.ne_of_beq_eq_false rfl) (Nat.ne_of_beq_eq_false rfl)).trans (ms_i e2 (Nat.ne_of_beq_eq_false rfl))) hp8), (fun c k_ => ((fr10 c (nin_ne (a := 162) k_ rfl) (nin_ne (a := 172) k_ rfl)).trans (ms_c e2 (nin_ne (a := 162) k_ rfl)))), (fun j k0_ k22_ k23_ k24_ k25_ k26_ k27_ k31_ k32_ k33_ => ((fc11 j k22_ k23_ k24_ k25_ k26_ k27_).trans (ms_i e2 k0_)))⟩
set_option maxHeartbeats 4000000 in
set_option maxRecDepth 100000 in
theorem c_M_joint {d : Nat} {u : Nat → Nat → Int32} {g : Nat → Nat → Int64} {ex : List MC} {hill : Int32} {plan : Int32} {one : Int32} {other : Int32} (hd : 5 ≤ d) (hp0 : (MY u)) (hp1 : AB u 168 (-1) 999) (hp2 : (HD u)) (hp3 : (HC u)) (hp4 : (PL u)) (hp5 : (N0 u)) (hp6 : (DN u)) (hp7 : Bd 0 9 (u 162 22)) (hp8 : Bd 0 511 (u 162 31)) (hp9 : AB u 177 (-1) 999) : CT con0 d 0 0 yX11_joint cX11_joint 5 (some .long) [.ref 162, .int hill, .int plan, .int one, .int other] (Wd u g ex) (fun r h2 => ∃ (z : Int64) (u2 : Nat → Nat → Int32), r = some (.long z) ∧ h2 = Wd u2 g ex ∧ Bd 0 9 (u2 162 22) ∧ (DN u2) ∧ (N0 u2) ∧ Bd 0 511 (u2 162 31) ∧ (∀ c, nin c [(162, 162), (172, 175)] = true → u2 c = u c) ∧ (∀ j, j ≠ 0 → j ≠ 22 → j ≠ 23 → j ≠ 24 → j ≠ 25 → j ≠ 26 → j ≠ 27 → j ≠ 31 → j ≠ 32 → j ≠ 33 → u2 162 j = u 162 j)) := by
  refine CT_of (by decide) (Nat.le_of_ble_eq_true rfl) (fun x hq => ?_)
  show J x yX11_joint cX11_joint 5 (some .long) d 0 0 (Wd u g ex).length 0 [(0, .ref 162), (1, .int hill), (2, .int plan), (3, .int one), (4, .int other)] [] (Wd u g ex) 0 0
  refine J_aload_n (i := 0) (j := 0) dX11_joint_0 rfl rfl ?_
  refine J_iconst (v := 0) dX11_joint_1 (by decide) ?_
  obtain ⟨u1, e2⟩ : ∃ z, z = ms u 162 0 0 := ⟨_, rfl⟩
  refine J_put (C := RX11) (T := TX11) (Z := 43) (ci := 11) (f := 0) (ty0 := tyX11) dX11_joint_2 inG11 rfl tyX11_ok nmX11 (by decide) k1264 rfl rfl wc_162 (Nat.le_of_ble_eq_true rfl) (fun _ _ => ⟨rfl, rfl⟩) (ws e2 wk_162 rfl) ?_
  refine J_aload_n (i := 0) (j := 0) dX11_joint_5 rfl rfl ?_
  refine J_iload_n (i := 1) (j := 1) dX11_joint_6 rfl rfl ?_
  refine J_iload_n (i := 2) (j := 2) dX11_joint_7 rfl rfl ?_
  refine J_callV (As := [.int hill, .int plan]) (rest := []) dX11_joint_8 (c_M_lay (d := 2) (u := u1) (g := g) (ex := ex) (h := hill) (plan := plan)  (by decide) (my_c (ms_c e2 (Nat.ne_of_beq_eq_false rfl)) hp0) (ab_c (ms_c e2 (Nat.ne_of_beq_eq_false rfl)) hp1) (hd_c (ms_c e2 (Nat.ne_of_beq_eq_false rfl)) hp2) (hc_c (ms_c e2 (Nat.ne_of_beq_eq_false rfl)) (ms_c e2 (Nat.ne_of_beq_eq_false rfl)) hp3) (pl_c (ms_c e2 (Nat.ne_of_beq_eq_false rfl)) hp4) (n0_c (ms_c e2 (Nat.ne_of_beq_eq_false rfl)) hp5) (dn_c (ms_c e2 (Nat.ne_of_beq_eq_false rfl)) hp6) (bd_r (ms_i e2 (Nat.ne_of_beq_eq_false rfl)) hp7)) hq.n k1503 k1505 k52 wc_162 rfl rfl k97 k1506 np_X11_lay (Nat.le_trans (by decide) hd) (by decide) (Nat.le_refl _) (Nat.le_refl _) wlen rfl (Nat.le_of_ble_eq_true rfl) (fun r_ h_ p3 => ?_)
  obtain ⟨t4, u5, rfl, rfl, h6, h7, h8, h9, fr10, fc11⟩ := p3
  refine J_ifB_eq (tgt := 46) dX11_joint_11 (by decide) (fun c12 => ?_) (fun c12 => ?_)
  · refine J_ldc2 (v := (-1)) dX11_joint_46 k1578 ?_
    exact J_lret hq dX11_joint_49 rfl wlen (Nat.le_refl _) (Nat.le_refl _) ⟨((-1) : Int64), u5, rfl, rfl, h6, h7, h8, (bd_r ((fc11 31 (Nat.ne_of_beq_eq_false rfl) (Nat.ne_of_beq_eq_false rfl) (Nat.ne_of_beq_eq_false rfl) (Nat.ne_of_beq_eq_false rfl) (Nat.ne_of_beq_eq_false rfl) (Nat.ne_of_beq_eq_false rfl)).trans (ms_i e2 (Nat.ne_of_beq_eq_false rfl))) hp8), (fun c k_ => ((fr10 c (nin_ne (a := 162) k_ rfl) (nin_ne (a := 172) k_ rfl)).trans (ms_c e2 (nin_ne (a := 162) k_ rfl)))), (fun j k0_ k22_ k23_ k24_ k25_ k26_ k27_ k31_ k32_ k33_ => ((fc11 j k22_ k23_ k24_ k25_ k26_ k27_).trans (ms_i e2 k0_)))⟩
  · refine J_aload_n (i := 0) (j := 0) dX11_joint_14 rfl rfl ?_
    refine J_iload_n (i := 3) (j := 3) dX11_joint_15 rfl rfl ?_
    refine J_callV (As := [.int one]) (rest := []) dX11_joint_16 (c_M_isPond (d := 1) (u := u5) (g := g) (ex := ex) (p := one)  (by decide) h6) hq.n k1523 k1525 k57 wc_162 rfl rfl k97 k1526 np_X11_isPond (Nat.le_trans (by decide) hd) (by decide) (Nat.le_refl _) (Nat.le_refl _) wlen rfl (Nat.le_of_ble_eq_true rfl) (fun r_ h_ p13 => ?_)
    obtain ⟨t14, rfl, rfl, h15⟩ := p13
    refine J_ifB_eq (tgt := 46) dX11_joint_19 (by decide) (fun c16 => ?_) (fun c16 => ?_)
    · refine J_ldc2 (v := (-1)) dX11_joint_46 k1578 ?_
      exact J_lret hq dX11_joint_49 rfl wlen (Nat.le_refl _) (Nat.le_refl _) ⟨((-1) : Int64), u5, rfl, rfl, h6, h7, h8, (bd_r ((fc11 31 (Nat.ne_of_beq_eq_false rfl) (Nat.ne_of_beq_eq_false rfl) (Nat.ne_of_beq_eq_false rfl) (Nat.ne_of_beq_eq_false rfl) (Nat.ne_of_beq_eq_false rfl) (Nat.ne_of_beq_eq_false rfl)).trans (ms_i e2 (Nat.ne_of_beq_eq_false rfl))) hp8), (fun c k_ => ((fr10 c (nin_ne (a := 162) k_ rfl) (nin_ne (a := 172) k_ rfl)).trans (ms_c e2 (nin_ne (a := 162) k_ rfl)))), (fun j k0_ k22_ k23_ k24_ k25_ k26_ k27_ k31_ k32_ k33_ => ((fc11 j k22_ k23_ k24_ k25_ k26_ k27_).trans (ms_i e2 k0_)))⟩
    · refine J_aload_n (i := 0) (j := 0) dX11_joint_22 rfl rfl ?_
      refine J_iload (i := 4) (j := 4) dX11_joint_23 rfl ?_
      refine J_callV (As := [.int other]) (rest := []) dX11_joint_25 (c_M_isPond (d := 1) (u := u5) (g := g) (ex := ex) (p := other)  (by decide) h6) hq.n k1523 k1525 k57 wc_162 rfl rfl k97 k1526 np_X11_isPond (Nat.le_trans (by decide) hd) (by decide) (Nat.le_refl _) (Nat.le_refl _) wlen rfl (Nat.le_of_ble_eq_true rfl) (fun r_ h_ p17 => ?_)
      obtain ⟨t18, rfl, rfl, h19⟩ := p17
      refine J_ifB_eq (tgt := 46) dX11_joint_28 (by decide) (fun c20 => ?_) (fun c20 => ?_)
      · refine J_ldc2 (v := (-1)) dX11_joint_46 k1578 ?_
        exact J_lret hq dX11_joint_49 rfl wlen (Nat.le_refl _) (Nat.le_refl _) ⟨((-1) : Int64), u5, rfl, rfl, h6, h7, h8, (bd_r ((fc11 31 (Nat.ne_of_beq_eq_false rfl) (Nat.ne_of_beq_eq_false rfl) (Nat.ne_of_beq_eq_false rfl) (Nat.ne_of_beq_eq_false rfl) (Nat.ne_of_beq_eq_false rfl) (Nat.ne_of_beq_eq_false rfl)).trans (ms_i e2 (Nat.ne_of_beq_eq_false rfl))) hp8), (fun c k_ => ((fr10 c (nin_ne (a := 162) k_ rfl) (nin_ne (a := 172) k_ rfl)).trans (ms_c e2 (nin_ne (a := 162) k_ rfl)))), (fun j k0_ k22_ k23_ k24_ k25_ k26_ k27_ k31_ k32_ k33_ => ((fc11 j k22_ k23_ k24_ k25_ k26_ k27_).trans (ms_i e2 k0_)))⟩
      · refine J_aload_n (i := 0) (j := 0) dX11_joint_31 rfl rfl ?_
        refine J_iconst (v := 1) dX11_joint_32 (by decide) ?_
        refine J_iload_n (i := 3) (j := 3) dX11_joint_33 rfl rfl ?_
        refine J_ishl dX11_joint_34 ?_
        refine J_iconst (v := 1) dX11_joint_35 (by decide) ?_
        refine J_iload (i := 4) (j := 4) dX11_joint_36 rfl ?_
        refine J_ishl dX11_joint_38 ?_
        refine J_ior dX11_joint_39 ?_
        refine J_callV (As := [.int (((1 : Int32) <<< (one &&& 31)) ||| ((1 : Int32) <<< (other &&& 31)))]) (rest := []) dX11_joint_40 (c_M_together (d := 4) (u := u5) (g := g) (ex := ex) (set := (((1 : Int32) <<< (one &&& 31)) ||| ((1 : Int32) <<< (other &&& 31))))  (by decide) h6 (h9 c12).1 h7 (bd_r ((fc11 31 (Nat.ne_of_beq_eq_false rfl) (Nat.ne_of_beq_eq_false rfl) (Nat.ne_of_beq_eq_false rfl) (Nat.ne_of_beq_eq_false rfl) (Nat.ne_of_beq_eq_false rfl) (Nat.ne_of_beq_eq_false rfl)).trans (ms_i e2 (Nat.ne_of_beq_eq_false rfl))) hp8)) hq.n k1759 k1761 k84 wc_162 rfl rfl k97 k1762 np_X11_together (Nat.le_trans (by decide) hd) (by decide) (Nat.le_refl _) (Nat.le_refl _) wlen rfl (Nat.le_of_ble_eq_true rfl) (fun r_ h_ p21 => ?_)
        obtain ⟨l22, u23, rfl, rfl, h24, fr25, fc26⟩ := p21
        refine J_goto (tgt := 49) dX11_joint_43 (by decide) ?_
        exact J_lret hq dX11_joint_49 rfl wlen (Nat.le_refl _) (Nat.le_refl _) ⟨l22, u23, rfl, rfl, (bd_r (fc26 22 (Nat.ne_of_beq_eq_false rfl) (Nat.ne_of_beq_eq_false rfl) (Nat.ne_of_beq_eq_false rfl)) h6), (dn_c (fr25 172 rfl) h7), (n0_c (fr25 172 rfl) h8), h24, (fun c k_ => ((fr25 c (nin_sub (M := [(162, 162), (173, 175)]) k_ rfl)).trans ((fr10 c (nin_ne (a := 162) k_ rfl) (nin_ne (a := 172) k_ rfl)).trans (ms_c e2 (nin_ne (a := 162) k_ rfl))))), (fun j k0_ k22_ k23_ k24_ k25_ k26_ k27_ k31_ k32_ k33_ => ((fc26 j k31_ k32_ k33_).trans ((fc11 j k22_ k23_ k24_ k25_ k26_ k27_).trans (ms_i e2 k0_))))⟩
set_option maxHeartbeats 4000000 in
set_option maxRecDepth 100000 in
theorem c_M_worst {d : Nat} {u : Nat → Nat → Int32} {g : Nat → Nat → Int64} {ex : List MC} {hill : Int32} {plan : Int32} {what : Int32} (hd : 4 ≤ d) (hp0 : (MY u)) (hp1 : AB u 168 (-1) 999) (hp2 : (HD u)) (hp3 : (HC u)) (hp4 : (PL u)) (hp5 : (N0 u)) (hp6 : (DN u)) (hp7 : Bd 0 9 (u 162 22)) (hp8 : Bd 0 511 (u 162 31)) (hp9 : AB u 177 (-1) 999) : CT con0 d 0 0 yX11_worst cX11_worst 9 (some .long) [.ref 162, .int hill, .int plan, .int what] (Wd u g ex) (fun r h2 => ∃ (z : Int64) (u2 : Nat → Nat → Int32), r = some (.long z) ∧ h2 = Wd u2 g ex ∧ Bd 0 9 (u2 162 22) ∧ (DN u2) ∧ (N0 u2) ∧ Bd 0 511 (u2 162 31) ∧ (∀ c, nin c [(162, 162), (172, 175)] = true → u2 c = u c) ∧ (∀ j, j ≠ 0 → j ≠ 22 → j ≠ 23 → j ≠ 24 → j ≠ 25 → j ≠ 26 → j ≠ 27 → j ≠ 31 → j ≠ 32 → j ≠ 33 → u2 162 j = u 162 j)) := by
  refine CT_of (by decide) (Nat.le_of_ble_eq_true rfl) (fun x hq => ?_)
  show J x yX11_worst cX11_worst 9 (some .long) d 0 0 (Wd u g ex).length 0 [(0, .ref 162), (1, .int hill), (2, .int plan), (3, .int what)] [] (Wd u g ex) 0 0
  refine J_aload_n (i := 0) (j := 0) dX11_worst_0 rfl rfl ?_
  refine J_iconst (v := 0) dX11_worst_1 (by decide) ?_
  obtain ⟨u1, e2⟩ : ∃ z, z = ms u 162 0 0 := ⟨_, rfl⟩
  refine J_put (C := RX11) (T := TX11) (Z := 43) (ci := 11) (f := 0) (ty0 := tyX11) dX11_worst_2 inG11 rfl tyX11_ok nmX11 (by decide) k1264 rfl rfl wc_162 (Nat.le_of_ble_eq_true rfl) (fun _ _ => ⟨rfl, rfl⟩) (ws e2 wk_162 rfl) ?_
  refine J_aload_n (i := 0) (j := 0) dX11_worst_5 rfl rfl ?_
  refine J_iload_n (i := 1) (j := 1) dX11_worst_6 rfl rfl ?_
  refine J_iload_n (i := 2) (j := 2) dX11_worst_7 rfl rfl ?_
  refine J_callV (As := [.int hill, .int plan]) (rest := []) dX11_worst_8 (c_M_lay (d := 2) (u := u1) (g := g) (ex := ex) (h := hill) (plan := plan)  (by decide) (my_c (ms_c e2 (Nat.ne_of_beq_eq_false rfl)) hp0) (ab_c (ms_c e2 (Nat.ne_of_beq_eq_false rfl)) hp1) (hd_c (ms_c e2 (Nat.ne_of_beq_eq_false rfl)) hp2) (hc_c (ms_c e2 (Nat.ne_of_beq_eq_false rfl)) (ms_c e2 (Nat.ne_of_beq_eq_false rfl)) hp3) (pl_c (ms_c e2 (Nat.ne_of_beq_eq_false rfl)) hp4) (n0_c (ms_c e2 (Nat.ne_of_beq_eq_false rfl)) hp5) (dn_c (ms_c e2 (Nat.ne_of_beq_eq_false rfl)) hp6) (bd_r (ms_i e2 (Nat.ne_of_beq_eq_false rfl)) hp7)) hq.n k1503 k1505 k52 wc_162 rfl rfl k97 k1506 np_X11_lay (Nat.le_trans (by decide) hd) (by decide) (Nat.le_refl _) (Nat.le_refl _) wlen rfl (Nat.le_of_ble_eq_true rfl) (fun r_ h_ p3 => ?_)
  obtain ⟨t4, u5, rfl, rfl, h6, h7, h8, h9, fr10, fc11⟩ := p3
  refine J_ifB_eq (tgt := 23) dX11_worst_11 (by decide) (fun c12 => ?_) (fun c12 => ?_)
  · refine J_ldc2 (v := (-1)) dX11_worst_23 k1578 ?_
    exact J_lret hq dX11_worst_26 rfl wlen (Nat.le_refl _) (Nat.le_refl _) ⟨((-1) : Int64), u5, rfl, rfl, h6, h7, h8, (bd_r ((fc11 31 (Nat.ne_of_beq_eq_false rfl) (Nat.ne_of_beq_eq_false rfl) (Nat.ne_of_beq_eq_false rfl) (Nat.ne_of_beq_eq_false rfl) (Nat.ne_of_beq_eq_false rfl) (Nat.ne_of_beq_eq_false rfl)).trans (ms_i e2 (Nat.ne_of_beq_eq_false rfl))) hp8), (fun c k_ => ((fr10 c (nin_ne (a := 162) k_ rfl) (nin_ne (a := 172) k_ rfl)).trans (ms_c e2 (nin_ne (a := 162) k_ rfl)))), (fun j k0_ k22_ k23_ k24_ k25_ k26_ k27_ k31_ k32_ k33_ => ((fc11 j k22_ k23_ k24_ k25_ k26_ k27_).trans (ms_i e2 k0_)))⟩
  · refine J_iload_n (i := 3) (j := 3) dX11_worst_14 rfl rfl ?_
    refine J_iconst (v := 0) dX11_worst_15 (by decide) ?_
    refine J_iconst (v := 3) dX11_worst_16 (by decide) ?_
    refine J_callS (As := [.int what, .int 0, .int 3]) (rest := []) dX11_worst_17 (c_M_in (d := 0) (u := u5) (g := g) (ex := ex) (v := what) (low := 0) (high := 3)  (by decide) ) hq.n k1406 k1407 k97 k1408 np_X11_in (Nat.le_trans (by decide) hd) (by decide) (Nat.le_refl _) (Nat.le_refl _) wlen rfl (Nat.le_of_ble_eq_true rfl) (fun r_ h_ p13 => ?_)
    obtain ⟨t14, rfl, rfl, h15, h16⟩ := p13
    refine J_ifB_ne (tgt := 27) dX11_worst_20 (by decide) (fun c17 => ?_) (fun c17 => ?_)
    · refine J_iconst (v := (-1)) dX11_worst_27 (by decide) ?_
      refine J_istore (i := 4) (lw := [(4, .int (-1)), (0, .ref 162), (1, .int hill), (2, .int plan), (3, .int what)]) dX11_worst_28 (by decide) rfl ?_
      refine J_iconst (v := 0) dX11_worst_30 (by decide) ?_
      refine J_istore (i := 5) (lw := [(5, .int 0), (4, .int (-1)), (0, .ref 162), (1, .int hill), (2, .int plan), (3, .int what)]) dX11_worst_31 (by decide) rfl ?_
      refine J_iconst (v := (-1)) dX11_worst_33 (by decide) ?_
      refine J_istore (i := 6) (lw := [(6, .int (-1)), (5, .int 0), (4, .int (-1)), (0, .ref 162), (1, .int hill), (2, .int plan), (3, .int what)]) dX11_worst_34 (by decide) rfl ?_
      refine J_iconst (v := 0) dX11_worst_36 (by decide) ?_
      refine J_istore (i := 7) (lw := [(7, .int 0), (6, .int (-1)), (5, .int 0), (4, .int (-1)), (0, .ref 162), (1, .int hill), (2, .int plan), (3, .int what)]) dX11_worst_37 (by decide) rfl ?_
      have lp5024 : ∀ (n5025 : Nat) (w3767 : Int32) (w3768 : Int32) (w3769 : Int32) (w3770 : Int32) (u3771 : Nat → Nat → Int32), Bd (-1) 9 w3767 → Bd 0 511 w3768 → Bd 0 4 w3770 → (∀ c, nin c [(162, 162), (173, 175)] = true → u3771 c = u5 c) → (∀ j, j ≠ 31 → j ≠ 32 → j ≠ 33 → u3771 162 j = u5 162 j) → Bd 0 511 (u3771 162 31) → (4 - w3770.toInt).toNat < n5025 → J x yX11_worst cX11_worst 9 (some .long) d 0 0 (Wd u g ex).length 39 [(0, .ref 162), (3, .int what), (4, .int w3767), (5, .int w3768), (6, .int w3769), (7, .int w3770)] [] (Wd u3771 g ex) 0 0 := by
        intro n5025
        induction n5025 with
        | zero => intro w3767 w3768 w3769 w3770 u3771 bw3767 bw3768 bw3770 fr3772 fc3773 bm3774 hm5027; exact absurd hm5027 (Nat.not_lt_zero _)
        | succ n5025 ih5026 =>
          intro w3767 w3768 w3769 w3770 u3771 bw3767 bw3768 bw3770 fr3772 fc3773 bm3774 hm5027
          refine J_iload (i := 7) (j := 5) dX11_worst_39 rfl ?_
          refine J_aload_n (i := 0) (j := 0) dX11_worst_41 rfl rfl ?_
          refine J_get (C := RX11) (T := TX11) (Z := 43) (ci := 11) (f := 21) dX11_worst_42 inG11 rfl (by decide) k1285 wc_162 rfl ?_
          refine J_iconst (v := 1) dX11_worst_45 (by decide) ?_
          refine J_iald dX11_worst_46 wc_172 (vin (bd_c (v := 1) (lo := 1) (hi := 1) (by decide)) (by decide)) ?_
          refine J_ci (v := u5 172 1) (congrFun (fr3772 172 rfl) 1) ?_
          refine J_icmp_ge (tgt := 126) dX11_worst_47 (by decide) (fun c5028 => ?_) (fun c5028 => ?_)
          · refine J_iload_n (i := 3) (j := 1) dX11_worst_126 rfl rfl ?_
            refine J_if_ne (tgt := 136) dX11_worst_127 (by decide) (fun c5649 => ?_) (fun c5649 => ?_)
            · refine J_iload_n (i := 3) (j := 1) dX11_worst_136 rfl rfl ?_
              refine J_iconst (v := 1) dX11_worst_137 (by decide) ?_
              refine J_icmp_ne (tgt := 147) dX11_worst_138 (by decide) (fun c5650 => ?_) (fun c5650 => ?_)
              · refine J_iload_n (i := 3) (j := 1) dX11_worst_147 rfl rfl ?_
                refine J_iconst (v := 2) dX11_worst_148 (by decide) ?_
                refine J_icmp_ne (tgt := 158) dX11_worst_149 (by decide) (fun c5651 => ?_) (fun c5651 => ?_)
                · refine J_aload_n (i := 0) (j := 0) dX11_worst_158 rfl rfl ?_
                  refine J_iload (i := 4) (j := 2) dX11_worst_159 rfl ?_
                  refine J_iload (i := 5) (j := 3) dX11_worst_161 rfl ?_
                  refine J_callV (As := [.int w3767, .int w3768]) (rest := []) dX11_worst_163 (c_M_partsOf (d := 1) (u := u3771) (g := g) (ex := ex) (rain := w3767) (banks := w3768)  (by decide) (bd_r (fc3773 22 (Nat.ne_of_beq_eq_false rfl) (Nat.ne_of_beq_eq_false rfl) (Nat.ne_of_beq_eq_false rfl)) h6) (bd_w (l := (-1)) (h := 75) bw3767 (by decide))) hq.n k1579 k1581 k66 wc_162 rfl rfl k97 k1582 np_X11_partsOf (Nat.le_trans (by decide) hd) (by decide) (Nat.le_refl _) (Nat.le_refl _) wlen rfl (Nat.le_of_ble_eq_true rfl) (fun r_ h_ p5652 => ?_)
                  obtain ⟨l5653, rfl, rfl⟩ := p5652
                  exact J_lret hq dX11_worst_166 rfl wlen (Nat.le_refl _) (Nat.le_refl _) ⟨l5653, u3771, rfl, rfl, (bd_r (fc3773 22 (Nat.ne_of_beq_eq_false rfl) (Nat.ne_of_beq_eq_false rfl) (Nat.ne_of_beq_eq_false rfl)) h6), (dn_c (fr3772 172 rfl) h7), (n0_c (fr3772 172 rfl) h8), bm3774, (fun c k_ => ((fr3772 c (nin_sub (M := [(162, 162), (173, 175)]) k_ rfl)).trans ((fr10 c (nin_ne (a := 162) k_ rfl) (nin_ne (a := 172) k_ rfl)).trans (ms_c e2 (nin_ne (a := 162) k_ rfl))))), (fun j k0_ k22_ k23_ k24_ k25_ k26_ k27_ k31_ k32_ k33_ => ((fc3773 j k31_ k32_ k33_).trans ((fc11 j k22_ k23_ k24_ k25_ k26_ k27_).trans (ms_i e2 k0_))))⟩
                · refine J_iload (i := 6) (j := 4) dX11_worst_152 rfl ?_
                  refine J_i2l dX11_worst_154 rfl ?_
                  refine J_topl (fun l5654 _ => ?_)
                  refine J_goto (tgt := 166) dX11_worst_155 (by decide) ?_
                  exact J_lret hq dX11_worst_166 rfl wlen (Nat.le_refl _) (Nat.le_refl _) ⟨l5654, u3771, rfl, rfl, (bd_r (fc3773 22 (Nat.ne_of_beq_eq_false rfl) (Nat.ne_of_beq_eq_false rfl) (Nat.ne_of_beq_eq_false rfl)) h6), (dn_c (fr3772 172 rfl) h7), (n0_c (fr3772 172 rfl) h8), bm3774, (fun c k_ => ((fr3772 c (nin_sub (M := [(162, 162), (173, 175)]) k_ rfl)).trans ((fr10 c (nin_ne (a := 162) k_ rfl) (nin_ne (a := 172) k_ rfl)).trans (ms_c e2 (nin_ne (a := 162) k_ rfl))))), (fun j k0_ k22_ k23_ k24_ k25_ k26_ k27_ k31_ k32_ k33_ => ((fc3773 j k31_ k32_ k33_).trans ((fc11 j k22_ k23_ k24_ k25_ k26_ k27_).trans (ms_i e2 k0_))))⟩
              · refine J_iload (i := 5) (j := 3) dX11_worst_141 rfl ?_
                refine J_i2l dX11_worst_143 rfl ?_
                refine J_topl (fun l5655 _ => ?_)
                refine J_goto (tgt := 166) dX11_worst_144 (by decide) ?_
                exact J_lret hq dX11_worst_166 rfl wlen (Nat.le_refl _) (Nat.le_refl _) ⟨l5655, u3771, rfl, rfl, (bd_r (fc3773 22 (Nat.ne_of_beq_eq_false rfl) (Nat.ne_of_beq_eq_false rfl) (Nat.ne_of_beq_eq_false rfl)) h6), (dn_c (fr3772 172 rfl) h7), (n0_c (fr3772 172 rfl) h8), bm3774, (fun c k_ => ((fr3772 c (nin_sub (M := [(162, 162), (173, 175)]) k_ rfl)).trans ((fr10 c (nin_ne (a := 162) k_ rfl) (nin_ne (a := 172) k_ rfl)).trans (ms_c e2 (nin_ne (a := 162) k_ rfl))))), (fun j k0_ k22_ k23_ k24_ k25_ k26_ k27_ k31_ k32_ k33_ => ((fc3773 j k31_ k32_ k33_).trans ((fc11 j k22_ k23_ k24_ k25_ k26_ k27_).trans (ms_i e2 k0_))))⟩
            · refine J_iload (i := 4) (j := 2) dX11_worst_130 rfl ?_
              refine J_i2l dX11_worst_132 rfl ?_
              refine J_topl (fun l5656 _ => ?_)
              refine J_goto (tgt := 166) dX11_worst_133 (by decide) ?_
              exact J_lret hq dX11_worst_166 rfl wlen (Nat.le_refl _) (Nat.le_refl _) ⟨l5656, u3771, rfl, rfl, (bd_r (fc3773 22 (Nat.ne_of_beq_eq_false rfl) (Nat.ne_of_beq_eq_false rfl) (Nat.ne_of_beq_eq_false rfl)) h6), (dn_c (fr3772 172 rfl) h7), (n0_c (fr3772 172 rfl) h8), bm3774, (fun c k_ => ((fr3772 c (nin_sub (M := [(162, 162), (173, 175)]) k_ rfl)).trans ((fr10 c (nin_ne (a := 162) k_ rfl) (nin_ne (a := 172) k_ rfl)).trans (ms_c e2 (nin_ne (a := 162) k_ rfl))))), (fun j k0_ k22_ k23_ k24_ k25_ k26_ k27_ k31_ k32_ k33_ => ((fc3773 j k31_ k32_ k33_).trans ((fc11 j k22_ k23_ k24_ k25_ k26_ k27_).trans (ms_i e2 k0_))))⟩
          · refine J_iconst (v := 0) dX11_worst_50 (by decide) ?_
            refine J_istore (i := 8) (lw := [(8, .int 0), (0, .ref 162), (3, .int what), (4, .int w3767), (5, .int w3768), (6, .int w3769), (7, .int w3770)]) dX11_worst_51 (by decide) rfl ?_
            have lp6202 : ∀ (n6203 : Nat) (w6123 : Int32) (w6124 : Int32) (w6125 : Int32) (w6126 : Int32) (u6127 : Nat → Nat → Int32), Bd (-1) 9 w6123 → Bd 0 511 w6124 → Bd 0 512 w6126 → (∀ c, nin c [(162, 162), (173, 175)] = true → u6127 c = u3771 c) → (∀ j, j ≠ 31 → j ≠ 32 → j ≠ 33 → u6127 162 j = u3771 162 j) → Bd 0 511 (u6127 162 31) → (512 - w6126.toInt).toNat < n6203 → J x yX11_worst cX11_worst 9 (some .long) d 0 0 (Wd u g ex).length 53 [(0, .ref 162), (3, .int what), (4, .int w6123), (5, .int w6124), (6, .int w6125), (7, .int w3770), (8, .int w6126)] [] (Wd u6127 g ex) 0 0 := by
              intro n6203
              induction n6203 with
              | zero => intro w6123 w6124 w6125 w6126 u6127 bw6123 bw6124 bw6126 fr6128 fc6129 bm6130 hm6205; exact absurd hm6205 (Nat.not_lt_zero _)
              | succ n6203 ih6204 =>
                intro w6123 w6124 w6125 w6126 u6127 bw6123 bw6124 bw6126 fr6128 fc6129 bm6130 hm6205
                refine J_iload (i := 8) (j := 6) dX11_worst_53 rfl ?_
                refine J_iconst (v := 1) dX11_worst_55 (by decide) ?_
                refine J_aload_n (i := 0) (j := 0) dX11_worst_56 rfl rfl ?_
                refine J_get (C := RX11) (T := TX11) (Z := 43) (ci := 11) (f := 22) dX11_worst_57 inG11 rfl (by decide) k1286 wc_162 rfl ?_
                refine J_ci (v := u5 162 22) ((fc6129 22 (Nat.ne_of_beq_eq_false rfl) (Nat.ne_of_beq_eq_false rfl) (Nat.ne_of_beq_eq_false rfl)).trans (fc3773 22 (Nat.ne_of_beq_eq_false rfl) (Nat.ne_of_beq_eq_false rfl) (Nat.ne_of_beq_eq_false rfl))) ?_
                refine J_ishl dX11_worst_60 ?_
                refine J_icmp_ge (tgt := 120) dX11_worst_61 (by decide) (fun c6206 => ?_) (fun c6206 => ?_)
                · refine J_iinc (i := 7) (j := 5) (v := (w3770 + 1)) (lw := [(7, .int (w3770 + 1)), (0, .ref 162), (3, .int what), (4, .int w6123), (5, .int w6124), (6, .int w6125), (8, .int w6126)]) dX11_worst_120 rfl rfl (by decide) rfl ?_
                  refine J_goto (tgt := 39) dX11_worst_123 (by decide) ?_
                  refine J_lv [1, 2, 3, 4, 5, 0] rfl ?_
                  exact ih5026 w6123 w6124 w6125 (w3770 + 1) u6127 bw6123 bw6124 (bd_w (l := 0) (h := 4) (bd_add (l := 1) (h := 4) (bd_lt_hi bw3770 (i_nle c5028) ((h9 c12).1).1) (bd_c (v := 1) (lo := 1) (hi := 1) (by decide)) (by decide)) (by decide)) (fun c k_ => ((fr6128 c (nin_sub (M := [(162, 162), (173, 175)]) k_ rfl)).trans (fr3772 c (nin_sub (M := [(162, 162), (173, 175)]) k_ rfl)))) (fun j k31_ k32_ k33_ => ((fc6129 j k31_ k32_ k33_).trans (fc3773 j k31_ k32_ k33_))) bm6130 (mu_up 1 bw3770 rfl (by decide) (bd_w (l := 1) (h := 4) (bd_add (l := 1) (h := 4) (bd_lt_hi bw3770 (i_nle c5028) ((h9 c12).1).1) (bd_c (v := 1) (lo := 1) (hi := 1) (by decide)) (by decide)) (by decide)) hm5027)
                · refine J_aload_n (i := 0) (j := 0) dX11_worst_64 rfl rfl ?_
                  refine J_iload (i := 7) (j := 5) dX11_worst_65 rfl ?_
                  refine J_iload (i := 8) (j := 6) dX11_worst_67 rfl ?_
                  refine J_callV (As := [.int w3770, .int w6126]) (rest := []) dX11_worst_69 (c_M_partsOf (d := 1) (u := u6127) (g := g) (ex := ex) (rain := w3770) (banks := w6126)  (by decide) (bd_r ((fc6129 22 (Nat.ne_of_beq_eq_false rfl) (Nat.ne_of_beq_eq_false rfl) (Nat.ne_of_beq_eq_false rfl)).trans (fc3773 22 (Nat.ne_of_beq_eq_false rfl) (Nat.ne_of_beq_eq_false rfl) (Nat.ne_of_beq_eq_false rfl))) h6) (bd_w (l := (-1)) (h := 75) (bd_lt_hi bw3770 (i_nle c5028) ((h9 c12).1).1) (by decide))) hq.n k1579 k1581 k66 wc_162 rfl rfl k97 k1582 np_X11_partsOf (Nat.le_trans (by decide) hd) (by decide) (Nat.le_refl _) (Nat.le_refl _) wlen rfl (Nat.le_of_ble_eq_true rfl) (fun r_ h_ p6242 => ?_)
                  obtain ⟨l6243, rfl, rfl⟩ := p6242
                  refine J_lconst (v := 0) dX11_worst_72 (by decide) ?_
                  refine J_lcmp dX11_worst_73 ?_
                  have jn6264 : ∀ (w6257 : Int32) (w6258 : Int32) (w6259 : Int32) (u6260 : Nat → Nat → Int32), Bd (-1) 9 w6257 → Bd 0 511 w6258 → (∀ c, nin c [(162, 162), (173, 175)] = true → u6260 c = u6127 c) → (∀ j, j ≠ 31 → j ≠ 32 → j ≠ 33 → u6260 162 j = u6127 162 j) → Bd 0 511 (u6260 162 31) → J x yX11_worst cX11_worst 9 (some .long) d 0 0 (Wd u g ex).length 114 [(0, .ref 162), (3, .int what), (4, .int w6257), (5, .int w6258), (6, .int w6259), (7, .int w3770), (8, .int w6126)] [] (Wd u6260 g ex) 0 0 := by
                    intro w6257 w6258 w6259 u6260 bw6257 bw6258 fr6261 fc6262 bm6263
                    refine J_iinc (i := 8) (j := 6) (v := (w6126 + 1)) (lw := [(8, .int (w6126 + 1)), (0, .ref 162), (3, .int what), (4, .int w6257), (5, .int w6258), (6, .int w6259), (7, .int w3770)]) dX11_worst_114 rfl rfl (by decide) rfl ?_
                    refine J_goto (tgt := 53) dX11_worst_117 (by decide) ?_
                    refine J_lv [1, 2, 3, 4, 5, 6, 0] rfl ?_
                    exact ih6204 w6257 w6258 w6259 (w6126 + 1) u6260 bw6257 bw6258 (bd_w (l := 0) (h := 512) (bd_add (l := 1) (h := 512) (bd_lt_hi bw6126 (i_nle c6206) (bd_shl (lo := 0) (hi := 9) (l := 1) (h := 512) h6 (by decide))) (bd_c (v := 1) (lo := 1) (hi := 1) (by decide)) (by decide)) (by decide)) (fun c k_ => ((fr6261 c (nin_sub (M := [(162, 162), (173, 175)]) k_ rfl)).trans (fr6128 c (nin_sub (M := [(162, 162), (173, 175)]) k_ rfl)))) (fun j k31_ k32_ k33_ => ((fc6262 j k31_ k32_ k33_).trans (fc6129 j k31_ k32_ k33_))) bm6263 (mu_up 1 bw6126 rfl (by decide) (bd_w (l := 1) (h := 512) (bd_add (l := 1) (h := 512) (bd_lt_hi bw6126 (i_nle c6206) (bd_shl (lo := 0) (hi := 9) (l := 1) (h := 512) h6 (by decide))) (bd_c (v := 1) (lo := 1) (hi := 1) (by decide)) (by decide)) (by decide)) hm6205)
                  refine J_if_le (tgt := 114) dX11_worst_74 (by decide) (fun c6244 => ?_) (fun c6244 => ?_)
                  · refine J_lv [0, 1, 2, 3, 4, 5, 6] rfl ?_
                    exact jn6264 w6123 w6124 w6125 u6127 bw6123 bw6124 (fun c k_ => rfl) (fun j k31_ k32_ k33_ => rfl) bm6130
                  · refine J_aload_n (i := 0) (j := 0) dX11_worst_77 rfl rfl ?_
                    refine J_aload_n (i := 0) (j := 0) dX11_worst_78 rfl rfl ?_
                    refine J_iload (i := 7) (j := 5) dX11_worst_79 rfl ?_
                    refine J_callV (As := [.int w3770]) (rest := [.ref 162]) dX11_worst_81 (c_M_stepsOf (d := 0) (u := u6127) (g := g) (ex := ex) (rain := w3770)  (by decide) (bd_w (l := 0) (h := 75) (bd_lt_hi bw3770 (i_nle c5028) ((h9 c12).1).1) (by decide))) hq.n k1547 k1549 k60 wc_162 rfl rfl k97 k1550 np_X11_stepsOf (Nat.le_trans (by decide) hd) (by decide) (Nat.le_refl _) (Nat.le_refl _) wlen rfl (Nat.le_of_ble_eq_true rfl) (fun r_ h_ p6265 => ?_)
                    obtain ⟨v6266, rfl, rfl⟩ := p6265
                    refine J_iload (i := 8) (j := 6) dX11_worst_84 rfl ?_
                    refine J_callV (As := [.int v6266, .int w6126]) (rest := []) dX11_worst_86 (c_M_blow (d := 3) (u := u6127) (g := g) (ex := ex) (steps := v6266) (banks := w6126)  (by decide) (bd_r ((fc6129 22 (Nat.ne_of_beq_eq_false rfl) (Nat.ne_of_beq_eq_false rfl) (Nat.ne_of_beq_eq_false rfl)).trans (fc3773 22 (Nat.ne_of_beq_eq_false rfl) (Nat.ne_of_beq_eq_false rfl) (Nat.ne_of_beq_eq_false rfl))) h6) (dn_c ((fr6128 172 rfl).trans (fr3772 172 rfl)) h7)) hq.n k1551 k1553 k61 wc_162 rfl rfl k97 k1554 np_X11_blow (Nat.le_trans (by decide) hd) (by decide) (Nat.le_refl _) (Nat.le_refl _) wlen rfl (Nat.le_of_ble_eq_true rfl) (fun r_ h_ p6267 => ?_)
                    obtain ⟨u6268, rfl, rfl, h6269, fr6270, fc6271⟩ := p6267
                    refine J_aload_n (i := 0) (j := 0) dX11_worst_89 rfl rfl ?_
                    refine J_iconst (v := (-1)) dX11_worst_90 (by decide) ?_
                    refine J_callV (As := [.int (-1)]) (rest := []) dX11_worst_91 (c_M_harmOf (d := 1) (u := u6268) (g := g) (ex := ex) (owner := (-1))  (by decide) (bd_r ((fc6271 22 (Nat.ne_of_beq_eq_false rfl) (Nat.ne_of_beq_eq_false rfl) (Nat.ne_of_beq_eq_false rfl)).trans ((fc6129 22 (Nat.ne_of_beq_eq_false rfl) (Nat.ne_of_beq_eq_false rfl) (Nat.ne_of_beq_eq_false rfl)).trans (fc3773 22 (Nat.ne_of_beq_eq_false rfl) (Nat.ne_of_beq_eq_false rfl) (Nat.ne_of_beq_eq_false rfl)))) h6)) hq.n k1570 k1572 k65 wc_162 rfl rfl k97 k1573 np_X11_harmOf (Nat.le_trans (by decide) hd) (by decide) (Nat.le_refl _) (Nat.le_refl _) wlen rfl (Nat.le_of_ble_eq_true rfl) (fun r_ h_ p6272 => ?_)
                    obtain ⟨v6273, rfl, rfl⟩ := p6272
                    refine J_iload (i := 6) (j := 4) dX11_worst_94 rfl ?_
                    refine J_icmp_le (tgt := 114) dX11_worst_96 (by decide) (fun c6274 => ?_) (fun c6274 => ?_)
                    · refine J_lv [0, 1, 2, 3, 4, 5, 6] rfl ?_
                      exact jn6264 w6123 w6124 w6125 u6268 bw6123 bw6124 (fun c k_ => (fr6270 c (nin_sub (M := [(162, 162), (173, 175)]) k_ rfl))) (fun j k31_ k32_ k33_ => (fc6271 j k31_ k32_ k33_)) h6269
                    · refine J_iload (i := 7) (j := 5) dX11_worst_99 rfl ?_
                      refine J_istore (i := 4) (lw := [(4, .int w3770), (0, .ref 162), (3, .int what), (5, .int w6124), (6, .int w6125), (7, .int w3770), (8, .int w6126)]) dX11_worst_101 (by decide) rfl ?_
                      refine J_iload (i := 8) (j := 6) dX11_worst_103 rfl ?_
                      refine J_istore (i := 5) (lw := [(5, .int w6126), (4, .int w3770), (0, .ref 162), (3, .int what), (6, .int w6125), (7, .int w3770), (8, .int w6126)]) dX11_worst_105 (by decide) rfl ?_
                      refine J_aload_n (i := 0) (j := 2) dX11_worst_107 rfl rfl ?_
                      refine J_iconst (v := (-1)) dX11_worst_108 (by decide) ?_
                      refine J_callV (As := [.int (-1)]) (rest := []) dX11_worst_109 (c_M_harmOf (d := 1) (u := u6268) (g := g) (ex := ex) (owner := (-1))  (by decide) (bd_r ((fc6271 22 (Nat.ne_of_beq_eq_false rfl) (Nat.ne_of_beq_eq_false rfl) (Nat.ne_of_beq_eq_false rfl)).trans ((fc6129 22 (Nat.ne_of_beq_eq_false rfl) (Nat.ne_of_beq_eq_false rfl) (Nat.ne_of_beq_eq_false rfl)).trans (fc3773 22 (Nat.ne_of_beq_eq_false rfl) (Nat.ne_of_beq_eq_false rfl) (Nat.ne_of_beq_eq_false rfl)))) h6)) hq.n k1570 k1572 k65 wc_162 rfl rfl k97 k1573 np_X11_harmOf (Nat.le_trans (by decide) hd) (by decide) (Nat.le_refl _) (Nat.le_refl _) wlen rfl (Nat.le_of_ble_eq_true rfl) (fun r_ h_ p6275 => ?_)
                      obtain ⟨v6276, rfl, rfl⟩ := p6275
                      refine J_istore (i := 6) (lw := [(6, .int v6276), (5, .int w6126), (4, .int w3770), (0, .ref 162), (3, .int what), (7, .int w3770), (8, .int w6126)]) dX11_worst_112 (by decide) rfl ?_
                      refine J_lv [3, 4, 2, 1, 0, 5, 6] rfl ?_
                      exact jn6264 w3770 w6126 v6276 u6268 (bd_w (l := (-1)) (h := 9) (bd_lt_hi bw3770 (i_nle c5028) ((h9 c12).1).1) (by decide)) (bd_lt_hi bw6126 (i_nle c6206) (bd_shl (lo := 0) (hi := 9) (l := 1) (h := 512) h6 (by decide))) (fun c k_ => (fr6270 c (nin_sub (M := [(162, 162), (173, 175)]) k_ rfl))) (fun j k31_ k32_ k33_ => (fc6271 j k31_ k32_ k33_)) h6269
            refine J_lv [1, 2, 3, 4, 5, 6, 0] rfl ?_
            exact lp6202 _ w3767 w3768 w3769 (0 : Int32) u3771 bw3767 bw3768 (bd_w (l := 0) (h := 512) (bd_c (v := 0) (lo := 0) (hi := 0) (by decide)) (by decide)) (fun c k_ => rfl) (fun j k31_ k32_ k33_ => rfl) bm3774 (Nat.lt_succ_self _)
      refine J_lv [4, 7, 3, 2, 1, 0] rfl ?_
      exact lp5024 _ ((-1) : Int32) (0 : Int32) ((-1) : Int32) (0 : Int32) u5 (bd_w (l := (-1)) (h := 9) (bd_c (v := (-1)) (lo := (-1)) (hi := (-1)) (by decide)) (by decide)) (bd_w (l := 0) (h := 511) (bd_c (v := 0) (lo := 0) (hi := 0) (by decide)) (by decide)) (bd_w (l := 0) (h := 4) (bd_c (v := 0) (lo := 0) (hi := 0) (by decide)) (by decide)) (fun c k_ => rfl) (fun j k31_ k32_ k33_ => rfl) (bd_r ((fc11 31 (Nat.ne_of_beq_eq_false rfl) (Nat.ne_of_beq_eq_false rfl) (Nat.ne_of_beq_eq_false rfl) (Nat.ne_of_beq_eq_false rfl) (Nat.ne_of_beq_eq_false rfl) (Nat.ne_of_beq_eq_false rfl)).trans (ms_i e2 (Nat.ne_of_beq_eq_false rfl))) hp8) (Nat.lt_succ_self _)
    · refine J_ldc2 (v := (-1)) dX11_worst_23 k1578 ?_
      exact J_lret hq dX11_worst_26 rfl wlen (Nat.le_refl _) (Nat.le_refl _) ⟨((-1) : Int64), u5, rfl, rfl, h6, h7, h8, (bd_r ((fc11 31 (Nat.ne_of_beq_eq_false rfl) (Nat.ne_of_beq_eq_false rfl) (Nat.ne_of_beq_eq_false rfl) (Nat.ne_of_beq_eq_false rfl) (Nat.ne_of_beq_eq_false rfl) (Nat.ne_of_beq_eq_false rfl)).trans (ms_i e2 (Nat.ne_of_beq_eq_false rfl))) hp8), (fun c k_ => ((fr10 c (nin_ne (a := 162) k_ rfl) (nin_ne (a := 172) k_ rfl)).trans (ms_c e2 (nin_ne (a := 162) k_ rfl)))), (fun j k0_ k22_ k23_ k24_ k25_ k26_ k27_ k31_ k32_ k33_ => ((fc11 j k22_ k23_ k24_ k25_ k26_ k27_).trans (ms_i e2 k0_)))⟩
set_option maxHeartbeats 4000000 in
set_option maxRecDepth 100000 in
theorem c_M_flood {d : Nat} {u : Nat → Nat → Int32} {g : Nat → Nat → Int64} {ex : List MC} {hill : Int32} {plan : Int32} (hd : 4 ≤ d) (hp0 : (MY u)) (hp1 : AB u 168 (-1) 999) (hp2 : (HD u)) (hp3 : (HC u)) (hp4 : (PL u)) (hp5 : (N0 u)) (hp6 : (DN u)) (hp7 : Bd 0 9 (u 162 22)) (hp8 : Bd 0 511 (u 162 31)) (hp9 : AB u 177 (-1) 999) : CT con0 d 0 0 yX11_flood cX11_flood 6 (some .int) [.ref 162, .int hill, .int plan] (Wd u g ex) (fun r h2 => ∃ (z : Int32) (u2 : Nat → Nat → Int32), r = some (.int z) ∧ h2 = Wd u2 g ex ∧ Bd 0 9 (u2 162 22) ∧ (DN u2) ∧ (N0 u2) ∧ Bd 0 511 (u2 162 31) ∧ (∀ c, nin c [(162, 162), (172, 175)] = true → u2 c = u c) ∧ (∀ j, j ≠ 0 → j ≠ 22 → j ≠ 23 → j ≠ 24 → j ≠ 25 → j ≠ 26 → j ≠ 27 → j ≠ 31 → j ≠ 32 → j ≠ 33 → u2 162 j = u 162 j)) := by
  refine CT_of (by decide) (Nat.le_of_ble_eq_true rfl) (fun x hq => ?_)
  show J x yX11_flood cX11_flood 6 (some .int) d 0 0 (Wd u g ex).length 0 [(0, .ref 162), (1, .int hill), (2, .int plan)] [] (Wd u g ex) 0 0
  refine J_aload_n (i := 0) (j := 0) dX11_flood_0 rfl rfl ?_
  refine J_iconst (v := 0) dX11_flood_1 (by decide) ?_
  obtain ⟨u1, e2⟩ : ∃ z, z = ms u 162 0 0 := ⟨_, rfl⟩
  refine J_put (C := RX11) (T := TX11) (Z := 43) (ci := 11) (f := 0) (ty0 := tyX11) dX11_flood_2 inG11 rfl tyX11_ok nmX11 (by decide) k1264 rfl rfl wc_162 (Nat.le_of_ble_eq_true rfl) (fun _ _ => ⟨rfl, rfl⟩) (ws e2 wk_162 rfl) ?_
  refine J_aload_n (i := 0) (j := 0) dX11_flood_5 rfl rfl ?_
  refine J_iload_n (i := 1) (j := 1) dX11_flood_6 rfl rfl ?_
  refine J_iload_n (i := 2) (j := 2) dX11_flood_7 rfl rfl ?_
  refine J_callV (As := [.int hill, .int plan]) (rest := []) dX11_flood_8 (c_M_lay (d := 2) (u := u1) (g := g) (ex := ex) (h := hill) (plan := plan)  (by decide) (my_c (ms_c e2 (Nat.ne_of_beq_eq_false rfl)) hp0) (ab_c (ms_c e2 (Nat.ne_of_beq_eq_false rfl)) hp1) (hd_c (ms_c e2 (Nat.ne_of_beq_eq_false rfl)) hp2) (hc_c (ms_c e2 (Nat.ne_of_beq_eq_false rfl)) (ms_c e2 (Nat.ne_of_beq_eq_false rfl)) hp3) (pl_c (ms_c e2 (Nat.ne_of_beq_eq_false rfl)) hp4) (n0_c (ms_c e2 (Nat.ne_of_beq_eq_false rfl)) hp5) (dn_c (ms_c e2 (Nat.ne_of_beq_eq_false rfl)) hp6) (bd_r (ms_i e2 (Nat.ne_of_beq_eq_false rfl)) hp7)) hq.n k1503 k1505 k52 wc_162 rfl rfl k97 k1506 np_X11_lay (Nat.le_trans (by decide) hd) (by decide) (Nat.le_refl _) (Nat.le_refl _) wlen rfl (Nat.le_of_ble_eq_true rfl) (fun r_ h_ p3 => ?_)
  obtain ⟨t4, u5, rfl, rfl, h6, h7, h8, h9, fr10, fc11⟩ := p3
  refine J_ifB_ne (tgt := 16) dX11_flood_11 (by decide) (fun c12 => ?_) (fun c12 => ?_)
  · refine J_iconst (v := 0) dX11_flood_16 (by decide) ?_
    refine J_istore_n (i := 3) (lw := [(3, .int 0), (0, .ref 162), (1, .int hill), (2, .int plan)]) dX11_flood_17 rfl (by decide) rfl ?_
    refine J_iconst (v := 0) dX11_flood_18 (by decide) ?_
    refine J_istore (i := 4) (lw := [(4, .int 0), (3, .int 0), (0, .ref 162), (1, .int hill), (2, .int plan)]) dX11_flood_19 (by decide) rfl ?_
    have lp4131 : ∀ (n4132 : Nat) (w3100 : Int32) (w3101 : Int32) (u3102 : Nat → Nat → Int32), Bd 0 2147483647 w3100 → Bd 0 4 w3101 → (∀ c, nin c [(162, 162), (173, 175)] = true → u3102 c = u5 c) → (∀ j, j ≠ 31 → j ≠ 32 → j ≠ 33 → u3102 162 j = u5 162 j) → Bd 0 511 (u3102 162 31) → (4 - w3101.toInt).toNat < n4132 → J x yX11_flood cX11_flood 6 (some .int) d 0 0 (Wd u g ex).length 21 [(0, .ref 162), (3, .int w3100), (4, .int w3101)] [] (Wd u3102 g ex) 0 0 := by
      intro n4132
      induction n4132 with
      | zero => intro w3100 w3101 u3102 bw3100 bw3101 fr3103 fc3104 bm3105 hm4134; exact absurd hm4134 (Nat.not_lt_zero _)
      | succ n4132 ih4133 =>
        intro w3100 w3101 u3102 bw3100 bw3101 fr3103 fc3104 bm3105 hm4134
        refine J_iload (i := 4) (j := 2) dX11_flood_21 rfl ?_
        refine J_aload_n (i := 0) (j := 0) dX11_flood_23 rfl rfl ?_
        refine J_get (C := RX11) (T := TX11) (Z := 43) (ci := 11) (f := 21) dX11_flood_24 inG11 rfl (by decide) k1285 wc_162 rfl ?_
        refine J_iconst (v := 1) dX11_flood_27 (by decide) ?_
        refine J_iald dX11_flood_28 wc_172 (vin (bd_c (v := 1) (lo := 1) (hi := 1) (by decide)) (by decide)) ?_
        refine J_ci (v := u5 172 1) (congrFun (fr3103 172 rfl) 1) ?_
        refine J_icmp_ge (tgt := 100) dX11_flood_29 (by decide) (fun c4135 => ?_) (fun c4135 => ?_)
        · refine J_iload_n (i := 3) (j := 1) dX11_flood_100 rfl rfl ?_
          exact J_iret hq dX11_flood_101 rfl wlen (Nat.le_refl _) (Nat.le_refl _) ⟨w3100, u3102, rfl, rfl, (bd_r (fc3104 22 (Nat.ne_of_beq_eq_false rfl) (Nat.ne_of_beq_eq_false rfl) (Nat.ne_of_beq_eq_false rfl)) h6), (dn_c (fr3103 172 rfl) h7), (n0_c (fr3103 172 rfl) h8), bm3105, (fun c k_ => ((fr3103 c (nin_sub (M := [(162, 162), (173, 175)]) k_ rfl)).trans ((fr10 c (nin_ne (a := 162) k_ rfl) (nin_ne (a := 172) k_ rfl)).trans (ms_c e2 (nin_ne (a := 162) k_ rfl))))), (fun j k0_ k22_ k23_ k24_ k25_ k26_ k27_ k31_ k32_ k33_ => ((fc3104 j k31_ k32_ k33_).trans ((fc11 j k22_ k23_ k24_ k25_ k26_ k27_).trans (ms_i e2 k0_))))⟩
        · refine J_iconst (v := 0) dX11_flood_32 (by decide) ?_
          refine J_istore (i := 5) (lw := [(5, .int 0), (0, .ref 162), (3, .int w3100), (4, .int w3101)]) dX11_flood_33 (by decide) rfl ?_
          have lp5097 : ∀ (n5098 : Nat) (w5032 : Int32) (w5033 : Int32) (u5034 : Nat → Nat → Int32), Bd 0 2147483647 w5032 → Bd 0 512 w5033 → (∀ c, nin c [(162, 162), (173, 175)] = true → u5034 c = u3102 c) → (∀ j, j ≠ 31 → j ≠ 32 → j ≠ 33 → u5034 162 j = u3102 162 j) → Bd 0 511 (u5034 162 31) → (512 - w5033.toInt).toNat < n5098 → J x yX11_flood cX11_flood 6 (some .int) d 0 0 (Wd u g ex).length 35 [(0, .ref 162), (3, .int w5032), (4, .int w3101), (5, .int w5033)] [] (Wd u5034 g ex) 0 0 := by
            intro n5098
            induction n5098 with
            | zero => intro w5032 w5033 u5034 bw5032 bw5033 fr5035 fc5036 bm5037 hm5100; exact absurd hm5100 (Nat.not_lt_zero _)
            | succ n5098 ih5099 =>
              intro w5032 w5033 u5034 bw5032 bw5033 fr5035 fc5036 bm5037 hm5100
              refine J_iload (i := 5) (j := 3) dX11_flood_35 rfl ?_
              refine J_iconst (v := 1) dX11_flood_37 (by decide) ?_
              refine J_aload_n (i := 0) (j := 0) dX11_flood_38 rfl rfl ?_
              refine J_get (C := RX11) (T := TX11) (Z := 43) (ci := 11) (f := 22) dX11_flood_39 inG11 rfl (by decide) k1286 wc_162 rfl ?_
              refine J_ci (v := u5 162 22) ((fc5036 22 (Nat.ne_of_beq_eq_false rfl) (Nat.ne_of_beq_eq_false rfl) (Nat.ne_of_beq_eq_false rfl)).trans (fc3104 22 (Nat.ne_of_beq_eq_false rfl) (Nat.ne_of_beq_eq_false rfl) (Nat.ne_of_beq_eq_false rfl))) ?_
              refine J_ishl dX11_flood_42 ?_
              refine J_icmp_ge (tgt := 94) dX11_flood_43 (by decide) (fun c5101 => ?_) (fun c5101 => ?_)
              · refine J_iinc (i := 4) (j := 2) (v := (w3101 + 1)) (lw := [(4, .int (w3101 + 1)), (0, .ref 162), (3, .int w5032), (5, .int w5033)]) dX11_flood_94 rfl rfl (by decide) rfl ?_
                refine J_goto (tgt := 21) dX11_flood_97 (by decide) ?_
                refine J_lv [1, 2, 0] rfl ?_
                exact ih4133 w5032 (w3101 + 1) u5034 bw5032 (bd_w (l := 0) (h := 4) (bd_add (l := 1) (h := 4) (bd_lt_hi bw3101 (i_nle c4135) ((h9 c12).1).1) (bd_c (v := 1) (lo := 1) (hi := 1) (by decide)) (by decide)) (by decide)) (fun c k_ => ((fr5035 c (nin_sub (M := [(162, 162), (173, 175)]) k_ rfl)).trans (fr3103 c (nin_sub (M := [(162, 162), (173, 175)]) k_ rfl)))) (fun j k31_ k32_ k33_ => ((fc5036 j k31_ k32_ k33_).trans (fc3104 j k31_ k32_ k33_))) bm5037 (mu_up 1 bw3101 rfl (by decide) (bd_w (l := 1) (h := 4) (bd_add (l := 1) (h := 4) (bd_lt_hi bw3101 (i_nle c4135) ((h9 c12).1).1) (bd_c (v := 1) (lo := 1) (hi := 1) (by decide)) (by decide)) (by decide)) hm4134)
              · refine J_aload_n (i := 0) (j := 0) dX11_flood_46 rfl rfl ?_
                refine J_iload (i := 4) (j := 2) dX11_flood_47 rfl ?_
                refine J_iload (i := 5) (j := 3) dX11_flood_49 rfl ?_
                refine J_callV (As := [.int w3101, .int w5033]) (rest := []) dX11_flood_51 (c_M_partsOf (d := 1) (u := u5034) (g := g) (ex := ex) (rain := w3101) (banks := w5033)  (by decide) (bd_r ((fc5036 22 (Nat.ne_of_beq_eq_false rfl) (Nat.ne_of_beq_eq_false rfl) (Nat.ne_of_beq_eq_false rfl)).trans (fc3104 22 (Nat.ne_of_beq_eq_false rfl) (Nat.ne_of_beq_eq_false rfl) (Nat.ne_of_beq_eq_false rfl))) h6) (bd_w (l := (-1)) (h := 75) (bd_lt_hi bw3101 (i_nle c4135) ((h9 c12).1).1) (by decide))) hq.n k1579 k1581 k66 wc_162 rfl rfl k97 k1582 np_X11_partsOf (Nat.le_trans (by decide) hd) (by decide) (Nat.le_refl _) (Nat.le_refl _) wlen rfl (Nat.le_of_ble_eq_true rfl) (fun r_ h_ p5131 => ?_)
                obtain ⟨l5132, rfl, rfl⟩ := p5131
                refine J_lconst (v := 0) dX11_flood_54 (by decide) ?_
                refine J_lcmp dX11_flood_55 ?_
                have jn5149 : ∀ (w5144 : Int32) (u5145 : Nat → Nat → Int32), Bd 0 2147483647 w5144 → (∀ c, nin c [(162, 162), (173, 175)] = true → u5145 c = u5034 c) → (∀ j, j ≠ 31 → j ≠ 32 → j ≠ 33 → u5145 162 j = u5034 162 j) → Bd 0 511 (u5145 162 31) → J x yX11_flood cX11_flood 6 (some .int) d 0 0 (Wd u g ex).length 88 [(0, .ref 162), (3, .int w5144), (4, .int w3101), (5, .int w5033)] [] (Wd u5145 g ex) 0 0 := by
                  intro w5144 u5145 bw5144 fr5146 fc5147 bm5148
                  refine J_iinc (i := 5) (j := 3) (v := (w5033 + 1)) (lw := [(5, .int (w5033 + 1)), (0, .ref 162), (3, .int w5144), (4, .int w3101)]) dX11_flood_88 rfl rfl (by decide) rfl ?_
                  refine J_goto (tgt := 35) dX11_flood_91 (by decide) ?_
                  refine J_lv [1, 2, 3, 0] rfl ?_
                  exact ih5099 w5144 (w5033 + 1) u5145 bw5144 (bd_w (l := 0) (h := 512) (bd_add (l := 1) (h := 512) (bd_lt_hi bw5033 (i_nle c5101) (bd_shl (lo := 0) (hi := 9) (l := 1) (h := 512) h6 (by decide))) (bd_c (v := 1) (lo := 1) (hi := 1) (by decide)) (by decide)) (by decide)) (fun c k_ => ((fr5146 c (nin_sub (M := [(162, 162), (173, 175)]) k_ rfl)).trans (fr5035 c (nin_sub (M := [(162, 162), (173, 175)]) k_ rfl)))) (fun j k31_ k32_ k33_ => ((fc5147 j k31_ k32_ k33_).trans (fc5036 j k31_ k32_ k33_))) bm5148 (mu_up 1 bw5033 rfl (by decide) (bd_w (l := 1) (h := 512) (bd_add (l := 1) (h := 512) (bd_lt_hi bw5033 (i_nle c5101) (bd_shl (lo := 0) (hi := 9) (l := 1) (h := 512) h6 (by decide))) (bd_c (v := 1) (lo := 1) (hi := 1) (by decide)) (by decide)) (by decide)) hm5100)
                refine J_if_le (tgt := 88) dX11_flood_56 (by decide) (fun c5133 => ?_) (fun c5133 => ?_)
                · refine J_lv [0, 1, 2, 3] rfl ?_
                  exact jn5149 w5032 u5034 bw5032 (fun c k_ => rfl) (fun j k31_ k32_ k33_ => rfl) bm5037
                · refine J_aload_n (i := 0) (j := 0) dX11_flood_59 rfl rfl ?_
                  refine J_aload_n (i := 0) (j := 0) dX11_flood_60 rfl rfl ?_
                  refine J_iload (i := 4) (j := 2) dX11_flood_61 rfl ?_
                  refine J_callV (As := [.int w3101]) (rest := [.ref 162]) dX11_flood_63 (c_M_stepsOf (d := 0) (u := u5034) (g := g) (ex := ex) (rain := w3101)  (by decide) (bd_w (l := 0) (h := 75) (bd_lt_hi bw3101 (i_nle c4135) ((h9 c12).1).1) (by decide))) hq.n k1547 k1549 k60 wc_162 rfl rfl k97 k1550 np_X11_stepsOf (Nat.le_trans (by decide) hd) (by decide) (Nat.le_refl _) (Nat.le_refl _) wlen rfl (Nat.le_of_ble_eq_true rfl) (fun r_ h_ p5150 => ?_)
                  obtain ⟨v5151, rfl, rfl⟩ := p5150
                  refine J_iload (i := 5) (j := 3) dX11_flood_66 rfl ?_
                  refine J_callV (As := [.int v5151, .int w5033]) (rest := []) dX11_flood_68 (c_M_blow (d := 3) (u := u5034) (g := g) (ex := ex) (steps := v5151) (banks := w5033)  (by decide) (bd_r ((fc5036 22 (Nat.ne_of_beq_eq_false rfl) (Nat.ne_of_beq_eq_false rfl) (Nat.ne_of_beq_eq_false rfl)).trans (fc3104 22 (Nat.ne_of_beq_eq_false rfl) (Nat.ne_of_beq_eq_false rfl) (Nat.ne_of_beq_eq_false rfl))) h6) (dn_c ((fr5035 172 rfl).trans (fr3103 172 rfl)) h7)) hq.n k1551 k1553 k61 wc_162 rfl rfl k97 k1554 np_X11_blow (Nat.le_trans (by decide) hd) (by decide) (Nat.le_refl _) (Nat.le_refl _) wlen rfl (Nat.le_of_ble_eq_true rfl) (fun r_ h_ p5152 => ?_)
                  obtain ⟨u5153, rfl, rfl, h5154, fr5155, fc5156⟩ := p5152
                  refine J_aload_n (i := 0) (j := 0) dX11_flood_71 rfl rfl ?_
                  refine J_get (C := RX11) (T := TX11) (Z := 43) (ci := 11) (f := 33) dX11_flood_72 inG11 rfl (by decide) k1297 wc_162 rfl ?_
                  refine J_iload_n (i := 3) (j := 1) dX11_flood_75 rfl rfl ?_
                  have jn5159 : ∀ (w5158 : Int32), Bd 0 2147483647 w5158 → J x yX11_flood cX11_flood 6 (some .int) d 0 0 (Wd u g ex).length 87 [(0, .ref 162), (4, .int w3101), (5, .int w5033)] [.int w5158] (Wd u5153 g ex) 0 0 := by
                    intro w5158 bw5158
                    refine J_istore_n (i := 3) (lw := [(3, .int w5158), (0, .ref 162), (4, .int w3101), (5, .int w5033)]) dX11_flood_87 rfl (by decide) rfl ?_
                    refine J_lv [1, 0, 2, 3] rfl ?_
                    exact jn5149 w5158 u5153 bw5158 (fun c k_ => (fr5155 c (nin_sub (M := [(162, 162), (173, 175)]) k_ rfl))) (fun j k31_ k32_ k33_ => (fc5156 j k31_ k32_ k33_)) h5154
                  refine J_icmp_le (tgt := 86) dX11_flood_76 (by decide) (fun c5157 => ?_) (fun c5157 => ?_)
                  · refine J_iload_n (i := 3) (j := 1) dX11_flood_86 rfl rfl ?_
                    refine J_lv [0, 2, 3] rfl ?_
                    exact jn5159 w5032 bw5032
                  · refine J_aload_n (i := 0) (j := 0) dX11_flood_79 rfl rfl ?_
                    refine J_get (C := RX11) (T := TX11) (Z := 43) (ci := 11) (f := 33) dX11_flood_80 inG11 rfl (by decide) k1297 wc_162 rfl ?_
                    refine J_goto (tgt := 87) dX11_flood_83 (by decide) ?_
                    refine J_lv [0, 2, 3] rfl ?_
                    exact jn5159 (u5153 162 33) (bd_w (l := 0) (h := 2147483647) (bd_lt_lo (bd_any (u5153 162 33)) (i_nle c5157) bw5032) (by decide))
          refine J_lv [1, 2, 3, 0] rfl ?_
          exact lp5097 _ w3100 (0 : Int32) u3102 bw3100 (bd_w (l := 0) (h := 512) (bd_c (v := 0) (lo := 0) (hi := 0) (by decide)) (by decide)) (fun c k_ => rfl) (fun j k31_ k32_ k33_ => rfl) bm3105 (Nat.lt_succ_self _)
    refine J_lv [2, 1, 0] rfl ?_
    exact lp4131 _ (0 : Int32) (0 : Int32) u5 (bd_w (l := 0) (h := 2147483647) (bd_c (v := 0) (lo := 0) (hi := 0) (by decide)) (by decide)) (bd_w (l := 0) (h := 4) (bd_c (v := 0) (lo := 0) (hi := 0) (by decide)) (by decide)) (fun c k_ => rfl) (fun j k31_ k32_ k33_ => rfl) (bd_r ((fc11 31 (Nat.ne_of_beq_eq_false rfl) (Nat.ne_of_beq_eq_false rfl) (Nat.ne_of_beq_eq_false rfl) (Nat.ne_of_beq_eq_false rfl) (Nat.ne_of_beq_eq_false rfl) (Nat.ne_of_beq_eq_false rfl)).trans (ms_i e2 (Nat.ne_of_beq_eq_false rfl))) hp8) (Nat.lt_succ_self _)
  · refine J_iconst (v := (-1)) dX11_flood_14 (by decide) ?_
    exact J_iret hq dX11_flood_15 rfl wlen (Nat.le_refl _) (Nat.le_refl _) ⟨((-1) : Int32), u5, rfl, rfl, h6, h7, h8, (bd_r ((fc11 31 (Nat.ne_of_beq_eq_false rfl) (Nat.ne_of_beq_eq_false rfl) (Nat.ne_of_beq_eq_false rfl) (Nat.ne_of_beq_eq_false rfl) (Nat.ne_of_beq_eq_false rfl) (Nat.ne_of_beq_eq_false rfl)).trans (ms_i e2 (Nat.ne_of_beq_eq_false rfl))) hp8), (fun c k_ => ((fr10 c (nin_ne (a := 162) k_ rfl) (nin_ne (a := 172) k_ rfl)).trans (ms_c e2 (nin_ne (a := 162) k_ rfl)))), (fun j k0_ k22_ k23_ k24_ k25_ k26_ k27_ k31_ k32_ k33_ => ((fc11 j k22_ k23_ k24_ k25_ k26_ k27_).trans (ms_i e2 k0_)))⟩
set_option maxHeartbeats 4000000 in
set_option maxRecDepth 100000 in
theorem c_M_around {d : Nat} {u : Nat → Nat → Int32} {g : Nat → Nat → Int64} {ex : List MC} {hill : Int32} {plan : Int32} {second : Int32} (hd : 5 ≤ d) (hp0 : (MY u)) (hp1 : AB u 168 (-1) 999) (hp2 : (HD u)) (hp3 : (HC u)) (hp4 : (PL u)) (hp5 : (N0 u)) (hp6 : (DN u)) (hp7 : Bd 0 9 (u 162 22)) (hp8 : Bd 0 511 (u 162 31)) (hp9 : AB u 177 (-1) 999) : CT con0 d 0 0 yX11_around cX11_around 13 (some .int) [.ref 162, .int hill, .int plan, .int second] (Wd u g ex) (fun r h2 => ∃ (z : Int32) (u2 : Nat → Nat → Int32), r = some (.int z) ∧ h2 = Wd u2 g ex ∧ Bd 0 9 (u2 162 22) ∧ (DN u2) ∧ (N0 u2) ∧ Bd 0 511 (u2 162 31) ∧ (∀ c, nin c [(162, 162), (172, 175)] = true → u2 c = u c) ∧ (∀ j, j ≠ 0 → j ≠ 22 → j ≠ 23 → j ≠ 24 → j ≠ 25 → j ≠ 26 → j ≠ 27 → j ≠ 31 → j ≠ 32 → j ≠ 33 → u2 162 j = u 162 j)) := by
  refine CT_of (by decide) (Nat.le_of_ble_eq_true rfl) (fun x hq => ?_)
  show J x yX11_around cX11_around 13 (some .int) d 0 0 (Wd u g ex).length 0 [(0, .ref 162), (1, .int hill), (2, .int plan), (3, .int second)] [] (Wd u g ex) 0 0
  refine J_aload_n (i := 0) (j := 0) dX11_around_0 rfl rfl ?_
  refine J_iconst (v := 0) dX11_around_1 (by decide) ?_
  obtain ⟨u1, e2⟩ : ∃ z, z = ms u 162 0 0 := ⟨_, rfl⟩
  refine J_put (C := RX11) (T := TX11) (Z := 43) (ci := 11) (f := 0) (ty0 := tyX11) dX11_around_2 inG11 rfl tyX11_ok nmX11 (by decide) k1264 rfl rfl wc_162 (Nat.le_of_ble_eq_true rfl) (fun _ _ => ⟨rfl, rfl⟩) (ws e2 wk_162 rfl) ?_
  refine J_aload_n (i := 0) (j := 0) dX11_around_5 rfl rfl ?_
  refine J_iload_n (i := 1) (j := 1) dX11_around_6 rfl rfl ?_
  refine J_iload_n (i := 2) (j := 2) dX11_around_7 rfl rfl ?_
  refine J_callV (As := [.int hill, .int plan]) (rest := []) dX11_around_8 (c_M_lay (d := 2) (u := u1) (g := g) (ex := ex) (h := hill) (plan := plan)  (by decide) (my_c (ms_c e2 (Nat.ne_of_beq_eq_false rfl)) hp0) (ab_c (ms_c e2 (Nat.ne_of_beq_eq_false rfl)) hp1) (hd_c (ms_c e2 (Nat.ne_of_beq_eq_false rfl)) hp2) (hc_c (ms_c e2 (Nat.ne_of_beq_eq_false rfl)) (ms_c e2 (Nat.ne_of_beq_eq_false rfl)) hp3) (pl_c (ms_c e2 (Nat.ne_of_beq_eq_false rfl)) hp4) (n0_c (ms_c e2 (Nat.ne_of_beq_eq_false rfl)) hp5) (dn_c (ms_c e2 (Nat.ne_of_beq_eq_false rfl)) hp6) (bd_r (ms_i e2 (Nat.ne_of_beq_eq_false rfl)) hp7)) hq.n k1503 k1505 k52 wc_162 rfl rfl k97 k1506 np_X11_lay (Nat.le_trans (by decide) hd) (by decide) (Nat.le_refl _) (Nat.le_refl _) wlen rfl (Nat.le_of_ble_eq_true rfl) (fun r_ h_ p3 => ?_)
  obtain ⟨t4, u5, rfl, rfl, h6, h7, h8, h9, fr10, fc11⟩ := p3
  refine J_ifB_ne (tgt := 16) dX11_around_11 (by decide) (fun c12 => ?_) (fun c12 => ?_)
  · refine J_aload_n (i := 0) (j := 0) dX11_around_16 rfl rfl ?_
    refine J_iconst (v := (-1)) dX11_around_17 (by decide) ?_
    refine J_callV (As := [.int (-1)]) (rest := []) dX11_around_18 (c_M_meanBy (d := 4) (u := u5) (g := g) (ex := ex) (owner := (-1))  (by decide) h6 (h9 c12).1 h7 (bd_r ((fc11 31 (Nat.ne_of_beq_eq_false rfl) (Nat.ne_of_beq_eq_false rfl) (Nat.ne_of_beq_eq_false rfl) (Nat.ne_of_beq_eq_false rfl) (Nat.ne_of_beq_eq_false rfl) (Nat.ne_of_beq_eq_false rfl)).trans (ms_i e2 (Nat.ne_of_beq_eq_false rfl))) hp8)) hq.n k1596 k1598 k68 wc_162 rfl rfl k97 k1599 np_X11_meanBy (Nat.le_trans (by decide) hd) (by decide) (Nat.le_refl _) (Nat.le_refl _) wlen rfl (Nat.le_of_ble_eq_true rfl) (fun r_ h_ p13 => ?_)
    obtain ⟨l14, u15, rfl, rfl, h16, fr17, fc18⟩ := p13
    refine J_lstore (i := 4) (lw := [(4, .long l14), (0, .ref 162), (1, .int hill), (2, .int plan), (3, .int second)]) dX11_around_21 (by decide) rfl ?_
    refine J_iconst (v := (-1)) dX11_around_23 (by decide) ?_
    refine J_istore (i := 6) (lw := [(6, .int (-1)), (4, .long l14), (0, .ref 162), (1, .int hill), (2, .int plan), (3, .int second)]) dX11_around_24 (by decide) rfl ?_
    refine J_iconst (v := (-1)) dX11_around_26 (by decide) ?_
    refine J_istore (i := 7) (lw := [(7, .int (-1)), (6, .int (-1)), (4, .long l14), (0, .ref 162), (1, .int hill), (2, .int plan), (3, .int second)]) dX11_around_27 (by decide) rfl ?_
    refine J_iconst (v := 0) dX11_around_29 (by decide) ?_
    refine J_istore (i := 8) (lw := [(8, .int 0), (7, .int (-1)), (6, .int (-1)), (4, .long l14), (0, .ref 162), (1, .int hill), (2, .int plan), (3, .int second)]) dX11_around_30 (by decide) rfl ?_
    have lp2223 : ∀ (n2224 : Nat) (w1623 : Int64) (w1624 : Int32) (w1625 : Int32) (w1626 : Int32) (u1627 : Nat → Nat → Int32), Bd (-1) 9 w1624 → Bd (-1) 9 w1625 → Bd 0 9 w1626 → (∀ c, nin c [(162, 162), (172, 175)] = true → u1627 c = u15 c) → (∀ j, j ≠ 31 → j ≠ 32 → j ≠ 33 → u1627 162 j = u15 162 j) → Bd 0 511 (u1627 162 31) → AB u1627 172 (-1) 999 → DN u1627 → N0 u1627 → RC u1627 → (9 - w1626.toInt).toNat < n2224 → J x yX11_around cX11_around 13 (some .int) d 0 0 (Wd u g ex).length 32 [(0, .ref 162), (3, .int second), (4, .long w1623), (6, .int w1624), (7, .int w1625), (8, .int w1626)] [] (Wd u1627 g ex) 0 0 := by
      intro n2224
      induction n2224 with
      | zero => intro w1623 w1624 w1625 w1626 u1627 bw1624 bw1625 bw1626 fr1628 fc1629 bm1630 ab1631 rf1632 rf1633 rf1634 hm2226; exact absurd hm2226 (Nat.not_lt_zero _)
      | succ n2224 ih2225 =>
        intro w1623 w1624 w1625 w1626 u1627 bw1624 bw1625 bw1626 fr1628 fc1629 bm1630 ab1631 rf1632 rf1633 rf1634 hm2226
        refine J_iload (i := 8) (j := 5) dX11_around_32 rfl ?_
        refine J_aload_n (i := 0) (j := 0) dX11_around_34 rfl rfl ?_
        refine J_get (C := RX11) (T := TX11) (Z := 43) (ci := 11) (f := 22) dX11_around_35 inG11 rfl (by decide) k1286 wc_162 rfl ?_
        refine J_ci (v := u5 162 22) ((fc1629 22 (Nat.ne_of_beq_eq_false rfl) (Nat.ne_of_beq_eq_false rfl) (Nat.ne_of_beq_eq_false rfl)).trans (fc18 22 (Nat.ne_of_beq_eq_false rfl) (Nat.ne_of_beq_eq_false rfl) (Nat.ne_of_beq_eq_false rfl))) ?_
        refine J_icmp_ge (tgt := 146) dX11_around_38 (by decide) (fun c2227 => ?_) (fun c2227 => ?_)
        · refine J_iload_n (i := 3) (j := 1) dX11_around_146 rfl rfl ?_
          refine J_if_eq (tgt := 155) dX11_around_147 (by decide) (fun c2521 => ?_) (fun c2521 => ?_)
          · refine J_iload (i := 6) (j := 3) dX11_around_155 rfl ?_
            exact J_iret hq dX11_around_157 rfl wlen (Nat.le_refl _) (Nat.le_refl _) ⟨w1624, u1627, rfl, rfl, (bd_r ((fc1629 22 (Nat.ne_of_beq_eq_false rfl) (Nat.ne_of_beq_eq_false rfl) (Nat.ne_of_beq_eq_false rfl)).trans (fc18 22 (Nat.ne_of_beq_eq_false rfl) (Nat.ne_of_beq_eq_false rfl) (Nat.ne_of_beq_eq_false rfl))) h6), rf1632, rf1633, bm1630, (fun c k_ => ((fr1628 c (nin_sub (M := [(162, 162), (172, 175)]) k_ rfl)).trans ((fr17 c (nin_sub (M := [(162, 162), (173, 175)]) k_ rfl)).trans ((fr10 c (nin_ne (a := 162) k_ rfl) (nin_ne (a := 172) k_ rfl)).trans (ms_c e2 (nin_ne (a := 162) k_ rfl)))))), (fun j k0_ k22_ k23_ k24_ k25_ k26_ k27_ k31_ k32_ k33_ => ((fc1629 j k31_ k32_ k33_).trans ((fc18 j k31_ k32_ k33_).trans ((fc11 j k22_ k23_ k24_ k25_ k26_ k27_).trans (ms_i e2 k0_)))))⟩
          · refine J_iload (i := 7) (j := 4) dX11_around_150 rfl ?_
            refine J_goto (tgt := 157) dX11_around_152 (by decide) ?_
            exact J_iret hq dX11_around_157 rfl wlen (Nat.le_refl _) (Nat.le_refl _) ⟨w1625, u1627, rfl, rfl, (bd_r ((fc1629 22 (Nat.ne_of_beq_eq_false rfl) (Nat.ne_of_beq_eq_false rfl) (Nat.ne_of_beq_eq_false rfl)).trans (fc18 22 (Nat.ne_of_beq_eq_false rfl) (Nat.ne_of_beq_eq_false rfl) (Nat.ne_of_beq_eq_false rfl))) h6), rf1632, rf1633, bm1630, (fun c k_ => ((fr1628 c (nin_sub (M := [(162, 162), (172, 175)]) k_ rfl)).trans ((fr17 c (nin_sub (M := [(162, 162), (173, 175)]) k_ rfl)).trans ((fr10 c (nin_ne (a := 162) k_ rfl) (nin_ne (a := 172) k_ rfl)).trans (ms_c e2 (nin_ne (a := 162) k_ rfl)))))), (fun j k0_ k22_ k23_ k24_ k25_ k26_ k27_ k31_ k32_ k33_ => ((fc1629 j k31_ k32_ k33_).trans ((fc18 j k31_ k32_ k33_).trans ((fc11 j k22_ k23_ k24_ k25_ k26_ k27_).trans (ms_i e2 k0_)))))⟩
        · refine J_aload_n (i := 0) (j := 0) dX11_around_41 rfl rfl ?_
          refine J_iload (i := 8) (j := 5) dX11_around_42 rfl ?_
          refine J_bipush (v := 8) dX11_around_44 (by decide) ?_
          refine J_callV (As := [.int w1626, .int 8]) (rest := []) dX11_around_46 (c_M_of (d := 0) (u := u1627) (g := g) (ex := ex) (p := w1626) (what := 8)  (by decide) (bd_lt_hi bw1626 (i_nle c2227) h6) (bd_w (l := 0) (h := 15) (bd_c (v := 8) (lo := 8) (hi := 8) (by decide)) (by decide))) hq.n k1515 k1517 k55 wc_162 rfl rfl k97 k1518 np_X11_of (Nat.le_trans (by decide) hd) (by decide) (Nat.le_refl _) (Nat.le_refl _) wlen rfl (Nat.le_of_ble_eq_true rfl) (fun r_ h_ p2522 => ?_)
          obtain ⟨rfl, rfl⟩ := p2522
          refine J_istore (i := 9) (lw := [(9, .int (mof u1627 w1626 (8 : Int32))), (0, .ref 162), (3, .int second), (4, .long w1623), (6, .int w1624), (7, .int w1625), (8, .int w1626)]) dX11_around_49 (by decide) rfl ?_
          refine J_iload (i := 8) (j := 6) dX11_around_51 rfl ?_
          refine J_iconst (v := 1) dX11_around_53 (by decide) ?_
          refine J_iadd dX11_around_54 ?_
          refine J_istore (i := 10) (lw := [(10, .int (w1626 + 1)), (9, .int (mof u1627 w1626 (8 : Int32))), (0, .ref 162), (3, .int second), (4, .long w1623), (6, .int w1624), (7, .int w1625), (8, .int w1626)]) dX11_around_55 (by decide) rfl ?_
          have lp2719 : ∀ (n2720 : Nat) (w2615 : Int64) (w2616 : Int32) (w2617 : Int32) (w2618 : Int32) (u2619 : Nat → Nat → Int32), Bd (-1) 9 w2616 → Bd (-1) 9 w2617 → Bd 1 9 w2618 → (∀ c, nin c [(162, 162), (172, 175)] = true → u2619 c = u1627 c) → (∀ j, j ≠ 31 → j ≠ 32 → j ≠ 33 → u2619 162 j = u1627 162 j) → Bd 0 511 (u2619 162 31) → AB u2619 172 (-1) 999 → DN u2619 → N0 u2619 → RC u2619 → (9 - w2618.toInt).toNat < n2720 → J x yX11_around cX11_around 13 (some .int) d 0 0 (Wd u g ex).length 57 [(0, .ref 162), (3, .int second), (4, .long w2615), (6, .int w2616), (7, .int w2617), (8, .int w1626), (9, .int (mof u1627 w1626 (8 : Int32))), (10, .int w2618)] [] (Wd u2619 g ex) 0 0 := by
            intro n2720
            induction n2720 with
            | zero => intro w2615 w2616 w2617 w2618 u2619 bw2616 bw2617 bw2618 fr2620 fc2621 bm2622 ab2623 rf2624 rf2625 rf2626 hm2722; exact absurd hm2722 (Nat.not_lt_zero _)
            | succ n2720 ih2721 =>
              intro w2615 w2616 w2617 w2618 u2619 bw2616 bw2617 bw2618 fr2620 fc2621 bm2622 ab2623 rf2624 rf2625 rf2626 hm2722
              refine J_iload (i := 10) (j := 7) dX11_around_57 rfl ?_
              refine J_aload_n (i := 0) (j := 0) dX11_around_59 rfl rfl ?_
              refine J_get (C := RX11) (T := TX11) (Z := 43) (ci := 11) (f := 22) dX11_around_60 inG11 rfl (by decide) k1286 wc_162 rfl ?_
              refine J_ci (v := u5 162 22) ((fc2621 22 (Nat.ne_of_beq_eq_false rfl) (Nat.ne_of_beq_eq_false rfl) (Nat.ne_of_beq_eq_false rfl)).trans ((fc1629 22 (Nat.ne_of_beq_eq_false rfl) (Nat.ne_of_beq_eq_false rfl) (Nat.ne_of_beq_eq_false rfl)).trans (fc18 22 (Nat.ne_of_beq_eq_false rfl) (Nat.ne_of_beq_eq_false rfl) (Nat.ne_of_beq_eq_false rfl)))) ?_
              have jn2769 : ∀ (_ : Unit), J x yX11_around cX11_around 13 (some .int) d 0 0 (Wd u g ex).length 140 [(0, .ref 162), (3, .int second), (4, .long w2615), (6, .int w2616), (7, .int w2617), (8, .int w1626)] [] (Wd u2619 g ex) 0 0 := by
                intro _
                refine J_iinc (i := 8) (j := 5) (v := (w1626 + 1)) (lw := [(8, .int (w1626 + 1)), (0, .ref 162), (3, .int second), (4, .long w2615), (6, .int w2616), (7, .int w2617)]) dX11_around_140 rfl rfl (by decide) rfl ?_
                refine J_goto (tgt := 32) dX11_around_143 (by decide) ?_
                refine J_lv [1, 2, 3, 4, 5, 0] rfl ?_
                exact ih2225 w2615 w2616 w2617 (w1626 + 1) u2619 bw2616 bw2617 (bd_w (l := 0) (h := 9) (bd_add (l := 1) (h := 9) (bd_lt_hi bw1626 (i_nle c2227) h6) (bd_c (v := 1) (lo := 1) (hi := 1) (by decide)) (by decide)) (by decide)) (fun c k_ => ((fr2620 c (nin_sub (M := [(162, 162), (172, 175)]) k_ rfl)).trans (fr1628 c (nin_sub (M := [(162, 162), (172, 175)]) k_ rfl)))) (fun j k31_ k32_ k33_ => ((fc2621 j k31_ k32_ k33_).trans (fc1629 j k31_ k32_ k33_))) bm2622 ab2623 rf2624 rf2625 rf2626 (mu_up 1 bw1626 rfl (by decide) (bd_w (l := 1) (h := 9) (bd_add (l := 1) (h := 9) (bd_lt_hi bw1626 (i_nle c2227) h6) (bd_c (v := 1) (lo := 1) (hi := 1) (by decide)) (by decide)) (by decide)) hm2226)
              refine J_icmp_ge (tgt := 140) dX11_around_63 (by decide) (fun c2723 => ?_) (fun c2723 => ?_)
              · refine J_lv [0, 1, 2, 3, 4, 5] rfl ?_
                exact jn2769 () 
              · refine J_aload_n (i := 0) (j := 0) dX11_around_66 rfl rfl ?_
                refine J_iload (i := 8) (j := 5) dX11_around_67 rfl ?_
                refine J_bipush (v := 15) dX11_around_69 (by decide) ?_
                refine J_callV (As := [.int w1626, .int 15]) (rest := []) dX11_around_71 (c_M_of (d := 0) (u := u2619) (g := g) (ex := ex) (p := w1626) (what := 15)  (by decide) (bd_lt_hi bw1626 (i_nle c2227) (bd_lt_lo h6 (i_nle c2723) bw2618)) (bd_w (l := 0) (h := 15) (bd_c (v := 15) (lo := 15) (hi := 15) (by decide)) (by decide))) hq.n k1515 k1517 k55 wc_162 rfl rfl k97 k1518 np_X11_of (Nat.le_trans (by decide) hd) (by decide) (Nat.le_refl _) (Nat.le_refl _) wlen rfl (Nat.le_of_ble_eq_true rfl) (fun r_ h_ p2770 => ?_)
                obtain ⟨rfl, rfl⟩ := p2770
                refine J_if_ne (tgt := 140) dX11_around_74 (by decide) (fun c2771 => ?_) (fun c2771 => ?_)
                · refine J_lv [0, 1, 2, 3, 4, 5] rfl ?_
                  exact jn2769 () 
                · refine J_iload (i := 10) (j := 7) dX11_around_77 rfl ?_
                  refine J_iload (i := 9) (j := 6) dX11_around_79 rfl ?_
                  have jn2799 : ∀ (w2788 : Int64) (w2789 : Int32) (w2790 : Int32) (u2791 : Nat → Nat → Int32), Bd (-1) 9 w2789 → Bd (-1) 9 w2790 → (∀ c, nin c [(162, 162), (172, 175)] = true → u2791 c = u2619 c) → (∀ j, j ≠ 31 → j ≠ 32 → j ≠ 33 → u2791 162 j = u2619 162 j) → Bd 0 511 (u2791 162 31) → AB u2791 172 (-1) 999 → DN u2791 → N0 u2791 → RC u2791 → J x yX11_around cX11_around 13 (some .int) d 0 0 (Wd u g ex).length 134 [(0, .ref 162), (3, .int second), (4, .long w2788), (6, .int w2789), (7, .int w2790), (8, .int w1626), (9, .int (mof u1627 w1626 (8 : Int32))), (10, .int w2618)] [] (Wd u2791 g ex) 0 0 := by
                    intro w2788 w2789 w2790 u2791 bw2789 bw2790 fr2792 fc2793 bm2794 ab2795 rf2796 rf2797 rf2798
                    refine J_iinc (i := 10) (j := 7) (v := (w2618 + 1)) (lw := [(10, .int (w2618 + 1)), (0, .ref 162), (3, .int second), (4, .long w2788), (6, .int w2789), (7, .int w2790), (8, .int w1626), (9, .int (mof u1627 w1626 (8 : Int32)))]) dX11_around_134 rfl rfl (by decide) rfl ?_
                    refine J_goto (tgt := 57) dX11_around_137 (by decide) ?_
                    refine J_lv [1, 2, 3, 4, 5, 6, 7, 0] rfl ?_
                    exact ih2721 w2788 w2789 w2790 (w2618 + 1) u2791 bw2789 bw2790 (bd_w (l := 1) (h := 9) (bd_add (l := 2) (h := 9) (bd_lt_hi bw2618 (i_nle c2723) (bd_lt_lo h6 (i_nle c2227) bw1626)) (bd_c (v := 1) (lo := 1) (hi := 1) (by decide)) (by decide)) (by decide)) (fun c k_ => ((fr2792 c (nin_sub (M := [(162, 162), (172, 175)]) k_ rfl)).trans (fr2620 c (nin_sub (M := [(162, 162), (172, 175)]) k_ rfl)))) (fun j k31_ k32_ k33_ => ((fc2793 j k31_ k32_ k33_).trans (fc2621 j k31_ k32_ k33_))) bm2794 ab2795 rf2796 rf2797 rf2798 (mu_up 1 bw2618 rfl (by decide) (bd_w (l := 2) (h := 9) (bd_add (l := 2) (h := 9) (bd_lt_hi bw2618 (i_nle c2723) (bd_lt_lo h6 (i_nle c2227) bw1626)) (bd_c (v := 1) (lo := 1) (hi := 1) (by decide)) (by decide)) (by decide)) hm2722)
                  refine J_icmp_ne (tgt := 87) dX11_around_81 (by decide) (fun c2772 => ?_) (fun c2772 => ?_)
                  · refine J_aload_n (i := 0) (j := 0) dX11_around_87 rfl rfl ?_
                    refine J_iload (i := 8) (j := 5) dX11_around_88 rfl ?_
                    refine J_bipush (v := 8) dX11_around_90 (by decide) ?_
                    refine J_iload (i := 10) (j := 7) dX11_around_92 rfl ?_
                    refine J_callV (As := [.int w1626, .int 8, .int w2618]) (rest := []) dX11_around_94 (c_M_set (d := 0) (u := u2619) (g := g) (ex := ex) (p := w1626) (what := 8) (v := w2618)  (by decide) (bd_lt_hi bw1626 (i_nle c2227) (bd_lt_lo h6 (i_nle c2723) bw2618)) (bd_w (l := 0) (h := 15) (bd_c (v := 8) (lo := 8) (hi := 8) (by decide)) (by decide))) hq.n k1519 k1521 k56 wc_162 rfl rfl k97 k1522 np_X11_set (Nat.le_trans (by decide) hd) (by decide) (Nat.le_refl _) (Nat.le_refl _) wlen rfl (Nat.le_of_ble_eq_true rfl) (fun r_ h_ p2800 => ?_)
                    obtain ⟨u2801, rfl, rfl, h2802, fr2803⟩ := p2800
                    refine J_aload_n (i := 0) (j := 0) dX11_around_97 rfl rfl ?_
                    refine J_iconst (v := (-1)) dX11_around_98 (by decide) ?_
                    refine J_callV (As := [.int (-1)]) (rest := []) dX11_around_99 (c_M_meanBy (d := 4) (u := u2801) (g := g) (ex := ex) (owner := (-1))  (by decide) (bd_r ((congrFun (ms_c h2802 (Nat.ne_of_beq_eq_false rfl)) 22).trans ((fc2621 22 (Nat.ne_of_beq_eq_false rfl) (Nat.ne_of_beq_eq_false rfl) (Nat.ne_of_beq_eq_false rfl)).trans ((fc1629 22 (Nat.ne_of_beq_eq_false rfl) (Nat.ne_of_beq_eq_false rfl) (Nat.ne_of_beq_eq_false rfl)).trans (fc18 22 (Nat.ne_of_beq_eq_false rfl) (Nat.ne_of_beq_eq_false rfl) (Nat.ne_of_beq_eq_false rfl))))) (bd_w (l := 0) (h := 9) (bd_lt_lo (bd_lt_lo h6 (i_nle c2227) bw1626) (i_nle c2723) bw2618) (by decide))) (rc_s h2802 (bd_lt_hi bw1626 (i_nle c2227) (bd_lt_lo h6 (i_nle c2723) bw2618)) (bd_w (l := 0) (h := 15) (bd_c (v := 8) (lo := 8) (hi := 8) (by decide)) (by decide)) rf2626) (dn_s8 h2802 (bd_lt_hi bw1626 (i_nle c2227) (bd_lt_lo h6 (i_nle c2723) bw2618)) (bd_w (l := 0) (h := 15) (bd_c (v := 8) (lo := 8) (hi := 8) (by decide)) (by decide)) (bd_w (l := (-1)) (h := 8) (bd_lt_hi bw2618 (i_nle c2723) (bd_lt_lo h6 (i_nle c2227) bw1626)) (by decide)) rf2624) (bd_r (congrFun (ms_c h2802 (Nat.ne_of_beq_eq_false rfl)) 31) bm2622)) hq.n k1596 k1598 k68 wc_162 rfl rfl k97 k1599 np_X11_meanBy (Nat.le_trans (by decide) hd) (by decide) (Nat.le_refl _) (Nat.le_refl _) wlen rfl (Nat.le_of_ble_eq_true rfl) (fun r_ h_ p2804 => ?_)
                    obtain ⟨l2805, u2806, rfl, rfl, h2807, fr2808, fc2809⟩ := p2804
                    refine J_lstore (i := 11) (lw := [(11, .long l2805), (0, .ref 162), (3, .int second), (4, .long w2615), (6, .int w2616), (7, .int w2617), (8, .int w1626), (9, .int (mof u1627 w1626 (8 : Int32))), (10, .int w2618)]) dX11_around_102 (by decide) rfl ?_
                    refine J_aload_n (i := 0) (j := 1) dX11_around_104 rfl rfl ?_
                    refine J_iload (i := 8) (j := 6) dX11_around_105 rfl ?_
                    refine J_bipush (v := 8) dX11_around_107 (by decide) ?_
                    refine J_iload (i := 9) (j := 7) dX11_around_109 rfl ?_
                    refine J_callV (As := [.int w1626, .int 8, .int (mof u1627 w1626 (8 : Int32))]) (rest := []) dX11_around_111 (c_M_set (d := 0) (u := u2806) (g := g) (ex := ex) (p := w1626) (what := 8) (v := (mof u1627 w1626 (8 : Int32)))  (by decide) (bd_lt_hi bw1626 (i_nle c2227) (bd_lt_lo h6 (i_nle c2723) bw2618)) (bd_w (l := 0) (h := 15) (bd_c (v := 8) (lo := 8) (hi := 8) (by decide)) (by decide))) hq.n k1519 k1521 k56 wc_162 rfl rfl k97 k1522 np_X11_set (Nat.le_trans (by decide) hd) (by decide) (Nat.le_refl _) (Nat.le_refl _) wlen rfl (Nat.le_of_ble_eq_true rfl) (fun r_ h_ p2810 => ?_)
                    obtain ⟨u2811, rfl, rfl, h2812, fr2813⟩ := p2810
                    refine J_lload (i := 11) (j := 0) dX11_around_114 rfl ?_
                    refine J_lload (i := 4) (j := 3) dX11_around_116 rfl ?_
                    refine J_lcmp dX11_around_118 ?_
                    refine J_if_ge (tgt := 134) dX11_around_119 (by decide) (fun c2814 => ?_) (fun c2814 => ?_)
                    · refine J_lv [1, 2, 3, 4, 5, 6, 7, 8] rfl ?_
                      exact jn2799 w2615 w2616 w2617 u2811 bw2616 bw2617 (fun c k_ => ((ms_c h2812 (nin_ne (a := 172) k_ rfl)).trans ((fr2808 c (nin_sub (M := [(162, 162), (173, 175)]) k_ rfl)).trans (ms_c h2802 (nin_ne (a := 172) k_ rfl))))) (fun j k31_ k32_ k33_ => ((congrFun (ms_c h2812 (Nat.ne_of_beq_eq_false rfl)) j).trans ((fc2809 j k31_ k32_ k33_).trans (congrFun (ms_c h2802 (Nat.ne_of_beq_eq_false rfl)) j)))) (bd_r (congrFun (ms_c h2812 (Nat.ne_of_beq_eq_false rfl)) 31) h2807) (ab_s h2812 (ab_c (fr2808 172 rfl) (ab_s h2802 ab2623 (bd_w (l := (-1)) (h := 999) (bd_lt_hi bw2618 (i_nle c2723) (bd_lt_lo h6 (i_nle c2227) bw1626)) (by decide)))) (bd_w (l := (-1)) (h := 999) (dn_8 rf1632 (bd_lt_hi bw1626 (i_nle c2227) (bd_lt_lo h6 (i_nle c2723) bw2618))) (by decide))) (dn_s8 h2812 (bd_lt_hi bw1626 (i_nle c2227) (bd_lt_lo h6 (i_nle c2723) bw2618)) (bd_w (l := 0) (h := 15) (bd_c (v := 8) (lo := 8) (hi := 8) (by decide)) (by decide)) (dn_8 rf1632 (bd_lt_hi bw1626 (i_nle c2227) (bd_lt_lo h6 (i_nle c2723) bw2618))) (dn_c (fr2808 172 rfl) (dn_s8 h2802 (bd_lt_hi bw1626 (i_nle c2227) (bd_lt_lo h6 (i_nle c2723) bw2618)) (bd_w (l := 0) (h := 15) (bd_c (v := 8) (lo := 8) (hi := 8) (by decide)) (by decide)) (bd_w (l := (-1)) (h := 8) (bd_lt_hi bw2618 (i_nle c2723) (bd_lt_lo h6 (i_nle c2227) bw1626)) (by decide)) rf2624))) (n0_s h2812 (bd_lt_hi bw1626 (i_nle c2227) (bd_lt_lo h6 (i_nle c2723) bw2618)) (bd_w (l := 0) (h := 15) (bd_c (v := 8) (lo := 8) (hi := 8) (by decide)) (by decide)) (n0_c (fr2808 172 rfl) (n0_s h2802 (bd_lt_hi bw1626 (i_nle c2227) (bd_lt_lo h6 (i_nle c2723) bw2618)) (bd_w (l := 0) (h := 15) (bd_c (v := 8) (lo := 8) (hi := 8) (by decide)) (by decide)) rf2625))) (rc_s h2812 (bd_lt_hi bw1626 (i_nle c2227) (bd_lt_lo h6 (i_nle c2723) bw2618)) (bd_w (l := 0) (h := 15) (bd_c (v := 8) (lo := 8) (hi := 8) (by decide)) (by decide)) (rc_c (fr2808 172 rfl) (rc_s h2802 (bd_lt_hi bw1626 (i_nle c2227) (bd_lt_lo h6 (i_nle c2723) bw2618)) (bd_w (l := 0) (h := 15) (bd_c (v := 8) (lo := 8) (hi := 8) (by decide)) (by decide)) rf2626)))
                    · refine J_iload (i := 8) (j := 6) dX11_around_122 rfl ?_
                      refine J_istore (i := 6) (lw := [(6, .int w1626), (11, .long l2805), (0, .ref 162), (3, .int second), (4, .long w2615), (7, .int w2617), (8, .int w1626), (9, .int (mof u1627 w1626 (8 : Int32))), (10, .int w2618)]) dX11_around_124 (by decide) rfl ?_
                      refine J_iload (i := 10) (j := 8) dX11_around_126 rfl ?_
                      refine J_istore (i := 7) (lw := [(7, .int w2618), (6, .int w1626), (11, .long l2805), (0, .ref 162), (3, .int second), (4, .long w2615), (8, .int w1626), (9, .int (mof u1627 w1626 (8 : Int32))), (10, .int w2618)]) dX11_around_128 (by decide) rfl ?_
                      refine J_lload (i := 11) (j := 2) dX11_around_130 rfl ?_
                      refine J_lstore (i := 4) (lw := [(4, .long l2805), (7, .int w2618), (6, .int w1626), (11, .long l2805), (0, .ref 162), (3, .int second), (8, .int w1626), (9, .int (mof u1627 w1626 (8 : Int32))), (10, .int w2618)]) dX11_around_132 (by decide) rfl ?_
                      refine J_lv [4, 5, 0, 2, 1, 6, 7, 8] rfl ?_
                      exact jn2799 l2805 w1626 w2618 u2811 (bd_w (l := (-1)) (h := 9) (bd_lt_hi bw1626 (i_nle c2227) (bd_lt_lo h6 (i_nle c2723) bw2618)) (by decide)) (bd_w (l := (-1)) (h := 9) (bd_lt_hi bw2618 (i_nle c2723) (bd_lt_lo h6 (i_nle c2227) bw1626)) (by decide)) (fun c k_ => ((ms_c h2812 (nin_ne (a := 172) k_ rfl)).trans ((fr2808 c (nin_sub (M := [(162, 162), (173, 175)]) k_ rfl)).trans (ms_c h2802 (nin_ne (a := 172) k_ rfl))))) (fun j k31_ k32_ k33_ => ((congrFun (ms_c h2812 (Nat.ne_of_beq_eq_false rfl)) j).trans ((fc2809 j k31_ k32_ k33_).trans (congrFun (ms_c h2802 (Nat.ne_of_beq_eq_false rfl)) j)))) (bd_r (congrFun (ms_c h2812 (Nat.ne_of_beq_eq_false rfl)) 31) h2807) (ab_s h2812 (ab_c (fr2808 172 rfl) (ab_s h2802 ab2623 (bd_w (l := (-1)) (h := 999) (bd_lt_hi bw2618 (i_nle c2723) (bd_lt_lo h6 (i_nle c2227) bw1626)) (by decide)))) (bd_w (l := (-1)) (h := 999) (dn_8 rf1632 (bd_lt_hi bw1626 (i_nle c2227) (bd_lt_lo h6 (i_nle c2723) bw2618))) (by decide))) (dn_s8 h2812 (bd_lt_hi bw1626 (i_nle c2227) (bd_lt_lo h6 (i_nle c2723) bw2618)) (bd_w (l := 0) (h := 15) (bd_c (v := 8) (lo := 8) (hi := 8) (by decide)) (by decide)) (dn_8 rf1632 (bd_lt_hi bw1626 (i_nle c2227) (bd_lt_lo h6 (i_nle c2723) bw2618))) (dn_c (fr2808 172 rfl) (dn_s8 h2802 (bd_lt_hi bw1626 (i_nle c2227) (bd_lt_lo h6 (i_nle c2723) bw2618)) (bd_w (l := 0) (h := 15) (bd_c (v := 8) (lo := 8) (hi := 8) (by decide)) (by decide)) (bd_w (l := (-1)) (h := 8) (bd_lt_hi bw2618 (i_nle c2723) (bd_lt_lo h6 (i_nle c2227) bw1626)) (by decide)) rf2624))) (n0_s h2812 (bd_lt_hi bw1626 (i_nle c2227) (bd_lt_lo h6 (i_nle c2723) bw2618)) (bd_w (l := 0) (h := 15) (bd_c (v := 8) (lo := 8) (hi := 8) (by decide)) (by decide)) (n0_c (fr2808 172 rfl) (n0_s h2802 (bd_lt_hi bw1626 (i_nle c2227) (bd_lt_lo h6 (i_nle c2723) bw2618)) (bd_w (l := 0) (h := 15) (bd_c (v := 8) (lo := 8) (hi := 8) (by decide)) (by decide)) rf2625))) (rc_s h2812 (bd_lt_hi bw1626 (i_nle c2227) (bd_lt_lo h6 (i_nle c2723) bw2618)) (bd_w (l := 0) (h := 15) (bd_c (v := 8) (lo := 8) (hi := 8) (by decide)) (by decide)) (rc_c (fr2808 172 rfl) (rc_s h2802 (bd_lt_hi bw1626 (i_nle c2227) (bd_lt_lo h6 (i_nle c2723) bw2618)) (bd_w (l := 0) (h := 15) (bd_c (v := 8) (lo := 8) (hi := 8) (by decide)) (by decide)) rf2626)))
                  · refine J_goto (tgt := 134) dX11_around_84 (by decide) ?_
                    refine J_lv [0, 1, 2, 3, 4, 5, 6, 7] rfl ?_
                    exact jn2799 w2615 w2616 w2617 u2619 bw2616 bw2617 (fun c k_ => rfl) (fun j k31_ k32_ k33_ => rfl) bm2622 ab2623 rf2624 rf2625 rf2626
          refine J_lv [2, 3, 4, 5, 6, 7, 1, 0] rfl ?_
          exact lp2719 _ w1623 w1624 w1625 (w1626 + 1) u1627 bw1624 bw1625 (bd_add (l := 1) (h := 9) (bd_lt_hi bw1626 (i_nle c2227) h6) (bd_c (v := 1) (lo := 1) (hi := 1) (by decide)) (by decide)) (fun c k_ => rfl) (fun j k31_ k32_ k33_ => rfl) bm1630 ab1631 rf1632 rf1633 rf1634 (Nat.lt_succ_self _)
    refine J_lv [4, 7, 3, 2, 1, 0] rfl ?_
    exact lp2223 _ l14 ((-1) : Int32) ((-1) : Int32) (0 : Int32) u15 (bd_w (l := (-1)) (h := 9) (bd_c (v := (-1)) (lo := (-1)) (hi := (-1)) (by decide)) (by decide)) (bd_w (l := (-1)) (h := 9) (bd_c (v := (-1)) (lo := (-1)) (hi := (-1)) (by decide)) (by decide)) (bd_w (l := 0) (h := 9) (bd_c (v := 0) (lo := 0) (hi := 0) (by decide)) (by decide)) (fun c k_ => rfl) (fun j k31_ k32_ k33_ => rfl) h16 (ab_c (fr17 172 rfl) (h9 c12).2) (dn_c (fr17 172 rfl) h7) (n0_c (fr17 172 rfl) h8) (rc_c (fr17 172 rfl) (h9 c12).1) (Nat.lt_succ_self _)
  · refine J_iconst (v := (-1)) dX11_around_14 (by decide) ?_
    exact J_iret hq dX11_around_15 rfl wlen (Nat.le_refl _) (Nat.le_refl _) ⟨((-1) : Int32), u5, rfl, rfl, h6, h7, h8, (bd_r ((fc11 31 (Nat.ne_of_beq_eq_false rfl) (Nat.ne_of_beq_eq_false rfl) (Nat.ne_of_beq_eq_false rfl) (Nat.ne_of_beq_eq_false rfl) (Nat.ne_of_beq_eq_false rfl) (Nat.ne_of_beq_eq_false rfl)).trans (ms_i e2 (Nat.ne_of_beq_eq_false rfl))) hp8), (fun c k_ => ((fr10 c (nin_ne (a := 162) k_ rfl) (nin_ne (a := 172) k_ rfl)).trans (ms_c e2 (nin_ne (a := 162) k_ rfl)))), (fun j k0_ k22_ k23_ k24_ k25_ k26_ k27_ k31_ k32_ k33_ => ((fc11 j k22_ k23_ k24_ k25_ k26_ k27_).trans (ms_i e2 k0_)))⟩
set_option maxHeartbeats 4000000 in
set_option maxRecDepth 100000 in
theorem c_M_twice {d : Nat} {u : Nat → Nat → Int32} {g : Nat → Nat → Int64} {ex : List MC} {hill : Int32} {plan : Int32} {rain : Int32} {banks : Int32} {next : Int32} {others : Int32} {what : Int32} (hd : 4 ≤ d) (hp0 : (MY u)) (hp1 : AB u 168 (-1) 999) (hp2 : (HD u)) (hp3 : (HC u)) (hp4 : (PL u)) (hp5 : (N0 u)) (hp6 : (DN u)) (hp7 : Bd 0 9 (u 162 22)) (hp8 : Bd 0 511 (u 162 31)) (hp9 : AB u 177 (-1) 999) : CT con0 d 0 0 yX11_twice cX11_twice 9 (some .int) [.ref 162, .int hill, .int plan, .int rain, .int banks, .int next, .int others, .int what] (Wd u g ex) (fun r h2 => ∃ (z : Int32) (u2 : Nat → Nat → Int32), r = some (.int z) ∧ h2 = Wd u2 g ex ∧ Bd 0 9 (u2 162 22) ∧ (DN u2) ∧ (N0 u2) ∧ Bd 0 511 (u2 162 31) ∧ (∀ c, nin c [(162, 162), (172, 175)] = true → u2 c = u c) ∧ (∀ j, j ≠ 0 → j ≠ 22 → j ≠ 23 → j ≠ 24 → j ≠ 25 → j ≠ 26 → j ≠ 27 → j ≠ 31 → j ≠ 32 → j ≠ 33 → u2 162 j = u 162 j)) := by
  refine CT_of (by decide) (Nat.le_of_ble_eq_true rfl) (fun x hq => ?_)
  show J x yX11_twice cX11_twice 9 (some .int) d 0 0 (Wd u g ex).length 0 [(0, .ref 162), (1, .int hill), (2, .int plan), (3, .int rain), (4, .int banks), (5, .int next), (6, .int others), (7, .int what)] [] (Wd u g ex) 0 0
  refine J_aload_n (i := 0) (j := 0) dX11_twice_0 rfl rfl ?_
  refine J_iconst (v := 0) dX11_twice_1 (by decide) ?_
  obtain ⟨u1, e2⟩ : ∃ z, z = ms u 162 0 0 := ⟨_, rfl⟩
  refine J_put (C := RX11) (T := TX11) (Z := 43) (ci := 11) (f := 0) (ty0 := tyX11) dX11_twice_2 inG11 rfl tyX11_ok nmX11 (by decide) k1264 rfl rfl wc_162 (Nat.le_of_ble_eq_true rfl) (fun _ _ => ⟨rfl, rfl⟩) (ws e2 wk_162 rfl) ?_
  refine J_aload_n (i := 0) (j := 0) dX11_twice_5 rfl rfl ?_
  refine J_iload_n (i := 1) (j := 1) dX11_twice_6 rfl rfl ?_
  refine J_iload_n (i := 2) (j := 2) dX11_twice_7 rfl rfl ?_
  refine J_callV (As := [.int hill, .int plan]) (rest := []) dX11_twice_8 (c_M_lay (d := 2) (u := u1) (g := g) (ex := ex) (h := hill) (plan := plan)  (by decide) (my_c (ms_c e2 (Nat.ne_of_beq_eq_false rfl)) hp0) (ab_c (ms_c e2 (Nat.ne_of_beq_eq_false rfl)) hp1) (hd_c (ms_c e2 (Nat.ne_of_beq_eq_false rfl)) hp2) (hc_c (ms_c e2 (Nat.ne_of_beq_eq_false rfl)) (ms_c e2 (Nat.ne_of_beq_eq_false rfl)) hp3) (pl_c (ms_c e2 (Nat.ne_of_beq_eq_false rfl)) hp4) (n0_c (ms_c e2 (Nat.ne_of_beq_eq_false rfl)) hp5) (dn_c (ms_c e2 (Nat.ne_of_beq_eq_false rfl)) hp6) (bd_r (ms_i e2 (Nat.ne_of_beq_eq_false rfl)) hp7)) hq.n k1503 k1505 k52 wc_162 rfl rfl k97 k1506 np_X11_lay (Nat.le_trans (by decide) hd) (by decide) (Nat.le_refl _) (Nat.le_refl _) wlen rfl (Nat.le_of_ble_eq_true rfl) (fun r_ h_ p3 => ?_)
  obtain ⟨t4, u5, rfl, rfl, h6, h7, h8, h9, fr10, fc11⟩ := p3
  refine J_ifB_eq (tgt := 49) dX11_twice_11 (by decide) (fun c12 => ?_) (fun c12 => ?_)
  · refine J_iconst (v := (-1)) dX11_twice_49 (by decide) ?_
    exact J_iret hq dX11_twice_50 rfl wlen (Nat.le_refl _) (Nat.le_refl _) ⟨((-1) : Int32), u5, rfl, rfl, h6, h7, h8, (bd_r ((fc11 31 (Nat.ne_of_beq_eq_false rfl) (Nat.ne_of_beq_eq_false rfl) (Nat.ne_of_beq_eq_false rfl) (Nat.ne_of_beq_eq_false rfl) (Nat.ne_of_beq_eq_false rfl) (Nat.ne_of_beq_eq_false rfl)).trans (ms_i e2 (Nat.ne_of_beq_eq_false rfl))) hp8), (fun c k_ => ((fr10 c (nin_ne (a := 162) k_ rfl) (nin_ne (a := 172) k_ rfl)).trans (ms_c e2 (nin_ne (a := 162) k_ rfl)))), (fun j k0_ k22_ k23_ k24_ k25_ k26_ k27_ k31_ k32_ k33_ => ((fc11 j k22_ k23_ k24_ k25_ k26_ k27_).trans (ms_i e2 k0_)))⟩
  · refine J_aload_n (i := 0) (j := 0) dX11_twice_14 rfl rfl ?_
    refine J_iload_n (i := 3) (j := 3) dX11_twice_15 rfl rfl ?_
    refine J_callV (As := [.int rain]) (rest := []) dX11_twice_16 (c_M_isRain (d := 1) (u := u5) (g := g) (ex := ex) (rr := rain)  (by decide) (h9 c12).1) hq.n k1539 k1541 k58 wc_162 rfl rfl k97 k1542 np_X11_isRain (Nat.le_trans (by decide) hd) (by decide) (Nat.le_refl _) (Nat.le_refl _) wlen rfl (Nat.le_of_ble_eq_true rfl) (fun r_ h_ p13 => ?_)
    obtain ⟨t14, rfl, rfl, h15⟩ := p13
    refine J_ifB_eq (tgt := 49) dX11_twice_19 (by decide) (fun c16 => ?_) (fun c16 => ?_)
    · refine J_iconst (v := (-1)) dX11_twice_49 (by decide) ?_
      exact J_iret hq dX11_twice_50 rfl wlen (Nat.le_refl _) (Nat.le_refl _) ⟨((-1) : Int32), u5, rfl, rfl, h6, h7, h8, (bd_r ((fc11 31 (Nat.ne_of_beq_eq_false rfl) (Nat.ne_of_beq_eq_false rfl) (Nat.ne_of_beq_eq_false rfl) (Nat.ne_of_beq_eq_false rfl) (Nat.ne_of_beq_eq_false rfl) (Nat.ne_of_beq_eq_false rfl)).trans (ms_i e2 (Nat.ne_of_beq_eq_false rfl))) hp8), (fun c k_ => ((fr10 c (nin_ne (a := 162) k_ rfl) (nin_ne (a := 172) k_ rfl)).trans (ms_c e2 (nin_ne (a := 162) k_ rfl)))), (fun j k0_ k22_ k23_ k24_ k25_ k26_ k27_ k31_ k32_ k33_ => ((fc11 j k22_ k23_ k24_ k25_ k26_ k27_).trans (ms_i e2 k0_)))⟩
    · refine J_aload_n (i := 0) (j := 0) dX11_twice_22 rfl rfl ?_
      refine J_iload (i := 5) (j := 5) dX11_twice_23 rfl ?_
      refine J_callV (As := [.int next]) (rest := []) dX11_twice_25 (c_M_isRain (d := 1) (u := u5) (g := g) (ex := ex) (rr := next)  (by decide) (h9 c12).1) hq.n k1539 k1541 k58 wc_162 rfl rfl k97 k1542 np_X11_isRain (Nat.le_trans (by decide) hd) (by decide) (Nat.le_refl _) (Nat.le_refl _) wlen rfl (Nat.le_of_ble_eq_true rfl) (fun r_ h_ p17 => ?_)
      obtain ⟨t18, rfl, rfl, h19⟩ := p17
      refine J_ifB_eq (tgt := 49) dX11_twice_28 (by decide) (fun c20 => ?_) (fun c20 => ?_)
      · refine J_iconst (v := (-1)) dX11_twice_49 (by decide) ?_
        exact J_iret hq dX11_twice_50 rfl wlen (Nat.le_refl _) (Nat.le_refl _) ⟨((-1) : Int32), u5, rfl, rfl, h6, h7, h8, (bd_r ((fc11 31 (Nat.ne_of_beq_eq_false rfl) (Nat.ne_of_beq_eq_false rfl) (Nat.ne_of_beq_eq_false rfl) (Nat.ne_of_beq_eq_false rfl) (Nat.ne_of_beq_eq_false rfl) (Nat.ne_of_beq_eq_false rfl)).trans (ms_i e2 (Nat.ne_of_beq_eq_false rfl))) hp8), (fun c k_ => ((fr10 c (nin_ne (a := 162) k_ rfl) (nin_ne (a := 172) k_ rfl)).trans (ms_c e2 (nin_ne (a := 162) k_ rfl)))), (fun j k0_ k22_ k23_ k24_ k25_ k26_ k27_ k31_ k32_ k33_ => ((fc11 j k22_ k23_ k24_ k25_ k26_ k27_).trans (ms_i e2 k0_)))⟩
      · refine J_aload_n (i := 0) (j := 0) dX11_twice_31 rfl rfl ?_
        refine J_iload (i := 4) (j := 4) dX11_twice_32 rfl ?_
        refine J_callV (As := [.int banks]) (rest := []) dX11_twice_34 (c_M_arePonds (d := 0) (u := u5) (g := g) (ex := ex) (set := banks)  (by decide) h6) hq.n k1543 k1545 k59 wc_162 rfl rfl k97 k1546 np_X11_arePonds (Nat.le_trans (by decide) hd) (by decide) (Nat.le_refl _) (Nat.le_refl _) wlen rfl (Nat.le_of_ble_eq_true rfl) (fun r_ h_ p21 => ?_)
        obtain ⟨t22, rfl, rfl, h23⟩ := p21
        refine J_ifB_eq (tgt := 49) dX11_twice_37 (by decide) (fun c24 => ?_) (fun c24 => ?_)
        · refine J_iconst (v := (-1)) dX11_twice_49 (by decide) ?_
          exact J_iret hq dX11_twice_50 rfl wlen (Nat.le_refl _) (Nat.le_refl _) ⟨((-1) : Int32), u5, rfl, rfl, h6, h7, h8, (bd_r ((fc11 31 (Nat.ne_of_beq_eq_false rfl) (Nat.ne_of_beq_eq_false rfl) (Nat.ne_of_beq_eq_false rfl) (Nat.ne_of_beq_eq_false rfl) (Nat.ne_of_beq_eq_false rfl) (Nat.ne_of_beq_eq_false rfl)).trans (ms_i e2 (Nat.ne_of_beq_eq_false rfl))) hp8), (fun c k_ => ((fr10 c (nin_ne (a := 162) k_ rfl) (nin_ne (a := 172) k_ rfl)).trans (ms_c e2 (nin_ne (a := 162) k_ rfl)))), (fun j k0_ k22_ k23_ k24_ k25_ k26_ k27_ k31_ k32_ k33_ => ((fc11 j k22_ k23_ k24_ k25_ k26_ k27_).trans (ms_i e2 k0_)))⟩
        · refine J_aload_n (i := 0) (j := 0) dX11_twice_40 rfl rfl ?_
          refine J_iload (i := 6) (j := 6) dX11_twice_41 rfl ?_
          refine J_callV (As := [.int others]) (rest := []) dX11_twice_43 (c_M_arePonds (d := 0) (u := u5) (g := g) (ex := ex) (set := others)  (by decide) h6) hq.n k1543 k1545 k59 wc_162 rfl rfl k97 k1546 np_X11_arePonds (Nat.le_trans (by decide) hd) (by decide) (Nat.le_refl _) (Nat.le_refl _) wlen rfl (Nat.le_of_ble_eq_true rfl) (fun r_ h_ p25 => ?_)
          obtain ⟨t26, rfl, rfl, h27⟩ := p25
          refine J_ifB_ne (tgt := 51) dX11_twice_46 (by decide) (fun c28 => ?_) (fun c28 => ?_)
          · refine J_aload_n (i := 0) (j := 0) dX11_twice_51 rfl rfl ?_
            refine J_aload_n (i := 0) (j := 0) dX11_twice_52 rfl rfl ?_
            refine J_iload_n (i := 3) (j := 3) dX11_twice_53 rfl rfl ?_
            refine J_callV (As := [.int rain]) (rest := [.ref 162]) dX11_twice_54 (c_M_stepsOf (d := 0) (u := u5) (g := g) (ex := ex) (rain := rain)  (by decide) (bd_w (l := 0) (h := 75) (h15 c16) (by decide))) hq.n k1547 k1549 k60 wc_162 rfl rfl k97 k1550 np_X11_stepsOf (Nat.le_trans (by decide) hd) (by decide) (Nat.le_refl _) (Nat.le_refl _) wlen rfl (Nat.le_of_ble_eq_true rfl) (fun r_ h_ p29 => ?_)
            obtain ⟨v30, rfl, rfl⟩ := p29
            refine J_iload (i := 4) (j := 4) dX11_twice_57 rfl ?_
            refine J_callV (As := [.int v30, .int banks]) (rest := []) dX11_twice_59 (c_M_blow (d := 3) (u := u5) (g := g) (ex := ex) (steps := v30) (banks := banks)  (by decide) h6 h7) hq.n k1551 k1553 k61 wc_162 rfl rfl k97 k1554 np_X11_blow (Nat.le_trans (by decide) hd) (by decide) (Nat.le_refl _) (Nat.le_refl _) wlen rfl (Nat.le_of_ble_eq_true rfl) (fun r_ h_ p31 => ?_)
            obtain ⟨u32, rfl, rfl, h33, fr34, fc35⟩ := p31
            refine J_iconst (v := 0) dX11_twice_62 (by decide) ?_
            refine J_istore (i := 8) (lw := [(8, .int 0), (0, .ref 162), (1, .int hill), (2, .int plan), (3, .int rain), (4, .int banks), (5, .int next), (6, .int others), (7, .int what)]) dX11_twice_63 (by decide) rfl ?_
            have lp492 : ∀ (n493 : Nat) (w334 : Int32) (u335 : Nat → Nat → Int32), Bd 0 9 w334 → (∀ c, c ≠ 172 → u335 c = u32 c) → DN u335 → N0 u335 → RC u335 → (9 - w334.toInt).toNat < n493 → J x yX11_twice cX11_twice 9 (some .int) d 0 0 (Wd u g ex).length 65 [(0, .ref 162), (5, .int next), (6, .int others), (7, .int what), (8, .int w334)] [] (Wd u335 g ex) 0 0 := by
              intro n493
              induction n493 with
              | zero => intro w334 u335 bw334 fr336 rf337 rf338 rf339 hm495; exact absurd hm495 (Nat.not_lt_zero _)
              | succ n493 ih494 =>
                intro w334 u335 bw334 fr336 rf337 rf338 rf339 hm495
                refine J_iload (i := 8) (j := 4) dX11_twice_65 rfl ?_
                refine J_aload_n (i := 0) (j := 0) dX11_twice_67 rfl rfl ?_
                refine J_get (C := RX11) (T := TX11) (Z := 43) (ci := 11) (f := 22) dX11_twice_68 inG11 rfl (by decide) k1286 wc_162 rfl ?_
                refine J_ci (v := u5 162 22) ((congrFun (fr336 162 (Nat.ne_of_beq_eq_false rfl)) 22).trans (fc35 22 (Nat.ne_of_beq_eq_false rfl) (Nat.ne_of_beq_eq_false rfl) (Nat.ne_of_beq_eq_false rfl))) ?_
                refine J_icmp_ge (tgt := 180) dX11_twice_71 (by decide) (fun c496 => ?_) (fun c496 => ?_)
                · refine J_aload_n (i := 0) (j := 0) dX11_twice_180 rfl rfl ?_
                  refine J_aload_n (i := 0) (j := 0) dX11_twice_181 rfl rfl ?_
                  refine J_iload (i := 5) (j := 1) dX11_twice_182 rfl ?_
                  refine J_callV (As := [.int next]) (rest := [.ref 162]) dX11_twice_184 (c_M_stepsOf (d := 0) (u := u335) (g := g) (ex := ex) (rain := next)  (by decide) (bd_w (l := 0) (h := 75) (h19 c20) (by decide))) hq.n k1547 k1549 k60 wc_162 rfl rfl k97 k1550 np_X11_stepsOf (Nat.le_trans (by decide) hd) (by decide) (Nat.le_refl _) (Nat.le_refl _) wlen rfl (Nat.le_of_ble_eq_true rfl) (fun r_ h_ p568 => ?_)
                  obtain ⟨v569, rfl, rfl⟩ := p568
                  refine J_iload (i := 6) (j := 2) dX11_twice_187 rfl ?_
                  refine J_callV (As := [.int v569, .int others]) (rest := []) dX11_twice_189 (c_M_blow (d := 3) (u := u335) (g := g) (ex := ex) (steps := v569) (banks := others)  (by decide) (bd_r ((congrFun (fr336 162 (Nat.ne_of_beq_eq_false rfl)) 22).trans (fc35 22 (Nat.ne_of_beq_eq_false rfl) (Nat.ne_of_beq_eq_false rfl) (Nat.ne_of_beq_eq_false rfl))) h6) rf337) hq.n k1551 k1553 k61 wc_162 rfl rfl k97 k1554 np_X11_blow (Nat.le_trans (by decide) hd) (by decide) (Nat.le_refl _) (Nat.le_refl _) wlen rfl (Nat.le_of_ble_eq_true rfl) (fun r_ h_ p570 => ?_)
                  obtain ⟨u571, rfl, rfl, h572, fr573, fc574⟩ := p570
                  refine J_aload_n (i := 0) (j := 0) dX11_twice_192 rfl rfl ?_
                  refine J_iload (i := 7) (j := 3) dX11_twice_193 rfl ?_
                  refine J_callV (As := [.int what]) (rest := []) dX11_twice_195 (c_M_told (d := 2) (u := u571) (g := g) (ex := ex) (what := what)  (by decide) (bd_r ((fc574 22 (Nat.ne_of_beq_eq_false rfl) (Nat.ne_of_beq_eq_false rfl) (Nat.ne_of_beq_eq_false rfl)).trans ((congrFun (fr336 162 (Nat.ne_of_beq_eq_false rfl)) 22).trans (fc35 22 (Nat.ne_of_beq_eq_false rfl) (Nat.ne_of_beq_eq_false rfl) (Nat.ne_of_beq_eq_false rfl)))) h6)) hq.n k1566 k1568 k64 wc_162 rfl rfl k97 k1569 np_X11_told (Nat.le_trans (by decide) hd) (by decide) (Nat.le_refl _) (Nat.le_refl _) wlen rfl (Nat.le_of_ble_eq_true rfl) (fun r_ h_ p575 => ?_)
                  obtain ⟨v576, rfl, rfl⟩ := p575
                  exact J_iret hq dX11_twice_198 rfl wlen (Nat.le_refl _) (Nat.le_refl _) ⟨v576, u571, rfl, rfl, (bd_r ((fc574 22 (Nat.ne_of_beq_eq_false rfl) (Nat.ne_of_beq_eq_false rfl) (Nat.ne_of_beq_eq_false rfl)).trans ((congrFun (fr336 162 (Nat.ne_of_beq_eq_false rfl)) 22).trans (fc35 22 (Nat.ne_of_beq_eq_false rfl) (Nat.ne_of_beq_eq_false rfl) (Nat.ne_of_beq_eq_false rfl)))) h6), (dn_c (fr573 172 rfl) rf337), (n0_c (fr573 172 rfl) rf338), h572, (fun c k_ => ((fr573 c (nin_sub (M := [(162, 162), (173, 175)]) k_ rfl)).trans ((fr336 c (nin_ne (a := 172) k_ rfl)).trans ((fr34 c (nin_sub (M := [(162, 162), (173, 175)]) k_ rfl)).trans ((fr10 c (nin_ne (a := 162) k_ rfl) (nin_ne (a := 172) k_ rfl)).trans (ms_c e2 (nin_ne (a := 162) k_ rfl))))))), (fun j k0_ k22_ k23_ k24_ k25_ k26_ k27_ k31_ k32_ k33_ => ((fc574 j k31_ k32_ k33_).trans ((congrFun (fr336 162 (Nat.ne_of_beq_eq_false rfl)) j).trans ((fc35 j k31_ k32_ k33_).trans ((fc11 j k22_ k23_ k24_ k25_ k26_ k27_).trans (ms_i e2 k0_))))))⟩
                · refine J_aload_n (i := 0) (j := 0) dX11_twice_74 rfl rfl ?_
                  refine J_get (C := RX11) (T := TX11) (Z := 43) (ci := 11) (f := 31) dX11_twice_75 inG11 rfl (by decide) k1295 wc_162 rfl ?_
                  refine J_ci (v := u32 162 31) (congrFun (fr336 162 (Nat.ne_of_beq_eq_false rfl)) 31) ?_
                  refine J_iload (i := 8) (j := 4) dX11_twice_78 rfl ?_
                  refine J_callS (As := [.int (u32 162 31), .int w334]) (rest := []) dX11_twice_80 (c_M_has (d := 0) (u := u335) (g := g) (ex := ex) (set := u32 162 31) (k := w334)  (by decide) ) hq.n k1555 k1556 k97 k1557 np_X11_has (Nat.le_trans (by decide) hd) (by decide) (Nat.le_refl _) (Nat.le_refl _) wlen rfl (Nat.le_of_ble_eq_true rfl) (fun r_ h_ p577 => ?_)
                  obtain ⟨t578, rfl, rfl⟩ := p577
                  have jn616 : ∀ (u611 : Nat → Nat → Int32), (∀ c, c ≠ 172 → u611 c = u335 c) → DN u611 → N0 u611 → RC u611 → J x yX11_twice cX11_twice 9 (some .int) d 0 0 (Wd u g ex).length 174 [(0, .ref 162), (5, .int next), (6, .int others), (7, .int what), (8, .int w334)] [] (Wd u611 g ex) 0 0 := by
                    intro u611 fr612 rf613 rf614 rf615
                    refine J_iinc (i := 8) (j := 4) (v := (w334 + 1)) (lw := [(8, .int (w334 + 1)), (0, .ref 162), (5, .int next), (6, .int others), (7, .int what)]) dX11_twice_174 rfl rfl (by decide) rfl ?_
                    refine J_goto (tgt := 65) dX11_twice_177 (by decide) ?_
                    refine J_lv [1, 2, 3, 4, 0] rfl ?_
                    exact ih494 (w334 + 1) u611 (bd_w (l := 0) (h := 9) (bd_add (l := 1) (h := 9) (bd_lt_hi bw334 (i_nle c496) h6) (bd_c (v := 1) (lo := 1) (hi := 1) (by decide)) (by decide)) (by decide)) (fun c k0_ => ((fr612 c k0_).trans (fr336 c k0_))) rf613 rf614 rf615 (mu_up 1 bw334 rfl (by decide) (bd_w (l := 1) (h := 9) (bd_add (l := 1) (h := 9) (bd_lt_hi bw334 (i_nle c496) h6) (bd_c (v := 1) (lo := 1) (hi := 1) (by decide)) (by decide)) (by decide)) hm495)
                  refine J_ifB_eq (tgt := 122) dX11_twice_83 (by decide) (fun c579 => ?_) (fun c579 => ?_)
                  · refine J_aload_n (i := 0) (j := 0) dX11_twice_122 rfl rfl ?_
                    refine J_iload (i := 8) (j := 4) dX11_twice_123 rfl ?_
                    refine J_bipush (v := 15) dX11_twice_125 (by decide) ?_
                    refine J_callV (As := [.int w334, .int 15]) (rest := []) dX11_twice_127 (c_M_of (d := 0) (u := u335) (g := g) (ex := ex) (p := w334) (what := 15)  (by decide) (bd_lt_hi bw334 (i_nle c496) h6) (bd_w (l := 0) (h := 15) (bd_c (v := 15) (lo := 15) (hi := 15) (by decide)) (by decide))) hq.n k1515 k1517 k55 wc_162 rfl rfl k97 k1518 np_X11_of (Nat.le_trans (by decide) hd) (by decide) (Nat.le_refl _) (Nat.le_refl _) wlen rfl (Nat.le_of_ble_eq_true rfl) (fun r_ h_ p617 => ?_)
                    obtain ⟨rfl, rfl⟩ := p617
                    refine J_if_ne (tgt := 174) dX11_twice_130 (by decide) (fun c618 => ?_) (fun c618 => ?_)
                    · refine J_lv [0, 1, 2, 3, 4] rfl ?_
                      exact jn616 u335 (fun c k0_ => rfl) rf337 rf338 rf339
                    · refine J_aload_n (i := 0) (j := 0) dX11_twice_133 rfl rfl ?_
                      refine J_iload (i := 8) (j := 4) dX11_twice_134 rfl ?_
                      refine J_iconst (v := 1) dX11_twice_136 (by decide) ?_
                      refine J_aload_n (i := 0) (j := 0) dX11_twice_137 rfl rfl ?_
                      refine J_get (C := RX11) (T := TX11) (Z := 43) (ci := 11) (f := 28) dX11_twice_138 inG11 rfl (by decide) k1292 wc_162 rfl ?_
                      refine J_iload (i := 8) (j := 4) dX11_twice_141 rfl ?_
                      refine J_iald dX11_twice_143 wc_173 (vin (bd_lt_hi bw334 (i_nle c496) h6) (by decide)) ?_
                      refine J_topi (fun v619 qv619 => ?_)
                      refine J_aload_n (i := 0) (j := 0) dX11_twice_144 rfl rfl ?_
                      refine J_iload (i := 8) (j := 4) dX11_twice_145 rfl ?_
                      refine J_iconst (v := 0) dX11_twice_147 (by decide) ?_
                      refine J_callV (As := [.int w334, .int 0]) (rest := [.int v619, .int 1, .int w334, .ref 162]) dX11_twice_148 (c_M_of (d := 0) (u := u335) (g := g) (ex := ex) (p := w334) (what := 0)  (by decide) (bd_lt_hi bw334 (i_nle c496) h6) (bd_w (l := 0) (h := 15) (bd_c (v := 0) (lo := 0) (hi := 0) (by decide)) (by decide))) hq.n k1515 k1517 k55 wc_162 rfl rfl k97 k1518 np_X11_of (Nat.le_trans (by decide) hd) (by decide) (Nat.le_refl _) (Nat.le_refl _) wlen rfl (Nat.le_of_ble_eq_true rfl) (fun r_ h_ p620 => ?_)
                      obtain ⟨rfl, rfl⟩ := p620
                      have jn625 : ∀ (w624 : Int32), J x yX11_twice cX11_twice 9 (some .int) d 0 0 (Wd u g ex).length 171 [(0, .ref 162), (5, .int next), (6, .int others), (7, .int what), (8, .int w334)] [.int w624, .int 1, .int w334, .ref 162] (Wd u335 g ex) 0 0 := by
                        intro w624
                        refine J_callV (As := [.int w334, .int 1, .int w624]) (rest := []) dX11_twice_171 (c_M_set (d := 0) (u := u335) (g := g) (ex := ex) (p := w334) (what := 1) (v := w624)  (by decide) (bd_lt_hi bw334 (i_nle c496) h6) (bd_w (l := 0) (h := 15) (bd_c (v := 1) (lo := 1) (hi := 1) (by decide)) (by decide))) hq.n k1519 k1521 k56 wc_162 rfl rfl k97 k1522 np_X11_set (Nat.le_trans (by decide) hd) (by decide) (Nat.le_refl _) (Nat.le_refl _) wlen rfl (Nat.le_of_ble_eq_true rfl) (fun r_ h_ p626 => ?_)
                        obtain ⟨u627, rfl, rfl, h628, fr629⟩ := p626
                        refine J_lv [0, 1, 2, 3, 4] rfl ?_
                        exact jn616 u627 (fun c k0_ => (ms_c h628 k0_)) (dn_s h628 (bd_lt_hi bw334 (i_nle c496) h6) (by decide) rf337) (n0_s h628 (bd_lt_hi bw334 (i_nle c496) h6) (bd_w (l := 0) (h := 15) (bd_c (v := 1) (lo := 1) (hi := 1) (by decide)) (by decide)) rf338) (rc_s h628 (bd_lt_hi bw334 (i_nle c496) h6) (bd_w (l := 0) (h := 15) (bd_c (v := 1) (lo := 1) (hi := 1) (by decide)) (by decide)) rf339)
                      refine J_icmp_ge (tgt := 164) dX11_twice_151 (by decide) (fun c621 => ?_) (fun c621 => ?_)
                      · refine J_aload_n (i := 0) (j := 0) dX11_twice_164 rfl rfl ?_
                        refine J_iload (i := 8) (j := 4) dX11_twice_165 rfl ?_
                        refine J_iconst (v := 0) dX11_twice_167 (by decide) ?_
                        refine J_callV (As := [.int w334, .int 0]) (rest := [.int 1, .int w334, .ref 162]) dX11_twice_168 (c_M_of (d := 0) (u := u335) (g := g) (ex := ex) (p := w334) (what := 0)  (by decide) (bd_lt_hi bw334 (i_nle c496) h6) (bd_w (l := 0) (h := 15) (bd_c (v := 0) (lo := 0) (hi := 0) (by decide)) (by decide))) hq.n k1515 k1517 k55 wc_162 rfl rfl k97 k1518 np_X11_of (Nat.le_trans (by decide) hd) (by decide) (Nat.le_refl _) (Nat.le_refl _) wlen rfl (Nat.le_of_ble_eq_true rfl) (fun r_ h_ p630 => ?_)
                        obtain ⟨rfl, rfl⟩ := p630
                        refine J_lv [0, 1, 2, 3, 4] rfl ?_
                        exact jn625 (mof u335 w334 (0 : Int32)) 
                      · refine J_aload_n (i := 0) (j := 0) dX11_twice_154 rfl rfl ?_
                        refine J_get (C := RX11) (T := TX11) (Z := 43) (ci := 11) (f := 28) dX11_twice_155 inG11 rfl (by decide) k1292 wc_162 rfl ?_
                        refine J_iload (i := 8) (j := 4) dX11_twice_158 rfl ?_
                        refine J_iald dX11_twice_160 wc_173 (vin (bd_lt_hi bw334 (i_nle c496) h6) (by decide)) ?_
                        refine J_topi (fun v631 qv631 => ?_)
                        refine J_goto (tgt := 171) dX11_twice_161 (by decide) ?_
                        refine J_lv [0, 1, 2, 3, 4] rfl ?_
                        exact jn625 v631 
                  · refine J_aload_n (i := 0) (j := 0) dX11_twice_86 rfl rfl ?_
                    refine J_iload (i := 8) (j := 4) dX11_twice_87 rfl ?_
                    refine J_iconst (v := 0) dX11_twice_89 (by decide) ?_
                    refine J_iconst (v := 0) dX11_twice_90 (by decide) ?_
                    refine J_callV (As := [.int w334, .int 0, .int 0]) (rest := []) dX11_twice_91 (c_M_set (d := 0) (u := u335) (g := g) (ex := ex) (p := w334) (what := 0) (v := 0)  (by decide) (bd_lt_hi bw334 (i_nle c496) h6) (bd_w (l := 0) (h := 15) (bd_c (v := 0) (lo := 0) (hi := 0) (by decide)) (by decide))) hq.n k1519 k1521 k56 wc_162 rfl rfl k97 k1522 np_X11_set (Nat.le_trans (by decide) hd) (by decide) (Nat.le_refl _) (Nat.le_refl _) wlen rfl (Nat.le_of_ble_eq_true rfl) (fun r_ h_ p632 => ?_)
                    obtain ⟨u633, rfl, rfl, h634, fr635⟩ := p632
                    refine J_aload_n (i := 0) (j := 0) dX11_twice_94 rfl rfl ?_
                    refine J_iload (i := 8) (j := 4) dX11_twice_95 rfl ?_
                    refine J_iconst (v := 1) dX11_twice_97 (by decide) ?_
                    refine J_iconst (v := 0) dX11_twice_98 (by decide) ?_
                    refine J_callV (As := [.int w334, .int 1, .int 0]) (rest := []) dX11_twice_99 (c_M_set (d := 0) (u := u633) (g := g) (ex := ex) (p := w334) (what := 1) (v := 0)  (by decide) (bd_lt_hi bw334 (i_nle c496) h6) (bd_w (l := 0) (h := 15) (bd_c (v := 1) (lo := 1) (hi := 1) (by decide)) (by decide))) hq.n k1519 k1521 k56 wc_162 rfl rfl k97 k1522 np_X11_set (Nat.le_trans (by decide) hd) (by decide) (Nat.le_refl _) (Nat.le_refl _) wlen rfl (Nat.le_of_ble_eq_true rfl) (fun r_ h_ p636 => ?_)
                    obtain ⟨u637, rfl, rfl, h638, fr639⟩ := p636
                    refine J_aload_n (i := 0) (j := 0) dX11_twice_102 rfl rfl ?_
                    refine J_iload (i := 8) (j := 4) dX11_twice_103 rfl ?_
                    refine J_iconst (v := 4) dX11_twice_105 (by decide) ?_
                    refine J_iconst (v := 0) dX11_twice_106 (by decide) ?_
                    refine J_callV (As := [.int w334, .int 4, .int 0]) (rest := []) dX11_twice_107 (c_M_set (d := 0) (u := u637) (g := g) (ex := ex) (p := w334) (what := 4) (v := 0)  (by decide) (bd_lt_hi bw334 (i_nle c496) h6) (bd_w (l := 0) (h := 15) (bd_c (v := 4) (lo := 4) (hi := 4) (by decide)) (by decide))) hq.n k1519 k1521 k56 wc_162 rfl rfl k97 k1522 np_X11_set (Nat.le_trans (by decide) hd) (by decide) (Nat.le_refl _) (Nat.le_refl _) wlen rfl (Nat.le_of_ble_eq_true rfl) (fun r_ h_ p640 => ?_)
                    obtain ⟨u641, rfl, rfl, h642, fr643⟩ := p640
                    refine J_aload_n (i := 0) (j := 0) dX11_twice_110 rfl rfl ?_
                    refine J_iload (i := 8) (j := 4) dX11_twice_111 rfl ?_
                    refine J_bipush (v := 15) dX11_twice_113 (by decide) ?_
                    refine J_iconst (v := 1) dX11_twice_115 (by decide) ?_
                    refine J_callV (As := [.int w334, .int 15, .int 1]) (rest := []) dX11_twice_116 (c_M_set (d := 0) (u := u641) (g := g) (ex := ex) (p := w334) (what := 15) (v := 1)  (by decide) (bd_lt_hi bw334 (i_nle c496) h6) (bd_w (l := 0) (h := 15) (bd_c (v := 15) (lo := 15) (hi := 15) (by decide)) (by decide))) hq.n k1519 k1521 k56 wc_162 rfl rfl k97 k1522 np_X11_set (Nat.le_trans (by decide) hd) (by decide) (Nat.le_refl _) (Nat.le_refl _) wlen rfl (Nat.le_of_ble_eq_true rfl) (fun r_ h_ p644 => ?_)
                    obtain ⟨u645, rfl, rfl, h646, fr647⟩ := p644
                    refine J_goto (tgt := 174) dX11_twice_119 (by decide) ?_
                    refine J_lv [0, 1, 2, 3, 4] rfl ?_
                    exact jn616 u645 (fun c k0_ => ((ms_c h646 k0_).trans ((ms_c h642 k0_).trans ((ms_c h638 k0_).trans (ms_c h634 k0_))))) (dn_s h646 (bd_lt_hi bw334 (i_nle c496) h6) (by decide) (dn_s h642 (bd_lt_hi bw334 (i_nle c496) h6) (by decide) (dn_s h638 (bd_lt_hi bw334 (i_nle c496) h6) (by decide) (dn_s h634 (bd_lt_hi bw334 (i_nle c496) h6) (by decide) rf337)))) (n0_s h646 (bd_lt_hi bw334 (i_nle c496) h6) (bd_w (l := 0) (h := 15) (bd_c (v := 15) (lo := 15) (hi := 15) (by decide)) (by decide)) (n0_s h642 (bd_lt_hi bw334 (i_nle c496) h6) (bd_w (l := 0) (h := 15) (bd_c (v := 4) (lo := 4) (hi := 4) (by decide)) (by decide)) (n0_s h638 (bd_lt_hi bw334 (i_nle c496) h6) (bd_w (l := 0) (h := 15) (bd_c (v := 1) (lo := 1) (hi := 1) (by decide)) (by decide)) (n0_s h634 (bd_lt_hi bw334 (i_nle c496) h6) (bd_w (l := 0) (h := 15) (bd_c (v := 0) (lo := 0) (hi := 0) (by decide)) (by decide)) rf338)))) (rc_s h646 (bd_lt_hi bw334 (i_nle c496) h6) (bd_w (l := 0) (h := 15) (bd_c (v := 15) (lo := 15) (hi := 15) (by decide)) (by decide)) (rc_s h642 (bd_lt_hi bw334 (i_nle c496) h6) (bd_w (l := 0) (h := 15) (bd_c (v := 4) (lo := 4) (hi := 4) (by decide)) (by decide)) (rc_s h638 (bd_lt_hi bw334 (i_nle c496) h6) (bd_w (l := 0) (h := 15) (bd_c (v := 1) (lo := 1) (hi := 1) (by decide)) (by decide)) (rc_s h634 (bd_lt_hi bw334 (i_nle c496) h6) (bd_w (l := 0) (h := 15) (bd_c (v := 0) (lo := 0) (hi := 0) (by decide)) (by decide)) rf339))))
            refine J_lv [1, 6, 7, 8, 0] rfl ?_
            exact lp492 _ (0 : Int32) u32 (bd_w (l := 0) (h := 9) (bd_c (v := 0) (lo := 0) (hi := 0) (by decide)) (by decide)) (fun c k0_ => rfl) (dn_c (fr34 172 rfl) h7) (n0_c (fr34 172 rfl) h8) (rc_c (fr34 172 rfl) (h9 c12).1) (Nat.lt_succ_self _)
          · refine J_iconst (v := (-1)) dX11_twice_49 (by decide) ?_
            exact J_iret hq dX11_twice_50 rfl wlen (Nat.le_refl _) (Nat.le_refl _) ⟨((-1) : Int32), u5, rfl, rfl, h6, h7, h8, (bd_r ((fc11 31 (Nat.ne_of_beq_eq_false rfl) (Nat.ne_of_beq_eq_false rfl) (Nat.ne_of_beq_eq_false rfl) (Nat.ne_of_beq_eq_false rfl) (Nat.ne_of_beq_eq_false rfl) (Nat.ne_of_beq_eq_false rfl)).trans (ms_i e2 (Nat.ne_of_beq_eq_false rfl))) hp8), (fun c k_ => ((fr10 c (nin_ne (a := 162) k_ rfl) (nin_ne (a := 172) k_ rfl)).trans (ms_c e2 (nin_ne (a := 162) k_ rfl)))), (fun j k0_ k22_ k23_ k24_ k25_ k26_ k27_ k31_ k32_ k33_ => ((fc11 j k22_ k23_ k24_ k25_ k26_ k27_).trans (ms_i e2 k0_)))⟩
set_option maxHeartbeats 4000000 in
set_option maxRecDepth 100000 in
theorem c_M_better {d : Nat} {u : Nat → Nat → Int32} {g : Nat → Nat → Int64} {ex : List MC} {hill : Int32} {one : Int32} {other : Int32} (hd : 5 ≤ d) (hp0 : (MY u)) (hp1 : AB u 168 (-1) 999) (hp2 : (HD u)) (hp3 : (HC u)) (hp4 : (PL u)) (hp5 : (N0 u)) (hp6 : (DN u)) (hp7 : Bd 0 9 (u 162 22)) (hp8 : Bd 0 511 (u 162 31)) (hp9 : AB u 177 (-1) 999) : CT con0 d 0 0 yX11_better cX11_better 8 (some .int) [.ref 162, .int hill, .int one, .int other] (Wd u g ex) (fun r h2 => ∃ (z : Int32) (u2 : Nat → Nat → Int32), r = some (.int z) ∧ h2 = Wd u2 g ex ∧ Bd 0 9 (u2 162 22) ∧ (DN u2) ∧ (N0 u2) ∧ Bd 0 511 (u2 162 31) ∧ (∀ c, nin c [(162, 162), (172, 175)] = true → u2 c = u c) ∧ (∀ j, j ≠ 0 → j ≠ 22 → j ≠ 23 → j ≠ 24 → j ≠ 25 → j ≠ 26 → j ≠ 27 → j ≠ 31 → j ≠ 32 → j ≠ 33 → u2 162 j = u 162 j)) := by
  refine CT_of (by decide) (Nat.le_of_ble_eq_true rfl) (fun x hq => ?_)
  show J x yX11_better cX11_better 8 (some .int) d 0 0 (Wd u g ex).length 0 [(0, .ref 162), (1, .int hill), (2, .int one), (3, .int other)] [] (Wd u g ex) 0 0
  refine J_aload_n (i := 0) (j := 0) dX11_better_0 rfl rfl ?_
  refine J_iconst (v := 0) dX11_better_1 (by decide) ?_
  obtain ⟨u1, e2⟩ : ∃ z, z = ms u 162 0 0 := ⟨_, rfl⟩
  refine J_put (C := RX11) (T := TX11) (Z := 43) (ci := 11) (f := 0) (ty0 := tyX11) dX11_better_2 inG11 rfl tyX11_ok nmX11 (by decide) k1264 rfl rfl wc_162 (Nat.le_of_ble_eq_true rfl) (fun _ _ => ⟨rfl, rfl⟩) (ws e2 wk_162 rfl) ?_
  refine J_aload_n (i := 0) (j := 0) dX11_better_5 rfl rfl ?_
  refine J_iload_n (i := 1) (j := 1) dX11_better_6 rfl rfl ?_
  refine J_iload_n (i := 2) (j := 2) dX11_better_7 rfl rfl ?_
  refine J_callV (As := [.int hill, .int one]) (rest := []) dX11_better_8 (c_M_lay (d := 2) (u := u1) (g := g) (ex := ex) (h := hill) (plan := one)  (by decide) (my_c (ms_c e2 (Nat.ne_of_beq_eq_false rfl)) hp0) (ab_c (ms_c e2 (Nat.ne_of_beq_eq_false rfl)) hp1) (hd_c (ms_c e2 (Nat.ne_of_beq_eq_false rfl)) hp2) (hc_c (ms_c e2 (Nat.ne_of_beq_eq_false rfl)) (ms_c e2 (Nat.ne_of_beq_eq_false rfl)) hp3) (pl_c (ms_c e2 (Nat.ne_of_beq_eq_false rfl)) hp4) (n0_c (ms_c e2 (Nat.ne_of_beq_eq_false rfl)) hp5) (dn_c (ms_c e2 (Nat.ne_of_beq_eq_false rfl)) hp6) (bd_r (ms_i e2 (Nat.ne_of_beq_eq_false rfl)) hp7)) hq.n k1503 k1505 k52 wc_162 rfl rfl k97 k1506 np_X11_lay (Nat.le_trans (by decide) hd) (by decide) (Nat.le_refl _) (Nat.le_refl _) wlen rfl (Nat.le_of_ble_eq_true rfl) (fun r_ h_ p3 => ?_)
  obtain ⟨t4, u5, rfl, rfl, h6, h7, h8, h9, fr10, fc11⟩ := p3
  refine J_ifB_ne (tgt := 16) dX11_better_11 (by decide) (fun c12 => ?_) (fun c12 => ?_)
  · refine J_aload_n (i := 0) (j := 0) dX11_better_16 rfl rfl ?_
    refine J_iconst (v := (-1)) dX11_better_17 (by decide) ?_
    refine J_callV (As := [.int (-1)]) (rest := []) dX11_better_18 (c_M_meanBy (d := 4) (u := u5) (g := g) (ex := ex) (owner := (-1))  (by decide) h6 (h9 c12).1 h7 (bd_r ((fc11 31 (Nat.ne_of_beq_eq_false rfl) (Nat.ne_of_beq_eq_false rfl) (Nat.ne_of_beq_eq_false rfl) (Nat.ne_of_beq_eq_false rfl) (Nat.ne_of_beq_eq_false rfl) (Nat.ne_of_beq_eq_false rfl)).trans (ms_i e2 (Nat.ne_of_beq_eq_false rfl))) hp8)) hq.n k1596 k1598 k68 wc_162 rfl rfl k97 k1599 np_X11_meanBy (Nat.le_trans (by decide) hd) (by decide) (Nat.le_refl _) (Nat.le_refl _) wlen rfl (Nat.le_of_ble_eq_true rfl) (fun r_ h_ p13 => ?_)
    obtain ⟨l14, u15, rfl, rfl, h16, fr17, fc18⟩ := p13
    refine J_lstore (i := 4) (lw := [(4, .long l14), (0, .ref 162), (1, .int hill), (2, .int one), (3, .int other)]) dX11_better_21 (by decide) rfl ?_
    refine J_aload_n (i := 0) (j := 1) dX11_better_23 rfl rfl ?_
    refine J_iload_n (i := 1) (j := 2) dX11_better_24 rfl rfl ?_
    refine J_iload_n (i := 3) (j := 4) dX11_better_25 rfl rfl ?_
    refine J_callV (As := [.int hill, .int other]) (rest := []) dX11_better_26 (c_M_lay (d := 2) (u := u15) (g := g) (ex := ex) (h := hill) (plan := other)  (by decide) (my_c ((fr17 167 rfl).trans ((fr10 167 (Nat.ne_of_beq_eq_false rfl) (Nat.ne_of_beq_eq_false rfl)).trans (ms_c e2 (Nat.ne_of_beq_eq_false rfl)))) hp0) (ab_c ((fr17 168 rfl).trans ((fr10 168 (Nat.ne_of_beq_eq_false rfl) (Nat.ne_of_beq_eq_false rfl)).trans (ms_c e2 (Nat.ne_of_beq_eq_false rfl)))) hp1) (hd_c ((fr17 168 rfl).trans ((fr10 168 (Nat.ne_of_beq_eq_false rfl) (Nat.ne_of_beq_eq_false rfl)).trans (ms_c e2 (Nat.ne_of_beq_eq_false rfl)))) hp2) (hc_c ((fr17 167 rfl).trans ((fr10 167 (Nat.ne_of_beq_eq_false rfl) (Nat.ne_of_beq_eq_false rfl)).trans (ms_c e2 (Nat.ne_of_beq_eq_false rfl)))) ((fr17 168 rfl).trans ((fr10 168 (Nat.ne_of_beq_eq_false rfl) (Nat.ne_of_beq_eq_false rfl)).trans (ms_c e2 (Nat.ne_of_beq_eq_false rfl)))) hp3) (pl_c ((fr17 169 rfl).trans ((fr10 169 (Nat.ne_of_beq_eq_false rfl) (Nat.ne_of_beq_eq_false rfl)).trans (ms_c e2 (Nat.ne_of_beq_eq_false rfl)))) hp4) (n0_c (fr17 172 rfl) h8) (dn_c (fr17 172 rfl) h7) (bd_r (fc18 22 (Nat.ne_of_beq_eq_false rfl) (Nat.ne_of_beq_eq_false rfl) (Nat.ne_of_beq_eq_false rfl)) h6)) hq.n k1503 k1505 k52 wc_162 rfl rfl k97 k1506 np_X11_lay (Nat.le_trans (by decide) hd) (by decide) (Nat.le_refl _) (Nat.le_refl _) wlen rfl (Nat.le_of_ble_eq_true rfl) (fun r_ h_ p19 => ?_)
    obtain ⟨t20, u21, rfl, rfl, h22, h23, h24, h25, fr26, fc27⟩ := p19
    refine J_ifB_ne (tgt := 34) dX11_better_29 (by decide) (fun c28 => ?_) (fun c28 => ?_)
    · refine J_aload_n (i := 0) (j := 1) dX11_better_34 rfl rfl ?_
      refine J_iconst (v := (-1)) dX11_better_35 (by decide) ?_
      refine J_callV (As := [.int (-1)]) (rest := []) dX11_better_36 (c_M_meanBy (d := 4) (u := u21) (g := g) (ex := ex) (owner := (-1))  (by decide) h22 (h25 c28).1 h23 (bd_r (fc27 31 (Nat.ne_of_beq_eq_false rfl) (Nat.ne_of_beq_eq_false rfl) (Nat.ne_of_beq_eq_false rfl) (Nat.ne_of_beq_eq_false rfl) (Nat.ne_of_beq_eq_false rfl) (Nat.ne_of_beq_eq_false rfl)) h16)) hq.n k1596 k1598 k68 wc_162 rfl rfl k97 k1599 np_X11_meanBy (Nat.le_trans (by decide) hd) (by decide) (Nat.le_refl _) (Nat.le_refl _) wlen rfl (Nat.le_of_ble_eq_true rfl) (fun r_ h_ p29 => ?_)
      obtain ⟨l30, u31, rfl, rfl, h32, fr33, fc34⟩ := p29
      refine J_lstore (i := 6) (lw := [(6, .long l30), (4, .long l14), (0, .ref 162), (1, .int hill), (2, .int one), (3, .int other)]) dX11_better_39 (by decide) rfl ?_
      refine J_lload (i := 4) (j := 1) dX11_better_41 rfl ?_
      refine J_lload (i := 6) (j := 0) dX11_better_43 rfl ?_
      refine J_lcmp dX11_better_45 ?_
      refine J_if_ge (tgt := 53) dX11_better_46 (by decide) (fun c35 => ?_) (fun c35 => ?_)
      · refine J_lload (i := 4) (j := 1) dX11_better_53 rfl ?_
        refine J_lload (i := 6) (j := 0) dX11_better_55 rfl ?_
        refine J_lcmp dX11_better_57 ?_
        refine J_if_le (tgt := 65) dX11_better_58 (by decide) (fun c36 => ?_) (fun c36 => ?_)
        · refine J_iconst (v := 2) dX11_better_65 (by decide) ?_
          exact J_iret hq dX11_better_66 rfl wlen (Nat.le_refl _) (Nat.le_refl _) ⟨(2 : Int32), u31, rfl, rfl, (bd_r (fc34 22 (Nat.ne_of_beq_eq_false rfl) (Nat.ne_of_beq_eq_false rfl) (Nat.ne_of_beq_eq_false rfl)) h22), (dn_c (fr33 172 rfl) h23), (n0_c (fr33 172 rfl) h24), h32, (fun c k_ => ((fr33 c (nin_sub (M := [(162, 162), (173, 175)]) k_ rfl)).trans ((fr26 c (nin_ne (a := 162) k_ rfl) (nin_ne (a := 172) k_ rfl)).trans ((fr17 c (nin_sub (M := [(162, 162), (173, 175)]) k_ rfl)).trans ((fr10 c (nin_ne (a := 162) k_ rfl) (nin_ne (a := 172) k_ rfl)).trans (ms_c e2 (nin_ne (a := 162) k_ rfl))))))), (fun j k0_ k22_ k23_ k24_ k25_ k26_ k27_ k31_ k32_ k33_ => ((fc34 j k31_ k32_ k33_).trans ((fc27 j k22_ k23_ k24_ k25_ k26_ k27_).trans ((fc18 j k31_ k32_ k33_).trans ((fc11 j k22_ k23_ k24_ k25_ k26_ k27_).trans (ms_i e2 k0_))))))⟩
        · refine J_iconst (v := 1) dX11_better_61 (by decide) ?_
          refine J_goto (tgt := 66) dX11_better_62 (by decide) ?_
          exact J_iret hq dX11_better_66 rfl wlen (Nat.le_refl _) (Nat.le_refl _) ⟨(1 : Int32), u31, rfl, rfl, (bd_r (fc34 22 (Nat.ne_of_beq_eq_false rfl) (Nat.ne_of_beq_eq_false rfl) (Nat.ne_of_beq_eq_false rfl)) h22), (dn_c (fr33 172 rfl) h23), (n0_c (fr33 172 rfl) h24), h32, (fun c k_ => ((fr33 c (nin_sub (M := [(162, 162), (173, 175)]) k_ rfl)).trans ((fr26 c (nin_ne (a := 162) k_ rfl) (nin_ne (a := 172) k_ rfl)).trans ((fr17 c (nin_sub (M := [(162, 162), (173, 175)]) k_ rfl)).trans ((fr10 c (nin_ne (a := 162) k_ rfl) (nin_ne (a := 172) k_ rfl)).trans (ms_c e2 (nin_ne (a := 162) k_ rfl))))))), (fun j k0_ k22_ k23_ k24_ k25_ k26_ k27_ k31_ k32_ k33_ => ((fc34 j k31_ k32_ k33_).trans ((fc27 j k22_ k23_ k24_ k25_ k26_ k27_).trans ((fc18 j k31_ k32_ k33_).trans ((fc11 j k22_ k23_ k24_ k25_ k26_ k27_).trans (ms_i e2 k0_))))))⟩
      · refine J_iconst (v := 0) dX11_better_49 (by decide) ?_
        refine J_goto (tgt := 66) dX11_better_50 (by decide) ?_
        exact J_iret hq dX11_better_66 rfl wlen (Nat.le_refl _) (Nat.le_refl _) ⟨(0 : Int32), u31, rfl, rfl, (bd_r (fc34 22 (Nat.ne_of_beq_eq_false rfl) (Nat.ne_of_beq_eq_false rfl) (Nat.ne_of_beq_eq_false rfl)) h22), (dn_c (fr33 172 rfl) h23), (n0_c (fr33 172 rfl) h24), h32, (fun c k_ => ((fr33 c (nin_sub (M := [(162, 162), (173, 175)]) k_ rfl)).trans ((fr26 c (nin_ne (a := 162) k_ rfl) (nin_ne (a := 172) k_ rfl)).trans ((fr17 c (nin_sub (M := [(162, 162), (173, 175)]) k_ rfl)).trans ((fr10 c (nin_ne (a := 162) k_ rfl) (nin_ne (a := 172) k_ rfl)).trans (ms_c e2 (nin_ne (a := 162) k_ rfl))))))), (fun j k0_ k22_ k23_ k24_ k25_ k26_ k27_ k31_ k32_ k33_ => ((fc34 j k31_ k32_ k33_).trans ((fc27 j k22_ k23_ k24_ k25_ k26_ k27_).trans ((fc18 j k31_ k32_ k33_).trans ((fc11 j k22_ k23_ k24_ k25_ k26_ k27_).trans (ms_i e2 k0_))))))⟩
    · refine J_iconst (v := (-1)) dX11_better_32 (by decide) ?_
      exact J_iret hq dX11_better_33 rfl wlen (Nat.le_refl _) (Nat.le_refl _) ⟨((-1) : Int32), u21, rfl, rfl, h22, h23, h24, (bd_r (fc27 31 (Nat.ne_of_beq_eq_false rfl) (Nat.ne_of_beq_eq_false rfl) (Nat.ne_of_beq_eq_false rfl) (Nat.ne_of_beq_eq_false rfl) (Nat.ne_of_beq_eq_false rfl) (Nat.ne_of_beq_eq_false rfl)) h16), (fun c k_ => ((fr26 c (nin_ne (a := 162) k_ rfl) (nin_ne (a := 172) k_ rfl)).trans ((fr17 c (nin_sub (M := [(162, 162), (173, 175)]) k_ rfl)).trans ((fr10 c (nin_ne (a := 162) k_ rfl) (nin_ne (a := 172) k_ rfl)).trans (ms_c e2 (nin_ne (a := 162) k_ rfl)))))), (fun j k0_ k22_ k23_ k24_ k25_ k26_ k27_ k31_ k32_ k33_ => ((fc27 j k22_ k23_ k24_ k25_ k26_ k27_).trans ((fc18 j k31_ k32_ k33_).trans ((fc11 j k22_ k23_ k24_ k25_ k26_ k27_).trans (ms_i e2 k0_)))))⟩
  · refine J_iconst (v := (-1)) dX11_better_14 (by decide) ?_
    exact J_iret hq dX11_better_15 rfl wlen (Nat.le_refl _) (Nat.le_refl _) ⟨((-1) : Int32), u5, rfl, rfl, h6, h7, h8, (bd_r ((fc11 31 (Nat.ne_of_beq_eq_false rfl) (Nat.ne_of_beq_eq_false rfl) (Nat.ne_of_beq_eq_false rfl) (Nat.ne_of_beq_eq_false rfl) (Nat.ne_of_beq_eq_false rfl) (Nat.ne_of_beq_eq_false rfl)).trans (ms_i e2 (Nat.ne_of_beq_eq_false rfl))) hp8), (fun c k_ => ((fr10 c (nin_ne (a := 162) k_ rfl) (nin_ne (a := 172) k_ rfl)).trans (ms_c e2 (nin_ne (a := 162) k_ rfl)))), (fun j k0_ k22_ k23_ k24_ k25_ k26_ k27_ k31_ k32_ k33_ => ((fc11 j k22_ k23_ k24_ k25_ k26_ k27_).trans (ms_i e2 k0_)))⟩
