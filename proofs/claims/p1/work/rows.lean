section
-- ===== PART A: goes FIRST, ahead of the names: the tables' words, and 'selects' of the private methods out of them =====
/-- a private method of a class that the tables say can be made, by its rows of tables_1 -/
def lw_okq (q : MethodName × Nat) : Prop := (q.1.cls ≠ "java/lang/invoke/MethodHandle" ∧ q.1.cls ≠ "java/lang/invoke/VarHandle") ∧ Cond.instantiable q.1.cls q.2 ∈ tables_1 ∧ Cond.privateMethod q.1 ∈ tables_1 ∧ Cond.instanceMethod q.1 ∈ tables_1
theorem lw_p0 : lw_okq (⟨"PondStair$Reader", "readLine", "(I)Z"⟩, 7) := ⟨⟨by decide +kernel, by decide +kernel⟩, List.mem_of_getElem? (i := 135) (by decide +kernel), List.mem_of_getElem? (i := 411) (by decide +kernel), List.mem_of_getElem? (i := 412) (by decide +kernel)⟩
theorem lw_p1 : lw_okq (⟨"PondStair$Tokens", "takeWord", "()V"⟩, 6) := ⟨⟨by decide +kernel, by decide +kernel⟩, List.mem_of_getElem? (i := 141) (by decide +kernel), List.mem_of_getElem? (i := 425) (by decide +kernel), List.mem_of_getElem? (i := 426) (by decide +kernel)⟩
theorem lw_p2 : lw_okq (⟨"PondStair$Tokens", "takeNumber", "()V"⟩, 6) := ⟨⟨by decide +kernel, by decide +kernel⟩, List.mem_of_getElem? (i := 141) (by decide +kernel), List.mem_of_getElem? (i := 432) (by decide +kernel), List.mem_of_getElem? (i := 433) (by decide +kernel)⟩
theorem lw_p3 : lw_okq (⟨"PondStair$Reader", "lineOf", "(I)I"⟩, 7) := ⟨⟨by decide +kernel, by decide +kernel⟩, List.mem_of_getElem? (i := 135) (by decide +kernel), List.mem_of_getElem? (i := 436) (by decide +kernel), List.mem_of_getElem? (i := 437) (by decide +kernel)⟩
theorem lw_p4 : lw_okq (⟨"PondStair$Reader", "breaksOff", "()Z"⟩, 7) := ⟨⟨by decide +kernel, by decide +kernel⟩, List.mem_of_getElem? (i := 135) (by decide +kernel), List.mem_of_getElem? (i := 516) (by decide +kernel), List.mem_of_getElem? (i := 517) (by decide +kernel)⟩
theorem lw_p5 : lw_okq (⟨"PondStair$Reader", "take", "(IIII)V"⟩, 7) := ⟨⟨by decide +kernel, by decide +kernel⟩, List.mem_of_getElem? (i := 135) (by decide +kernel), List.mem_of_getElem? (i := 524) (by decide +kernel), List.mem_of_getElem? (i := 525) (by decide +kernel)⟩
theorem lw_p6 : lw_okq (⟨"PondStair$Reader", "isFull", "(I)Z"⟩, 7) := ⟨⟨by decide +kernel, by decide +kernel⟩, List.mem_of_getElem? (i := 135) (by decide +kernel), List.mem_of_getElem? (i := 528) (by decide +kernel), List.mem_of_getElem? (i := 529) (by decide +kernel)⟩
theorem lw_p7 : lw_okq (⟨"PondStair$Reader", "remember", "(II)V"⟩, 7) := ⟨⟨by decide +kernel, by decide +kernel⟩, List.mem_of_getElem? (i := 135) (by decide +kernel), List.mem_of_getElem? (i := 532) (by decide +kernel), List.mem_of_getElem? (i := 533) (by decide +kernel)⟩
theorem lw_p8 : lw_okq (⟨"PondStair$Reader", "canBeInHill", "(II)Z"⟩, 7) := ⟨⟨by decide +kernel, by decide +kernel⟩, List.mem_of_getElem? (i := 135) (by decide +kernel), List.mem_of_getElem? (i := 536) (by decide +kernel), List.mem_of_getElem? (i := 537) (by decide +kernel)⟩
theorem lw_p9 : lw_okq (⟨"PondStair$Reader", "canBeInPlan", "(II)Z"⟩, 7) := ⟨⟨by decide +kernel, by decide +kernel⟩, List.mem_of_getElem? (i := 135) (by decide +kernel), List.mem_of_getElem? (i := 542) (by decide +kernel), List.mem_of_getElem? (i := 543) (by decide +kernel)⟩
theorem lw_p10 : lw_okq (⟨"PondStair$Reader", "takeForHill", "(II)V"⟩, 7) := ⟨⟨by decide +kernel, by decide +kernel⟩, List.mem_of_getElem? (i := 135) (by decide +kernel), List.mem_of_getElem? (i := 550) (by decide +kernel), List.mem_of_getElem? (i := 551) (by decide +kernel)⟩
theorem lw_p11 : lw_okq (⟨"PondStair$Reader", "closeRains", "()V"⟩, 7) := ⟨⟨by decide +kernel, by decide +kernel⟩, List.mem_of_getElem? (i := 135) (by decide +kernel), List.mem_of_getElem? (i := 579) (by decide +kernel), List.mem_of_getElem? (i := 580) (by decide +kernel)⟩
theorem lw_p12 : lw_okq (⟨"PondStair", "lays", "(II)Z"⟩, 10) := ⟨⟨by decide +kernel, by decide +kernel⟩, List.mem_of_getElem? (i := 22) (by decide +kernel), List.mem_of_getElem? (i := 638) (by decide +kernel), List.mem_of_getElem? (i := 639) (by decide +kernel)⟩
theorem lw_p13 : lw_okq (⟨"PondStair$Site", "builds", "(III)Z"⟩, 4) := ⟨⟨by decide +kernel, by decide +kernel⟩, List.mem_of_getElem? (i := 201) (by decide +kernel), List.mem_of_getElem? (i := 651) (by decide +kernel), List.mem_of_getElem? (i := 652) (by decide +kernel)⟩
theorem lw_p14 : lw_okq (⟨"PondStair$Site", "mends", "(II)Z"⟩, 4) := ⟨⟨by decide +kernel, by decide +kernel⟩, List.mem_of_getElem? (i := 201) (by decide +kernel), List.mem_of_getElem? (i := 667) (by decide +kernel), List.mem_of_getElem? (i := 668) (by decide +kernel)⟩
theorem lw_p15 : lw_okq (⟨"PondStair$Site", "lowers", "(II)Z"⟩, 4) := ⟨⟨by decide +kernel, by decide +kernel⟩, List.mem_of_getElem? (i := 201) (by decide +kernel), List.mem_of_getElem? (i := 673) (by decide +kernel), List.mem_of_getElem? (i := 674) (by decide +kernel)⟩
def lw_privs_1 : List (MethodName × Nat) := [(⟨"PondStair$Reader", "readLine", "(I)Z"⟩, 7), (⟨"PondStair$Tokens", "takeWord", "()V"⟩, 6), (⟨"PondStair$Tokens", "takeNumber", "()V"⟩, 6), (⟨"PondStair$Reader", "lineOf", "(I)I"⟩, 7), (⟨"PondStair$Reader", "breaksOff", "()Z"⟩, 7), (⟨"PondStair$Reader", "take", "(IIII)V"⟩, 7), (⟨"PondStair$Reader", "isFull", "(I)Z"⟩, 7), (⟨"PondStair$Reader", "remember", "(II)V"⟩, 7), (⟨"PondStair$Reader", "canBeInHill", "(II)Z"⟩, 7), (⟨"PondStair$Reader", "canBeInPlan", "(II)Z"⟩, 7), (⟨"PondStair$Reader", "takeForHill", "(II)V"⟩, 7), (⟨"PondStair$Reader", "closeRains", "()V"⟩, 7), (⟨"PondStair", "lays", "(II)Z"⟩, 10), (⟨"PondStair$Site", "builds", "(III)Z"⟩, 4), (⟨"PondStair$Site", "mends", "(II)Z"⟩, 4), (⟨"PondStair$Site", "lowers", "(II)Z"⟩, 4)]
theorem lw_r1 : ∀ q ∈ lw_privs_1, lw_okq q := List.forall_mem_cons.mpr ⟨lw_p0, List.forall_mem_cons.mpr ⟨lw_p1, List.forall_mem_cons.mpr ⟨lw_p2, List.forall_mem_cons.mpr ⟨lw_p3, List.forall_mem_cons.mpr ⟨lw_p4, List.forall_mem_cons.mpr ⟨lw_p5, List.forall_mem_cons.mpr ⟨lw_p6, List.forall_mem_cons.mpr ⟨lw_p7, List.forall_mem_cons.mpr ⟨lw_p8, List.forall_mem_cons.mpr ⟨lw_p9, List.forall_mem_cons.mpr ⟨lw_p10, List.forall_mem_cons.mpr ⟨lw_p11, List.forall_mem_cons.mpr ⟨lw_p12, List.forall_mem_cons.mpr ⟨lw_p13, List.forall_mem_cons.mpr ⟨lw_p14, List.forall_mem_cons.mpr ⟨lw_p15, fun _ h => absurd h List.not_mem_nil⟩⟩⟩⟩⟩⟩⟩⟩⟩⟩⟩⟩⟩⟩⟩⟩
theorem lw_p16 : lw_okq (⟨"PondStair$Site", "widens", "(II)Z"⟩, 4) := ⟨⟨by decide +kernel, by decide +kernel⟩, List.mem_of_getElem? (i := 201) (by decide +kernel), List.mem_of_getElem? (i := 677) (by decide +kernel), List.mem_of_getElem? (i := 678) (by decide +kernel)⟩
theorem lw_p17 : lw_okq (⟨"PondStair$Site", "leads", "(II)Z"⟩, 4) := ⟨⟨by decide +kernel, by decide +kernel⟩, List.mem_of_getElem? (i := 201) (by decide +kernel), List.mem_of_getElem? (i := 681) (by decide +kernel), List.mem_of_getElem? (i := 682) (by decide +kernel)⟩
theorem lw_p18 : lw_okq (⟨"PondStair$Storm", "hears", "(LPondStair$Hill;I)Z"⟩, 7) := ⟨⟨by decide +kernel, by decide +kernel⟩, List.mem_of_getElem? (i := 228) (by decide +kernel), List.mem_of_getElem? (i := 725) (by decide +kernel), List.mem_of_getElem? (i := 726) (by decide +kernel)⟩
theorem lw_p19 : lw_okq (⟨"PondStair$Storm", "goes", "(LPondStair$Hill;II)Z"⟩, 7) := ⟨⟨by decide +kernel, by decide +kernel⟩, List.mem_of_getElem? (i := 228) (by decide +kernel), List.mem_of_getElem? (i := 736) (by decide +kernel), List.mem_of_getElem? (i := 737) (by decide +kernel)⟩
theorem lw_p20 : lw_okq (⟨"PondStair$Storm", "leaving", "(LPondStair$Hill;IZ)I"⟩, 7) := ⟨⟨by decide +kernel, by decide +kernel⟩, List.mem_of_getElem? (i := 228) (by decide +kernel), List.mem_of_getElem? (i := 740) (by decide +kernel), List.mem_of_getElem? (i := 741) (by decide +kernel)⟩
theorem lw_p21 : lw_okq (⟨"PondStair$Storm", "pass", "(LPondStair$Hill;I)V"⟩, 7) := ⟨⟨by decide +kernel, by decide +kernel⟩, List.mem_of_getElem? (i := 228) (by decide +kernel), List.mem_of_getElem? (i := 745) (by decide +kernel), List.mem_of_getElem? (i := 746) (by decide +kernel)⟩
theorem lw_p22 : lw_okq (⟨"PondStair$Storm", "toldOfPond", "(II)I"⟩, 7) := ⟨⟨by decide +kernel, by decide +kernel⟩, List.mem_of_getElem? (i := 228) (by decide +kernel), List.mem_of_getElem? (i := 759) (by decide +kernel), List.mem_of_getElem? (i := 760) (by decide +kernel)⟩
theorem lw_p23 : lw_okq (⟨"PondStair", "looks", "(II)Z"⟩, 10) := ⟨⟨by decide +kernel, by decide +kernel⟩, List.mem_of_getElem? (i := 22) (by decide +kernel), List.mem_of_getElem? (i := 767) (by decide +kernel), List.mem_of_getElem? (i := 768) (by decide +kernel)⟩
theorem lw_p24 : lw_okq (⟨"PondStair$Odds", "parts", "(II)J"⟩, 6) := ⟨⟨by decide +kernel, by decide +kernel⟩, List.mem_of_getElem? (i := 267) (by decide +kernel), List.mem_of_getElem? (i := 798) (by decide +kernel), List.mem_of_getElem? (i := 799) (by decide +kernel)⟩
theorem lw_p25 : lw_okq (⟨"PondStair$Odds", "wentBy", "(II)I"⟩, 6) := ⟨⟨by decide +kernel, by decide +kernel⟩, List.mem_of_getElem? (i := 267) (by decide +kernel), List.mem_of_getElem? (i := 806) (by decide +kernel), List.mem_of_getElem? (i := 807) (by decide +kernel)⟩
theorem lw_p26 : lw_okq (⟨"PondStair", "canMend", "(IIIII)Z"⟩, 10) := ⟨⟨by decide +kernel, by decide +kernel⟩, List.mem_of_getElem? (i := 22) (by decide +kernel), List.mem_of_getElem? (i := 853) (by decide +kernel), List.mem_of_getElem? (i := 854) (by decide +kernel)⟩
theorem lw_p27 : lw_okq (⟨"PondStair$Choice", "meanMended", "(I)J"⟩, 10) := ⟨⟨by decide +kernel, by decide +kernel⟩, List.mem_of_getElem? (i := 261) (by decide +kernel), List.mem_of_getElem? (i := 864) (by decide +kernel), List.mem_of_getElem? (i := 865) (by decide +kernel)⟩
theorem lw_p28 : lw_okq (⟨"PondStair$Choice", "nextStep", "(LPondStair$Hill;III)I"⟩, 10) := ⟨⟨by decide +kernel, by decide +kernel⟩, List.mem_of_getElem? (i := 261) (by decide +kernel), List.mem_of_getElem? (i := 883) (by decide +kernel), List.mem_of_getElem? (i := 884) (by decide +kernel)⟩
theorem lw_p29 : lw_okq (⟨"PondStair", "hasPond", "(III)Z"⟩, 10) := ⟨⟨by decide +kernel, by decide +kernel⟩, List.mem_of_getElem? (i := 22) (by decide +kernel), List.mem_of_getElem? (i := 920) (by decide +kernel), List.mem_of_getElem? (i := 921) (by decide +kernel)⟩
theorem lw_p30 : lw_okq (⟨"PondStair", "canFill", "(III)Z"⟩, 10) := ⟨⟨by decide +kernel, by decide +kernel⟩, List.mem_of_getElem? (i := 22) (by decide +kernel), List.mem_of_getElem? (i := 951) (by decide +kernel), List.mem_of_getElem? (i := 952) (by decide +kernel)⟩
theorem lw_p31 : lw_okq (⟨"PondStair$Choice", "mayOfTried", "()J"⟩, 10) := ⟨⟨by decide +kernel, by decide +kernel⟩, List.mem_of_getElem? (i := 261) (by decide +kernel), List.mem_of_getElem? (i := 964) (by decide +kernel), List.mem_of_getElem? (i := 965) (by decide +kernel)⟩
def lw_privs_2 : List (MethodName × Nat) := [(⟨"PondStair$Site", "widens", "(II)Z"⟩, 4), (⟨"PondStair$Site", "leads", "(II)Z"⟩, 4), (⟨"PondStair$Storm", "hears", "(LPondStair$Hill;I)Z"⟩, 7), (⟨"PondStair$Storm", "goes", "(LPondStair$Hill;II)Z"⟩, 7), (⟨"PondStair$Storm", "leaving", "(LPondStair$Hill;IZ)I"⟩, 7), (⟨"PondStair$Storm", "pass", "(LPondStair$Hill;I)V"⟩, 7), (⟨"PondStair$Storm", "toldOfPond", "(II)I"⟩, 7), (⟨"PondStair", "looks", "(II)Z"⟩, 10), (⟨"PondStair$Odds", "parts", "(II)J"⟩, 6), (⟨"PondStair$Odds", "wentBy", "(II)I"⟩, 6), (⟨"PondStair", "canMend", "(IIIII)Z"⟩, 10), (⟨"PondStair$Choice", "meanMended", "(I)J"⟩, 10), (⟨"PondStair$Choice", "nextStep", "(LPondStair$Hill;III)I"⟩, 10), (⟨"PondStair", "hasPond", "(III)Z"⟩, 10), (⟨"PondStair", "canFill", "(III)Z"⟩, 10), (⟨"PondStair$Choice", "mayOfTried", "()J"⟩, 10)]
theorem lw_r2 : ∀ q ∈ lw_privs_2, lw_okq q := List.forall_mem_cons.mpr ⟨lw_p16, List.forall_mem_cons.mpr ⟨lw_p17, List.forall_mem_cons.mpr ⟨lw_p18, List.forall_mem_cons.mpr ⟨lw_p19, List.forall_mem_cons.mpr ⟨lw_p20, List.forall_mem_cons.mpr ⟨lw_p21, List.forall_mem_cons.mpr ⟨lw_p22, List.forall_mem_cons.mpr ⟨lw_p23, List.forall_mem_cons.mpr ⟨lw_p24, List.forall_mem_cons.mpr ⟨lw_p25, List.forall_mem_cons.mpr ⟨lw_p26, List.forall_mem_cons.mpr ⟨lw_p27, List.forall_mem_cons.mpr ⟨lw_p28, List.forall_mem_cons.mpr ⟨lw_p29, List.forall_mem_cons.mpr ⟨lw_p30, List.forall_mem_cons.mpr ⟨lw_p31, fun _ h => absurd h List.not_mem_nil⟩⟩⟩⟩⟩⟩⟩⟩⟩⟩⟩⟩⟩⟩⟩⟩
theorem lw_p32 : lw_okq (⟨"PondStair$Choice", "takeOrder", "(I)Z"⟩, 10) := ⟨⟨by decide +kernel, by decide +kernel⟩, List.mem_of_getElem? (i := 261) (by decide +kernel), List.mem_of_getElem? (i := 972) (by decide +kernel), List.mem_of_getElem? (i := 973) (by decide +kernel)⟩
theorem lw_p33 : lw_okq (⟨"PondStair$Years", "drawRain", "(LPondStair$Hill;)I"⟩, 1) := ⟨⟨by decide +kernel, by decide +kernel⟩, List.mem_of_getElem? (i := 1019) (by decide +kernel), List.mem_of_getElem? (i := 1033) (by decide +kernel), List.mem_of_getElem? (i := 1034) (by decide +kernel)⟩
theorem lw_p34 : lw_okq (⟨"PondStair$Years", "draw", "(I)I"⟩, 1) := ⟨⟨by decide +kernel, by decide +kernel⟩, List.mem_of_getElem? (i := 1019) (by decide +kernel), List.mem_of_getElem? (i := 1037) (by decide +kernel), List.mem_of_getElem? (i := 1038) (by decide +kernel)⟩
theorem lw_p35 : lw_okq (⟨"PondStair$Years", "drawBanks", "(LPondStair$Hill;)I"⟩, 1) := ⟨⟨by decide +kernel, by decide +kernel⟩, List.mem_of_getElem? (i := 1019) (by decide +kernel), List.mem_of_getElem? (i := 1044) (by decide +kernel), List.mem_of_getElem? (i := 1045) (by decide +kernel)⟩
theorem lw_p36 : lw_okq (⟨"PondStairModel", "four", "(I)V"⟩, 43) := ⟨⟨by decide +kernel, by decide +kernel⟩, List.mem_of_getElem? (i := 1173) (by decide +kernel), List.mem_of_getElem? (i := 1313) (by decide +kernel), List.mem_of_getElem? (i := 1314) (by decide +kernel)⟩
theorem lw_p37 : lw_okq (⟨"PondStairModel", "readText", "(I)Z"⟩, 43) := ⟨⟨by decide +kernel, by decide +kernel⟩, List.mem_of_getElem? (i := 1173) (by decide +kernel), List.mem_of_getElem? (i := 1328) (by decide +kernel), List.mem_of_getElem? (i := 1329) (by decide +kernel)⟩
theorem lw_p38 : lw_okq (⟨"PondStairModel", "token", "()V"⟩, 43) := ⟨⟨by decide +kernel, by decide +kernel⟩, List.mem_of_getElem? (i := 1173) (by decide +kernel), List.mem_of_getElem? (i := 1332) (by decide +kernel), List.mem_of_getElem? (i := 1333) (by decide +kernel)⟩
theorem lw_p39 : lw_okq (⟨"PondStairModel", "see", "()I"⟩, 43) := ⟨⟨by decide +kernel, by decide +kernel⟩, List.mem_of_getElem? (i := 1173) (by decide +kernel), List.mem_of_getElem? (i := 1336) (by decide +kernel), List.mem_of_getElem? (i := 1337) (by decide +kernel)⟩
theorem lw_p40 : lw_okq (⟨"PondStairModel", "hillLine", "(I)Z"⟩, 43) := ⟨⟨by decide +kernel, by decide +kernel⟩, List.mem_of_getElem? (i := 1173) (by decide +kernel), List.mem_of_getElem? (i := 1340) (by decide +kernel), List.mem_of_getElem? (i := 1341) (by decide +kernel)⟩
theorem lw_p41 : lw_okq (⟨"PondStairModel", "stops", "()Z"⟩, 43) := ⟨⟨by decide +kernel, by decide +kernel⟩, List.mem_of_getElem? (i := 1173) (by decide +kernel), List.mem_of_getElem? (i := 1359) (by decide +kernel), List.mem_of_getElem? (i := 1360) (by decide +kernel)⟩
theorem lw_p42 : lw_okq (⟨"PondStairModel", "pondLine", "(I)Z"⟩, 43) := ⟨⟨by decide +kernel, by decide +kernel⟩, List.mem_of_getElem? (i := 1173) (by decide +kernel), List.mem_of_getElem? (i := 1363) (by decide +kernel), List.mem_of_getElem? (i := 1364) (by decide +kernel)⟩
theorem lw_p43 : lw_okq (⟨"PondStairModel", "later", "(II)V"⟩, 43) := ⟨⟨by decide +kernel, by decide +kernel⟩, List.mem_of_getElem? (i := 1173) (by decide +kernel), List.mem_of_getElem? (i := 1367) (by decide +kernel), List.mem_of_getElem? (i := 1368) (by decide +kernel)⟩
theorem lw_p44 : lw_okq (⟨"PondStairModel", "take", "(III)Z"⟩, 43) := ⟨⟨by decide +kernel, by decide +kernel⟩, List.mem_of_getElem? (i := 1173) (by decide +kernel), List.mem_of_getElem? (i := 1371) (by decide +kernel), List.mem_of_getElem? (i := 1372) (by decide +kernel)⟩
theorem lw_p45 : lw_okq (⟨"PondStairModel", "number", "(II)Z"⟩, 43) := ⟨⟨by decide +kernel, by decide +kernel⟩, List.mem_of_getElem? (i := 1173) (by decide +kernel), List.mem_of_getElem? (i := 1375) (by decide +kernel), List.mem_of_getElem? (i := 1376) (by decide +kernel)⟩
theorem lw_p46 : lw_okq (⟨"PondStairModel", "rainLine", "(I)Z"⟩, 43) := ⟨⟨by decide +kernel, by decide +kernel⟩, List.mem_of_getElem? (i := 1173) (by decide +kernel), List.mem_of_getElem? (i := 1379) (by decide +kernel), List.mem_of_getElem? (i := 1380) (by decide +kernel)⟩
theorem lw_p47 : lw_okq (⟨"PondStairModel", "daysLine", "(I)Z"⟩, 43) := ⟨⟨by decide +kernel, by decide +kernel⟩, List.mem_of_getElem? (i := 1173) (by decide +kernel), List.mem_of_getElem? (i := 1383) (by decide +kernel), List.mem_of_getElem? (i := 1384) (by decide +kernel)⟩
def lw_privs_3 : List (MethodName × Nat) := [(⟨"PondStair$Choice", "takeOrder", "(I)Z"⟩, 10), (⟨"PondStair$Years", "drawRain", "(LPondStair$Hill;)I"⟩, 1), (⟨"PondStair$Years", "draw", "(I)I"⟩, 1), (⟨"PondStair$Years", "drawBanks", "(LPondStair$Hill;)I"⟩, 1), (⟨"PondStairModel", "four", "(I)V"⟩, 43), (⟨"PondStairModel", "readText", "(I)Z"⟩, 43), (⟨"PondStairModel", "token", "()V"⟩, 43), (⟨"PondStairModel", "see", "()I"⟩, 43), (⟨"PondStairModel", "hillLine", "(I)Z"⟩, 43), (⟨"PondStairModel", "stops", "()Z"⟩, 43), (⟨"PondStairModel", "pondLine", "(I)Z"⟩, 43), (⟨"PondStairModel", "later", "(II)V"⟩, 43), (⟨"PondStairModel", "take", "(III)Z"⟩, 43), (⟨"PondStairModel", "number", "(II)Z"⟩, 43), (⟨"PondStairModel", "rainLine", "(I)Z"⟩, 43), (⟨"PondStairModel", "daysLine", "(I)Z"⟩, 43)]
theorem lw_r3 : ∀ q ∈ lw_privs_3, lw_okq q := List.forall_mem_cons.mpr ⟨lw_p32, List.forall_mem_cons.mpr ⟨lw_p33, List.forall_mem_cons.mpr ⟨lw_p34, List.forall_mem_cons.mpr ⟨lw_p35, List.forall_mem_cons.mpr ⟨lw_p36, List.forall_mem_cons.mpr ⟨lw_p37, List.forall_mem_cons.mpr ⟨lw_p38, List.forall_mem_cons.mpr ⟨lw_p39, List.forall_mem_cons.mpr ⟨lw_p40, List.forall_mem_cons.mpr ⟨lw_p41, List.forall_mem_cons.mpr ⟨lw_p42, List.forall_mem_cons.mpr ⟨lw_p43, List.forall_mem_cons.mpr ⟨lw_p44, List.forall_mem_cons.mpr ⟨lw_p45, List.forall_mem_cons.mpr ⟨lw_p46, List.forall_mem_cons.mpr ⟨lw_p47, fun _ h => absurd h List.not_mem_nil⟩⟩⟩⟩⟩⟩⟩⟩⟩⟩⟩⟩⟩⟩⟩⟩
theorem lw_p48 : lw_okq (⟨"PondStairModel", "ofPond", "(IIIII)Z"⟩, 43) := ⟨⟨by decide +kernel, by decide +kernel⟩, List.mem_of_getElem? (i := 1173) (by decide +kernel), List.mem_of_getElem? (i := 1387) (by decide +kernel), List.mem_of_getElem? (i := 1388) (by decide +kernel)⟩
theorem lw_p49 : lw_okq (⟨"PondStairModel", "workLine", "(I)Z"⟩, 43) := ⟨⟨by decide +kernel, by decide +kernel⟩, List.mem_of_getElem? (i := 1173) (by decide +kernel), List.mem_of_getElem? (i := 1391) (by decide +kernel), List.mem_of_getElem? (i := 1392) (by decide +kernel)⟩
theorem lw_p50 : lw_okq (⟨"PondStairModel", "endsHill", "()V"⟩, 43) := ⟨⟨by decide +kernel, by decide +kernel⟩, List.mem_of_getElem? (i := 1173) (by decide +kernel), List.mem_of_getElem? (i := 1398) (by decide +kernel), List.mem_of_getElem? (i := 1399) (by decide +kernel)⟩
theorem lw_p51 : lw_okq (⟨"PondStairModel", "isHill", "(I)Z"⟩, 43) := ⟨⟨by decide +kernel, by decide +kernel⟩, List.mem_of_getElem? (i := 1173) (by decide +kernel), List.mem_of_getElem? (i := 1410) (by decide +kernel), List.mem_of_getElem? (i := 1411) (by decide +kernel)⟩
theorem lw_p52 : lw_okq (⟨"PondStairModel", "lay", "(II)Z"⟩, 43) := ⟨⟨by decide +kernel, by decide +kernel⟩, List.mem_of_getElem? (i := 1173) (by decide +kernel), List.mem_of_getElem? (i := 1418) (by decide +kernel), List.mem_of_getElem? (i := 1419) (by decide +kernel)⟩
theorem lw_p53 : lw_okq (⟨"PondStairModel", "isPlan", "(I)Z"⟩, 43) := ⟨⟨by decide +kernel, by decide +kernel⟩, List.mem_of_getElem? (i := 1173) (by decide +kernel), List.mem_of_getElem? (i := 1422) (by decide +kernel), List.mem_of_getElem? (i := 1423) (by decide +kernel)⟩
theorem lw_p54 : lw_okq (⟨"PondStairModel", "does", "(III)Z"⟩, 43) := ⟨⟨by decide +kernel, by decide +kernel⟩, List.mem_of_getElem? (i := 1173) (by decide +kernel), List.mem_of_getElem? (i := 1426) (by decide +kernel), List.mem_of_getElem? (i := 1427) (by decide +kernel)⟩
theorem lw_p55 : lw_okq (⟨"PondStairModel", "of", "(II)I"⟩, 43) := ⟨⟨by decide +kernel, by decide +kernel⟩, List.mem_of_getElem? (i := 1173) (by decide +kernel), List.mem_of_getElem? (i := 1430) (by decide +kernel), List.mem_of_getElem? (i := 1431) (by decide +kernel)⟩
theorem lw_p56 : lw_okq (⟨"PondStairModel", "set", "(III)V"⟩, 43) := ⟨⟨by decide +kernel, by decide +kernel⟩, List.mem_of_getElem? (i := 1173) (by decide +kernel), List.mem_of_getElem? (i := 1434) (by decide +kernel), List.mem_of_getElem? (i := 1435) (by decide +kernel)⟩
theorem lw_p57 : lw_okq (⟨"PondStairModel", "isPond", "(I)Z"⟩, 43) := ⟨⟨by decide +kernel, by decide +kernel⟩, List.mem_of_getElem? (i := 1173) (by decide +kernel), List.mem_of_getElem? (i := 1438) (by decide +kernel), List.mem_of_getElem? (i := 1439) (by decide +kernel)⟩
theorem lw_p58 : lw_okq (⟨"PondStairModel", "isRain", "(I)Z"⟩, 43) := ⟨⟨by decide +kernel, by decide +kernel⟩, List.mem_of_getElem? (i := 1173) (by decide +kernel), List.mem_of_getElem? (i := 1454) (by decide +kernel), List.mem_of_getElem? (i := 1455) (by decide +kernel)⟩
theorem lw_p59 : lw_okq (⟨"PondStairModel", "arePonds", "(I)Z"⟩, 43) := ⟨⟨by decide +kernel, by decide +kernel⟩, List.mem_of_getElem? (i := 1173) (by decide +kernel), List.mem_of_getElem? (i := 1458) (by decide +kernel), List.mem_of_getElem? (i := 1459) (by decide +kernel)⟩
theorem lw_p60 : lw_okq (⟨"PondStairModel", "stepsOf", "(I)I"⟩, 43) := ⟨⟨by decide +kernel, by decide +kernel⟩, List.mem_of_getElem? (i := 1173) (by decide +kernel), List.mem_of_getElem? (i := 1462) (by decide +kernel), List.mem_of_getElem? (i := 1463) (by decide +kernel)⟩
theorem lw_p61 : lw_okq (⟨"PondStairModel", "blow", "(II)V"⟩, 43) := ⟨⟨by decide +kernel, by decide +kernel⟩, List.mem_of_getElem? (i := 1173) (by decide +kernel), List.mem_of_getElem? (i := 1466) (by decide +kernel), List.mem_of_getElem? (i := 1467) (by decide +kernel)⟩
theorem lw_p62 : lw_okq (⟨"PondStairModel", "pass", "(IIZ)V"⟩, 43) := ⟨⟨by decide +kernel, by decide +kernel⟩, List.mem_of_getElem? (i := 1173) (by decide +kernel), List.mem_of_getElem? (i := 1473) (by decide +kernel), List.mem_of_getElem? (i := 1474) (by decide +kernel)⟩
theorem lw_p63 : lw_okq (⟨"PondStairModel", "hears", "(I)Z"⟩, 43) := ⟨⟨by decide +kernel, by decide +kernel⟩, List.mem_of_getElem? (i := 1173) (by decide +kernel), List.mem_of_getElem? (i := 1477) (by decide +kernel), List.mem_of_getElem? (i := 1478) (by decide +kernel)⟩
def lw_privs_4 : List (MethodName × Nat) := [(⟨"PondStairModel", "ofPond", "(IIIII)Z"⟩, 43), (⟨"PondStairModel", "workLine", "(I)Z"⟩, 43), (⟨"PondStairModel", "endsHill", "()V"⟩, 43), (⟨"PondStairModel", "isHill", "(I)Z"⟩, 43), (⟨"PondStairModel", "lay", "(II)Z"⟩, 43), (⟨"PondStairModel", "isPlan", "(I)Z"⟩, 43), (⟨"PondStairModel", "does", "(III)Z"⟩, 43), (⟨"PondStairModel", "of", "(II)I"⟩, 43), (⟨"PondStairModel", "set", "(III)V"⟩, 43), (⟨"PondStairModel", "isPond", "(I)Z"⟩, 43), (⟨"PondStairModel", "isRain", "(I)Z"⟩, 43), (⟨"PondStairModel", "arePonds", "(I)Z"⟩, 43), (⟨"PondStairModel", "stepsOf", "(I)I"⟩, 43), (⟨"PondStairModel", "blow", "(II)V"⟩, 43), (⟨"PondStairModel", "pass", "(IIZ)V"⟩, 43), (⟨"PondStairModel", "hears", "(I)Z"⟩, 43)]
theorem lw_r4 : ∀ q ∈ lw_privs_4, lw_okq q := List.forall_mem_cons.mpr ⟨lw_p48, List.forall_mem_cons.mpr ⟨lw_p49, List.forall_mem_cons.mpr ⟨lw_p50, List.forall_mem_cons.mpr ⟨lw_p51, List.forall_mem_cons.mpr ⟨lw_p52, List.forall_mem_cons.mpr ⟨lw_p53, List.forall_mem_cons.mpr ⟨lw_p54, List.forall_mem_cons.mpr ⟨lw_p55, List.forall_mem_cons.mpr ⟨lw_p56, List.forall_mem_cons.mpr ⟨lw_p57, List.forall_mem_cons.mpr ⟨lw_p58, List.forall_mem_cons.mpr ⟨lw_p59, List.forall_mem_cons.mpr ⟨lw_p60, List.forall_mem_cons.mpr ⟨lw_p61, List.forall_mem_cons.mpr ⟨lw_p62, List.forall_mem_cons.mpr ⟨lw_p63, fun _ h => absurd h List.not_mem_nil⟩⟩⟩⟩⟩⟩⟩⟩⟩⟩⟩⟩⟩⟩⟩⟩
theorem lw_p64 : lw_okq (⟨"PondStairModel", "told", "(I)I"⟩, 43) := ⟨⟨by decide +kernel, by decide +kernel⟩, List.mem_of_getElem? (i := 1173) (by decide +kernel), List.mem_of_getElem? (i := 1481) (by decide +kernel), List.mem_of_getElem? (i := 1482) (by decide +kernel)⟩
theorem lw_p65 : lw_okq (⟨"PondStairModel", "harmOf", "(I)I"⟩, 43) := ⟨⟨by decide +kernel, by decide +kernel⟩, List.mem_of_getElem? (i := 1173) (by decide +kernel), List.mem_of_getElem? (i := 1485) (by decide +kernel), List.mem_of_getElem? (i := 1486) (by decide +kernel)⟩
theorem lw_p66 : lw_okq (⟨"PondStairModel", "partsOf", "(II)J"⟩, 43) := ⟨⟨by decide +kernel, by decide +kernel⟩, List.mem_of_getElem? (i := 1173) (by decide +kernel), List.mem_of_getElem? (i := 1494) (by decide +kernel), List.mem_of_getElem? (i := 1495) (by decide +kernel)⟩
theorem lw_p67 : lw_okq (⟨"PondStairModel", "allParts", "()J"⟩, 43) := ⟨⟨by decide +kernel, by decide +kernel⟩, List.mem_of_getElem? (i := 1173) (by decide +kernel), List.mem_of_getElem? (i := 1498) (by decide +kernel), List.mem_of_getElem? (i := 1499) (by decide +kernel)⟩
theorem lw_p68 : lw_okq (⟨"PondStairModel", "meanBy", "(I)J"⟩, 43) := ⟨⟨by decide +kernel, by decide +kernel⟩, List.mem_of_getElem? (i := 1173) (by decide +kernel), List.mem_of_getElem? (i := 1511) (by decide +kernel), List.mem_of_getElem? (i := 1512) (by decide +kernel)⟩
theorem lw_p69 : lw_okq (⟨"PondStairModel", "canMend", "(IIII)Z"⟩, 43) := ⟨⟨by decide +kernel, by decide +kernel⟩, List.mem_of_getElem? (i := 1173) (by decide +kernel), List.mem_of_getElem? (i := 1530) (by decide +kernel), List.mem_of_getElem? (i := 1531) (by decide +kernel)⟩
theorem lw_p70 : lw_okq (⟨"PondStairModel", "keepChances", "()V"⟩, 43) := ⟨⟨by decide +kernel, by decide +kernel⟩, List.mem_of_getElem? (i := 1173) (by decide +kernel), List.mem_of_getElem? (i := 1534) (by decide +kernel), List.mem_of_getElem? (i := 1535) (by decide +kernel)⟩
theorem lw_p71 : lw_okq (⟨"PondStairModel", "costOf", "(I)I"⟩, 43) := ⟨⟨by decide +kernel, by decide +kernel⟩, List.mem_of_getElem? (i := 1173) (by decide +kernel), List.mem_of_getElem? (i := 1538) (by decide +kernel), List.mem_of_getElem? (i := 1539) (by decide +kernel)⟩
theorem lw_p72 : lw_okq (⟨"PondStairModel", "meanMended", "(II)J"⟩, 43) := ⟨⟨by decide +kernel, by decide +kernel⟩, List.mem_of_getElem? (i := 1173) (by decide +kernel), List.mem_of_getElem? (i := 1542) (by decide +kernel), List.mem_of_getElem? (i := 1543) (by decide +kernel)⟩
theorem lw_p73 : lw_okq (⟨"PondStairModel", "mendAll", "(I)V"⟩, 43) := ⟨⟨by decide +kernel, by decide +kernel⟩, List.mem_of_getElem? (i := 1173) (by decide +kernel), List.mem_of_getElem? (i := 1546) (by decide +kernel), List.mem_of_getElem? (i := 1547) (by decide +kernel)⟩
theorem lw_p74 : lw_okq (⟨"PondStairModel", "nextOf", "(III)I"⟩, 43) := ⟨⟨by decide +kernel, by decide +kernel⟩, List.mem_of_getElem? (i := 1173) (by decide +kernel), List.mem_of_getElem? (i := 1554) (by decide +kernel), List.mem_of_getElem? (i := 1555) (by decide +kernel)⟩
theorem lw_p75 : lw_okq (⟨"PondStairModel", "pondsOf", "(I)I"⟩, 43) := ⟨⟨by decide +kernel, by decide +kernel⟩, List.mem_of_getElem? (i := 1173) (by decide +kernel), List.mem_of_getElem? (i := 1577) (by decide +kernel), List.mem_of_getElem? (i := 1578) (by decide +kernel)⟩
theorem lw_p76 : lw_okq (⟨"PondStairModel", "isFilled", "(III)Z"⟩, 43) := ⟨⟨by decide +kernel, by decide +kernel⟩, List.mem_of_getElem? (i := 1173) (by decide +kernel), List.mem_of_getElem? (i := 1594) (by decide +kernel), List.mem_of_getElem? (i := 1595) (by decide +kernel)⟩
theorem lw_p77 : lw_okq (⟨"PondStairModel", "findOrder", "(I)V"⟩, 43) := ⟨⟨by decide +kernel, by decide +kernel⟩, List.mem_of_getElem? (i := 1173) (by decide +kernel), List.mem_of_getElem? (i := 1598) (by decide +kernel), List.mem_of_getElem? (i := 1599) (by decide +kernel)⟩
theorem lw_p78 : lw_okq (⟨"PondStairModel", "fillAll", "(I)J"⟩, 43) := ⟨⟨by decide +kernel, by decide +kernel⟩, List.mem_of_getElem? (i := 1173) (by decide +kernel), List.mem_of_getElem? (i := 1602) (by decide +kernel), List.mem_of_getElem? (i := 1603) (by decide +kernel)⟩
theorem lw_p79 : lw_okq (⟨"PondStairModel", "seenBy", "(I)I"⟩, 43) := ⟨⟨by decide +kernel, by decide +kernel⟩, List.mem_of_getElem? (i := 1173) (by decide +kernel), List.mem_of_getElem? (i := 1614) (by decide +kernel), List.mem_of_getElem? (i := 1615) (by decide +kernel)⟩
def lw_privs_5 : List (MethodName × Nat) := [(⟨"PondStairModel", "told", "(I)I"⟩, 43), (⟨"PondStairModel", "harmOf", "(I)I"⟩, 43), (⟨"PondStairModel", "partsOf", "(II)J"⟩, 43), (⟨"PondStairModel", "allParts", "()J"⟩, 43), (⟨"PondStairModel", "meanBy", "(I)J"⟩, 43), (⟨"PondStairModel", "canMend", "(IIII)Z"⟩, 43), (⟨"PondStairModel", "keepChances", "()V"⟩, 43), (⟨"PondStairModel", "costOf", "(I)I"⟩, 43), (⟨"PondStairModel", "meanMended", "(II)J"⟩, 43), (⟨"PondStairModel", "mendAll", "(I)V"⟩, 43), (⟨"PondStairModel", "nextOf", "(III)I"⟩, 43), (⟨"PondStairModel", "pondsOf", "(I)I"⟩, 43), (⟨"PondStairModel", "isFilled", "(III)Z"⟩, 43), (⟨"PondStairModel", "findOrder", "(I)V"⟩, 43), (⟨"PondStairModel", "fillAll", "(I)J"⟩, 43), (⟨"PondStairModel", "seenBy", "(I)I"⟩, 43)]
theorem lw_r5 : ∀ q ∈ lw_privs_5, lw_okq q := List.forall_mem_cons.mpr ⟨lw_p64, List.forall_mem_cons.mpr ⟨lw_p65, List.forall_mem_cons.mpr ⟨lw_p66, List.forall_mem_cons.mpr ⟨lw_p67, List.forall_mem_cons.mpr ⟨lw_p68, List.forall_mem_cons.mpr ⟨lw_p69, List.forall_mem_cons.mpr ⟨lw_p70, List.forall_mem_cons.mpr ⟨lw_p71, List.forall_mem_cons.mpr ⟨lw_p72, List.forall_mem_cons.mpr ⟨lw_p73, List.forall_mem_cons.mpr ⟨lw_p74, List.forall_mem_cons.mpr ⟨lw_p75, List.forall_mem_cons.mpr ⟨lw_p76, List.forall_mem_cons.mpr ⟨lw_p77, List.forall_mem_cons.mpr ⟨lw_p78, List.forall_mem_cons.mpr ⟨lw_p79, fun _ h => absurd h List.not_mem_nil⟩⟩⟩⟩⟩⟩⟩⟩⟩⟩⟩⟩⟩⟩⟩⟩
theorem lw_p80 : lw_okq (⟨"PondStairModel", "seenAll", "(I)I"⟩, 43) := ⟨⟨by decide +kernel, by decide +kernel⟩, List.mem_of_getElem? (i := 1173) (by decide +kernel), List.mem_of_getElem? (i := 1618) (by decide +kernel), List.mem_of_getElem? (i := 1619) (by decide +kernel)⟩
theorem lw_p81 : lw_okq (⟨"PondStairModel", "year", "()V"⟩, 43) := ⟨⟨by decide +kernel, by decide +kernel⟩, List.mem_of_getElem? (i := 1173) (by decide +kernel), List.mem_of_getElem? (i := 1633) (by decide +kernel), List.mem_of_getElem? (i := 1634) (by decide +kernel)⟩
theorem lw_p82 : lw_okq (⟨"PondStairModel", "draw", "(I)I"⟩, 43) := ⟨⟨by decide +kernel, by decide +kernel⟩, List.mem_of_getElem? (i := 1173) (by decide +kernel), List.mem_of_getElem? (i := 1637) (by decide +kernel), List.mem_of_getElem? (i := 1638) (by decide +kernel)⟩
theorem lw_p83 : lw_okq (⟨"PondStairModel", "leads", "(II)Z"⟩, 43) := ⟨⟨by decide +kernel, by decide +kernel⟩, List.mem_of_getElem? (i := 1173) (by decide +kernel), List.mem_of_getElem? (i := 1662) (by decide +kernel), List.mem_of_getElem? (i := 1663) (by decide +kernel)⟩
theorem lw_p84 : lw_okq (⟨"PondStairModel", "together", "(I)J"⟩, 43) := ⟨⟨by decide +kernel, by decide +kernel⟩, List.mem_of_getElem? (i := 1173) (by decide +kernel), List.mem_of_getElem? (i := 1674) (by decide +kernel), List.mem_of_getElem? (i := 1675) (by decide +kernel)⟩
theorem lw_p85 : lw_okq (⟨"PondStairModel", "copy", "(II)V"⟩, 43) := ⟨⟨by decide +kernel, by decide +kernel⟩, List.mem_of_getElem? (i := 1173) (by decide +kernel), List.mem_of_getElem? (i := 1717) (by decide +kernel), List.mem_of_getElem? (i := 1718) (by decide +kernel)⟩
def lw_privs_6 : List (MethodName × Nat) := [(⟨"PondStairModel", "seenAll", "(I)I"⟩, 43), (⟨"PondStairModel", "year", "()V"⟩, 43), (⟨"PondStairModel", "draw", "(I)I"⟩, 43), (⟨"PondStairModel", "leads", "(II)Z"⟩, 43), (⟨"PondStairModel", "together", "(I)J"⟩, 43), (⟨"PondStairModel", "copy", "(II)V"⟩, 43)]
theorem lw_r6 : ∀ q ∈ lw_privs_6, lw_okq q := List.forall_mem_cons.mpr ⟨lw_p80, List.forall_mem_cons.mpr ⟨lw_p81, List.forall_mem_cons.mpr ⟨lw_p82, List.forall_mem_cons.mpr ⟨lw_p83, List.forall_mem_cons.mpr ⟨lw_p84, List.forall_mem_cons.mpr ⟨lw_p85, fun _ h => absurd h List.not_mem_nil⟩⟩⟩⟩⟩⟩
def lw_privs : List (MethodName × Nat) := lw_privs_1 ++ (lw_privs_2 ++ (lw_privs_3 ++ (lw_privs_4 ++ (lw_privs_5 ++ (lw_privs_6)))))
def lw_tbl : List Cond := k2_sels lw_privs ++ tables_1
theorem lw_privs_ok : ∀ q ∈ lw_privs, lw_okq q := by
  show ∀ q ∈ lw_privs_1 ++ (lw_privs_2 ++ (lw_privs_3 ++ (lw_privs_4 ++ (lw_privs_5 ++ (lw_privs_6))))), lw_okq q
  exact List.forall_mem_append.mpr ⟨lw_r1, List.forall_mem_append.mpr ⟨lw_r2, List.forall_mem_append.mpr ⟨lw_r3, List.forall_mem_append.mpr ⟨lw_r4, List.forall_mem_append.mpr ⟨lw_r5, lw_r6⟩⟩⟩⟩⟩
end
section
/-! names, fields, codes: cut out of the printed names by wip/gen/names.py; words by their places -/
def gt : List Cond := lw_tbl.filter goodWord
theorem gt_in {w : Cond} (i : Nat) (h : lw_tbl[i]? = some w) (hg : goodWord w = true) : w ∈ gt := List.mem_filter.mpr ⟨List.mem_of_getElem? h, hg⟩
theorem gt_gt : GoodIn gt gt := fun w hw => ⟨hw, good_of_word (List.mem_filter.mp hw).2⟩
/-- the words that a method carries in its start: nest links, arrays of objects -/
def nw (w : Cond) : Bool := match w with
  | .fieldLinkNest _ _ _ _ _ _ => true
  | .methodLinkNest _ _ _ _ => true
  | .arrayOver (.object _) => true
  | _ => false
def nt : List Cond := lw_tbl.filter nw
theorem nt_in {w : Cond} (i : Nat) (h : lw_tbl[i]? = some w) (hg : nw w = true) : w ∈ nt := List.mem_filter.mpr ⟨List.mem_of_getElem? h, hg⟩
theorem gt_of (ws : List Cond) (ps : List Nat) (hp : ws = ps.filterMap (fun i => lw_tbl[i]?)) (h : ws.all goodWord = true) : ∀ w ∈ ws, w ∈ gt := by
  intro w hw
  have h1 := List.all_eq_true.mp h w hw
  rw [hp] at hw
  obtain ⟨i, -, hi⟩ := List.mem_filterMap.mp hw
  exact gt_in i hi h1
def RX0 : String := "PondStair$Choice"
def TX0 : u_T := fun k => match k with
  | 0 => ("PondStair$Choice", "odds", "LPondStair$Odds;", true)
  | 1 => ("PondStair$Choice", "trial", "LPondStair$Hill;", true)
  | 2 => ("PondStair$Choice", "first", "I", false)
  | 3 => ("PondStair$Choice", "second", "I", false)
  | 4 => ("PondStair$Choice", "least", "J", false)
  | 5 => ("PondStair$Choice", "filling", "I", false)
  | 6 => ("PondStair$Choice", "toFill", "[I", true)
  | 7 => ("PondStair$Choice", "order", "[I", true)
  | 8 => ("PondStair$Choice", "tried", "[I", true)
  | _ => ("PondStair$Choice", "filledMean", "[J", true)
def tyX0 : Nat → FieldType := fun k => match k with
  | 0 => .object "PondStair$Odds"
  | 1 => .object "PondStair$Hill"
  | 2 => .int
  | 3 => .int
  | 4 => .long
  | 5 => .int
  | 6 => .array .int
  | 7 => .array .int
  | 8 => .array .int
  | _ => .array .long
theorem nmX0 : ∀ a, a < 10 → ∀ b, b < 10 → a ≠ b → (TX0 a).2.1 ≠ (TX0 b).2.1 := by decide +kernel
theorem tyX0_ok : ∀ k, k < 10 → parseFieldDescriptor (TX0 k).2.2.1 = some (tyX0 k) := by decide +kernel
abbrev cX0_init : ByteArray := prog_2_method_1_code
def yX0_init : MethodName := ⟨RX0, "<init>", "()V"⟩
abbrev cX0_meanMended : ByteArray := prog_2_method_2_code
def yX0_meanMended : MethodName := ⟨RX0, "meanMended", "(I)J"⟩
abbrev cX0_bestSet : ByteArray := prog_2_method_3_code
def yX0_bestSet : MethodName := ⟨RX0, "bestSet", "(LPondStair$Hill;II)I"⟩
abbrev cX0_fewestDays : ByteArray := prog_2_method_4_code
def yX0_fewestDays : MethodName := ⟨RX0, "fewestDays", "(LPondStair$Hill;II)I"⟩
abbrev cX0_stepByStep : ByteArray := prog_2_method_5_code
def yX0_stepByStep : MethodName := ⟨RX0, "stepByStep", "(LPondStair$Hill;II)I"⟩
abbrev cX0_nextStep : ByteArray := prog_2_method_6_code
def yX0_nextStep : MethodName := ⟨RX0, "nextStep", "(LPondStair$Hill;III)I"⟩
abbrev cX0_isBetterBuy : ByteArray := prog_2_method_7_code
def yX0_isBetterBuy : MethodName := ⟨RX0, "isBetterBuy", "(JJJJ)Z"⟩
abbrev cX0_holdAll : ByteArray := prog_2_method_8_code
def yX0_holdAll : MethodName := ⟨RX0, "holdAll", "(LPondStair$Hill;)V"⟩
abbrev cX0_lowerBy : ByteArray := prog_2_method_9_code
def yX0_lowerBy : MethodName := ⟨RX0, "lowerBy", "(LPondStair$Hill;I)I"⟩
abbrev cX0_mostUrgent : ByteArray := prog_2_method_10_code
def yX0_mostUrgent : MethodName := ⟨RX0, "mostUrgent", "(LPondStair$Hill;)I"⟩
abbrev cX0_heaviest : ByteArray := prog_2_method_11_code
def yX0_heaviest : MethodName := ⟨RX0, "heaviest", "(LPondStair$Hill;)I"⟩
abbrev cX0_turnAround : ByteArray := prog_2_method_12_code
def yX0_turnAround : MethodName := ⟨RX0, "turnAround", "(LPondStair$Hill;)V"⟩
abbrev cX0_findOrder : ByteArray := prog_2_method_13_code
def yX0_findOrder : MethodName := ⟨RX0, "findOrder", "()V"⟩
abbrev cX0_lookAtFilled : ByteArray := prog_2_method_14_code
def yX0_lookAtFilled : MethodName := ⟨RX0, "lookAtFilled", "(LPondStair$Hill;I)V"⟩
abbrev cX0_takeOrder : ByteArray := prog_2_method_15_code
def yX0_takeOrder : MethodName := ⟨RX0, "takeOrder", "(I)Z"⟩
abbrev cX0_mayOfTried : ByteArray := prog_2_method_16_code
def yX0_mayOfTried : MethodName := ⟨RX0, "mayOfTried", "()J"⟩
abbrev cX0_downwards : ByteArray := prog_2_method_17_code
def yX0_downwards : MethodName := ⟨RX0, "downwards", "()J"⟩
abbrev cX0_filledAt : ByteArray := prog_2_method_18_code
def yX0_filledAt : MethodName := ⟨RX0, "filledAt", "(I)I"⟩
def RX1 : String := "PondStair$Hill"
def TX1 : u_T := fun k => match k with
  | 0 => ("PondStair$Hill", "ponds", "I", false)
  | 1 => ("PondStair$Hill", "row", "[I", true)
  | 2 => ("PondStair$Hill", "rains", "I", false)
  | 3 => ("PondStair$Hill", "rainSteps", "[I", true)
  | 4 => ("PondStair$Hill", "rainChance", "[I", true)
  | _ => ("PondStair$Hill", "days", "[I", true)
def tyX1 : Nat → FieldType := fun k => match k with
  | 0 => .int
  | 1 => .array .int
  | 2 => .int
  | 3 => .array .int
  | 4 => .array .int
  | _ => .array .int
theorem nmX1 : ∀ a, a < 6 → ∀ b, b < 6 → a ≠ b → (TX1 a).2.1 ≠ (TX1 b).2.1 := by decide +kernel
theorem tyX1_ok : ∀ k, k < 6 → parseFieldDescriptor (TX1 k).2.2.1 = some (tyX1 k) := by decide +kernel
abbrev cX1_init : ByteArray := prog_3_method_1_code
def yX1_init : MethodName := ⟨RX1, "<init>", "()V"⟩
abbrev cX1_clear : ByteArray := prog_3_method_2_code
def yX1_clear : MethodName := ⟨RX1, "clear", "()V"⟩
abbrev cX1_copy : ByteArray := prog_3_method_3_code
def yX1_copy : MethodName := ⟨RX1, "copy", "(LPondStair$Hill;)V"⟩
abbrev cX1_addPond : ByteArray := prog_3_method_4_code
def yX1_addPond : MethodName := ⟨RX1, "addPond", "(III)Z"⟩
abbrev cX1_addRain : ByteArray := prog_3_method_5_code
def yX1_addRain : MethodName := ⟨RX1, "addRain", "(II)Z"⟩
abbrev cX1_has : ByteArray := prog_3_method_6_code
def yX1_has : MethodName := ⟨RX1, "has", "(I)Z"⟩
abbrev cX1_hasSet : ByteArray := prog_3_method_7_code
def yX1_hasSet : MethodName := ⟨RX1, "hasSet", "(I)Z"⟩
abbrev cX1_hasRain : ByteArray := prog_3_method_8_code
def yX1_hasRain : MethodName := ⟨RX1, "hasRain", "(I)Z"⟩
abbrev cX1_hasStorm : ByteArray := prog_3_method_9_code
def yX1_hasStorm : MethodName := ⟨RX1, "hasStorm", "(II)Z"⟩
abbrev cX1_all : ByteArray := prog_3_method_10_code
def yX1_all : MethodName := ⟨RX1, "all", "()I"⟩
abbrev cX1_of : ByteArray := prog_3_method_11_code
def yX1_of : MethodName := ⟨RX1, "of", "(II)I"⟩
abbrev cX1_put : ByteArray := prog_3_method_12_code
def yX1_put : MethodName := ⟨RX1, "put", "(III)V"⟩
abbrev cX1_isOut : ByteArray := prog_3_method_13_code
def yX1_isOut : MethodName := ⟨RX1, "isOut", "(I)Z"⟩
abbrev cX1_takeOut : ByteArray := prog_3_method_14_code
def yX1_takeOut : MethodName := ⟨RX1, "takeOut", "(I)V"⟩
abbrev cX1_stepsOf : ByteArray := prog_3_method_15_code
def yX1_stepsOf : MethodName := ⟨RX1, "stepsOf", "(I)I"⟩
abbrev cX1_chanceOf : ByteArray := prog_3_method_16_code
def yX1_chanceOf : MethodName := ⟨RX1, "chanceOf", "(I)I"⟩
abbrev cX1_chancesTogether : ByteArray := prog_3_method_17_code
def yX1_chancesTogether : MethodName := ⟨RX1, "chancesTogether", "()I"⟩
abbrev cX1_told : ByteArray := prog_3_method_18_code
def yX1_told : MethodName := ⟨RX1, "told", "(I)I"⟩
abbrev cX1_ownedBy : ByteArray := prog_3_method_19_code
def yX1_ownedBy : MethodName := ⟨RX1, "ownedBy", "(I)I"⟩
abbrev cX1_weak : ByteArray := prog_3_method_20_code
def yX1_weak : MethodName := ⟨RX1, "weak", "()I"⟩
abbrev cX1_daysToMend : ByteArray := prog_3_method_21_code
def yX1_daysToMend : MethodName := ⟨RX1, "daysToMend", "(I)I"⟩
abbrev cX1_harmOf : ByteArray := prog_3_method_22_code
def yX1_harmOf : MethodName := ⟨RX1, "harmOf", "(I)I"⟩
abbrev cX1_nextOf : ByteArray := prog_3_method_23_code
def yX1_nextOf : MethodName := ⟨RX1, "nextOf", "(I)I"⟩
abbrev cX1_reachedFrom : ByteArray := prog_3_method_24_code
def yX1_reachedFrom : MethodName := ⟨RX1, "reachedFrom", "(I)I"⟩
abbrev cX1_reaching : ByteArray := prog_3_method_25_code
def yX1_reaching : MethodName := ⟨RX1, "reaching", "(I)I"⟩
abbrev cX1_seenAndGoes : ByteArray := prog_3_method_26_code
def yX1_seenAndGoes : MethodName := ⟨RX1, "seenAndGoes", "(I)I"⟩
abbrev cX1_seen : ByteArray := prog_3_method_27_code
def yX1_seen : MethodName := ⟨RX1, "seen", "(I)I"⟩
def RX2 : String := "PondStair$Odds"
def TX2 : u_T := fun k => match k with
  | 0 => ("PondStair$Odds", "flow", "LPondStair$Storm;", true)
  | 1 => ("PondStair$Odds", "hill", "LPondStair$Hill;", true)
  | 2 => ("PondStair$Odds", "went", "[I", true)
  | 3 => ("PondStair$Odds", "harm", "[I", true)
  | 4 => ("PondStair$Odds", "weight", "[J", true)
  | _ => ("PondStair$Odds", "together", "[J", true)
def tyX2 : Nat → FieldType := fun k => match k with
  | 0 => .object "PondStair$Storm"
  | 1 => .object "PondStair$Hill"
  | 2 => .array .int
  | 3 => .array .int
  | 4 => .array .long
  | _ => .array .long
theorem nmX2 : ∀ a, a < 6 → ∀ b, b < 6 → a ≠ b → (TX2 a).2.1 ≠ (TX2 b).2.1 := by decide +kernel
theorem tyX2_ok : ∀ k, k < 6 → parseFieldDescriptor (TX2 k).2.2.1 = some (tyX2 k) := by decide +kernel
abbrev cX2_init : ByteArray := prog_4_method_1_code
def yX2_init : MethodName := ⟨RX2, "<init>", "()V"⟩
abbrev cX2_look : ByteArray := prog_4_method_2_code
def yX2_look : MethodName := ⟨RX2, "look", "(LPondStair$Hill;II)V"⟩
abbrev cX2_weigh : ByteArray := prog_4_method_3_code
def yX2_weigh : MethodName := ⟨RX2, "weigh", "(II)V"⟩
abbrev cX2_parts : ByteArray := prog_4_method_4_code
def yX2_parts : MethodName := ⟨RX2, "parts", "(II)J"⟩
abbrev cX2_wentBy : ByteArray := prog_4_method_5_code
def yX2_wentBy : MethodName := ⟨RX2, "wentBy", "(II)I"⟩
abbrev cX2_isStorm : ByteArray := prog_4_method_6_code
def yX2_isStorm : MethodName := ⟨RX2, "isStorm", "(II)Z"⟩
abbrev cX2_wholeMean : ByteArray := prog_4_method_7_code
def yX2_wholeMean : MethodName := ⟨RX2, "wholeMean", "(LPondStair$Hill;I)J"⟩
abbrev cX2_meanOf : ByteArray := prog_4_method_8_code
def yX2_meanOf : MethodName := ⟨RX2, "meanOf", "(I)J"⟩
abbrev cX2_partsOf : ByteArray := prog_4_method_9_code
def yX2_partsOf : MethodName := ⟨RX2, "partsOf", "(I)J"⟩
abbrev cX2_likeliest : ByteArray := prog_4_method_10_code
def yX2_likeliest : MethodName := ⟨RX2, "likeliest", "()I"⟩
abbrev cX2_mostThatWent : ByteArray := prog_4_method_11_code
def yX2_mostThatWent : MethodName := ⟨RX2, "mostThatWent", "()I"⟩
abbrev cX2_worstTold : ByteArray := prog_4_method_12_code
def yX2_worstTold : MethodName := ⟨RX2, "worstTold", "(I)J"⟩
abbrev cX2_mostInBrook : ByteArray := prog_4_method_13_code
def yX2_mostInBrook : MethodName := ⟨RX2, "mostInBrook", "()I"⟩
def RX3 : String := "PondStair$Reader"
def TX3 : u_T := fun k => match k with
  | 0 => ("PondStair$Reader", "tokens", "LPondStair$Tokens;", true)
  | 1 => ("PondStair$Reader", "hill", "LPondStair$Hill;", true)
  | 2 => ("PondStair$Reader", "works", "LPondStair$Works;", true)
  | 3 => ("PondStair$Reader", "numbers", "[I", true)
  | 4 => ("PondStair$Reader", "places", "[I", true)
  | 5 => ("PondStair$Reader", "fault", "I", false)
  | _ => ("PondStair$Reader", "place", "I", false)
def tyX3 : Nat → FieldType := fun k => match k with
  | 0 => .object "PondStair$Tokens"
  | 1 => .object "PondStair$Hill"
  | 2 => .object "PondStair$Works"
  | 3 => .array .int
  | 4 => .array .int
  | 5 => .int
  | _ => .int
theorem nmX3 : ∀ a, a < 7 → ∀ b, b < 7 → a ≠ b → (TX3 a).2.1 ≠ (TX3 b).2.1 := by decide +kernel
theorem tyX3_ok : ∀ k, k < 7 → parseFieldDescriptor (TX3 k).2.2.1 = some (tyX3 k) := by decide +kernel
abbrev cX3_init : ByteArray := prog_5_method_1_code
def yX3_init : MethodName := ⟨RX3, "<init>", "()V"⟩
abbrev cX3_read : ByteArray := prog_5_method_2_code
def yX3_read : MethodName := ⟨RX3, "read", "([BII)V"⟩
abbrev cX3_closeRains : ByteArray := prog_5_method_3_code
def yX3_closeRains : MethodName := ⟨RX3, "closeRains", "()V"⟩
abbrev cX3_readLine : ByteArray := prog_5_method_4_code
def yX3_readLine : MethodName := ⟨RX3, "readLine", "(I)Z"⟩
abbrev cX3_breaksOff : ByteArray := prog_5_method_5_code
def yX3_breaksOff : MethodName := ⟨RX3, "breaksOff", "()Z"⟩
abbrev cX3_remember : ByteArray := prog_5_method_6_code
def yX3_remember : MethodName := ⟨RX3, "remember", "(II)V"⟩
abbrev cX3_lineOf : ByteArray := prog_5_method_7_code
def yX3_lineOf : MethodName := ⟨RX3, "lineOf", "(I)I"⟩
abbrev cX3_hillWord : ByteArray := prog_5_method_8_code
def yX3_hillWord : MethodName := ⟨RX3, "hillWord", "(I)Ljava/lang/String;"⟩
abbrev cX3_planWord : ByteArray := prog_5_method_9_code
def yX3_planWord : MethodName := ⟨RX3, "planWord", "(I)Ljava/lang/String;"⟩
abbrev cX3_take : ByteArray := prog_5_method_10_code
def yX3_take : MethodName := ⟨RX3, "take", "(IIII)V"⟩
abbrev cX3_isFull : ByteArray := prog_5_method_11_code
def yX3_isFull : MethodName := ⟨RX3, "isFull", "(I)Z"⟩
abbrev cX3_canBeInHill : ByteArray := prog_5_method_12_code
def yX3_canBeInHill : MethodName := ⟨RX3, "canBeInHill", "(II)Z"⟩
abbrev cX3_canBeInPlan : ByteArray := prog_5_method_13_code
def yX3_canBeInPlan : MethodName := ⟨RX3, "canBeInPlan", "(II)Z"⟩
abbrev cX3_takeForHill : ByteArray := prog_5_method_14_code
def yX3_takeForHill : MethodName := ⟨RX3, "takeForHill", "(II)V"⟩
def RX4 : String := "PondStair$Site"
def TX4 : u_T := fun k => match k with
  | 0 => ("PondStair$Site", "ground", "LPondStair$Hill;", true)
  | 1 => ("PondStair$Site", "stop", "I", false)
  | 2 => ("PondStair$Site", "days", "I", false)
  | _ => ("PondStair$Site", "lost", "I", false)
def tyX4 : Nat → FieldType := fun k => match k with
  | 0 => .object "PondStair$Hill"
  | 1 => .int
  | 2 => .int
  | _ => .int
theorem nmX4 : ∀ a, a < 4 → ∀ b, b < 4 → a ≠ b → (TX4 a).2.1 ≠ (TX4 b).2.1 := by decide +kernel
theorem tyX4_ok : ∀ k, k < 4 → parseFieldDescriptor (TX4 k).2.2.1 = some (tyX4 k) := by decide +kernel
abbrev cX4_init : ByteArray := prog_6_method_1_code
def yX4_init : MethodName := ⟨RX4, "<init>", "()V"⟩
abbrev cX4_lay : ByteArray := prog_6_method_2_code
def yX4_lay : MethodName := ⟨RX4, "lay", "(LPondStair$Hill;LPondStair$Works;)V"⟩
abbrev cX4_builds : ByteArray := prog_6_method_3_code
def yX4_builds : MethodName := ⟨RX4, "builds", "(III)Z"⟩
abbrev cX4_mends : ByteArray := prog_6_method_4_code
def yX4_mends : MethodName := ⟨RX4, "mends", "(II)Z"⟩
abbrev cX4_lowers : ByteArray := prog_6_method_5_code
def yX4_lowers : MethodName := ⟨RX4, "lowers", "(II)Z"⟩
abbrev cX4_widens : ByteArray := prog_6_method_6_code
def yX4_widens : MethodName := ⟨RX4, "widens", "(II)Z"⟩
abbrev cX4_leads : ByteArray := prog_6_method_7_code
def yX4_leads : MethodName := ⟨RX4, "leads", "(II)Z"⟩
def RX5 : String := "PondStair$Storm"
def TX5 : u_T := fun k => match k with
  | 0 => ("PondStair$Storm", "ponds", "I", false)
  | 1 => ("PondStair$Storm", "went", "I", false)
  | 2 => ("PondStair$Storm", "harm", "I", false)
  | 3 => ("PondStair$Storm", "heard", "I", false)
  | 4 => ("PondStair$Storm", "brook", "I", false)
  | 5 => ("PondStair$Storm", "water", "[I", true)
  | _ => ("PondStair$Storm", "left", "[I", true)
def tyX5 : Nat → FieldType := fun k => match k with
  | 0 => .int
  | 1 => .int
  | 2 => .int
  | 3 => .int
  | 4 => .int
  | 5 => .array .int
  | _ => .array .int
theorem nmX5 : ∀ a, a < 7 → ∀ b, b < 7 → a ≠ b → (TX5 a).2.1 ≠ (TX5 b).2.1 := by decide +kernel
theorem tyX5_ok : ∀ k, k < 7 → parseFieldDescriptor (TX5 k).2.2.1 = some (tyX5 k) := by decide +kernel
abbrev cX5_init : ByteArray := prog_7_method_1_code
def yX5_init : MethodName := ⟨RX5, "<init>", "()V"⟩
abbrev cX5_run : ByteArray := prog_7_method_2_code
def yX5_run : MethodName := ⟨RX5, "run", "(LPondStair$Hill;III)V"⟩
abbrev cX5_hears : ByteArray := prog_7_method_3_code
def yX5_hears : MethodName := ⟨RX5, "hears", "(LPondStair$Hill;I)Z"⟩
abbrev cX5_goes : ByteArray := prog_7_method_4_code
def yX5_goes : MethodName := ⟨RX5, "goes", "(LPondStair$Hill;II)Z"⟩
abbrev cX5_leaving : ByteArray := prog_7_method_5_code
def yX5_leaving : MethodName := ⟨RX5, "leaving", "(LPondStair$Hill;IZ)I"⟩
abbrev cX5_pass : ByteArray := prog_7_method_6_code
def yX5_pass : MethodName := ⟨RX5, "pass", "(LPondStair$Hill;I)V"⟩
abbrev cX5_told : ByteArray := prog_7_method_7_code
def yX5_told : MethodName := ⟨RX5, "told", "(I)I"⟩
abbrev cX5_toldOfPond : ByteArray := prog_7_method_8_code
def yX5_toldOfPond : MethodName := ⟨RX5, "toldOfPond", "(II)I"⟩
abbrev cX5_leaveBehind : ByteArray := prog_7_method_9_code
def yX5_leaveBehind : MethodName := ⟨RX5, "leaveBehind", "(LPondStair$Hill;)V"⟩
def RX6 : String := "PondStair$Tokens"
def TX6 : u_T := fun k => match k with
  | 0 => ("PondStair$Tokens", "tape", "[B", false)
  | 1 => ("PondStair$Tokens", "length", "I", false)
  | 2 => ("PondStair$Tokens", "next", "I", false)
  | 3 => ("PondStair$Tokens", "kind", "I", false)
  | 4 => ("PondStair$Tokens", "start", "I", false)
  | _ => ("PondStair$Tokens", "value", "I", false)
def tyX6 : Nat → FieldType := fun k => match k with
  | 0 => .array .byte
  | 1 => .int
  | 2 => .int
  | 3 => .int
  | 4 => .int
  | _ => .int
theorem nmX6 : ∀ a, a < 6 → ∀ b, b < 6 → a ≠ b → (TX6 a).2.1 ≠ (TX6 b).2.1 := by decide +kernel
theorem tyX6_ok : ∀ k, k < 6 → parseFieldDescriptor (TX6 k).2.2.1 = some (tyX6 k) := by decide +kernel
abbrev cX6_init : ByteArray := prog_8_method_1_code
def yX6_init : MethodName := ⟨RX6, "<init>", "()V"⟩
abbrev cX6_begin : ByteArray := prog_8_method_2_code
def yX6_begin : MethodName := ⟨RX6, "begin", "([BI)V"⟩
abbrev cX6_advance : ByteArray := prog_8_method_3_code
def yX6_advance : MethodName := ⟨RX6, "advance", "()V"⟩
abbrev cX6_takeWord : ByteArray := prog_8_method_4_code
def yX6_takeWord : MethodName := ⟨RX6, "takeWord", "()V"⟩
abbrev cX6_takeNumber : ByteArray := prog_8_method_5_code
def yX6_takeNumber : MethodName := ⟨RX6, "takeNumber", "()V"⟩
abbrev cX6_isWord : ByteArray := prog_8_method_6_code
def yX6_isWord : MethodName := ⟨RX6, "isWord", "(Ljava/lang/String;)Z"⟩
abbrev cX6_isBlank : ByteArray := prog_8_method_7_code
def yX6_isBlank : MethodName := ⟨RX6, "isBlank", "(I)Z"⟩
abbrev cX6_isLetter : ByteArray := prog_8_method_8_code
def yX6_isLetter : MethodName := ⟨RX6, "isLetter", "(I)Z"⟩
abbrev cX6_isDigit : ByteArray := prog_8_method_9_code
def yX6_isDigit : MethodName := ⟨RX6, "isDigit", "(I)Z"⟩
def RX7 : String := "PondStair$Told"
def TX7 : u_T := fun k => match k with
  | 0 => ("PondStair$Told", "tape", "[B", true)
  | 1 => ("PondStair$Told", "length", "I", false)
  | 2 => ("PondStair$Told", "fault", "I", false)
  | 3 => ("PondStair$Told", "place", "I", false)
  | 4 => ("PondStair$Told", "hill", "[LPondStair$Hill;", true)
  | 5 => ("PondStair$Told", "hills", "I", false)
  | 6 => ("PondStair$Told", "works", "[LPondStair$Works;", true)
  | _ => ("PondStair$Told", "plans", "I", false)
def tyX7 : Nat → FieldType := fun k => match k with
  | 0 => .array .byte
  | 1 => .int
  | 2 => .int
  | 3 => .int
  | 4 => .array (.object "PondStair$Hill")
  | 5 => .int
  | 6 => .array (.object "PondStair$Works")
  | _ => .int
theorem nmX7 : ∀ a, a < 8 → ∀ b, b < 8 → a ≠ b → (TX7 a).2.1 ≠ (TX7 b).2.1 := by decide +kernel
theorem tyX7_ok : ∀ k, k < 8 → parseFieldDescriptor (TX7 k).2.2.1 = some (tyX7 k) := by decide +kernel
abbrev cX7_init : ByteArray := prog_9_method_1_code
def yX7_init : MethodName := ⟨RX7, "<init>", "()V"⟩
abbrev cX7_append : ByteArray := prog_9_method_2_code
def yX7_append : MethodName := ⟨RX7, "append", "(I)V"⟩
abbrev cX7_hasHill : ByteArray := prog_9_method_3_code
def yX7_hasHill : MethodName := ⟨RX7, "hasHill", "(I)Z"⟩
abbrev cX7_hasPlan : ByteArray := prog_9_method_4_code
def yX7_hasPlan : MethodName := ⟨RX7, "hasPlan", "(I)Z"⟩
abbrev cX7_numberFor : ByteArray := prog_9_method_5_code
def yX7_numberFor : MethodName := ⟨RX7, "numberFor", "(II)I"⟩
abbrev cX7_keep : ByteArray := prog_9_method_6_code
def yX7_keep : MethodName := ⟨RX7, "keep", "(IILPondStair$Reader;)V"⟩
abbrev cX7_copy : ByteArray := prog_9_method_7_code
def yX7_copy : MethodName := ⟨RX7, "copy", "(LPondStair$Told;)V"⟩
def RX8 : String := "PondStair$Works"
def TX8 : u_T := fun k => match k with
  | 0 => ("PondStair$Works", "works", "I", false)
  | 1 => ("PondStair$Works", "kind", "[I", true)
  | 2 => ("PondStair$Works", "where", "[I", true)
  | _ => ("PondStair$Works", "much", "[I", true)
def tyX8 : Nat → FieldType := fun k => match k with
  | 0 => .int
  | 1 => .array .int
  | 2 => .array .int
  | _ => .array .int
theorem nmX8 : ∀ a, a < 4 → ∀ b, b < 4 → a ≠ b → (TX8 a).2.1 ≠ (TX8 b).2.1 := by decide +kernel
theorem tyX8_ok : ∀ k, k < 4 → parseFieldDescriptor (TX8 k).2.2.1 = some (tyX8 k) := by decide +kernel
abbrev cX8_init : ByteArray := prog_10_method_1_code
def yX8_init : MethodName := ⟨RX8, "<init>", "()V"⟩
abbrev cX8_clear : ByteArray := prog_10_method_2_code
def yX8_clear : MethodName := ⟨RX8, "clear", "()V"⟩
abbrev cX8_add : ByteArray := prog_10_method_3_code
def yX8_add : MethodName := ⟨RX8, "add", "(III)Z"⟩
abbrev cX8_copy : ByteArray := prog_10_method_4_code
def yX8_copy : MethodName := ⟨RX8, "copy", "(LPondStair$Works;)V"⟩
abbrev cX8_told : ByteArray := prog_10_method_5_code
def yX8_told : MethodName := ⟨RX8, "told", "(II)I"⟩
def RX9 : String := "PondStair$Years"
def TX9 : u_T := fun k => match k with
  | _ => ("PondStair$Years", "x", "I", false)
def tyX9 : Nat → FieldType := fun k => match k with
  | _ => .int
theorem nmX9 : ∀ a, a < 1 → ∀ b, b < 1 → a ≠ b → (TX9 a).2.1 ≠ (TX9 b).2.1 := by decide +kernel
theorem tyX9_ok : ∀ k, k < 1 → parseFieldDescriptor (TX9 k).2.2.1 = some (tyX9 k) := by decide +kernel
abbrev cX9_init : ByteArray := prog_11_method_1_code
def yX9_init : MethodName := ⟨RX9, "<init>", "(I)V"⟩
abbrev cX9_draw : ByteArray := prog_11_method_2_code
def yX9_draw : MethodName := ⟨RX9, "draw", "(I)I"⟩
abbrev cX9_tally : ByteArray := prog_11_method_3_code
def yX9_tally : MethodName := ⟨RX9, "tally", "(LPondStair$Hill;LPondStair$Storm;II)J"⟩
abbrev cX9_drawRain : ByteArray := prog_11_method_4_code
def yX9_drawRain : MethodName := ⟨RX9, "drawRain", "(LPondStair$Hill;)I"⟩
abbrev cX9_drawBanks : ByteArray := prog_11_method_5_code
def yX9_drawBanks : MethodName := ⟨RX9, "drawBanks", "(LPondStair$Hill;)I"⟩
def RX10 : String := "PondStair"
def TX10 : u_T := fun k => match k with
  | 0 => ("PondStair", "told", "LPondStair$Told;", true)
  | 1 => ("PondStair", "images", "[LPondStair$Told;", true)
  | 2 => ("PondStair", "taken", "[Z", true)
  | 3 => ("PondStair", "reader", "LPondStair$Reader;", true)
  | 4 => ("PondStair", "site", "LPondStair$Site;", true)
  | 5 => ("PondStair", "nothing", "LPondStair$Works;", true)
  | 6 => ("PondStair", "flow", "LPondStair$Storm;", true)
  | 7 => ("PondStair", "choice", "LPondStair$Choice;", true)
  | 8 => ("PondStair", "odds", "LPondStair$Odds;", true)
  | _ => ("PondStair", "trial", "LPondStair$Hill;", true)
def tyX10 : Nat → FieldType := fun k => match k with
  | 0 => .object "PondStair$Told"
  | 1 => .array (.object "PondStair$Told")
  | 2 => .array .boolean
  | 3 => .object "PondStair$Reader"
  | 4 => .object "PondStair$Site"
  | 5 => .object "PondStair$Works"
  | 6 => .object "PondStair$Storm"
  | 7 => .object "PondStair$Choice"
  | 8 => .object "PondStair$Odds"
  | _ => .object "PondStair$Hill"
theorem nmX10 : ∀ a, a < 10 → ∀ b, b < 10 → a ≠ b → (TX10 a).2.1 ≠ (TX10 b).2.1 := by decide +kernel
theorem tyX10_ok : ∀ k, k < 10 → parseFieldDescriptor (TX10 k).2.2.1 = some (tyX10 k) := by decide +kernel
abbrev cX10_init : ByteArray := prog_1_method_1_code
def yX10_init : MethodName := ⟨RX10, "<init>", "()V"⟩
abbrev cX10_feed : ByteArray := prog_1_method_2_code
def yX10_feed : MethodName := ⟨RX10, "feed", "(IIIII)I"⟩
abbrev cX10_end : ByteArray := prog_1_method_3_code
def yX10_end : MethodName := ⟨RX10, "end", "(I)I"⟩
abbrev cX10_text : ByteArray := prog_1_method_4_code
def yX10_text : MethodName := ⟨RX10, "text", "(II)I"⟩
abbrev cX10_fault : ByteArray := prog_1_method_5_code
def yX10_fault : MethodName := ⟨RX10, "fault", "(I)I"⟩
abbrev cX10_hill : ByteArray := prog_1_method_6_code
def yX10_hill : MethodName := ⟨RX10, "hill", "(II)I"⟩
abbrev cX10_pond : ByteArray := prog_1_method_7_code
def yX10_pond : MethodName := ⟨RX10, "pond", "(IIII)I"⟩
abbrev cX10_work : ByteArray := prog_1_method_8_code
def yX10_work : MethodName := ⟨RX10, "work", "(III)I"⟩
abbrev cX10_plan : ByteArray := prog_1_method_9_code
def yX10_plan : MethodName := ⟨RX10, "plan", "(III)I"⟩
abbrev cX10_storm : ByteArray := prog_1_method_10_code
def yX10_storm : MethodName := ⟨RX10, "storm", "(IIIII)I"⟩
abbrev cX10_likely : ByteArray := prog_1_method_11_code
def yX10_likely : MethodName := ⟨RX10, "likely", "(III)J"⟩
abbrev cX10_mean : ByteArray := prog_1_method_12_code
def yX10_mean : MethodName := ⟨RX10, "mean", "(III)J"⟩
abbrev cX10_rows : ByteArray := prog_1_method_13_code
def yX10_rows : MethodName := ⟨RX10, "rows", "(IIZ)J"⟩
abbrev cX10_brings : ByteArray := prog_1_method_14_code
def yX10_brings : MethodName := ⟨RX10, "brings", "(IIII)I"⟩
abbrev cX10_best : ByteArray := prog_1_method_15_code
def yX10_best : MethodName := ⟨RX10, "best", "(IIII)I"⟩
abbrev cX10_steps : ByteArray := prog_1_method_16_code
def yX10_steps : MethodName := ⟨RX10, "steps", "(IIII)I"⟩
abbrev cX10_mended : ByteArray := prog_1_method_17_code
def yX10_mended : MethodName := ⟨RX10, "mended", "(III)J"⟩
abbrev cX10_one : ByteArray := prog_1_method_18_code
def yX10_one : MethodName := ⟨RX10, "one", "(IIZ)J"⟩
abbrev cX10_low : ByteArray := prog_1_method_19_code
def yX10_low : MethodName := ⟨RX10, "low", "(III)I"⟩
abbrev cX10_helps : ByteArray := prog_1_method_20_code
def yX10_helps : MethodName := ⟨RX10, "helps", "(IIII)J"⟩
abbrev cX10_alone : ByteArray := prog_1_method_21_code
def yX10_alone : MethodName := ⟨RX10, "alone", "(III)J"⟩
abbrev cX10_hear : ByteArray := prog_1_method_22_code
def yX10_hear : MethodName := ⟨RX10, "hear", "(IIII)J"⟩
abbrev cX10_may : ByteArray := prog_1_method_23_code
def yX10_may : MethodName := ⟨RX10, "may", "(IIIZ)J"⟩
abbrev cX10_order : ByteArray := prog_1_method_24_code
def yX10_order : MethodName := ⟨RX10, "order", "(IIII)I"⟩
abbrev cX10_think : ByteArray := prog_1_method_25_code
def yX10_think : MethodName := ⟨RX10, "think", "(IIIZ)I"⟩
abbrev cX10_now : ByteArray := prog_1_method_26_code
def yX10_now : MethodName := ⟨RX10, "now", "(II)I"⟩
abbrev cX10_years : ByteArray := prog_1_method_27_code
def yX10_years : MethodName := ⟨RX10, "years", "(IIIII)J"⟩
abbrev cX10_spared : ByteArray := prog_1_method_28_code
def yX10_spared : MethodName := ⟨RX10, "spared", "(III)I"⟩
abbrev cX10_deep : ByteArray := prog_1_method_29_code
def yX10_deep : MethodName := ⟨RX10, "deep", "(II)I"⟩
abbrev cX10_safe : ByteArray := prog_1_method_30_code
def yX10_safe : MethodName := ⟨RX10, "safe", "(II)I"⟩
abbrev cX10_weighs : ByteArray := prog_1_method_31_code
def yX10_weighs : MethodName := ⟨RX10, "weighs", "(II)I"⟩
abbrev cX10_upon : ByteArray := prog_1_method_32_code
def yX10_upon : MethodName := ⟨RX10, "upon", "(IIIZ)I"⟩
abbrev cX10_runs : ByteArray := prog_1_method_33_code
def yX10_runs : MethodName := ⟨RX10, "runs", "(III)I"⟩
abbrev cX10_joint : ByteArray := prog_1_method_34_code
def yX10_joint : MethodName := ⟨RX10, "joint", "(IIII)J"⟩
abbrev cX10_given : ByteArray := prog_1_method_35_code
def yX10_given : MethodName := ⟨RX10, "given", "(IIIIZ)J"⟩
abbrev cX10_worst : ByteArray := prog_1_method_36_code
def yX10_worst : MethodName := ⟨RX10, "worst", "(III)J"⟩
abbrev cX10_flood : ByteArray := prog_1_method_37_code
def yX10_flood : MethodName := ⟨RX10, "flood", "(II)I"⟩
abbrev cX10_around : ByteArray := prog_1_method_38_code
def yX10_around : MethodName := ⟨RX10, "around", "(IIZ)I"⟩
abbrev cX10_twice : ByteArray := prog_1_method_39_code
def yX10_twice : MethodName := ⟨RX10, "twice", "(IIIIIII)I"⟩
abbrev cX10_better : ByteArray := prog_1_method_40_code
def yX10_better : MethodName := ⟨RX10, "better", "(III)I"⟩
abbrev cX10_spend : ByteArray := prog_1_method_41_code
def yX10_spend : MethodName := ⟨RX10, "spend", "(IIII)I"⟩
abbrev cX10_count : ByteArray := prog_1_method_42_code
def yX10_count : MethodName := ⟨RX10, "count", "(I)I"⟩
abbrev cX10_image : ByteArray := prog_1_method_43_code
def yX10_image : MethodName := ⟨RX10, "image", "(I)Z"⟩
abbrev cX10_again : ByteArray := prog_1_method_44_code
def yX10_again : MethodName := ⟨RX10, "again", "(I)Z"⟩
abbrev cX10_lays : ByteArray := prog_1_method_45_code
def yX10_lays : MethodName := ⟨RX10, "lays", "(II)Z"⟩
abbrev cX10_looks : ByteArray := prog_1_method_46_code
def yX10_looks : MethodName := ⟨RX10, "looks", "(II)Z"⟩
abbrev cX10_hasPond : ByteArray := prog_1_method_47_code
def yX10_hasPond : MethodName := ⟨RX10, "hasPond", "(III)Z"⟩
abbrev cX10_canMend : ByteArray := prog_1_method_48_code
def yX10_canMend : MethodName := ⟨RX10, "canMend", "(IIIII)Z"⟩
abbrev cX10_canFill : ByteArray := prog_1_method_49_code
def yX10_canFill : MethodName := ⟨RX10, "canFill", "(III)Z"⟩
abbrev cX10_isOwner : ByteArray := prog_1_method_50_code
def yX10_isOwner : MethodName := ⟨RX10, "isOwner", "(I)Z"⟩
abbrev cX10_isIn : ByteArray := prog_1_method_51_code
def yX10_isIn : MethodName := ⟨RX10, "isIn", "(II)Z"⟩
abbrev cX10_bit : ByteArray := prog_1_method_52_code
def yX10_bit : MethodName := ⟨RX10, "bit", "(I)I"⟩
abbrev cX10_inLeastTerms : ByteArray := prog_1_method_53_code
def yX10_inLeastTerms : MethodName := ⟨RX10, "inLeastTerms", "(JJZ)J"⟩
abbrev cX10_commonDivisor : ByteArray := prog_1_method_54_code
def yX10_commonDivisor : MethodName := ⟨RX10, "commonDivisor", "(JJ)J"⟩
def RX11 : String := "PondStairModel"
def TX11 : u_T := fun k => match k with
  | 0 => ("PondStairModel", "code", "I", false)
  | 1 => ("PondStairModel", "tape", "[B", true)
  | 2 => ("PondStairModel", "size", "[I", true)
  | 3 => ("PondStairModel", "fault", "[I", true)
  | 4 => ("PondStairModel", "faultPlace", "[I", true)
  | 5 => ("PondStairModel", "many", "[I", true)
  | 6 => ("PondStairModel", "hills", "[I", true)
  | 7 => ("PondStairModel", "plans", "[I", true)
  | 8 => ("PondStairModel", "ahead", "I", false)
  | 9 => ("PondStairModel", "length", "I", false)
  | 10 => ("PondStairModel", "begins", "I", false)
  | 11 => ("PondStairModel", "sort", "I", false)
  | 12 => ("PondStairModel", "value", "I", false)
  | 13 => ("PondStairModel", "word", "J", false)
  | 14 => ("PondStairModel", "wrongAt", "I", false)
  | 15 => ("PondStairModel", "laterFault", "I", false)
  | 16 => ("PondStairModel", "laterPlace", "I", false)
  | 17 => ("PondStairModel", "read", "I", false)
  | 18 => ("PondStairModel", "good", "Z", false)
  | 19 => ("PondStairModel", "row", "[I", true)
  | 20 => ("PondStairModel", "got", "[I", true)
  | 21 => ("PondStairModel", "now", "[I", true)
  | 22 => ("PondStairModel", "ponds", "I", false)
  | 23 => ("PondStairModel", "done", "I", false)
  | 24 => ("PondStairModel", "days", "I", false)
  | 25 => ("PondStairModel", "lost", "I", false)
  | 26 => ("PondStairModel", "kept", "I", false)
  | 27 => ("PondStairModel", "dry", "Z", false)
  | 28 => ("PondStairModel", "water", "[I", true)
  | 29 => ("PondStairModel", "comes", "[I", true)
  | 30 => ("PondStairModel", "left", "[I", true)
  | 31 => ("PondStairModel", "went", "I", false)
  | 32 => ("PondStairModel", "heard", "I", false)
  | 33 => ("PondStairModel", "brook", "I", false)
  | 34 => ("PondStairModel", "partsOfSet", "[J", true)
  | 35 => ("PondStairModel", "chance", "[I", true)
  | 36 => ("PondStairModel", "level", "[I", true)
  | 37 => ("PondStairModel", "row4", "[I", true)
  | 38 => ("PondStairModel", "best4", "[I", true)
  | 39 => ("PondStairModel", "filled", "I", false)
  | 40 => ("PondStairModel", "leastMay", "J", false)
  | 41 => ("PondStairModel", "drawn", "I", false)
  | _ => ("PondStairModel", "stored", "[Z", true)
def tyX11 : Nat → FieldType := fun k => match k with
  | 0 => .int
  | 1 => .array .byte
  | 2 => .array .int
  | 3 => .array .int
  | 4 => .array .int
  | 5 => .array .int
  | 6 => .array .int
  | 7 => .array .int
  | 8 => .int
  | 9 => .int
  | 10 => .int
  | 11 => .int
  | 12 => .int
  | 13 => .long
  | 14 => .int
  | 15 => .int
  | 16 => .int
  | 17 => .int
  | 18 => .boolean
  | 19 => .array .int
  | 20 => .array .int
  | 21 => .array .int
  | 22 => .int
  | 23 => .int
  | 24 => .int
  | 25 => .int
  | 26 => .int
  | 27 => .boolean
  | 28 => .array .int
  | 29 => .array .int
  | 30 => .array .int
  | 31 => .int
  | 32 => .int
  | 33 => .int
  | 34 => .array .long
  | 35 => .array .int
  | 36 => .array .int
  | 37 => .array .int
  | 38 => .array .int
  | 39 => .int
  | 40 => .long
  | 41 => .int
  | _ => .array .boolean
theorem nmX11 : ∀ a, a < 43 → ∀ b, b < 43 → a ≠ b → (TX11 a).2.1 ≠ (TX11 b).2.1 := by decide +kernel
theorem tyX11_ok : ∀ k, k < 43 → parseFieldDescriptor (TX11 k).2.2.1 = some (tyX11 k) := by decide +kernel
abbrev cX11_init : ByteArray := prog_13_method_1_code
def yX11_init : MethodName := ⟨RX11, "<init>", "()V"⟩
abbrev cX11_in : ByteArray := prog_13_method_3_code
def yX11_in : MethodName := ⟨RX11, "in", "(III)Z"⟩
abbrev cX11_has : ByteArray := prog_13_method_4_code
def yX11_has : MethodName := ⟨RX11, "has", "(II)Z"⟩
abbrev cX11_ones : ByteArray := prog_13_method_5_code
def yX11_ones : MethodName := ⟨RX11, "ones", "(I)I"⟩
abbrev cX11_move : ByteArray := prog_13_method_6_code
def yX11_move : MethodName := ⟨RX11, "move", "([IIII)V"⟩
abbrev cX11_copy : ByteArray := prog_13_method_7_code
def yX11_copy : MethodName := ⟨RX11, "copy", "(II)V"⟩
abbrev cX11_isHill : ByteArray := prog_13_method_8_code
def yX11_isHill : MethodName := ⟨RX11, "isHill", "(I)Z"⟩
abbrev cX11_isPlan : ByteArray := prog_13_method_9_code
def yX11_isPlan : MethodName := ⟨RX11, "isPlan", "(I)Z"⟩
abbrev cX11_feed : ByteArray := prog_13_method_10_code
def yX11_feed : MethodName := ⟨RX11, "feed", "(IIIII)I"⟩
abbrev cX11_four : ByteArray := prog_13_method_11_code
def yX11_four : MethodName := ⟨RX11, "four", "(I)V"⟩
abbrev cX11_end : ByteArray := prog_13_method_12_code
def yX11_end : MethodName := ⟨RX11, "end", "(I)I"⟩
abbrev cX11_see : ByteArray := prog_13_method_13_code
def yX11_see : MethodName := ⟨RX11, "see", "()I"⟩
abbrev cX11_token : ByteArray := prog_13_method_14_code
def yX11_token : MethodName := ⟨RX11, "token", "()V"⟩
abbrev cX11_stops : ByteArray := prog_13_method_15_code
def yX11_stops : MethodName := ⟨RX11, "stops", "()Z"⟩
abbrev cX11_later : ByteArray := prog_13_method_16_code
def yX11_later : MethodName := ⟨RX11, "later", "(II)V"⟩
abbrev cX11_number : ByteArray := prog_13_method_17_code
def yX11_number : MethodName := ⟨RX11, "number", "(II)Z"⟩
abbrev cX11_take : ByteArray := prog_13_method_18_code
def yX11_take : MethodName := ⟨RX11, "take", "(III)Z"⟩
abbrev cX11_pondLine : ByteArray := prog_13_method_19_code
def yX11_pondLine : MethodName := ⟨RX11, "pondLine", "(I)Z"⟩
abbrev cX11_rainLine : ByteArray := prog_13_method_20_code
def yX11_rainLine : MethodName := ⟨RX11, "rainLine", "(I)Z"⟩
abbrev cX11_ofPond : ByteArray := prog_13_method_21_code
def yX11_ofPond : MethodName := ⟨RX11, "ofPond", "(IIIII)Z"⟩
abbrev cX11_daysLine : ByteArray := prog_13_method_22_code
def yX11_daysLine : MethodName := ⟨RX11, "daysLine", "(I)Z"⟩
abbrev cX11_hillLine : ByteArray := prog_13_method_23_code
def yX11_hillLine : MethodName := ⟨RX11, "hillLine", "(I)Z"⟩
abbrev cX11_workLine : ByteArray := prog_13_method_24_code
def yX11_workLine : MethodName := ⟨RX11, "workLine", "(I)Z"⟩
abbrev cX11_endsHill : ByteArray := prog_13_method_25_code
def yX11_endsHill : MethodName := ⟨RX11, "endsHill", "()V"⟩
abbrev cX11_readText : ByteArray := prog_13_method_26_code
def yX11_readText : MethodName := ⟨RX11, "readText", "(I)Z"⟩
abbrev cX11_text : ByteArray := prog_13_method_27_code
def yX11_text : MethodName := ⟨RX11, "text", "(II)I"⟩
abbrev cX11_fault : ByteArray := prog_13_method_28_code
def yX11_fault : MethodName := ⟨RX11, "fault", "(I)I"⟩
abbrev cX11_hill : ByteArray := prog_13_method_29_code
def yX11_hill : MethodName := ⟨RX11, "hill", "(II)I"⟩
abbrev cX11_of : ByteArray := prog_13_method_30_code
def yX11_of : MethodName := ⟨RX11, "of", "(II)I"⟩
abbrev cX11_set : ByteArray := prog_13_method_31_code
def yX11_set : MethodName := ⟨RX11, "set", "(III)V"⟩
abbrev cX11_does : ByteArray := prog_13_method_32_code
def yX11_does : MethodName := ⟨RX11, "does", "(III)Z"⟩
abbrev cX11_lay : ByteArray := prog_13_method_33_code
def yX11_lay : MethodName := ⟨RX11, "lay", "(II)Z"⟩
abbrev cX11_isPond : ByteArray := prog_13_method_34_code
def yX11_isPond : MethodName := ⟨RX11, "isPond", "(I)Z"⟩
abbrev cX11_arePonds : ByteArray := prog_13_method_35_code
def yX11_arePonds : MethodName := ⟨RX11, "arePonds", "(I)Z"⟩
abbrev cX11_pond : ByteArray := prog_13_method_36_code
def yX11_pond : MethodName := ⟨RX11, "pond", "(IIII)I"⟩
abbrev cX11_work : ByteArray := prog_13_method_37_code
def yX11_work : MethodName := ⟨RX11, "work", "(III)I"⟩
abbrev cX11_plan : ByteArray := prog_13_method_38_code
def yX11_plan : MethodName := ⟨RX11, "plan", "(III)I"⟩
abbrev cX11_hears : ByteArray := prog_13_method_39_code
def yX11_hears : MethodName := ⟨RX11, "hears", "(I)Z"⟩
abbrev cX11_blow : ByteArray := prog_13_method_40_code
def yX11_blow : MethodName := ⟨RX11, "blow", "(II)V"⟩
abbrev cX11_pass : ByteArray := prog_13_method_41_code
def yX11_pass : MethodName := ⟨RX11, "pass", "(IIZ)V"⟩
abbrev cX11_stepsOf : ByteArray := prog_13_method_42_code
def yX11_stepsOf : MethodName := ⟨RX11, "stepsOf", "(I)I"⟩
abbrev cX11_isRain : ByteArray := prog_13_method_43_code
def yX11_isRain : MethodName := ⟨RX11, "isRain", "(I)Z"⟩
abbrev cX11_harmOf : ByteArray := prog_13_method_44_code
def yX11_harmOf : MethodName := ⟨RX11, "harmOf", "(I)I"⟩
abbrev cX11_storm : ByteArray := prog_13_method_45_code
def yX11_storm : MethodName := ⟨RX11, "storm", "(IIIII)I"⟩
abbrev cX11_told : ByteArray := prog_13_method_46_code
def yX11_told : MethodName := ⟨RX11, "told", "(I)I"⟩
abbrev cX11_partsOf : ByteArray := prog_13_method_47_code
def yX11_partsOf : MethodName := ⟨RX11, "partsOf", "(II)J"⟩
abbrev cX11_allParts : ByteArray := prog_13_method_48_code
def yX11_allParts : MethodName := ⟨RX11, "allParts", "()J"⟩
abbrev cX11_meanBy : ByteArray := prog_13_method_49_code
def yX11_meanBy : MethodName := ⟨RX11, "meanBy", "(I)J"⟩
abbrev cX11_likely : ByteArray := prog_13_method_50_code
def yX11_likely : MethodName := ⟨RX11, "likely", "(III)J"⟩
abbrev cX11_isOwner : ByteArray := prog_13_method_51_code
def yX11_isOwner : MethodName := ⟨RX11, "isOwner", "(I)Z"⟩
abbrev cX11_mean : ByteArray := prog_13_method_52_code
def yX11_mean : MethodName := ⟨RX11, "mean", "(III)J"⟩
abbrev cX11_rows : ByteArray := prog_13_method_53_code
def yX11_rows : MethodName := ⟨RX11, "rows", "(IIZ)J"⟩
abbrev cX11_brings : ByteArray := prog_13_method_54_code
def yX11_brings : MethodName := ⟨RX11, "brings", "(IIII)I"⟩
abbrev cX11_keepChances : ByteArray := prog_13_method_55_code
def yX11_keepChances : MethodName := ⟨RX11, "keepChances", "()V"⟩
abbrev cX11_mendAll : ByteArray := prog_13_method_56_code
def yX11_mendAll : MethodName := ⟨RX11, "mendAll", "(I)V"⟩
abbrev cX11_meanMended : ByteArray := prog_13_method_57_code
def yX11_meanMended : MethodName := ⟨RX11, "meanMended", "(II)J"⟩
abbrev cX11_costOf : ByteArray := prog_13_method_58_code
def yX11_costOf : MethodName := ⟨RX11, "costOf", "(I)I"⟩
abbrev cX11_canMend : ByteArray := prog_13_method_59_code
def yX11_canMend : MethodName := ⟨RX11, "canMend", "(IIII)Z"⟩
abbrev cX11_best : ByteArray := prog_13_method_60_code
def yX11_best : MethodName := ⟨RX11, "best", "(IIII)I"⟩
abbrev cX11_steps : ByteArray := prog_13_method_61_code
def yX11_steps : MethodName := ⟨RX11, "steps", "(IIII)I"⟩
abbrev cX11_nextOf : ByteArray := prog_13_method_62_code
def yX11_nextOf : MethodName := ⟨RX11, "nextOf", "(III)I"⟩
abbrev cX11_isSooner : ByteArray := prog_13_method_63_code
def yX11_isSooner : MethodName := ⟨RX11, "isSooner", "(JIJI)Z"⟩
abbrev cX11_mended : ByteArray := prog_13_method_64_code
def yX11_mended : MethodName := ⟨RX11, "mended", "(III)J"⟩
abbrev cX11_one : ByteArray := prog_13_method_65_code
def yX11_one : MethodName := ⟨RX11, "one", "(IIZ)J"⟩
abbrev cX11_low : ByteArray := prog_13_method_66_code
def yX11_low : MethodName := ⟨RX11, "low", "(III)I"⟩
abbrev cX11_pondsOf : ByteArray := prog_13_method_67_code
def yX11_pondsOf : MethodName := ⟨RX11, "pondsOf", "(I)I"⟩
abbrev cX11_helps : ByteArray := prog_13_method_68_code
def yX11_helps : MethodName := ⟨RX11, "helps", "(IIII)J"⟩
abbrev cX11_alone : ByteArray := prog_13_method_69_code
def yX11_alone : MethodName := ⟨RX11, "alone", "(III)J"⟩
abbrev cX11_hear : ByteArray := prog_13_method_70_code
def yX11_hear : MethodName := ⟨RX11, "hear", "(IIII)J"⟩
abbrev cX11_fillAll : ByteArray := prog_13_method_71_code
def yX11_fillAll : MethodName := ⟨RX11, "fillAll", "(I)J"⟩
abbrev cX11_findOrder : ByteArray := prog_13_method_72_code
def yX11_findOrder : MethodName := ⟨RX11, "findOrder", "(I)V"⟩
abbrev cX11_isFilled : ByteArray := prog_13_method_73_code
def yX11_isFilled : MethodName := ⟨RX11, "isFilled", "(III)Z"⟩
abbrev cX11_may : ByteArray := prog_13_method_74_code
def yX11_may : MethodName := ⟨RX11, "may", "(IIIZ)J"⟩
abbrev cX11_order : ByteArray := prog_13_method_75_code
def yX11_order : MethodName := ⟨RX11, "order", "(IIII)I"⟩
abbrev cX11_seenBy : ByteArray := prog_13_method_76_code
def yX11_seenBy : MethodName := ⟨RX11, "seenBy", "(I)I"⟩
abbrev cX11_seenAll : ByteArray := prog_13_method_77_code
def yX11_seenAll : MethodName := ⟨RX11, "seenAll", "(I)I"⟩
abbrev cX11_common : ByteArray := prog_13_method_78_code
def yX11_common : MethodName := ⟨RX11, "common", "(II)I"⟩
abbrev cX11_think : ByteArray := prog_13_method_79_code
def yX11_think : MethodName := ⟨RX11, "think", "(IIIZ)I"⟩
abbrev cX11_now : ByteArray := prog_13_method_80_code
def yX11_now : MethodName := ⟨RX11, "now", "(II)I"⟩
abbrev cX11_draw : ByteArray := prog_13_method_81_code
def yX11_draw : MethodName := ⟨RX11, "draw", "(I)I"⟩
abbrev cX11_year : ByteArray := prog_13_method_82_code
def yX11_year : MethodName := ⟨RX11, "year", "()V"⟩
abbrev cX11_years : ByteArray := prog_13_method_83_code
def yX11_years : MethodName := ⟨RX11, "years", "(IIIII)J"⟩
abbrev cX11_spared : ByteArray := prog_13_method_84_code
def yX11_spared : MethodName := ⟨RX11, "spared", "(III)I"⟩
abbrev cX11_deep : ByteArray := prog_13_method_85_code
def yX11_deep : MethodName := ⟨RX11, "deep", "(II)I"⟩
abbrev cX11_safe : ByteArray := prog_13_method_86_code
def yX11_safe : MethodName := ⟨RX11, "safe", "(II)I"⟩
abbrev cX11_weighs : ByteArray := prog_13_method_87_code
def yX11_weighs : MethodName := ⟨RX11, "weighs", "(II)I"⟩
abbrev cX11_leads : ByteArray := prog_13_method_88_code
def yX11_leads : MethodName := ⟨RX11, "leads", "(II)Z"⟩
abbrev cX11_upon : ByteArray := prog_13_method_89_code
def yX11_upon : MethodName := ⟨RX11, "upon", "(IIIZ)I"⟩
abbrev cX11_runs : ByteArray := prog_13_method_90_code
def yX11_runs : MethodName := ⟨RX11, "runs", "(III)I"⟩
abbrev cX11_together : ByteArray := prog_13_method_91_code
def yX11_together : MethodName := ⟨RX11, "together", "(I)J"⟩
abbrev cX11_joint : ByteArray := prog_13_method_92_code
def yX11_joint : MethodName := ⟨RX11, "joint", "(IIII)J"⟩
abbrev cX11_commonOf : ByteArray := prog_13_method_93_code
def yX11_commonOf : MethodName := ⟨RX11, "commonOf", "(JJ)J"⟩
abbrev cX11_given : ByteArray := prog_13_method_94_code
def yX11_given : MethodName := ⟨RX11, "given", "(IIIIZ)J"⟩
abbrev cX11_worst : ByteArray := prog_13_method_95_code
def yX11_worst : MethodName := ⟨RX11, "worst", "(III)J"⟩
abbrev cX11_flood : ByteArray := prog_13_method_96_code
def yX11_flood : MethodName := ⟨RX11, "flood", "(II)I"⟩
abbrev cX11_around : ByteArray := prog_13_method_97_code
def yX11_around : MethodName := ⟨RX11, "around", "(IIZ)I"⟩
abbrev cX11_twice : ByteArray := prog_13_method_98_code
def yX11_twice : MethodName := ⟨RX11, "twice", "(IIIIIII)I"⟩
abbrev cX11_better : ByteArray := prog_13_method_99_code
def yX11_better : MethodName := ⟨RX11, "better", "(III)I"⟩
abbrev cX11_spend : ByteArray := prog_13_method_100_code
def yX11_spend : MethodName := ⟨RX11, "spend", "(IIII)I"⟩
abbrev cX11_count : ByteArray := prog_13_method_101_code
def yX11_count : MethodName := ⟨RX11, "count", "(I)I"⟩
abbrev cX11_image : ByteArray := prog_13_method_102_code
def yX11_image : MethodName := ⟨RX11, "image", "(I)Z"⟩
abbrev cX11_again : ByteArray := prog_13_method_103_code
def yX11_again : MethodName := ⟨RX11, "again", "(I)Z"⟩
def RJ6 : String := "java/lang/Integer"
abbrev cJ6_bitCount_0f7a4 : ByteArray := prog_14_method_49_code
def yJ6_bitCount_0f7a4 : MethodName := ⟨RJ6, "bitCount", "(I)I"⟩
def RJ9 : String := "java/lang/Math"
abbrev cJ9_max_7cf53 : ByteArray := prog_15_method_65_code
def yJ9_max_7cf53 : MethodName := ⟨RJ9, "max", "(II)I"⟩
abbrev cJ9_max_f86c9 : ByteArray := prog_15_method_66_code
def yJ9_max_f86c9 : MethodName := ⟨RJ9, "max", "(JJ)J"⟩
abbrev cJ9_min_7cf53 : ByteArray := prog_15_method_69_code
def yJ9_min_7cf53 : MethodName := ⟨RJ9, "min", "(II)I"⟩
def RJ0 : String := "java/lang/String"
abbrev cJ0_length_8abf5 : ByteArray := prog_16_method_54_code
def yJ0_length_8abf5 : MethodName := ⟨RJ0, "length", "()I"⟩
abbrev cJ0_charAt_5068e : ByteArray := prog_16_method_56_code
def yJ0_charAt_5068e : MethodName := ⟨RJ0, "charAt", "(I)C"⟩
abbrev cJ0_coder_7d493 : ByteArray := prog_16_method_152_code
def yJ0_coder_7d493 : MethodName := ⟨RJ0, "coder", "()B"⟩
abbrev cJ0_isLatin1_aae02 : ByteArray := prog_16_method_154_code
def yJ0_isLatin1_aae02 : MethodName := ⟨RJ0, "isLatin1", "()Z"⟩
abbrev cJ0_checkIndex_df160 : ByteArray := prog_16_method_155_code
def yJ0_checkIndex_df160 : MethodName := ⟨RJ0, "checkIndex", "(II)V"⟩
def RJ1 : String := "java/lang/StringLatin1"
abbrev cJ1_charAt_3b067 : ByteArray := prog_17_method_2_code
def yJ1_charAt_3b067 : MethodName := ⟨RJ1, "charAt", "([BI)C"⟩
def RJ2 : String := "java/lang/StringUTF16"
abbrev cJ2_getChar_3b067 : ByteArray := prog_18_method_5_code
def yJ2_getChar_3b067 : MethodName := ⟨RJ2, "getChar", "([BI)C"⟩
abbrev cJ2_length_9d52b : ByteArray := prog_18_method_6_code
def yJ2_length_9d52b : MethodName := ⟨RJ2, "length", "([B)I"⟩
abbrev cJ2_charAt_3b067 : ByteArray := prog_18_method_83_code
def yJ2_charAt_3b067 : MethodName := ⟨RJ2, "charAt", "([BI)C"⟩
abbrev cJ2_checkIndex_2214a : ByteArray := prog_18_method_91_code
def yJ2_checkIndex_2214a : MethodName := ⟨RJ2, "checkIndex", "(I[B)V"⟩
def RJ10 : String := "java/lang/System"
def RJ7 : String := "java/util/Arrays"
abbrev cJ7_rangeCheck_23922 : ByteArray := prog_20_method_30_code
def yJ7_rangeCheck_23922 : MethodName := ⟨RJ7, "rangeCheck", "(III)V"⟩
abbrev cJ7_fill_d0a16 : ByteArray := prog_20_method_101_code
def yJ7_fill_d0a16 : MethodName := ⟨RJ7, "fill", "([JJ)V"⟩
abbrev cJ7_fill_53178 : ByteArray := prog_20_method_103_code
def yJ7_fill_53178 : MethodName := ⟨RJ7, "fill", "([II)V"⟩
abbrev cJ7_fill_fda19 : ByteArray := prog_20_method_104_code
def yJ7_fill_fda19 : MethodName := ⟨RJ7, "fill", "([IIII)V"⟩
def RJ3 : String := "jdk/internal/util/Preconditions"
abbrev cJ3_checkIndex_8e157 : ByteArray := prog_21_method_11_code
def yJ3_checkIndex_8e157 : MethodName := ⟨RJ3, "checkIndex", "(IILjava/util/function/BiFunction;)I"⟩
def RL : String := "PondStairLaw"
abbrev cL_law : ByteArray := code
def yL_law : MethodName := ⟨RL, "law", "([I)Z"⟩
abbrev vwCl : List vw_C := [(RX0, TX0, 10), (RX1, TX1, 6), (RX2, TX2, 6), (RX3, TX3, 7), (RX4, TX4, 4), (RX5, TX5, 7), (RX6, TX6, 6), (RX7, TX7, 8), (RX8, TX8, 4), (RX9, TX9, 1), (RX10, TX10, 10), (RX11, TX11, 43)]
theorem inG0 : ∀ w ∈ u_ws RX0 TX0 10, w ∈ gt := gt_of _ [400, 402, 404, 406, 408, 410, 412, 414, 416, 418] (by decide +kernel) (by decide +kernel)
theorem inG1 : ∀ w ∈ u_ws RX1 TX1 6, w ∈ gt := gt_of _ [148, 150, 152, 154, 156, 158] (by decide +kernel) (by decide +kernel)
theorem inG2 : ∀ w ∈ u_ws RX2 TX2 6, w ∈ gt := gt_of _ [370, 372, 374, 376, 378, 380] (by decide +kernel) (by decide +kernel)
theorem inG3 : ∀ w ∈ u_ws RX3 TX3 7, w ∈ gt := gt_of _ [271, 273, 275, 277, 279, 281, 283] (by decide +kernel) (by decide +kernel)
theorem inG4 : ∀ w ∈ u_ws RX4 TX4 4, w ∈ gt := gt_of _ [302, 304, 306, 308] (by decide +kernel) (by decide +kernel)
theorem inG5 : ∀ w ∈ u_ws RX5 TX5 7, w ∈ gt := gt_of _ [331, 333, 335, 337, 339, 341, 343] (by decide +kernel) (by decide +kernel)
theorem inG6 : ∀ w ∈ u_ws RX6 TX6 6, w ∈ gt := gt_of _ [242, 244, 246, 248, 250, 252] (by decide +kernel) (by decide +kernel)
theorem inG7 : ∀ w ∈ u_ws RX7 TX7 8, w ∈ gt := gt_of _ [202, 204, 206, 208, 210, 212, 214, 216] (by decide +kernel) (by decide +kernel)
theorem inG8 : ∀ w ∈ u_ws RX8 TX8 4, w ∈ gt := gt_of _ [177, 179, 181, 183] (by decide +kernel) (by decide +kernel)
theorem inG9 : ∀ w ∈ u_ws RX9 TX9 1, w ∈ gt := gt_of _ [1111] (by decide +kernel) (by decide +kernel)
theorem inG10 : ∀ w ∈ u_ws RX10 TX10 10, w ∈ gt := gt_of _ [433, 435, 437, 439, 441, 443, 445, 447, 449, 451] (by decide +kernel) (by decide +kernel)
theorem inG11 : ∀ w ∈ u_ws RX11 TX11 43, w ∈ gt := gt_of _ [1307, 1309, 1311, 1313, 1315, 1317, 1319, 1321, 1323, 1325, 1327, 1329, 1331, 1333, 1335, 1337, 1339, 1341, 1343, 1345, 1347, 1349, 1351, 1353, 1355, 1357, 1359, 1361, 1363, 1365, 1367, 1369, 1371, 1373, 1375, 1377, 1379, 1381, 1383, 1385, 1387, 1389, 1391] (by decide +kernel) (by decide +kernel)
end
section
/-! THE J LAYER: one world for all cells (class and reference), at addresses base + number; J: the machine at a pc, with locals, operands and world in these words, comes to its end -/
abbrev MA : Type := (Nat → Int32) ⊕ (Nat → Int64) ⊕ (Nat → Option Nat)
/-- a cell: an array (number of its kind, length, contents) or an object (number of its kind of vwCl, fields); references are numbers of cells -/
abbrev MC : Type := (Nat × Nat × MA) ⊕ (Nat × List Value)
/-- references: .ref i the i-th cell of the world, .retAddr k the k-th constant array -/
def rv (b : Nat) (ca : Nat → Nat) (v : Value) : Value := match v with
  | .ref i => .ref (b + i)
  | .retAddr k => .ref (ca k)
  | .int x => .int x
  | .long x => .long x
  | .float x => .float x
  | .double x => .double x
  | .null => .null
theorem rv_cat (b : Nat) (ca : Nat → Nat) (v : Value) : (rv b ca v).category = v.category := by cases v <;> rfl
def rl (b : Nat) (ca : Nat → Nat) (lv : List (Nat × Value)) : List (Nat × Value) := lv.map (fun q => (q.1, rv b ca q.2))
theorem rl_at {b : Nat} {ca : Nat → Nat} {lv : List (Nat × Value)} {ls : Array Slot} {nL i j : Nat} {v : Value} (h : lv_has ls nL (rl b ca lv)) (hj : lv[j]? = some (i, v)) : ls[i]? = some (.val (rv b ca v)) := by
  refine lv_at h j (i := i) (v := rv b ca v) ?_
  simp [rl, hj]
theorem rl_filter (b : Nat) (ca : Nat → Nat) (lv : List (Nat × Value)) (f : Nat → Nat → Bool) : (rl b ca lv).filter (fun q => f q.1 q.2.category) = rl b ca (lv.filter (fun q => f q.1 q.2.category)) := by
  induction lv with
  | nil => rfl
  | cons a t ih =>
    have ih' : List.filter (fun q => f q.1 q.2.category) (List.map (fun q => (q.1, rv b ca q.2)) t) = List.map (fun q => (q.1, rv b ca q.2)) (List.filter (fun q => f q.1 q.2.category) t) := ih
    simp only [rl, List.map_cons, List.filter_cons, rv_cat]
    by_cases h : f a.1 a.2.category = true
    · simp only [h, if_true, List.map_cons]
      rw [ih']
    · simp only [h, if_false, Bool.false_eq_true]
      rw [ih']
theorem rl_args (b : Nat) (ca : Nat → Nat) : ∀ (vs : List Value) (i : Nat), lv_args i (vs.map (rv b ca)) = rl b ca (lv_args i vs)
  | [], _ => rfl
  | v :: vs, i => by
    show (i, rv b ca v) :: lv_args (if (rv b ca v).category = 2 then i + 2 else i + 1) (vs.map (rv b ca)) = _
    rw [rv_cat, rl_args b ca vs]
    rfl
theorem rv_sl (b : Nat) (ca : Nat → Nat) (vs : List Value) : (lg_sl (vs.map (rv b ca))).length = (lg_sl vs).length := by
  induction vs with
  | nil => rfl
  | cons v t ih =>
    simp only [lg_sl, List.map_cons, List.flatMap_cons, List.length_append, rv_cat] at ih ⊢
    rw [ih]
    by_cases h : v.category = 2 <;> simp [h]
theorem rv_sum (b : Nat) (ca : Nat → Nat) (st : List Value) : ((st.map (rv b ca)).map fun v => v.category).sum = (st.map fun v => v.category).sum := by
  induction st with
  | nil => rfl
  | cons v t ih => simp only [List.map_cons, List.sum_cons, rv_cat, ih]
def rA (b : Nat) (a : MA) : (Nat → Int32) ⊕ (Nat → Int64) ⊕ (Nat → UInt32) ⊕ (Nat → UInt64) ⊕ (Nat → Option Nat) := match a with
  | .inl f => .inl f
  | .inr (.inl f) => .inr (.inl f)
  | .inr (.inr f) => .inr (.inr (.inr (.inr (fun j => (f j).map (fun i => b + i)))))
def rE (b : Nat) (ca : Nat → Nat) (cA : Nat → ClassId) (c : MC) : va_E := match c with
  | .inl (t, n, a) => .inl (cA t, n, rA b a)
  | .inr (c, fs) => .inr (c, fs.map (rv b ca))
def wz (b : Nat) (ca : Nat → Nat) (cA : Nat → ClassId) (h : List MC) : va_W := h.mapIdx (fun i c => (b + i, rE b ca cA c))
section
variable {b : Nat} {ca : Nat → Nat} {cA : Nat → ClassId} {h : List MC}
theorem wz_len : (wz b ca cA h).length = h.length := List.length_mapIdx
theorem wz_get {i : Nat} {c : MC} (hi : h[i]? = some c) : (wz b ca cA h)[i]? = some (b + i, rE b ca cA c) := by
  simp [wz, List.getElem?_mapIdx, hi]
theorem wz_of {i : Nat} {q : Nat × va_E} (hi : (wz b ca cA h)[i]? = some q) : i < h.length ∧ q.1 = b + i := by
  rw [wz, List.getElem?_mapIdx] at hi
  cases hc : h[i]? with
  | none => rw [hc] at hi; cases hi
  | some c =>
    rw [hc] at hi
    cases hi
    exact ⟨(List.getElem?_eq_some_iff.mp hc).1, rfl⟩
theorem wz_set {i : Nat} {c : MC} : (wz b ca cA h).set i (b + i, rE b ca cA c) = wz b ca cA (h.set i c) := by
  apply List.ext_getElem?
  intro j
  rw [List.getElem?_set, wz, wz, List.getElem?_mapIdx, List.getElem?_mapIdx, List.getElem?_set, List.length_mapIdx]
  by_cases hij : i = j
  · subst hij
    by_cases hl : i < h.length
    · simp [hl]
    · simp [hl]
  · simp [hij]
theorem wz_push {c : MC} : wz b ca cA h ++ [(b + h.length, rE b ca cA c)] = wz b ca cA (h ++ [c]) := by
  rw [wz, wz, List.mapIdx_append]
  simp
theorem wz_D : va_D (fun q => b ≤ q) (wz b ca cA h) := by
  refine ⟨fun i j p q hi hj hpq => ?_, fun k q hk => ?_⟩
  · have h1 := (wz_of hi).2
    have h2 := (wz_of hj).2
    omega
  · have h1 := (wz_of hk).2
    show b ≤ q.1
    omega
end
/-- the kinds of arrays -/
def tz (cA : Nat → ClassId) : List (ClassId × FieldType) := [(cA 0, .byte), (cA 1, .int), (cA 2, .long), (cA 3, .boolean), (cA 4, .object "PondStair$Hill"), (cA 5, .object "PondStair$Told"), (cA 6, .object "PondStair$Works")]
abbrev JK : Type := Nat → Option (Nat × (Nat → Int32))
/-- constant int arrays: below the base, never written -/
def CN (con : JK) (ca : Nat → Nat) (b : Nat) (s : State) : Prop := ∀ (k n : Nat) (f : Nat → Int32), con k = some (n, f) → va_X (ca k) n f s s.heap ∧ ca k < b ∧ b ≤ s.heap.size
/-- the words of nt, at a state -/
def NW (U : State) : Prop := ∀ w ∈ nt, va_Nw w U
theorem NW.warm {s U : State} (hW : s.WarmedH U.vm) (h : NW s) : NW U := by
  intro w hw
  have h1 := h w hw
  have h2 := (List.mem_filter.mp hw).2
  unfold nw at h2
  split at h2
  · exact va_Nw.warmF hW h1
  · exact va_Nw.warmM hW h1
  · exact va_AO.moved hW.alike h1
  · cases h2
theorem NW.same {s U : State} (hv : s.vm = U.vm) (h : NW s) : NW U := by
  intro w hw
  have h1 := h w hw
  have h2 := (List.mem_filter.mp hw).2
  unfold nw at h2
  split at h2
  · exact va_Nw.same rfl hv h1
  · exact va_Nw.same rfl hv h1
  · exact va_AO.moved (by rw [hv]; exact Vm.Alike.refl _) h1
  · cases h2
abbrev JX : Type := Program × Launch × Env × Room × State × MethodId × Array Value × List Frame × Method × Code × Nat × (Nat → Nat) × (Nat → ClassId) × va_G × JK × (State → Prop)
def JO (x : JX) (y : MethodName) (cc : ByteArray) (nL : Nat) (rt : Option FieldType) (d M N L0 : Nat) : Prop := match x with
  | (p, _, _, R, s, m, args, _, meth, c, b, ca, cA, D, con, _) => p.tables.exec = Jvm.exec ∧ c.code = cc ∧ c.maxLocals = nL ∧ s.vm.findClass y.cls = some m.cls ∧ (∀ w ∈ gt, w.before args s = true) ∧ meth.sig.returnType = rt ∧ meth.locks = false ∧ (y.name = "<init>" → meth.name = "<init>") ∧ va_K D vwCl (tz cA) s ∧ s.heap.size = b + L0 ∧ d ≤ R.frames ∧ 38 * d ≤ R.locals ∧ M ≤ R.cells ∧ N ≤ R.slots ∧ CN con ca b s ∧ NW s
/-- at pc, with locals lv, operands st, world h, k cells and n slots made: the run comes to x's end -/
def J (x : JX) (y : MethodName) (cc : ByteArray) (nL : Nat) (rt : Option FieldType) (d M N L0 : Nat) (pc : Nat) (lv : List (Nat × Value)) (st : List Value) (h : List MC) (k n : Nat) : Prop := match x with
  | (p, l, e, R, s, m, args, below, meth, c, b, ca, cA, D, con, Q) => JO (p, l, e, R, s, m, args, below, meth, c, b, ca, cA, D, con, Q) y cc nL rt d M N L0 → ∀ (H : Heap) (locs : List Loc) (ls : Array Slot), lv_has ls nL (rl b ca lv) → va_P D vwCl (wz b ca cA h) H → va_S (fun q => b ≤ q) s.heap H locs → W p l e R s m args below meth c H locs k n Q (F0 m pc ls (st.map (rv b ca)))
/-- a method's start and end in these words -/
def PC (b : Nat) (ca : Nat → Nat) (cA : Nat → ClassId) (D : va_G) (con : JK) (av : List Value) (h : List MC) : Array Value → State → Prop := fun v U => v = (av.map (rv b ca)).toArray ∧ U.heap.size = b + h.length ∧ va_P D vwCl (wz b ca cA h) U.heap ∧ va_K D vwCl (tz cA) U ∧ CN con ca b U ∧ NW U
def QC (b : Nat) (ca : Nat → Nat) (cA : Nat → ClassId) (D : va_G) (Post : Option Value → List MC → Prop) : Array Value → State → Outcome → State → Prop := fun _ st oc t => (∃ (r : Option Value) (h' : List MC), oc = .returned (r.map (rv b ca)) ∧ Post r h' ∧ t.heap.size = b + h'.length ∧ va_P D vwCl (wz b ca cA h') t.heap ∧ va_K D vwCl (tz cA) t) ∧ va_F (fun q => b ≤ q) st t
def RM (d M N : Nat) : Room := { frames := d, cells := M, slots := N, locals := 38 * d }
/-- method y, from arguments av and world h: it ends, and its answer and world meet Post; d frames, M cells and N slots are enough -/
def CT (con0 : JK) (d M N : Nat) (y : MethodName) (cc : ByteArray) (nL : Nat) (rt : Option FieldType) (av : List Value) (h : List MC) (Post : Option Value → List MC → Prop) : Prop :=
  ∀ (l : Launch) (b : Nat) (ca : Nat → Nat) (cA : Nat → ClassId) (D : va_G) (con : JK), (∀ k v, con0 k = some v → con k = some v) → Met l y (.code y cc nL rt :: gt) (RM d M N) (PC b ca cA D con av h) (QC b ca cA D Post) M N (fun q => b ≤ q)
/-- x's end is that of a method with Post -/
def JQ (x : JX) (con0 : JK) (M N : Nat) (Post : Option Value → List MC → Prop) : Prop := match x with
  | (_, _, _, _, s, _, args, below, _, _, b, ca, cA, D, con, Q) => Q = MQ below (QC b ca cA D Post) args s M N (fun q => b ≤ q) ∧ ∀ k v, con0 k = some v → con k = some v
theorem CN.moved {con : JK} {ca : Nat → Nat} {b : Nat} {s U : State} {H : Heap} {locs : List Loc} (hc : CN con ca b s) (hvm : s.vm.Alike U.vm) (hH : U.heap = H) (hS : va_S (fun q => b ≤ q) s.heap H locs) : CN con ca b U := by
  intro k n f hk
  obtain ⟨h1, h2, h3⟩ := hc k n f hk
  refine ⟨(h1.kept (H1 := U.heap) ?_).moved hvm, h2, ?_⟩
  · rw [hH]
    exact hS.2.1 _ (Nat.lt_of_lt_of_le h2 h3) (Nat.not_le.mpr h2)
  · rw [hH]
    exact Nat.le_trans h3 hS.1
theorem PC_blind (b : Nat) (ca : Nat → Nat) (cA : Nat → ClassId) (D : va_G) (con : JK) (av : List Value) (h : List MC) : FrameBlind (PC b ca cA D con av h) := by
  intro a U g mk q
  obtain ⟨q0, q1, q2, q3, q4, q5⟩ := q
  refine ⟨q0, q1, q2, va_K.moved (u := U) (U := U.calling g mk a) (Vm.Alike.refl U.vm) q3, fun k n f hk => ?_, NW.same (s := U) (U := U.calling g mk a) rfl q5⟩
  obtain ⟨r1, r2, r3⟩ := q4 k n f hk
  exact ⟨va_X.moved (u := U) (U := U.calling g mk a) (Vm.Alike.refl U.vm) r1, r2, r3⟩
theorem CT_of {con0 : JK} {d M N : Nat} {y : MethodName} {cc : ByteArray} {nL : Nat} {rt : Option FieldType} {av : List Value} {h : List MC} {Post : Option Value → List MC → Prop} (hy : plainName y.cls = true) (hn : (lg_sl av).length ≤ nL)
    (K : ∀ x : JX, JQ x con0 M N Post → J x y cc nL rt d M N h.length 0 (lv_args 0 av) [] h 0 0) : CT con0 d M N y cc nL rt av h Post := by
  intro l b ca cA D con hcon
  refine Met.ofW (cc := cc) (maxL := nL) (ret := rt) hy rfl ?_
  intro p e s m args below meth c s₁ B hml hv
  obtain ⟨rfl, hsz, hP, hK, hC, hNW⟩ := hv
  have hts := atoms_spec (ws := .code y cc nL rt :: gt) B.pre
  have hl := lv_entry (av.map (rv b ca)) (n := nL) (by rw [rv_sl]; exact hn)
  rw [lg_entry_eq]
  rw [rl_args] at hl
  exact K (p, l, e, (headSpec (.code y cc nL rt :: gt) (RM d M N)).room, s, m, (av.map (rv b ca)).toArray, below, meth, c, b, ca, cA, D, con, MQ below (QC b ca cA D Post) (av.map (rv b ca)).toArray s M N (fun q => b ≤ q)) ⟨rfl, hcon⟩
    ⟨B.exec, B.bytes, hml, findClass_of_methodNamed B.named, fun w h => hts w (List.mem_cons_of_mem _ h), B.returns, B.notSynchronized, fun hi => (name_of_methodNamed B.named B.method).1.trans hi, hK, hsz, Nat.le_refl _, Nat.le_refl _, Nat.le_refl _, Nat.le_refl _, hC, hNW⟩ s.heap [] _ hl hP va_S.rf
section
variable {x : JX} {y : MethodName} {cc : ByteArray} {nL : Nat} {rt : Option FieldType} {d M N L0 : Nat} {pc : Nat} {lv : List (Nat × Value)} {st : List Value} {h : List MC} {k n : Nat}
theorem J_iconst {z : Int} {v : Int32} (hd : decode cc pc = .ok (.iconst z, 1)) (hv : Int32.ofInt z = v) (K : J x y cc nL rt d M N L0 (pc + 1) lv (.int v :: st) h k n) : J x y cc nL rt d M N L0 pc lv st h k n := by
  obtain ⟨p, l, e, R, s, m, args, below, meth, c, b, ca, cA, D, con, Q⟩ := x
  intro O H locs ls hl hP hS
  have hx := O.1
  have hb := O.2.1
  exact lv_iconst hx hb hd hv (K O H locs ls hl hP hS)
theorem J_bipush {z : Int} {v : Int32} (hd : decode cc pc = .ok (.bipush z, 2)) (hv : (Int8.ofInt z).toInt32 = v) (K : J x y cc nL rt d M N L0 (pc + 2) lv (.int v :: st) h k n) : J x y cc nL rt d M N L0 pc lv st h k n := by
  obtain ⟨p, l, e, R, s, m, args, below, meth, c, b, ca, cA, D, con, Q⟩ := x
  intro O H locs ls hl hP hS
  have hx := O.1
  have hb := O.2.1
  exact lv_bipush hx hb hd hv (K O H locs ls hl hP hS)
theorem J_sipush {z : Int} {v : Int32} (hd : decode cc pc = .ok (.sipush z, 3)) (hv : (Int16.ofInt z).toInt32 = v) (K : J x y cc nL rt d M N L0 (pc + 3) lv (.int v :: st) h k n) : J x y cc nL rt d M N L0 pc lv st h k n := by
  obtain ⟨p, l, e, R, s, m, args, below, meth, c, b, ca, cA, D, con, Q⟩ := x
  intro O H locs ls hl hP hS
  have hx := O.1
  have hb := O.2.1
  exact lv_sipush hx hb hd hv (K O H locs ls hl hP hS)
theorem J_lconst {z : Fin 2} {v : Int64} (hd : decode cc pc = .ok (.lconst z, 1)) (hv : Int64.ofNat (z : Nat) = v) (K : J x y cc nL rt d M N L0 (pc + 1) lv (.long v :: st) h k n) : J x y cc nL rt d M N L0 pc lv st h k n := by
  obtain ⟨p, l, e, R, s, m, args, below, meth, c, b, ca, cA, D, con, Q⟩ := x
  intro O H locs ls hl hP hS
  have hx := O.1
  have hb := O.2.1
  exact lv_lconst hx hb hd hv (K O H locs ls hl hP hS)
theorem J_iload_n {q : Fin 4} {i j : Nat} {v : Int32} (hd : decode cc pc = .ok (.iload_n q, 1)) (hi : (q : Nat) = i) (hj : lv[j]? = some (i, .int v)) (K : J x y cc nL rt d M N L0 (pc + 1) lv (.int v :: st) h k n) : J x y cc nL rt d M N L0 pc lv st h k n := by
  obtain ⟨p, l, e, R, s, m, args, below, meth, c, b, ca, cA, D, con, Q⟩ := x
  intro O H locs ls hl hP hS
  have hx := O.1
  have hb := O.2.1
  exact lv_iload_n hx hb hd hi (rl_at hl hj) (K O H locs ls hl hP hS)
theorem J_iload {i j : Nat} {v : Int32} (hd : decode cc pc = .ok (.iload i, 2)) (hj : lv[j]? = some (i, .int v)) (K : J x y cc nL rt d M N L0 (pc + 2) lv (.int v :: st) h k n) : J x y cc nL rt d M N L0 pc lv st h k n := by
  obtain ⟨p, l, e, R, s, m, args, below, meth, c, b, ca, cA, D, con, Q⟩ := x
  intro O H locs ls hl hP hS
  have hx := O.1
  have hb := O.2.1
  exact lv_iload hx hb hd (rl_at hl hj) (K O H locs ls hl hP hS)
theorem J_lload_n {q : Fin 4} {i j : Nat} {v : Int64} (hd : decode cc pc = .ok (.lload_n q, 1)) (hi : (q : Nat) = i) (hj : lv[j]? = some (i, .long v)) (K : J x y cc nL rt d M N L0 (pc + 1) lv (.long v :: st) h k n) : J x y cc nL rt d M N L0 pc lv st h k n := by
  obtain ⟨p, l, e, R, s, m, args, below, meth, c, b, ca, cA, D, con, Q⟩ := x
  intro O H locs ls hl hP hS
  have hx := O.1
  have hb := O.2.1
  exact lv_lload_n hx hb hd hi (rl_at hl hj) (K O H locs ls hl hP hS)
theorem J_lload {i j : Nat} {v : Int64} (hd : decode cc pc = .ok (.lload i, 2)) (hj : lv[j]? = some (i, .long v)) (K : J x y cc nL rt d M N L0 (pc + 2) lv (.long v :: st) h k n) : J x y cc nL rt d M N L0 pc lv st h k n := by
  obtain ⟨p, l, e, R, s, m, args, below, meth, c, b, ca, cA, D, con, Q⟩ := x
  intro O H locs ls hl hP hS
  have hx := O.1
  have hb := O.2.1
  exact lv_lload hx hb hd (rl_at hl hj) (K O H locs ls hl hP hS)
theorem J_aload_n {q : Fin 4} {i j v : Nat} (hd : decode cc pc = .ok (.aload_n q, 1)) (hi : (q : Nat) = i) (hj : lv[j]? = some (i, .ref v)) (K : J x y cc nL rt d M N L0 (pc + 1) lv (.ref v :: st) h k n) : J x y cc nL rt d M N L0 pc lv st h k n := by
  obtain ⟨p, l, e, R, s, m, args, below, meth, c, b, ca, cA, D, con, Q⟩ := x
  intro O H locs ls hl hP hS
  have hx := O.1
  have hb := O.2.1
  exact lv_aload_n hx hb hd hi (rl_at hl hj) (K O H locs ls hl hP hS)
theorem J_aload {i j v : Nat} (hd : decode cc pc = .ok (.aload i, 2)) (hj : lv[j]? = some (i, .ref v)) (K : J x y cc nL rt d M N L0 (pc + 2) lv (.ref v :: st) h k n) : J x y cc nL rt d M N L0 pc lv st h k n := by
  obtain ⟨p, l, e, R, s, m, args, below, meth, c, b, ca, cA, D, con, Q⟩ := x
  intro O H locs ls hl hP hS
  have hx := O.1
  have hb := O.2.1
  exact lv_aload hx hb hd (rl_at hl hj) (K O H locs ls hl hP hS)
theorem J_aload_nC {q : Fin 4} {i j v : Nat} (hd : decode cc pc = .ok (.aload_n q, 1)) (hi : (q : Nat) = i) (hj : lv[j]? = some (i, .retAddr v)) (K : J x y cc nL rt d M N L0 (pc + 1) lv (.retAddr v :: st) h k n) : J x y cc nL rt d M N L0 pc lv st h k n := by
  obtain ⟨p, l, e, R, s, m, args, below, meth, c, b, ca, cA, D, con, Q⟩ := x
  intro O H locs ls hl hP hS
  have hx := O.1
  have hb := O.2.1
  exact lv_aload_n hx hb hd hi (rl_at hl hj) (K O H locs ls hl hP hS)
theorem J_aloadC {i j v : Nat} (hd : decode cc pc = .ok (.aload i, 2)) (hj : lv[j]? = some (i, .retAddr v)) (K : J x y cc nL rt d M N L0 (pc + 2) lv (.retAddr v :: st) h k n) : J x y cc nL rt d M N L0 pc lv st h k n := by
  obtain ⟨p, l, e, R, s, m, args, below, meth, c, b, ca, cA, D, con, Q⟩ := x
  intro O H locs ls hl hP hS
  have hx := O.1
  have hb := O.2.1
  exact lv_aload hx hb hd (rl_at hl hj) (K O H locs ls hl hP hS)
theorem J_istore_n {q : Fin 4} {i : Nat} {v : Int32} {lw : List (Nat × Value)} (hd : decode cc pc = .ok (.istore_n q, 1)) (hi : (q : Nat) = i) (hn : i < nL) (hw : (i, (Value.int v)) :: lv.filter (fun q => !(q.1 == i) && !(q.1 + 1 == i && q.2.category == 2)) = lw) (K : J x y cc nL rt d M N L0 (pc + 1) lw st h k n) : J x y cc nL rt d M N L0 pc lv ((Value.int v) :: st) h k n := by
  obtain ⟨p, l, e, R, s, m, args, below, meth, c, b, ca, cA, D, con, Q⟩ := x
  intro O H locs ls hl hP hS
  have hx := O.1
  have hb := O.2.1
  refine lv_istore_n hx hb hd hi hl hn (lv' := rl b ca lw) ?_ (fun ls' hl' => K O H locs ls' hl' hP hS)
  rw [← hw]
  exact congrArg (List.cons _) (rl_filter b ca lv (fun a c => !(a == i) && !(a + 1 == i && c == 2)))
theorem J_istore {i : Nat} {v : Int32} {lw : List (Nat × Value)} (hd : decode cc pc = .ok (.istore i, 2)) (hn : i < nL) (hw : (i, (Value.int v)) :: lv.filter (fun q => !(q.1 == i) && !(q.1 + 1 == i && q.2.category == 2)) = lw) (K : J x y cc nL rt d M N L0 (pc + 2) lw st h k n) : J x y cc nL rt d M N L0 pc lv ((Value.int v) :: st) h k n := by
  obtain ⟨p, l, e, R, s, m, args, below, meth, c, b, ca, cA, D, con, Q⟩ := x
  intro O H locs ls hl hP hS
  have hx := O.1
  have hb := O.2.1
  refine lv_istore hx hb hd hl hn (lv' := rl b ca lw) ?_ (fun ls' hl' => K O H locs ls' hl' hP hS)
  rw [← hw]
  exact congrArg (List.cons _) (rl_filter b ca lv (fun a c => !(a == i) && !(a + 1 == i && c == 2)))
theorem J_lstore_n {q : Fin 4} {i : Nat} {v : Int64} {lw : List (Nat × Value)} (hd : decode cc pc = .ok (.lstore_n q, 1)) (hi : (q : Nat) = i) (hn : i + 1 < nL) (hw : (i, (Value.long v)) :: lv.filter (fun q => !(q.1 == i) && (!(q.1 == i + 1) && !(q.1 + 1 == i && q.2.category == 2))) = lw) (K : J x y cc nL rt d M N L0 (pc + 1) lw st h k n) : J x y cc nL rt d M N L0 pc lv ((Value.long v) :: st) h k n := by
  obtain ⟨p, l, e, R, s, m, args, below, meth, c, b, ca, cA, D, con, Q⟩ := x
  intro O H locs ls hl hP hS
  have hx := O.1
  have hb := O.2.1
  refine lv_lstore_n hx hb hd hi hl hn (lv' := rl b ca lw) ?_ (fun ls' hl' => K O H locs ls' hl' hP hS)
  rw [← hw]
  exact congrArg (List.cons _) (rl_filter b ca lv (fun a c => !(a == i) && (!(a == i + 1) && !(a + 1 == i && c == 2))))
theorem J_lstore {i : Nat} {v : Int64} {lw : List (Nat × Value)} (hd : decode cc pc = .ok (.lstore i, 2)) (hn : i + 1 < nL) (hw : (i, (Value.long v)) :: lv.filter (fun q => !(q.1 == i) && (!(q.1 == i + 1) && !(q.1 + 1 == i && q.2.category == 2))) = lw) (K : J x y cc nL rt d M N L0 (pc + 2) lw st h k n) : J x y cc nL rt d M N L0 pc lv ((Value.long v) :: st) h k n := by
  obtain ⟨p, l, e, R, s, m, args, below, meth, c, b, ca, cA, D, con, Q⟩ := x
  intro O H locs ls hl hP hS
  have hx := O.1
  have hb := O.2.1
  refine lv_lstore hx hb hd hl hn (lv' := rl b ca lw) ?_ (fun ls' hl' => K O H locs ls' hl' hP hS)
  rw [← hw]
  exact congrArg (List.cons _) (rl_filter b ca lv (fun a c => !(a == i) && (!(a == i + 1) && !(a + 1 == i && c == 2))))
theorem J_astore_n {q : Fin 4} {i : Nat} {v : Nat} {lw : List (Nat × Value)} (hd : decode cc pc = .ok (.astore_n q, 1)) (hi : (q : Nat) = i) (hn : i < nL) (hw : (i, (Value.ref v)) :: lv.filter (fun q => !(q.1 == i) && !(q.1 + 1 == i && q.2.category == 2)) = lw) (K : J x y cc nL rt d M N L0 (pc + 1) lw st h k n) : J x y cc nL rt d M N L0 pc lv ((Value.ref v) :: st) h k n := by
  obtain ⟨p, l, e, R, s, m, args, below, meth, c, b, ca, cA, D, con, Q⟩ := x
  intro O H locs ls hl hP hS
  have hx := O.1
  have hb := O.2.1
  refine lv_astore_n hx hb hd hi hl hn (lv' := rl b ca lw) ?_ (fun ls' hl' => K O H locs ls' hl' hP hS)
  rw [← hw]
  exact congrArg (List.cons _) (rl_filter b ca lv (fun a c => !(a == i) && !(a + 1 == i && c == 2)))
theorem J_astore {i : Nat} {v : Nat} {lw : List (Nat × Value)} (hd : decode cc pc = .ok (.astore i, 2)) (hn : i < nL) (hw : (i, (Value.ref v)) :: lv.filter (fun q => !(q.1 == i) && !(q.1 + 1 == i && q.2.category == 2)) = lw) (K : J x y cc nL rt d M N L0 (pc + 2) lw st h k n) : J x y cc nL rt d M N L0 pc lv ((Value.ref v) :: st) h k n := by
  obtain ⟨p, l, e, R, s, m, args, below, meth, c, b, ca, cA, D, con, Q⟩ := x
  intro O H locs ls hl hP hS
  have hx := O.1
  have hb := O.2.1
  refine lv_astore hx hb hd hl hn (lv' := rl b ca lw) ?_ (fun ls' hl' => K O H locs ls' hl' hP hS)
  rw [← hw]
  exact congrArg (List.cons _) (rl_filter b ca lv (fun a c => !(a == i) && !(a + 1 == i && c == 2)))
theorem J_iinc {i j : Nat} {z : Int} {u v : Int32} {lw : List (Nat × Value)} (hd : decode cc pc = .ok (.iinc i z, 3)) (hj : lv[j]? = some (i, .int u)) (hv : u + Int32.ofInt z = v) (hn : i < nL) (hw : (i, Value.int v) :: lv.filter (fun q => !(q.1 == i) && !(q.1 + 1 == i && q.2.category == 2)) = lw) (K : J x y cc nL rt d M N L0 (pc + 3) lw st h k n) : J x y cc nL rt d M N L0 pc lv st h k n := by
  obtain ⟨p, l, e, R, s, m, args, below, meth, c, b, ca, cA, D, con, Q⟩ := x
  intro O H locs ls hl hP hS
  have hx := O.1
  have hb := O.2.1
  refine lv_iinc hx hb hd hl (k := j) (x := u) (by simp [rl, hj, rv]) hv hn (lv' := rl b ca lw) ?_ (fun ls' hl' => K O H locs ls' hl' hP hS)
  rw [← hw]
  exact congrArg (List.cons _) (rl_filter b ca lv (fun a c => !(a == i) && !(a + 1 == i && c == 2)))
theorem J_iadd {u v : Int32} (hd : decode cc pc = .ok (.iadd, 1))  (K : J x y cc nL rt d M N L0 (pc + 1) lv (.int (u + v) :: st) h k n) : J x y cc nL rt d M N L0 pc lv (.int v :: .int u :: st) h k n := by
  obtain ⟨p, l, e, R, s, m, args, below, meth, c, b, ca, cA, D, con, Q⟩ := x
  intro O H locs ls hl hP hS
  have hx := O.1
  have hb := O.2.1
  exact lv_iadd hx hb hd  (K O H locs ls hl hP hS)
theorem J_isub {u v : Int32} (hd : decode cc pc = .ok (.isub, 1))  (K : J x y cc nL rt d M N L0 (pc + 1) lv (.int (u - v) :: st) h k n) : J x y cc nL rt d M N L0 pc lv (.int v :: .int u :: st) h k n := by
  obtain ⟨p, l, e, R, s, m, args, below, meth, c, b, ca, cA, D, con, Q⟩ := x
  intro O H locs ls hl hP hS
  have hx := O.1
  have hb := O.2.1
  exact lv_isub hx hb hd  (K O H locs ls hl hP hS)
theorem J_imul {u v : Int32} (hd : decode cc pc = .ok (.imul, 1))  (K : J x y cc nL rt d M N L0 (pc + 1) lv (.int (u * v) :: st) h k n) : J x y cc nL rt d M N L0 pc lv (.int v :: .int u :: st) h k n := by
  obtain ⟨p, l, e, R, s, m, args, below, meth, c, b, ca, cA, D, con, Q⟩ := x
  intro O H locs ls hl hP hS
  have hx := O.1
  have hb := O.2.1
  exact lv_imul hx hb hd  (K O H locs ls hl hP hS)
theorem J_iand {u v : Int32} (hd : decode cc pc = .ok (.iand, 1))  (K : J x y cc nL rt d M N L0 (pc + 1) lv (.int (u &&& v) :: st) h k n) : J x y cc nL rt d M N L0 pc lv (.int v :: .int u :: st) h k n := by
  obtain ⟨p, l, e, R, s, m, args, below, meth, c, b, ca, cA, D, con, Q⟩ := x
  intro O H locs ls hl hP hS
  have hx := O.1
  have hb := O.2.1
  exact lv_iand hx hb hd  (K O H locs ls hl hP hS)
theorem J_ior {u v : Int32} (hd : decode cc pc = .ok (.ior, 1))  (K : J x y cc nL rt d M N L0 (pc + 1) lv (.int (u ||| v) :: st) h k n) : J x y cc nL rt d M N L0 pc lv (.int v :: .int u :: st) h k n := by
  obtain ⟨p, l, e, R, s, m, args, below, meth, c, b, ca, cA, D, con, Q⟩ := x
  intro O H locs ls hl hP hS
  have hx := O.1
  have hb := O.2.1
  exact lv_ior hx hb hd  (K O H locs ls hl hP hS)
theorem J_ixor {u v : Int32} (hd : decode cc pc = .ok (.ixor, 1))  (K : J x y cc nL rt d M N L0 (pc + 1) lv (.int (u ^^^ v) :: st) h k n) : J x y cc nL rt d M N L0 pc lv (.int v :: .int u :: st) h k n := by
  obtain ⟨p, l, e, R, s, m, args, below, meth, c, b, ca, cA, D, con, Q⟩ := x
  intro O H locs ls hl hP hS
  have hx := O.1
  have hb := O.2.1
  exact lv_ixor hx hb hd  (K O H locs ls hl hP hS)
theorem J_ishl {u v : Int32} (hd : decode cc pc = .ok (.ishl, 1))  (K : J x y cc nL rt d M N L0 (pc + 1) lv (.int (u <<< (v &&& 31)) :: st) h k n) : J x y cc nL rt d M N L0 pc lv (.int v :: .int u :: st) h k n := by
  obtain ⟨p, l, e, R, s, m, args, below, meth, c, b, ca, cA, D, con, Q⟩ := x
  intro O H locs ls hl hP hS
  have hx := O.1
  have hb := O.2.1
  exact lv_ishl hx hb hd  (K O H locs ls hl hP hS)
theorem J_ishr {u v : Int32} (hd : decode cc pc = .ok (.ishr, 1))  (K : J x y cc nL rt d M N L0 (pc + 1) lv (.int (u >>> (v &&& 31)) :: st) h k n) : J x y cc nL rt d M N L0 pc lv (.int v :: .int u :: st) h k n := by
  obtain ⟨p, l, e, R, s, m, args, below, meth, c, b, ca, cA, D, con, Q⟩ := x
  intro O H locs ls hl hP hS
  have hx := O.1
  have hb := O.2.1
  exact lv_ishr hx hb hd  (K O H locs ls hl hP hS)
theorem J_idiv {u v : Int32} (hd : decode cc pc = .ok (.idiv, 1)) (hne : ¬ v = 0) (K : J x y cc nL rt d M N L0 (pc + 1) lv (.int (u / v) :: st) h k n) : J x y cc nL rt d M N L0 pc lv (.int v :: .int u :: st) h k n := by
  obtain ⟨p, l, e, R, s, m, args, below, meth, c, b, ca, cA, D, con, Q⟩ := x
  intro O H locs ls hl hP hS
  have hx := O.1
  have hb := O.2.1
  exact lv_idiv hx hb hd hne (K O H locs ls hl hP hS)
theorem J_irem {u v : Int32} (hd : decode cc pc = .ok (.irem, 1)) (hne : ¬ v = 0) (K : J x y cc nL rt d M N L0 (pc + 1) lv (.int (u - u / v * v) :: st) h k n) : J x y cc nL rt d M N L0 pc lv (.int v :: .int u :: st) h k n := by
  obtain ⟨p, l, e, R, s, m, args, below, meth, c, b, ca, cA, D, con, Q⟩ := x
  intro O H locs ls hl hP hS
  have hx := O.1
  have hb := O.2.1
  exact lv_irem hx hb hd hne (K O H locs ls hl hP hS)
theorem J_iushr {u v z : Int32} (hd : decode cc pc = .ok (.iushr, 1)) (hv : (u.toUInt32 >>> (v.toUInt32 &&& Int32.toUInt32 31)).toInt32 = z) (K : J x y cc nL rt d M N L0 (pc + 1) lv (.int z :: st) h k n) : J x y cc nL rt d M N L0 pc lv (.int v :: .int u :: st) h k n := by
  obtain ⟨p, l, e, R, s, m, args, below, meth, c, b, ca, cA, D, con, Q⟩ := x
  intro O H locs ls hl hP hS
  have hx := O.1
  have hb := O.2.1
  exact lv_iushr hx hb hd hv (K O H locs ls hl hP hS)
theorem J_ladd {u v : Int64} (hd : decode cc pc = .ok (.ladd, 1))  (K : J x y cc nL rt d M N L0 (pc + 1) lv (.long (u + v) :: st) h k n) : J x y cc nL rt d M N L0 pc lv (.long v :: .long u :: st) h k n := by
  obtain ⟨p, l, e, R, s, m, args, below, meth, c, b, ca, cA, D, con, Q⟩ := x
  intro O H locs ls hl hP hS
  have hx := O.1
  have hb := O.2.1
  exact lv_ladd hx hb hd  (K O H locs ls hl hP hS)
theorem J_lsub {u v : Int64} (hd : decode cc pc = .ok (.lsub, 1))  (K : J x y cc nL rt d M N L0 (pc + 1) lv (.long (u - v) :: st) h k n) : J x y cc nL rt d M N L0 pc lv (.long v :: .long u :: st) h k n := by
  obtain ⟨p, l, e, R, s, m, args, below, meth, c, b, ca, cA, D, con, Q⟩ := x
  intro O H locs ls hl hP hS
  have hx := O.1
  have hb := O.2.1
  exact lv_lsub hx hb hd  (K O H locs ls hl hP hS)
theorem J_lmul {u v : Int64} (hd : decode cc pc = .ok (.lmul, 1))  (K : J x y cc nL rt d M N L0 (pc + 1) lv (.long (u * v) :: st) h k n) : J x y cc nL rt d M N L0 pc lv (.long v :: .long u :: st) h k n := by
  obtain ⟨p, l, e, R, s, m, args, below, meth, c, b, ca, cA, D, con, Q⟩ := x
  intro O H locs ls hl hP hS
  have hx := O.1
  have hb := O.2.1
  exact lv_lmul hx hb hd  (K O H locs ls hl hP hS)
theorem J_lor {u v : Int64} (hd : decode cc pc = .ok (.lor, 1))  (K : J x y cc nL rt d M N L0 (pc + 1) lv (.long (u ||| v) :: st) h k n) : J x y cc nL rt d M N L0 pc lv (.long v :: .long u :: st) h k n := by
  obtain ⟨p, l, e, R, s, m, args, below, meth, c, b, ca, cA, D, con, Q⟩ := x
  intro O H locs ls hl hP hS
  have hx := O.1
  have hb := O.2.1
  exact lv_lor hx hb hd  (K O H locs ls hl hP hS)
theorem J_ldiv {u v : Int64} (hd : decode cc pc = .ok (.ldiv, 1)) (hne : ¬ v = 0) (K : J x y cc nL rt d M N L0 (pc + 1) lv (.long (u / v) :: st) h k n) : J x y cc nL rt d M N L0 pc lv (.long v :: .long u :: st) h k n := by
  obtain ⟨p, l, e, R, s, m, args, below, meth, c, b, ca, cA, D, con, Q⟩ := x
  intro O H locs ls hl hP hS
  have hx := O.1
  have hb := O.2.1
  exact lv_ldiv hx hb hd hne (K O H locs ls hl hP hS)
theorem J_lrem {u v : Int64} (hd : decode cc pc = .ok (.lrem, 1)) (hne : ¬ v = 0) (K : J x y cc nL rt d M N L0 (pc + 1) lv (.long (u - u / v * v) :: st) h k n) : J x y cc nL rt d M N L0 pc lv (.long v :: .long u :: st) h k n := by
  obtain ⟨p, l, e, R, s, m, args, below, meth, c, b, ca, cA, D, con, Q⟩ := x
  intro O H locs ls hl hP hS
  have hx := O.1
  have hb := O.2.1
  exact lv_lrem hx hb hd hne (K O H locs ls hl hP hS)
theorem J_lshl {u z : Int64} {v : Int32} (hd : decode cc pc = .ok (.lshl, 1)) (hv : u <<< (v.toInt64 &&& 63) = z) (K : J x y cc nL rt d M N L0 (pc + 1) lv (.long z :: st) h k n) : J x y cc nL rt d M N L0 pc lv (.int v :: .long u :: st) h k n := by
  obtain ⟨p, l, e, R, s, m, args, below, meth, c, b, ca, cA, D, con, Q⟩ := x
  intro O H locs ls hl hP hS
  have hx := O.1
  have hb := O.2.1
  exact lv_lshl hx hb hd hv (K O H locs ls hl hP hS)
theorem J_i2l {u : Int32} {z : Int64} (hd : decode cc pc = .ok (.i2l, 1)) (hv : u.toInt64 = z) (K : J x y cc nL rt d M N L0 (pc + 1) lv (.long z :: st) h k n) : J x y cc nL rt d M N L0 pc lv (.int u :: st) h k n := by
  obtain ⟨p, l, e, R, s, m, args, below, meth, c, b, ca, cA, D, con, Q⟩ := x
  intro O H locs ls hl hP hS
  have hx := O.1
  have hb := O.2.1
  exact lv_i2l hx hb hd hv (K O H locs ls hl hP hS)
theorem J_l2i {u : Int64} {z : Int32} (hd : decode cc pc = .ok (.l2i, 1)) (hv : u.toInt32 = z) (K : J x y cc nL rt d M N L0 (pc + 1) lv (.int z :: st) h k n) : J x y cc nL rt d M N L0 pc lv (.long u :: st) h k n := by
  obtain ⟨p, l, e, R, s, m, args, below, meth, c, b, ca, cA, D, con, Q⟩ := x
  intro O H locs ls hl hP hS
  have hx := O.1
  have hb := O.2.1
  exact lv_l2i hx hb hd hv (K O H locs ls hl hP hS)
theorem J_i2b {u z : Int32} (hd : decode cc pc = .ok (.i2b, 1)) (hv : u.toInt8.toInt32 = z) (K : J x y cc nL rt d M N L0 (pc + 1) lv (.int z :: st) h k n) : J x y cc nL rt d M N L0 pc lv (.int u :: st) h k n := by
  obtain ⟨p, l, e, R, s, m, args, below, meth, c, b, ca, cA, D, con, Q⟩ := x
  intro O H locs ls hl hP hS
  have hx := O.1
  have hb := O.2.1
  exact lv_i2b hx hb hd hv (K O H locs ls hl hP hS)
theorem J_lcmp {u v : Int64} (hd : decode cc pc = .ok (.lcmp, 1))  (K : J x y cc nL rt d M N L0 (pc + 1) lv (.int (lg_cmp u v) :: st) h k n) : J x y cc nL rt d M N L0 pc lv (.long v :: .long u :: st) h k n := by
  obtain ⟨p, l, e, R, s, m, args, below, meth, c, b, ca, cA, D, con, Q⟩ := x
  intro O H locs ls hl hP hS
  have hx := O.1
  have hb := O.2.1
  exact W.lcmp hx hb hd  (K O H locs ls hl hP hS)
theorem J_dup {v : Value} (hd : decode cc pc = .ok (.dup, 1)) (hc : v.category = 1) (K : J x y cc nL rt d M N L0 (pc + 1) lv (v :: v :: st) h k n) : J x y cc nL rt d M N L0 pc lv (v :: st) h k n := by
  obtain ⟨p, l, e, R, s, m, args, below, meth, c, b, ca, cA, D, con, Q⟩ := x
  intro O H locs ls hl hP hS
  have hx := O.1
  have hb := O.2.1
  exact lv_dup hx hb hd ((rv_cat _ _ _).trans hc) (K O H locs ls hl hP hS)
theorem J_pop {v : Value} (hd : decode cc pc = .ok (.pop, 1)) (hc : v.category = 1) (K : J x y cc nL rt d M N L0 (pc + 1) lv st h k n) : J x y cc nL rt d M N L0 pc lv (v :: st) h k n := by
  obtain ⟨p, l, e, R, s, m, args, below, meth, c, b, ca, cA, D, con, Q⟩ := x
  intro O H locs ls hl hP hS
  have hx := O.1
  have hb := O.2.1
  exact lv_pop hx hb hd ((rv_cat _ _ _).trans hc) (K O H locs ls hl hP hS)
theorem J_dup2_11 {u v : Value} (hd : decode cc pc = .ok (.dup2, 1)) (hv : v.category = 1) (hu : u.category = 1) (K : J x y cc nL rt d M N L0 (pc + 1) lv (v :: u :: v :: u :: st) h k n) : J x y cc nL rt d M N L0 pc lv (v :: u :: st) h k n := by
  obtain ⟨p, l, e, R, s, m, args, below, meth, c, b, ca, cA, D, con, Q⟩ := x
  intro O H locs ls hl hP hS
  have hx := O.1
  have hb := O.2.1
  exact lv_dup2_11 hx hb hd ((rv_cat _ _ _).trans hv) ((rv_cat _ _ _).trans hu) (K O H locs ls hl hP hS)
theorem J_dup2_2 {v : Value} (hd : decode cc pc = .ok (.dup2, 1)) (hc : v.category = 2) (K : J x y cc nL rt d M N L0 (pc + 1) lv (v :: v :: st) h k n) : J x y cc nL rt d M N L0 pc lv (v :: st) h k n := by
  obtain ⟨p, l, e, R, s, m, args, below, meth, c, b, ca, cA, D, con, Q⟩ := x
  intro O H locs ls hl hP hS
  have hx := O.1
  have hb := O.2.1
  exact lv_dup2_2 hx hb hd ((rv_cat _ _ _).trans hc) (K O H locs ls hl hP hS)
theorem J_pop2_2 {v : Value} (hd : decode cc pc = .ok (.pop2, 1)) (hc : v.category = 2) (K : J x y cc nL rt d M N L0 (pc + 1) lv st h k n) : J x y cc nL rt d M N L0 pc lv (v :: st) h k n := by
  obtain ⟨p, l, e, R, s, m, args, below, meth, c, b, ca, cA, D, con, Q⟩ := x
  intro O H locs ls hl hP hS
  have hx := O.1
  have hb := O.2.1
  exact lv_pop2_2 hx hb hd ((rv_cat _ _ _).trans hc) (K O H locs ls hl hP hS)
theorem J_if_eq {u : Int32} {off : Int} {tgt : Nat} (hd : decode cc pc = .ok (.ifCond .eq off, 3)) (ht : (pc : Int) + off = (tgt : Int)) (K1 : u = 0 → J x y cc nL rt d M N L0 tgt lv st h k n) (K2 : ¬ (u = 0) → J x y cc nL rt d M N L0 (pc + 3) lv st h k n) : J x y cc nL rt d M N L0 pc lv (.int u :: st) h k n := by
  obtain ⟨p, l, e, R, s, m, args, below, meth, c, b, ca, cA, D, con, Q⟩ := x
  intro O H locs ls hl hP hS
  have hx := O.1
  have hb := O.2.1
  exact lv_if_eq hx hb hd ht (fun q => K1 q O H locs ls hl hP hS) (fun q => K2 q O H locs ls hl hP hS)
theorem J_icmp_eq {u v : Int32} {off : Int} {tgt : Nat} (hd : decode cc pc = .ok (.if_icmp .eq off, 3)) (ht : (pc : Int) + off = (tgt : Int)) (K1 : u = v → J x y cc nL rt d M N L0 tgt lv st h k n) (K2 : ¬ (u = v) → J x y cc nL rt d M N L0 (pc + 3) lv st h k n) : J x y cc nL rt d M N L0 pc lv (.int v :: .int u :: st) h k n := by
  obtain ⟨p, l, e, R, s, m, args, below, meth, c, b, ca, cA, D, con, Q⟩ := x
  intro O H locs ls hl hP hS
  have hx := O.1
  have hb := O.2.1
  exact lv_icmp_eq hx hb hd ht (fun q => K1 q O H locs ls hl hP hS) (fun q => K2 q O H locs ls hl hP hS)
theorem J_if_ne {u : Int32} {off : Int} {tgt : Nat} (hd : decode cc pc = .ok (.ifCond .ne off, 3)) (ht : (pc : Int) + off = (tgt : Int)) (K1 : ¬ u = 0 → J x y cc nL rt d M N L0 tgt lv st h k n) (K2 : u = 0 → J x y cc nL rt d M N L0 (pc + 3) lv st h k n) : J x y cc nL rt d M N L0 pc lv (.int u :: st) h k n := by
  obtain ⟨p, l, e, R, s, m, args, below, meth, c, b, ca, cA, D, con, Q⟩ := x
  intro O H locs ls hl hP hS
  have hx := O.1
  have hb := O.2.1
  exact lv_if_ne hx hb hd ht (fun q => K1 q O H locs ls hl hP hS) (fun q => K2 q O H locs ls hl hP hS)
theorem J_icmp_ne {u v : Int32} {off : Int} {tgt : Nat} (hd : decode cc pc = .ok (.if_icmp .ne off, 3)) (ht : (pc : Int) + off = (tgt : Int)) (K1 : ¬ u = v → J x y cc nL rt d M N L0 tgt lv st h k n) (K2 : u = v → J x y cc nL rt d M N L0 (pc + 3) lv st h k n) : J x y cc nL rt d M N L0 pc lv (.int v :: .int u :: st) h k n := by
  obtain ⟨p, l, e, R, s, m, args, below, meth, c, b, ca, cA, D, con, Q⟩ := x
  intro O H locs ls hl hP hS
  have hx := O.1
  have hb := O.2.1
  exact lv_icmp_ne hx hb hd ht (fun q => K1 q O H locs ls hl hP hS) (fun q => K2 q O H locs ls hl hP hS)
theorem J_if_lt {u : Int32} {off : Int} {tgt : Nat} (hd : decode cc pc = .ok (.ifCond .lt off, 3)) (ht : (pc : Int) + off = (tgt : Int)) (K1 : u < 0 → J x y cc nL rt d M N L0 tgt lv st h k n) (K2 : ¬ (u < 0) → J x y cc nL rt d M N L0 (pc + 3) lv st h k n) : J x y cc nL rt d M N L0 pc lv (.int u :: st) h k n := by
  obtain ⟨p, l, e, R, s, m, args, below, meth, c, b, ca, cA, D, con, Q⟩ := x
  intro O H locs ls hl hP hS
  have hx := O.1
  have hb := O.2.1
  exact lv_if_lt hx hb hd ht (fun q => K1 q O H locs ls hl hP hS) (fun q => K2 q O H locs ls hl hP hS)
theorem J_icmp_lt {u v : Int32} {off : Int} {tgt : Nat} (hd : decode cc pc = .ok (.if_icmp .lt off, 3)) (ht : (pc : Int) + off = (tgt : Int)) (K1 : u < v → J x y cc nL rt d M N L0 tgt lv st h k n) (K2 : ¬ (u < v) → J x y cc nL rt d M N L0 (pc + 3) lv st h k n) : J x y cc nL rt d M N L0 pc lv (.int v :: .int u :: st) h k n := by
  obtain ⟨p, l, e, R, s, m, args, below, meth, c, b, ca, cA, D, con, Q⟩ := x
  intro O H locs ls hl hP hS
  have hx := O.1
  have hb := O.2.1
  exact lv_icmp_lt hx hb hd ht (fun q => K1 q O H locs ls hl hP hS) (fun q => K2 q O H locs ls hl hP hS)
theorem J_if_ge {u : Int32} {off : Int} {tgt : Nat} (hd : decode cc pc = .ok (.ifCond .ge off, 3)) (ht : (pc : Int) + off = (tgt : Int)) (K1 : 0 ≤ u → J x y cc nL rt d M N L0 tgt lv st h k n) (K2 : ¬ (0 ≤ u) → J x y cc nL rt d M N L0 (pc + 3) lv st h k n) : J x y cc nL rt d M N L0 pc lv (.int u :: st) h k n := by
  obtain ⟨p, l, e, R, s, m, args, below, meth, c, b, ca, cA, D, con, Q⟩ := x
  intro O H locs ls hl hP hS
  have hx := O.1
  have hb := O.2.1
  exact lv_if_ge hx hb hd ht (fun q => K1 q O H locs ls hl hP hS) (fun q => K2 q O H locs ls hl hP hS)
theorem J_icmp_ge {u v : Int32} {off : Int} {tgt : Nat} (hd : decode cc pc = .ok (.if_icmp .ge off, 3)) (ht : (pc : Int) + off = (tgt : Int)) (K1 : v ≤ u → J x y cc nL rt d M N L0 tgt lv st h k n) (K2 : ¬ (v ≤ u) → J x y cc nL rt d M N L0 (pc + 3) lv st h k n) : J x y cc nL rt d M N L0 pc lv (.int v :: .int u :: st) h k n := by
  obtain ⟨p, l, e, R, s, m, args, below, meth, c, b, ca, cA, D, con, Q⟩ := x
  intro O H locs ls hl hP hS
  have hx := O.1
  have hb := O.2.1
  exact lv_icmp_ge hx hb hd ht (fun q => K1 q O H locs ls hl hP hS) (fun q => K2 q O H locs ls hl hP hS)
theorem J_if_gt {u : Int32} {off : Int} {tgt : Nat} (hd : decode cc pc = .ok (.ifCond .gt off, 3)) (ht : (pc : Int) + off = (tgt : Int)) (K1 : 0 < u → J x y cc nL rt d M N L0 tgt lv st h k n) (K2 : ¬ (0 < u) → J x y cc nL rt d M N L0 (pc + 3) lv st h k n) : J x y cc nL rt d M N L0 pc lv (.int u :: st) h k n := by
  obtain ⟨p, l, e, R, s, m, args, below, meth, c, b, ca, cA, D, con, Q⟩ := x
  intro O H locs ls hl hP hS
  have hx := O.1
  have hb := O.2.1
  exact lv_if_gt hx hb hd ht (fun q => K1 q O H locs ls hl hP hS) (fun q => K2 q O H locs ls hl hP hS)
theorem J_icmp_gt {u v : Int32} {off : Int} {tgt : Nat} (hd : decode cc pc = .ok (.if_icmp .gt off, 3)) (ht : (pc : Int) + off = (tgt : Int)) (K1 : v < u → J x y cc nL rt d M N L0 tgt lv st h k n) (K2 : ¬ (v < u) → J x y cc nL rt d M N L0 (pc + 3) lv st h k n) : J x y cc nL rt d M N L0 pc lv (.int v :: .int u :: st) h k n := by
  obtain ⟨p, l, e, R, s, m, args, below, meth, c, b, ca, cA, D, con, Q⟩ := x
  intro O H locs ls hl hP hS
  have hx := O.1
  have hb := O.2.1
  exact lv_icmp_gt hx hb hd ht (fun q => K1 q O H locs ls hl hP hS) (fun q => K2 q O H locs ls hl hP hS)
theorem J_if_le {u : Int32} {off : Int} {tgt : Nat} (hd : decode cc pc = .ok (.ifCond .le off, 3)) (ht : (pc : Int) + off = (tgt : Int)) (K1 : u ≤ 0 → J x y cc nL rt d M N L0 tgt lv st h k n) (K2 : ¬ (u ≤ 0) → J x y cc nL rt d M N L0 (pc + 3) lv st h k n) : J x y cc nL rt d M N L0 pc lv (.int u :: st) h k n := by
  obtain ⟨p, l, e, R, s, m, args, below, meth, c, b, ca, cA, D, con, Q⟩ := x
  intro O H locs ls hl hP hS
  have hx := O.1
  have hb := O.2.1
  exact lv_if_le hx hb hd ht (fun q => K1 q O H locs ls hl hP hS) (fun q => K2 q O H locs ls hl hP hS)
theorem J_icmp_le {u v : Int32} {off : Int} {tgt : Nat} (hd : decode cc pc = .ok (.if_icmp .le off, 3)) (ht : (pc : Int) + off = (tgt : Int)) (K1 : u ≤ v → J x y cc nL rt d M N L0 tgt lv st h k n) (K2 : ¬ (u ≤ v) → J x y cc nL rt d M N L0 (pc + 3) lv st h k n) : J x y cc nL rt d M N L0 pc lv (.int v :: .int u :: st) h k n := by
  obtain ⟨p, l, e, R, s, m, args, below, meth, c, b, ca, cA, D, con, Q⟩ := x
  intro O H locs ls hl hP hS
  have hx := O.1
  have hb := O.2.1
  exact lv_icmp_le hx hb hd ht (fun q => K1 q O H locs ls hl hP hS) (fun q => K2 q O H locs ls hl hP hS)
theorem J_goto {off : Int} {tgt : Nat} (hd : decode cc pc = .ok (.goto off, 3)) (ht : (pc : Int) + off = (tgt : Int)) (K : J x y cc nL rt d M N L0 tgt lv st h k n) : J x y cc nL rt d M N L0 pc lv st h k n := by
  obtain ⟨p, l, e, R, s, m, args, below, meth, c, b, ca, cA, D, con, Q⟩ := x
  intro O H locs ls hl hP hS
  have hx := O.1
  have hb := O.2.1
  exact lv_goto hx hb hd ht (K O H locs ls hl hP hS)
theorem J_tableIn {dflt lo hi : Int} {offs : Array Int} {len : Nat} {u : Int32} {off : Int} {tgt : Nat} (hd : decode cc pc = .ok (.tableswitch dflt lo hi offs, len)) (h1 : ¬ u.toInt < lo) (h2 : ¬ hi < u.toInt) (ho : offs[(u.toInt - lo).toNat]? = some off) (ht : (pc : Int) + off = (tgt : Int)) (K : J x y cc nL rt d M N L0 tgt lv st h k n) : J x y cc nL rt d M N L0 pc lv (.int u :: st) h k n := by
  obtain ⟨p, l, e, R, s, m, args, below, meth, c, b, ca, cA, D, con, Q⟩ := x
  intro O H locs ls hl hP hS
  have hx := O.1
  have hb := O.2.1
  exact lv_tableIn hx hb hd h1 h2 ho ht (K O H locs ls hl hP hS)
theorem J_tableOut {dflt lo hi : Int} {offs : Array Int} {len : Nat} {u : Int32} {tgt : Nat} (hd : decode cc pc = .ok (.tableswitch dflt lo hi offs, len)) (h1 : u.toInt < lo ∨ hi < u.toInt) (ht : (pc : Int) + dflt = (tgt : Int)) (K : J x y cc nL rt d M N L0 tgt lv st h k n) : J x y cc nL rt d M N L0 pc lv (.int u :: st) h k n := by
  obtain ⟨p, l, e, R, s, m, args, below, meth, c, b, ca, cA, D, con, Q⟩ := x
  intro O H locs ls hl hP hS
  have hx := O.1
  have hb := O.2.1
  exact lv_tableOut hx hb hd h1 ht (K O H locs ls hl hP hS)
theorem J_lookup {dflt : Int} {ps : Array (Int × Int)} {len : Nat} {u : Int32} {off : Int} {tgt : Nat} (hd : decode cc pc = .ok (.lookupswitch dflt ps, len)) (hp : (ps.toList.zip (ps.toList.drop 1)).all (fun (a, next) => a.1 < next.1) = true) (ho : Op.lookupswitch.offset ps.toList dflt u.toInt = off) (ht : (pc : Int) + off = (tgt : Int)) (K : J x y cc nL rt d M N L0 tgt lv st h k n) : J x y cc nL rt d M N L0 pc lv (.int u :: st) h k n := by
  obtain ⟨p, l, e, R, s, m, args, below, meth, c, b, ca, cA, D, con, Q⟩ := x
  intro O H locs ls hl hP hS
  have hx := O.1
  have hb := O.2.1
  exact lv_lookup hx hb hd hp ho ht (K O H locs ls hl hP hS)
theorem J_ldc {i : Nat} {v : Int32} (hd : decode cc pc = .ok (.ldc i, 2)) (hc : Cond.constant y.cls i v ∈ gt) (K : J x y cc nL rt d M N L0 (pc + 2) lv (.int v :: st) h k n) : J x y cc nL rt d M N L0 pc lv st h k n := by
  obtain ⟨p, l, e, R, s, m, args, below, meth, c, b, ca, cA, D, con, Q⟩ := x
  intro O H locs ls hl hP hS
  have hx := O.1
  have hb := O.2.1
  exact lv_ldc hx hb O.2.2.2.1 (O.2.2.2.2.1 _ hc) hd (K O H locs ls hl hP hS)
theorem J_ldc2 {i : Nat} {v : Int64} (hd : decode cc pc = .ok (.ldc2_w i, 3)) (hc : Cond.constantLong y.cls i v ∈ gt) (K : J x y cc nL rt d M N L0 (pc + 3) lv (.long v :: st) h k n) : J x y cc nL rt d M N L0 pc lv st h k n := by
  obtain ⟨p, l, e, R, s, m, args, below, meth, c, b, ca, cA, D, con, Q⟩ := x
  intro O H locs ls hl hP hS
  have hx := O.1
  have hb := O.2.1
  exact lv_ldc2 hx hb O.2.2.2.1 (O.2.2.2.2.1 _ hc) hd (K O H locs ls hl hP hS)
end
end
section
/-! the J layer: fields, arrays, new, calls, returns -/
theorem J_size {p : Program} {l : Launch} {e : Env} {R : Room} {s T : State} {m : MethodId} {args : Array Value} {below : List Frame} {meth : Method} {c : Code} {locs : List Loc} {k n b L0 : Nat} {ca : Nat → Nat} {cA : Nat → ClassId} {D : va_G} {h : List MC} {H : Heap} (X : Stand p l e R s m args below meth c T locs k n) (hT : T.heap = H) (hL : s.heap.size = b + L0) (hk : k + L0 = h.length) (hP : va_P D vwCl (wz b ca cA h) H) (hS : va_S (fun q => b ≤ q) s.heap H locs) : H.size = b + h.length := by
  have h1 := X.heapSize
  rw [hT] at h1
  have h2 : b + h.length ≤ H.size := by
    cases hl : h.length with
    | zero => have := hS.1; omega
    | succ z =>
      have hz : z < h.length := by omega
      have h3 := (hP z _ (wz_get (List.getElem?_eq_getElem hz))).lt
      have h4 : b + z < H.size := h3
      omega
  omega
section
variable {x : JX} {y : MethodName} {cc : ByteArray} {nL : Nat} {rt : Option FieldType} {d M N L0 : Nat} {pc : Nat} {lv : List (Nat × Value)} {st : List Value} {h : List MC} {k n : Nat}
theorem J_get {C : String} {T : u_T} {Z ci ix f a : Nat} {fs : List Value} {v : Value} (hd : decode cc pc = .ok (.getfield ix, 3)) (hin : ∀ w ∈ u_ws C T Z, w ∈ gt) (hc : vwCl[ci]? = some (C, T, Z)) (hf : f < Z) (hlk : Cond.fieldLink y.cls ix (T f).1 (T f).2.1 (T f).2.2.1 ∈ gt) (ha : h[a]? = some (.inr (ci, fs))) (hv : fs[f]? = some v) (K : J x y cc nL rt d M N L0 (pc + 3) lv (v :: st) h k n) : J x y cc nL rt d M N L0 pc lv (.ref a :: st) h k n := by
  obtain ⟨p, l, e, R, s, m, args, below, meth, c, b, ca, cA, D, con, Q⟩ := x
  intro O H locs ls hl hP hS
  have hx := O.1
  have hb := O.2.1
  have hts := O.2.2.2.2.1
  have hown := O.2.2.2.1
  have hK : va_K D vwCl (tz cA) s := O.2.2.2.2.2.2.2.2.1
  exact va_get (D := D) (C := C) (T := T) (N := Z) hx hb hts hin hown hK hP a (fs := fs.map (rv b ca)) (wz_get ha) hc f hf (hts _ hlk) (fun _ q => q) (by rw [List.getElem?_map, hv]; rfl) hd (K O H locs ls hl hP hS)
theorem J_put {C : String} {T : u_T} {Z ci ix f a : Nat} {fs : List Value} {v : Value} {ty0 : Nat → FieldType} {ty : FieldType} {h2 : List MC} (hd : decode cc pc = .ok (.putfield ix, 3)) (hin : ∀ w ∈ u_ws C T Z, w ∈ gt) (hc : vwCl[ci]? = some (C, T, Z)) (hty : ∀ k, k < Z → parseFieldDescriptor (T k).2.2.1 = some (ty0 k)) (hnm : ∀ a, a < Z → ∀ b, b < Z → a ≠ b → (T a).2.1 ≠ (T b).2.1) (hf : f < Z) (hlk : Cond.fieldLink y.cls ix (T f).1 (T f).2.1 (T f).2.2.1 ∈ gt) (hfin : (T f).2.2.2 = false) (ht : ty0 f = ty) (ha : h[a]? = some (.inr (ci, fs))) (hl0 : f < fs.length) (hv : ∀ (b : Nat) (ca : Nat → Nat), narrow ty (rv b ca v) = rv b ca v ∧ fits ty (rv b ca v) = true) (h2e : h.set a (.inr (ci, fs.set f v)) = h2) (K : J x y cc nL rt d M N L0 (pc + 3) lv st h2 k n) : J x y cc nL rt d M N L0 pc lv (v :: .ref a :: st) h k n := by
  obtain ⟨p, l, e, R, s, m, args, below, meth, c, b, ca, cA, D, con, Q⟩ := x
  intro O H locs ls hl hP hS
  have hx := O.1
  have hb := O.2.1
  have hts := O.2.2.2.2.1
  have hown := O.2.2.2.1
  have hK : va_K D vwCl (tz cA) s := O.2.2.2.2.2.2.2.2.1
  refine va_put (D := D) (C := C) (T := T) (N := Z) (A := fun q => b ≤ q) hx hb hts hin ty0 hty hnm hown hK hP wz_D hS a (fs := fs.map (rv b ca)) (wz_get ha) hc f hf (hts _ hlk) (fun _ q => q) hfin (ht ▸ hty f hf) (hv b ca).1 (hv b ca).2 (by rw [List.length_map]; exact hl0) hd ?_
  intro H1 locs1 hP1 _ hS1
  subst h2e
  have e1 : (wz b ca cA h).set a (b + a, Sum.inr (ci, (fs.map (rv b ca)).set f (rv b ca v))) = wz b ca cA (h.set a (.inr (ci, fs.set f v))) := by
    rw [← wz_set]
    show _ = (wz b ca cA h).set a (b + a, Sum.inr (ci, (fs.set f v).map (rv b ca)))
    rw [List.map_set]
  rw [e1] at hP1
  exact K O H1 locs1 ls hl hP1 hS1
theorem J_getN {C : String} {T : u_T} {Z ci ix f a : Nat} {fs : List Value} {v : Value} {host : String} (hd : decode cc pc = .ok (.getfield ix, 3)) (hin : ∀ w ∈ u_ws C T Z, w ∈ gt) (hc : vwCl[ci]? = some (C, T, Z)) (hf : f < Z) (hlk : Cond.fieldLinkNest y.cls ix (T f).1 (T f).2.1 (T f).2.2.1 host ∈ nt) (ha : h[a]? = some (.inr (ci, fs))) (hv : fs[f]? = some v) (K : J x y cc nL rt d M N L0 (pc + 3) lv (v :: st) h k n) : J x y cc nL rt d M N L0 pc lv (.ref a :: st) h k n := by
  obtain ⟨p, l, e, R, s, m, args, below, meth, c, b, ca, cA, D, con, Q⟩ := x
  intro O H locs ls hl hP hS
  have hx := O.1
  have hb := O.2.1
  have hts := O.2.2.2.2.1
  have hown := O.2.2.2.1
  have hK : va_K D vwCl (tz cA) s := O.2.2.2.2.2.2.2.2.1
  exact va_getN (D := D) (C := C) (T := T) (N := Z) hx hb hts hin hown hK hP a (fs := fs.map (rv b ca)) (wz_get ha) hc f hf (va_Nw.use rfl (O.2.2.2.2.2.2.2.2.2.2.2.2.2.2.2 _ hlk)) (fun _ q => q) (by rw [List.getElem?_map, hv]; rfl) hd (K O H locs ls hl hP hS)
theorem J_putN {C : String} {T : u_T} {Z ci ix f a : Nat} {fs : List Value} {v : Value} {ty0 : Nat → FieldType} {ty : FieldType} {h2 : List MC} {host : String} (hd : decode cc pc = .ok (.putfield ix, 3)) (hin : ∀ w ∈ u_ws C T Z, w ∈ gt) (hc : vwCl[ci]? = some (C, T, Z)) (hty : ∀ k, k < Z → parseFieldDescriptor (T k).2.2.1 = some (ty0 k)) (hnm : ∀ a, a < Z → ∀ b, b < Z → a ≠ b → (T a).2.1 ≠ (T b).2.1) (hf : f < Z) (hlk : Cond.fieldLinkNest y.cls ix (T f).1 (T f).2.1 (T f).2.2.1 host ∈ nt) (hfin : (T f).2.2.2 = false) (ht : ty0 f = ty) (ha : h[a]? = some (.inr (ci, fs))) (hl0 : f < fs.length) (hv : ∀ (b : Nat) (ca : Nat → Nat), narrow ty (rv b ca v) = rv b ca v ∧ fits ty (rv b ca v) = true) (h2e : h.set a (.inr (ci, fs.set f v)) = h2) (K : J x y cc nL rt d M N L0 (pc + 3) lv st h2 k n) : J x y cc nL rt d M N L0 pc lv (v :: .ref a :: st) h k n := by
  obtain ⟨p, l, e, R, s, m, args, below, meth, c, b, ca, cA, D, con, Q⟩ := x
  intro O H locs ls hl hP hS
  have hx := O.1
  have hb := O.2.1
  have hts := O.2.2.2.2.1
  have hown := O.2.2.2.1
  have hK : va_K D vwCl (tz cA) s := O.2.2.2.2.2.2.2.2.1
  refine va_putN (D := D) (C := C) (T := T) (N := Z) (A := fun q => b ≤ q) hx hb hts hin ty0 hty hnm hown hK hP wz_D hS a (fs := fs.map (rv b ca)) (wz_get ha) hc f hf (va_Nw.use rfl (O.2.2.2.2.2.2.2.2.2.2.2.2.2.2.2 _ hlk)) (fun _ q => q) hfin (ht ▸ hty f hf) (hv b ca).1 (hv b ca).2 (by rw [List.length_map]; exact hl0) hd ?_
  intro H1 locs1 hP1 _ hS1
  subst h2e
  have e1 : (wz b ca cA h).set a (b + a, Sum.inr (ci, (fs.map (rv b ca)).set f (rv b ca v))) = wz b ca cA (h.set a (.inr (ci, fs.set f v))) := by
    rw [← wz_set]
    show _ = (wz b ca cA h).set a (b + a, Sum.inr (ci, (fs.set f v).map (rv b ca)))
    rw [List.map_set]
  rw [e1] at hP1
  exact K O H1 locs1 ls hl hP1 hS1
theorem J_putF {C : String} {T : u_T} {Z ci ix f a : Nat} {fs : List Value} {v : Value} {ty0 : Nat → FieldType} {ty : FieldType} {h2 : List MC} (hd : decode cc pc = .ok (.putfield ix, 3)) (hin : ∀ w ∈ u_ws C T Z, w ∈ gt) (hc : vwCl[ci]? = some (C, T, Z)) (hty : ∀ k, k < Z → parseFieldDescriptor (T k).2.2.1 = some (ty0 k)) (hnm : ∀ a, a < Z → ∀ b, b < Z → a ≠ b → (T a).2.1 ≠ (T b).2.1) (hf : f < Z) (hlk : Cond.fieldLink y.cls ix (T f).1 (T f).2.1 (T f).2.2.1 ∈ gt) (hfin : (T f).2.2.2 = true) (hin2 : y.name = "<init>") (hdc : (T f).1 = y.cls) (ht : ty0 f = ty) (ha : h[a]? = some (.inr (ci, fs))) (hl0 : f < fs.length) (hv : ∀ (b : Nat) (ca : Nat → Nat), narrow ty (rv b ca v) = rv b ca v ∧ fits ty (rv b ca v) = true) (h2e : h.set a (.inr (ci, fs.set f v)) = h2) (K : J x y cc nL rt d M N L0 (pc + 3) lv st h2 k n) : J x y cc nL rt d M N L0 pc lv (v :: .ref a :: st) h k n := by
  obtain ⟨p, l, e, R, s, m, args, below, meth, c, b, ca, cA, D, con, Q⟩ := x
  intro O H locs ls hl hP hS
  have hx := O.1
  have hb := O.2.1
  have hts := O.2.2.2.2.1
  have hown := O.2.2.2.1
  have hK : va_K D vwCl (tz cA) s := O.2.2.2.2.2.2.2.2.1
  refine va_putF (D := D) (C := C) (T := T) (N := Z) (A := fun q => b ≤ q) hx hb hts hin ty0 hty hnm hown hK hP wz_D hS a (fs := fs.map (rv b ca)) (wz_get ha) hc f hf (hts _ hlk) (fun _ q => q) hfin (O.2.2.2.2.2.2.2.1 hin2) hdc (ht ▸ hty f hf) (hv b ca).1 (hv b ca).2 (by rw [List.length_map]; exact hl0) hd ?_
  intro H1 locs1 hP1 _ hS1
  subst h2e
  have e1 : (wz b ca cA h).set a (b + a, Sum.inr (ci, (fs.map (rv b ca)).set f (rv b ca v))) = wz b ca cA (h.set a (.inr (ci, fs.set f v))) := by
    rw [← wz_set]
    show _ = (wz b ca cA h).set a (b + a, Sum.inr (ci, (fs.set f v).map (rv b ca)))
    rw [List.map_set]
  rw [e1] at hP1
  exact K O H1 locs1 ls hl hP1 hS1
theorem J_iald {a z : Nat} {f : Nat → Int32} {i : Int32} (hd : decode cc pc = .ok (.iaload, 1)) (ha : h[a]? = some (.inl (1, z, .inl f))) (hi : vp_in i z) (K : J x y cc nL rt d M N L0 (pc + 1) lv (.int (f i.toNatClampNeg) :: st) h k n) : J x y cc nL rt d M N L0 pc lv (.int i :: .ref a :: st) h k n := by
  obtain ⟨p, l, e, R, s, m, args, below, meth, c, b, ca, cA, D, con, Q⟩ := x
  intro O H locs ls hl hP hS
  have hx := O.1
  have hb := O.2.1
  have hts := O.2.2.2.2.1
  have hown := O.2.2.2.1
  have hK : va_K D vwCl (tz cA) s := O.2.2.2.2.2.2.2.2.1
  exact va_iald hx hb hK hP a 1 (wz_get ha) rfl hi hd (K O H locs ls hl hP hS)
theorem J_bald {a z : Nat} {f : Nat → Int32} {i : Int32} (hd : decode cc pc = .ok (.baload, 1)) (ha : h[a]? = some (.inl (0, z, .inl f))) (hi : vp_in i z) (K : J x y cc nL rt d M N L0 (pc + 1) lv (.int (f i.toNatClampNeg) :: st) h k n) : J x y cc nL rt d M N L0 pc lv (.int i :: .ref a :: st) h k n := by
  obtain ⟨p, l, e, R, s, m, args, below, meth, c, b, ca, cA, D, con, Q⟩ := x
  intro O H locs ls hl hP hS
  have hx := O.1
  have hb := O.2.1
  have hts := O.2.2.2.2.1
  have hown := O.2.2.2.1
  have hK : va_K D vwCl (tz cA) s := O.2.2.2.2.2.2.2.2.1
  exact va_bald hx hb hK hP a 0 (wz_get ha) rfl hi hd (K O H locs ls hl hP hS)
theorem J_zald {a z : Nat} {f : Nat → Int32} {i : Int32} (hd : decode cc pc = .ok (.baload, 1)) (ha : h[a]? = some (.inl (3, z, .inl f))) (hi : vp_in i z) (K : J x y cc nL rt d M N L0 (pc + 1) lv (.int (f i.toNatClampNeg) :: st) h k n) : J x y cc nL rt d M N L0 pc lv (.int i :: .ref a :: st) h k n := by
  obtain ⟨p, l, e, R, s, m, args, below, meth, c, b, ca, cA, D, con, Q⟩ := x
  intro O H locs ls hl hP hS
  have hx := O.1
  have hb := O.2.1
  have hts := O.2.2.2.2.1
  have hown := O.2.2.2.1
  have hK : va_K D vwCl (tz cA) s := O.2.2.2.2.2.2.2.2.1
  exact va_zald hx hb hK hP a 3 (wz_get ha) rfl hi hd (K O H locs ls hl hP hS)
theorem J_lald {a z : Nat} {f : Nat → Int64} {i : Int32} (hd : decode cc pc = .ok (.laload, 1)) (ha : h[a]? = some (.inl (2, z, .inr (.inl f)))) (hi : vp_in i z) (K : J x y cc nL rt d M N L0 (pc + 1) lv (.long (f i.toNatClampNeg) :: st) h k n) : J x y cc nL rt d M N L0 pc lv (.int i :: .ref a :: st) h k n := by
  obtain ⟨p, l, e, R, s, m, args, below, meth, c, b, ca, cA, D, con, Q⟩ := x
  intro O H locs ls hl hP hS
  have hx := O.1
  have hb := O.2.1
  have hts := O.2.2.2.2.1
  have hown := O.2.2.2.1
  have hK : va_K D vwCl (tz cA) s := O.2.2.2.2.2.2.2.2.1
  exact va_lald hx hb hK hP a 2 (wz_get ha) rfl hi hd (K O H locs ls hl hP hS)
theorem J_aald {a z t q : Nat} {C : String} {f : Nat → Option Nat} {i : Int32} (hd : decode cc pc = .ok (.aaload, 1)) (ha : h[a]? = some (.inl (t, z, .inr (.inr f)))) (ht : ∀ cA : Nat → ClassId, (tz cA)[t]? = some (cA t, .object C)) (hi : vp_in i z) (hq : f i.toNatClampNeg = some q) (K : J x y cc nL rt d M N L0 (pc + 1) lv (.ref q :: st) h k n) : J x y cc nL rt d M N L0 pc lv (.int i :: .ref a :: st) h k n := by
  obtain ⟨p, l, e, R, s, m, args, below, meth, c, b, ca, cA, D, con, Q⟩ := x
  intro O H locs ls hl hP hS
  have hx := O.1
  have hb := O.2.1
  have hts := O.2.2.2.2.1
  have hown := O.2.2.2.1
  have hK : va_K D vwCl (tz cA) s := O.2.2.2.2.2.2.2.2.1
  refine va_aldq hx hb hK hP a t (wz_get ha) (ht cA) hi hd ?_
  show W p l e R s m args below meth c H locs k n Q (F0 m (pc + 1) ls (va_rf ((f i.toNatClampNeg).map (fun i => b + i)) :: st.map (rv b ca)))
  rw [hq]
  exact K O H locs ls hl hP hS
theorem J_cald {q z : Nat} {f : Nat → Int32} {i : Int32} (hd : decode cc pc = .ok (.iaload, 1)) (hc : x.2.2.2.2.2.2.2.2.2.2.2.2.2.2.1 q = some (z, f)) (hi : vp_in i z) (K : J x y cc nL rt d M N L0 (pc + 1) lv (.int (f i.toNatClampNeg) :: st) h k n) : J x y cc nL rt d M N L0 pc lv (.int i :: .retAddr q :: st) h k n := by
  obtain ⟨p, l, e, R, s, m, args, below, meth, c, b, ca, cA, D, con, Q⟩ := x
  intro O H locs ls hl hP hS
  have hx := O.1
  have hb := O.2.1
  have hts := O.2.2.2.2.1
  have hown := O.2.2.2.1
  have hK : va_K D vwCl (tz cA) s := O.2.2.2.2.2.2.2.2.1
  obtain ⟨h1, h2, h3⟩ := O.2.2.2.2.2.2.2.2.2.2.2.2.2.2.1 q z f hc
  exact va_sld hx hb h1 (Nat.lt_of_lt_of_le h2 h3) (Nat.not_le.mpr h2) hS hi hd (K O H locs ls hl hP hS)
theorem J_clen {q z : Nat} {f : Nat → Int32} (hd : decode cc pc = .ok (.arraylength, 1)) (hc : x.2.2.2.2.2.2.2.2.2.2.2.2.2.2.1 q = some (z, f)) (K : J x y cc nL rt d M N L0 (pc + 1) lv (.int (Int32.ofNat z) :: st) h k n) : J x y cc nL rt d M N L0 pc lv (.retAddr q :: st) h k n := by
  obtain ⟨p, l, e, R, s, m, args, below, meth, c, b, ca, cA, D, con, Q⟩ := x
  intro O H locs ls hl hP hS
  have hx := O.1
  have hb := O.2.1
  have hts := O.2.2.2.2.1
  have hown := O.2.2.2.1
  have hK : va_K D vwCl (tz cA) s := O.2.2.2.2.2.2.2.2.1
  obtain ⟨h1, h2, h3⟩ := O.2.2.2.2.2.2.2.2.2.2.2.2.2.2.1 q z f hc
  exact va_slen hx hb h1 (Nat.lt_of_lt_of_le h2 h3) (Nat.not_le.mpr h2) hS hd (K O H locs ls hl hP hS)
theorem J_alen {a t z : Nat} {ty : FieldType} {f : MA} (hd : decode cc pc = .ok (.arraylength, 1)) (ha : h[a]? = some (.inl (t, z, f))) (ht : ∀ cA : Nat → ClassId, (tz cA)[t]? = some (cA t, ty)) (K : J x y cc nL rt d M N L0 (pc + 1) lv (.int (Int32.ofNat z) :: st) h k n) : J x y cc nL rt d M N L0 pc lv (.ref a :: st) h k n := by
  obtain ⟨p, l, e, R, s, m, args, below, meth, c, b, ca, cA, D, con, Q⟩ := x
  intro O H locs ls hl hP hS
  have hx := O.1
  have hb := O.2.1
  have hts := O.2.2.2.2.1
  have hown := O.2.2.2.1
  have hK : va_K D vwCl (tz cA) s := O.2.2.2.2.2.2.2.2.1
  exact va_alen hx hb hK hP a t (wz_get ha) (ht cA) rfl hd (K O H locs ls hl hP hS)
theorem J_iast {a z : Nat} {f : Nat → Int32} {i : Int32} {v : Int32} {h2 : List MC} (hd : decode cc pc = .ok (.iastore, 1)) (ha : h[a]? = some (.inl (1, z, .inl f))) (hi : vp_in i z) (h2e : h.set a (.inl (1, z, .inl (upd f i.toNatClampNeg v))) = h2) (K : J x y cc nL rt d M N L0 (pc + 1) lv st h2 k n) : J x y cc nL rt d M N L0 pc lv (.int v :: .int i :: .ref a :: st) h k n := by
  obtain ⟨p, l, e, R, s, m, args, below, meth, c, b, ca, cA, D, con, Q⟩ := x
  intro O H locs ls hl hP hS
  have hx := O.1
  have hb := O.2.1
  have hts := O.2.2.2.2.1
  have hown := O.2.2.2.1
  have hK : va_K D vwCl (tz cA) s := O.2.2.2.2.2.2.2.2.1
  refine va_iast (A := fun q => b ≤ q) hx hb hK hP wz_D hS a 1 (wz_get ha) rfl hi hd ?_
  intro H1 locs1 hP1 _ hS1
  subst h2e
  refine K O H1 locs1 ls hl ?_ hS1
  rw [← wz_set]
  exact hP1
theorem J_bast {a z : Nat} {f : Nat → Int32} {i : Int32} {v : Int32} {h2 : List MC} (hd : decode cc pc = .ok (.bastore, 1)) (ha : h[a]? = some (.inl (0, z, .inl f))) (hi : vp_in i z) (h2e : h.set a (.inl (0, z, .inl (upd f i.toNatClampNeg (vp_nar .byte v)))) = h2) (K : J x y cc nL rt d M N L0 (pc + 1) lv st h2 k n) : J x y cc nL rt d M N L0 pc lv (.int v :: .int i :: .ref a :: st) h k n := by
  obtain ⟨p, l, e, R, s, m, args, below, meth, c, b, ca, cA, D, con, Q⟩ := x
  intro O H locs ls hl hP hS
  have hx := O.1
  have hb := O.2.1
  have hts := O.2.2.2.2.1
  have hown := O.2.2.2.1
  have hK : va_K D vwCl (tz cA) s := O.2.2.2.2.2.2.2.2.1
  refine va_bast (A := fun q => b ≤ q) hx hb hK hP wz_D hS a 0 (wz_get ha) rfl hi hd ?_
  intro H1 locs1 hP1 _ hS1
  subst h2e
  refine K O H1 locs1 ls hl ?_ hS1
  rw [← wz_set]
  exact hP1
theorem J_zast {a z : Nat} {f : Nat → Int32} {i : Int32} {v : Int32} {h2 : List MC} (hd : decode cc pc = .ok (.bastore, 1)) (ha : h[a]? = some (.inl (3, z, .inl f))) (hi : vp_in i z) (h2e : h.set a (.inl (3, z, .inl (upd f i.toNatClampNeg (vp_nar .boolean v)))) = h2) (K : J x y cc nL rt d M N L0 (pc + 1) lv st h2 k n) : J x y cc nL rt d M N L0 pc lv (.int v :: .int i :: .ref a :: st) h k n := by
  obtain ⟨p, l, e, R, s, m, args, below, meth, c, b, ca, cA, D, con, Q⟩ := x
  intro O H locs ls hl hP hS
  have hx := O.1
  have hb := O.2.1
  have hts := O.2.2.2.2.1
  have hown := O.2.2.2.1
  have hK : va_K D vwCl (tz cA) s := O.2.2.2.2.2.2.2.2.1
  refine va_zast (A := fun q => b ≤ q) hx hb hK hP wz_D hS a 3 (wz_get ha) rfl hi hd ?_
  intro H1 locs1 hP1 _ hS1
  subst h2e
  refine K O H1 locs1 ls hl ?_ hS1
  rw [← wz_set]
  exact hP1
theorem J_last {a z : Nat} {f : Nat → Int64} {i : Int32} {v : Int64} {h2 : List MC} (hd : decode cc pc = .ok (.lastore, 1)) (ha : h[a]? = some (.inl (2, z, .inr (.inl f)))) (hi : vp_in i z) (h2e : h.set a (.inl (2, z, .inr (.inl (vp_updL f i.toNatClampNeg v)))) = h2) (K : J x y cc nL rt d M N L0 (pc + 1) lv st h2 k n) : J x y cc nL rt d M N L0 pc lv (.long v :: .int i :: .ref a :: st) h k n := by
  obtain ⟨p, l, e, R, s, m, args, below, meth, c, b, ca, cA, D, con, Q⟩ := x
  intro O H locs ls hl hP hS
  have hx := O.1
  have hb := O.2.1
  have hts := O.2.2.2.2.1
  have hown := O.2.2.2.1
  have hK : va_K D vwCl (tz cA) s := O.2.2.2.2.2.2.2.2.1
  refine va_last (A := fun q => b ≤ q) hx hb hK hP wz_D hS a 2 (wz_get ha) rfl hi hd ?_
  intro H1 locs1 hP1 _ hS1
  subst h2e
  refine K O H1 locs1 ls hl ?_ hS1
  rw [← wz_set]
  exact hP1
theorem J_aast {a z t q ci : Nat} {r : vw_C} {vs : List Value} {f : Nat → Option Nat} {i : Int32} {h2 : List MC} (hd : decode cc pc = .ok (.aastore, 1)) (ha : h[a]? = some (.inl (t, z, .inr (.inr f)))) (ht : ∀ cA : Nat → ClassId, (tz cA)[t]? = some (cA t, .object r.1)) (hq : h[q]? = some (.inr (ci, vs))) (hc : vwCl[ci]? = some r) (hi : vp_in i z) (h2e : h.set a (.inl (t, z, .inr (.inr (va_up f i.toNatClampNeg (some q))))) = h2) (K : J x y cc nL rt d M N L0 (pc + 1) lv st h2 k n) : J x y cc nL rt d M N L0 pc lv (.ref q :: .int i :: .ref a :: st) h k n := by
  obtain ⟨p, l, e, R, s, m, args, below, meth, c, b, ca, cA, D, con, Q⟩ := x
  intro O H locs ls hl hP hS
  have hx := O.1
  have hb := O.2.1
  have hts := O.2.2.2.2.1
  have hown := O.2.2.2.1
  have hK : va_K D vwCl (tz cA) s := O.2.2.2.2.2.2.2.2.1
  refine va_astq (A := fun q => b ≤ q) hx hb hK hP wz_D hS a t q ci (wz_get ha) (ht cA) (wz_get hq) hc hi hd ?_
  intro H1 locs1 hP1 _ hS1
  subst h2e
  refine K O H1 locs1 ls hl ?_ hS1
  rw [← wz_set]
  have e1 : (va_up (fun j => (f j).map (fun i => b + i)) i.toNatClampNeg (some (b + q))) = (fun j => (va_up f i.toNatClampNeg (some q) j).map (fun i => b + i)) := by
    funext j
    unfold va_up
    by_cases hj : j = i.toNatClampNeg <;> simp [hj]
  show va_P D vwCl ((wz b ca cA h).set a (b + a, Sum.inl (cA t, z, Sum.inr (Sum.inr (Sum.inr (Sum.inr (fun j => (va_up f i.toNatClampNeg (some q) j).map (fun i => b + i)))))))) H1
  rw [← e1]
  exact hP1
theorem J_fin {con0 : JK} {Post : Option Value → List MC → Prop} {p : Program} {l : Launch} {e : Env} {R : Room} {s : State} {m : MethodId} {args : Array Value} {below : List Frame} {meth : Method} {c : Code} {b : Nat} {ca : Nat → Nat} {cA : Nat → ClassId} {D : va_G} {con : JK} {Q : State → Prop} (hq : JQ (p, l, e, R, s, m, args, below, meth, c, b, ca, cA, D, con, Q) con0 M N Post) {H : Heap} {locs : List Loc} (hL : s.heap.size = b + L0) (hk : k + L0 = h.length) (hkM : k ≤ M) (hnN : n ≤ N) (hK : va_K D vwCl (tz cA) s) (hP : va_P D vwCl (wz b ca cA h) H) (hS : va_S (fun q => b ≤ q) s.heap H locs) {g : JFrame} {r : Option Value} (hpost : Post r h)
    (kk : (∀ t : State, t.heap = H → s.WarmedH t.vm → QC b ca cA D Post args s (.returned (r.map (rv b ca))) t) → W p l e R s m args below meth c H locs M N (MQ below (QC b ca cA D Post) args s M N (fun q => b ≤ q)) g) : W p l e R s m args below meth c H locs k n Q g := by
  intro T hT X
  have hz := J_size X hT hL hk hP hS
  obtain ⟨rfl, -⟩ := hq
  exact (W.widen (k := M) (n := N) hkM hnN (kk (fun t ht hW => ⟨⟨r, h, rfl, hpost, by rw [ht]; exact hz, by rw [ht]; exact hP, va_K.moved hW.alike hK⟩, hS.F ht⟩))) T hT X
theorem J_iret {con0 : JK} {Post : Option Value → List MC → Prop} {v : Int32} (hq : JQ x con0 M N Post) (hd : decode cc pc = .ok (.ireturn, 1)) (hr : rt = some .int) (hk : k + L0 = h.length) (hkM : k ≤ M) (hnN : n ≤ N) (hp : Post (some (.int v)) h) : J x y cc nL rt d M N L0 pc lv [.int v] h k n := by
  obtain ⟨p, l, e, R, s, m, args, below, meth, c, b, ca, cA, D, con, Q⟩ := x
  intro O H locs ls hl hP hS
  have hx := O.1
  have hb := O.2.1
  have hts := O.2.2.2.2.1
  have hown := O.2.2.2.1
  have hK : va_K D vwCl (tz cA) s := O.2.2.2.2.2.2.2.2.1
  have hlk : meth.locks = false := O.2.2.2.2.2.2.1
  refine J_fin hq O.2.2.2.2.2.2.2.2.2.1 hk hkM hnN hK hP hS hp (fun qq => ?_)
  exact W.iret hx hb (O.2.2.2.2.2.1.trans hr) qq hS.2.2 hd hlk
theorem J_zret {con0 : JK} {Post : Option Value → List MC → Prop} {v : Int32} (hq : JQ x con0 M N Post) (hd : decode cc pc = .ok (.ireturn, 1)) (hr : rt = some .boolean) (hn : narrow .boolean (.int v) = .int v) (hk : k + L0 = h.length) (hkM : k ≤ M) (hnN : n ≤ N) (hp : Post (some (.int v)) h) : J x y cc nL rt d M N L0 pc lv [.int v] h k n := by
  obtain ⟨p, l, e, R, s, m, args, below, meth, c, b, ca, cA, D, con, Q⟩ := x
  intro O H locs ls hl hP hS
  have hx := O.1
  have hb := O.2.1
  have hts := O.2.2.2.2.1
  have hown := O.2.2.2.1
  have hK : va_K D vwCl (tz cA) s := O.2.2.2.2.2.2.2.2.1
  have hlk : meth.locks = false := O.2.2.2.2.2.2.1
  refine J_fin hq O.2.2.2.2.2.2.2.2.2.1 hk hkM hnN hK hP hS hp (fun qq => ?_)
  exact W.zret hx hb (O.2.2.2.2.2.1.trans hr) hn qq hS.2.2 hd hlk
theorem J_lret {con0 : JK} {Post : Option Value → List MC → Prop} {v : Int64} (hq : JQ x con0 M N Post) (hd : decode cc pc = .ok (.lreturn, 1)) (hr : rt = some .long) (hk : k + L0 = h.length) (hkM : k ≤ M) (hnN : n ≤ N) (hp : Post (some (.long v)) h) : J x y cc nL rt d M N L0 pc lv [.long v] h k n := by
  obtain ⟨p, l, e, R, s, m, args, below, meth, c, b, ca, cA, D, con, Q⟩ := x
  intro O H locs ls hl hP hS
  have hx := O.1
  have hb := O.2.1
  have hts := O.2.2.2.2.1
  have hown := O.2.2.2.1
  have hK : va_K D vwCl (tz cA) s := O.2.2.2.2.2.2.2.2.1
  have hlk : meth.locks = false := O.2.2.2.2.2.2.1
  refine J_fin hq O.2.2.2.2.2.2.2.2.2.1 hk hkM hnN hK hP hS hp (fun qq => ?_)
  exact W.lret hx hb (O.2.2.2.2.2.1.trans hr) qq hS.2.2 hd hlk
theorem J_vret {con0 : JK} {Post : Option Value → List MC → Prop} (hq : JQ x con0 M N Post) (hd : decode cc pc = .ok (.return_, 1)) (hr : rt = none) (hk : k + L0 = h.length) (hkM : k ≤ M) (hnN : n ≤ N) (hp : Post none h) : J x y cc nL rt d M N L0 pc lv [] h k n := by
  obtain ⟨p, l, e, R, s, m, args, below, meth, c, b, ca, cA, D, con, Q⟩ := x
  intro O H locs ls hl hP hS
  have hx := O.1
  have hb := O.2.1
  have hts := O.2.2.2.2.1
  have hown := O.2.2.2.1
  have hK : va_K D vwCl (tz cA) s := O.2.2.2.2.2.2.2.2.1
  have hlk : meth.locks = false := O.2.2.2.2.2.2.1
  refine J_fin hq O.2.2.2.2.2.2.2.2.2.1 hk hkM hnN hK hP hS hp (fun qq => ?_)
  exact W.vret hx hb (O.2.2.2.2.2.1.trans hr) qq hS.2.2 hd hlk
end
end
section
/-! the J layer: new, calls -/
theorem J_addr {p : Program} {l : Launch} {e : Env} {R : Room} {s T : State} {m : MethodId} {args : Array Value} {below : List Frame} {meth : Method} {c : Code} {locs : List Loc} {k n b L0 q : Nat} {ca : Nat → Nat} {cA : Nat → ClassId} {D : va_G} {h : List MC} {H : Heap} {z : va_E} (X : Stand p l e R s m args below meth c T locs (k + 1) n) (hT : T.heap = H) (hL : s.heap.size = b + L0) (hk : k + L0 = h.length) (hP : va_P D vwCl (wz b ca cA h ++ [(q, z)]) H) (hD : va_D (fun q => b ≤ q) (wz b ca cA h ++ [(q, z)])) : q = b + h.length := by
  have h1 := X.heapSize
  rw [hT] at h1
  have e1 : (wz b ca cA h ++ [(q, z)])[h.length]? = some (q, z) := by
    rw [List.getElem?_append_right (by rw [wz_len]; exact Nat.le_refl _), wz_len, Nat.sub_self]
    rfl
  have h2 : q < H.size := (hP _ _ e1).lt
  have h3 : b ≤ q := hD.2 _ _ e1
  rcases Nat.lt_or_ge (q - b) h.length with h4 | h4
  · have e2 : (wz b ca cA h ++ [(q, z)])[q - b]? = some (b + (q - b), rE b ca cA h[q - b]) := by
      rw [List.getElem?_append_left (by rw [wz_len]; exact h4)]
      exact wz_get (List.getElem?_eq_getElem h4)
    have h5 := hD.1 _ _ _ _ e1 e2 (show q = b + (q - b) by omega)
    omega
  · omega
def JN (x : JX) (con0 : JK) : Prop := match x with
  | (_, _, _, _, _, _, _, _, _, _, _, _, _, _, con, _) => ∀ k v, con0 k = some v → con k = some v
theorem JQ.n {x : JX} {con0 : JK} {M N : Nat} {Post : Option Value → List MC → Prop} (h : JQ x con0 M N Post) : JN x con0 := by
  obtain ⟨p, l, e, R, s, m, args, below, meth, c, b, ca, cA, D, con, Q⟩ := x
  exact h.2
section
variable {x : JX} {y : MethodName} {cc : ByteArray} {nL : Nat} {rt : Option FieldType} {d M N L0 : Nat} {pc : Nat} {lv : List (Nat × Value)} {st : List Value} {h : List MC} {k n : Nat}
theorem J_new {C : String} {T : u_T} {Z ci ix : Nat} {fs : List Value} {ty0 : Nat → FieldType} (hd : decode cc pc = .ok (.new ix, 3)) (hin : ∀ w ∈ u_ws C T Z, w ∈ gt) (hc : vwCl[ci]? = some (C, T, Z)) (hty : ∀ k, k < Z → parseFieldDescriptor (T k).2.2.1 = some (ty0 k)) (hlk : Cond.classLink y.cls ix C ∈ gt) (hi1 : Cond.instantiable C Z ∈ gt) (hi2 : Cond.initialized C ∈ gt) (hfs : ∀ (b : Nat) (ca : Nat → Nat) (j : Nat), j < Z → defaultValue (ty0 j) = vp_V (fs.map (rv b ca)) j) (hk : k + L0 = h.length) (hM : k + 1 ≤ M) (hN : n + Z ≤ N) (K : J x y cc nL rt d M N L0 (pc + 3) lv (.ref h.length :: st) (h ++ [.inr (ci, fs)]) (k + 1) (n + Z)) : J x y cc nL rt d M N L0 pc lv st h k n := by
  obtain ⟨p, l, e, R, s, m, args, below, meth, c, b, ca, cA, D, con, Q⟩ := x
  intro O H locs ls hl hP hS
  have hx := O.1
  have hb := O.2.1
  have hts := O.2.2.2.2.1
  have hown := O.2.2.2.1
  have hK : va_K D vwCl (tz cA) s := O.2.2.2.2.2.2.2.2.1
  refine va_new (C := C) (T := T) (N := Z) (ci := ci) (fs := fs.map (rv b ca)) (A := fun q => b ≤ q) hx hb hts hin ty0 hty hown (hts _ hlk) (hts _ hi1) (hts _ hi2) hK hP wz_D hS (fun q hq => Nat.le_trans (by rw [O.2.2.2.2.2.2.2.2.2.1]; exact Nat.le_add_right _ _) hq) hc (hfs b ca) (Nat.le_trans hM O.2.2.2.2.2.2.2.2.2.2.2.2.1) (Nat.le_trans hN O.2.2.2.2.2.2.2.2.2.2.2.2.2.1) hd ?_
  intro q H1 hP1 hD1 hS1
  intro T hT X
  have q0 := J_addr X hT O.2.2.2.2.2.2.2.2.2.1 hk hP1 hD1
  subst q0
  have e1 : wz b ca cA h ++ [(b + h.length, Sum.inr (ci, fs.map (rv b ca)))] = wz b ca cA (h ++ [.inr (ci, fs)]) := wz_push (c := .inr (ci, fs))
  rw [e1] at hP1
  exact K O H1 locs ls hl hP1 hS1 T hT X
theorem J_newa0 {z : Int32} {Z : Nat} (hd : decode cc pc = .ok (.newarray .byte, 2)) (hw : Cond.arrayClass .byte ∈ gt) (hz : ¬ z < 0) (hZ : z.toNatClampNeg = Z) (hZb : Z * 8 ≤ 536870912) (hk : k + L0 = h.length) (hM : k + 1 ≤ M) (hN : n + Z ≤ N) (K : J x y cc nL rt d M N L0 (pc + 2) lv (.ref h.length :: st) (h ++ [.inl (0, Z, .inl (fun _ => 0))]) (k + 1) (n + Z)) : J x y cc nL rt d M N L0 pc lv (.int z :: st) h k n := by
  obtain ⟨p, l, e, R, s, m, args, below, meth, c, b, ca, cA, D, con, Q⟩ := x
  intro O H locs ls hl hP hS
  have hx := O.1
  have hb := O.2.1
  have hts := O.2.2.2.2.1
  have hown := O.2.2.2.1
  have hK : va_K D vwCl (tz cA) s := O.2.2.2.2.2.2.2.2.1
  refine va_newa (atype := .byte) (ty := .byte) (a0 := (Z, .inl (fun _ => 0))) (A := fun q => b ≤ q) hx hb (hts _ hw) rfl hK hP wz_D hS (fun q hq => Nat.le_trans (by rw [O.2.2.2.2.2.2.2.2.2.1]; exact Nat.le_add_right _ _) hq) (fun _ => rfl) hz hZ (Nat.le_trans (Nat.mul_le_mul_left Z (by decide)) hZb) (Nat.le_trans hM O.2.2.2.2.2.2.2.2.2.2.2.2.1) (Nat.le_trans hN O.2.2.2.2.2.2.2.2.2.2.2.2.2.1) hd ?_
  intro q cB H1 hK1 hP1 hD1 hS1
  intro T hT X
  have q0 := J_addr X hT O.2.2.2.2.2.2.2.2.2.1 hk hP1 hD1
  subst q0
  have hc1 := (hK1.2 7 (cB, .byte) rfl).2
  have hc2 := (hK.2 0 (cA 0, .byte) rfl).2
  have hc3 : cB = cA 0 := Option.some.inj (hc1.symm.trans hc2)
  subst hc3
  have e1 : wz b ca cA h ++ [(b + h.length, Sum.inl (cA 0, Z, .inl (fun _ => 0)))] = wz b ca cA (h ++ [.inl (0, Z, .inl (fun _ => 0))]) := wz_push (c := .inl (0, Z, .inl (fun _ => 0)))
  rw [e1] at hP1
  exact K O H1 locs ls hl hP1 hS1 T hT X
theorem J_newa1 {z : Int32} {Z : Nat} (hd : decode cc pc = .ok (.newarray .int, 2)) (hw : Cond.arrayClass .int ∈ gt) (hz : ¬ z < 0) (hZ : z.toNatClampNeg = Z) (hZb : Z * 8 ≤ 536870912) (hk : k + L0 = h.length) (hM : k + 1 ≤ M) (hN : n + Z ≤ N) (K : J x y cc nL rt d M N L0 (pc + 2) lv (.ref h.length :: st) (h ++ [.inl (1, Z, .inl (fun _ => 0))]) (k + 1) (n + Z)) : J x y cc nL rt d M N L0 pc lv (.int z :: st) h k n := by
  obtain ⟨p, l, e, R, s, m, args, below, meth, c, b, ca, cA, D, con, Q⟩ := x
  intro O H locs ls hl hP hS
  have hx := O.1
  have hb := O.2.1
  have hts := O.2.2.2.2.1
  have hown := O.2.2.2.1
  have hK : va_K D vwCl (tz cA) s := O.2.2.2.2.2.2.2.2.1
  refine va_newa (atype := .int) (ty := .int) (a0 := (Z, .inl (fun _ => 0))) (A := fun q => b ≤ q) hx hb (hts _ hw) rfl hK hP wz_D hS (fun q hq => Nat.le_trans (by rw [O.2.2.2.2.2.2.2.2.2.1]; exact Nat.le_add_right _ _) hq) (fun _ => rfl) hz hZ (Nat.le_trans (Nat.mul_le_mul_left Z (by decide)) hZb) (Nat.le_trans hM O.2.2.2.2.2.2.2.2.2.2.2.2.1) (Nat.le_trans hN O.2.2.2.2.2.2.2.2.2.2.2.2.2.1) hd ?_
  intro q cB H1 hK1 hP1 hD1 hS1
  intro T hT X
  have q0 := J_addr X hT O.2.2.2.2.2.2.2.2.2.1 hk hP1 hD1
  subst q0
  have hc1 := (hK1.2 7 (cB, .int) rfl).2
  have hc2 := (hK.2 1 (cA 1, .int) rfl).2
  have hc3 : cB = cA 1 := Option.some.inj (hc1.symm.trans hc2)
  subst hc3
  have e1 : wz b ca cA h ++ [(b + h.length, Sum.inl (cA 1, Z, .inl (fun _ => 0)))] = wz b ca cA (h ++ [.inl (1, Z, .inl (fun _ => 0))]) := wz_push (c := .inl (1, Z, .inl (fun _ => 0)))
  rw [e1] at hP1
  exact K O H1 locs ls hl hP1 hS1 T hT X
theorem J_newa2 {z : Int32} {Z : Nat} (hd : decode cc pc = .ok (.newarray .long, 2)) (hw : Cond.arrayClass .long ∈ gt) (hz : ¬ z < 0) (hZ : z.toNatClampNeg = Z) (hZb : Z * 8 ≤ 536870912) (hk : k + L0 = h.length) (hM : k + 1 ≤ M) (hN : n + Z ≤ N) (K : J x y cc nL rt d M N L0 (pc + 2) lv (.ref h.length :: st) (h ++ [.inl (2, Z, .inr (.inl (fun _ => 0)))]) (k + 1) (n + Z)) : J x y cc nL rt d M N L0 pc lv (.int z :: st) h k n := by
  obtain ⟨p, l, e, R, s, m, args, below, meth, c, b, ca, cA, D, con, Q⟩ := x
  intro O H locs ls hl hP hS
  have hx := O.1
  have hb := O.2.1
  have hts := O.2.2.2.2.1
  have hown := O.2.2.2.1
  have hK : va_K D vwCl (tz cA) s := O.2.2.2.2.2.2.2.2.1
  refine va_newa (atype := .long) (ty := .long) (a0 := (Z, .inr (.inl (fun _ => 0)))) (A := fun q => b ≤ q) hx hb (hts _ hw) rfl hK hP wz_D hS (fun q hq => Nat.le_trans (by rw [O.2.2.2.2.2.2.2.2.2.1]; exact Nat.le_add_right _ _) hq) (fun _ => rfl) hz hZ (Nat.le_trans (Nat.mul_le_mul_left Z (by decide)) hZb) (Nat.le_trans hM O.2.2.2.2.2.2.2.2.2.2.2.2.1) (Nat.le_trans hN O.2.2.2.2.2.2.2.2.2.2.2.2.2.1) hd ?_
  intro q cB H1 hK1 hP1 hD1 hS1
  intro T hT X
  have q0 := J_addr X hT O.2.2.2.2.2.2.2.2.2.1 hk hP1 hD1
  subst q0
  have hc1 := (hK1.2 7 (cB, .long) rfl).2
  have hc2 := (hK.2 2 (cA 2, .long) rfl).2
  have hc3 : cB = cA 2 := Option.some.inj (hc1.symm.trans hc2)
  subst hc3
  have e1 : wz b ca cA h ++ [(b + h.length, Sum.inl (cA 2, Z, .inr (.inl (fun _ => 0))))] = wz b ca cA (h ++ [.inl (2, Z, .inr (.inl (fun _ => 0)))]) := wz_push (c := .inl (2, Z, .inr (.inl (fun _ => 0))))
  rw [e1] at hP1
  exact K O H1 locs ls hl hP1 hS1 T hT X
theorem J_newa3 {z : Int32} {Z : Nat} (hd : decode cc pc = .ok (.newarray .boolean, 2)) (hw : Cond.arrayClass .boolean ∈ gt) (hz : ¬ z < 0) (hZ : z.toNatClampNeg = Z) (hZb : Z * 8 ≤ 536870912) (hk : k + L0 = h.length) (hM : k + 1 ≤ M) (hN : n + Z ≤ N) (K : J x y cc nL rt d M N L0 (pc + 2) lv (.ref h.length :: st) (h ++ [.inl (3, Z, .inl (fun _ => 0))]) (k + 1) (n + Z)) : J x y cc nL rt d M N L0 pc lv (.int z :: st) h k n := by
  obtain ⟨p, l, e, R, s, m, args, below, meth, c, b, ca, cA, D, con, Q⟩ := x
  intro O H locs ls hl hP hS
  have hx := O.1
  have hb := O.2.1
  have hts := O.2.2.2.2.1
  have hown := O.2.2.2.1
  have hK : va_K D vwCl (tz cA) s := O.2.2.2.2.2.2.2.2.1
  refine va_newa (atype := .boolean) (ty := .boolean) (a0 := (Z, .inl (fun _ => 0))) (A := fun q => b ≤ q) hx hb (hts _ hw) rfl hK hP wz_D hS (fun q hq => Nat.le_trans (by rw [O.2.2.2.2.2.2.2.2.2.1]; exact Nat.le_add_right _ _) hq) (fun _ => rfl) hz hZ (Nat.le_trans (Nat.mul_le_mul_left Z (by decide)) hZb) (Nat.le_trans hM O.2.2.2.2.2.2.2.2.2.2.2.2.1) (Nat.le_trans hN O.2.2.2.2.2.2.2.2.2.2.2.2.2.1) hd ?_
  intro q cB H1 hK1 hP1 hD1 hS1
  intro T hT X
  have q0 := J_addr X hT O.2.2.2.2.2.2.2.2.2.1 hk hP1 hD1
  subst q0
  have hc1 := (hK1.2 7 (cB, .boolean) rfl).2
  have hc2 := (hK.2 3 (cA 3, .boolean) rfl).2
  have hc3 : cB = cA 3 := Option.some.inj (hc1.symm.trans hc2)
  subst hc3
  have e1 : wz b ca cA h ++ [(b + h.length, Sum.inl (cA 3, Z, .inl (fun _ => 0)))] = wz b ca cA (h ++ [.inl (3, Z, .inl (fun _ => 0))]) := wz_push (c := .inl (3, Z, .inl (fun _ => 0)))
  rw [e1] at hP1
  exact K O H1 locs ls hl hP1 hS1 T hT X
theorem J_newq {C : String} {z : Int32} {Z ix t : Nat} (hd : decode cc pc = .ok (.anewarray ix, 3)) (hlk : Cond.classLink y.cls ix C ∈ gt) (hov : Cond.arrayOver (.object C) ∈ nt) (ht : ∀ cA : Nat → ClassId, (tz cA)[t]? = some (cA t, .object C)) (hz : ¬ z < 0) (hZ : z.toNatClampNeg = Z) (hZb : Z * 4 ≤ 536870912) (hk : k + L0 = h.length) (hM : k + 1 ≤ M) (hN : n + Z ≤ N) (K : J x y cc nL rt d M N L0 (pc + 3) lv (.ref h.length :: st) (h ++ [.inl (t, Z, .inr (.inr (fun _ => none)))]) (k + 1) (n + Z)) : J x y cc nL rt d M N L0 pc lv (.int z :: st) h k n := by
  obtain ⟨p, l, e, R, s, m, args, below, meth, c, b, ca, cA, D, con, Q⟩ := x
  intro O H locs ls hl hP hS
  have hx := O.1
  have hb := O.2.1
  have hts := O.2.2.2.2.1
  have hown := O.2.2.2.1
  have hK : va_K D vwCl (tz cA) s := O.2.2.2.2.2.2.2.2.1
  refine va_newq (A := fun q => b ≤ q) hx hb hown (hts _ hlk) (O.2.2.2.2.2.2.2.2.2.2.2.2.2.2.2 _ hov) hK hP wz_D hS (fun q hq => Nat.le_trans (by rw [O.2.2.2.2.2.2.2.2.2.1]; exact Nat.le_add_right _ _) hq) hz hZ hZb (Nat.le_trans hM O.2.2.2.2.2.2.2.2.2.2.2.2.1) (Nat.le_trans hN O.2.2.2.2.2.2.2.2.2.2.2.2.2.1) hd ?_
  intro q cB H1 hK1 hP1 hD1 hS1
  intro T hT X
  have q0 := J_addr X hT O.2.2.2.2.2.2.2.2.2.1 hk hP1 hD1
  subst q0
  obtain ⟨_, _, _, _, _, hc1⟩ := (hK1.2 7 (cB, .object C) rfl).2
  obtain ⟨_, _, _, _, _, hc2⟩ := (hK.2 t (cA t, .object C) (ht cA)).2
  have hc3 : cB = cA t := Option.some.inj (hc1.symm.trans hc2)
  subst hc3
  have e1 : wz b ca cA h ++ [(b + h.length, Sum.inl (cA t, Z, Sum.inr (Sum.inr (Sum.inr (Sum.inr (fun _ => none))))))] = wz b ca cA (h ++ [.inl (t, Z, .inr (.inr (fun _ => none)))]) := wz_push (c := .inl (t, Z, .inr (.inr (fun _ => none))))
  rw [e1] at hP1
  exact K O H1 locs ls hl hP1 hS1 T hT X
theorem J_obj {ix a : Nat} (hd : decode cc pc = .ok (.invokespecial ix, 3)) (hlk : Cond.methodLink y.cls ix objectInit ∈ gt) (hi : Cond.instanceMethod objectInit ∈ gt) (hco : Cond.code objectInit ⟨#[0xb1]⟩ 1 none ∈ gt) (hdd : 1 ≤ d) (hw : (st.map fun v => v.category).sum ≤ 8) (K : J x y cc nL rt d M N L0 (pc + 3) lv st h k n) : J x y cc nL rt d M N L0 pc lv (.ref a :: st) h k n := by
  obtain ⟨p, l, e, R, s, m, args, below, meth, c, b, ca, cA, D, con, Q⟩ := x
  intro O H locs ls hl hP hS
  have hx := O.1
  have hb := O.2.1
  have hts := O.2.2.2.2.1
  have hown := O.2.2.2.1
  have hK : va_K D vwCl (tz cA) s := O.2.2.2.2.2.2.2.2.1
  refine W.objInit hx hb hown (hts _ hlk) (hts _ hi) (hts _ hco) (g := F0 m pc ls ((Value.ref a :: st).map (rv b ca))) (rest := st.map (rv b ca)) rfl (by rw [O.2.2.1]; exact hl.1) rfl hd (Nat.le_trans hdd O.2.2.2.2.2.2.2.2.2.2.1) ?_ (K O H locs ls hl hP hS)
  have h1 : 2 * (F0 m pc ls ((Value.ref a :: st).map (rv b ca))).monitorRoom + ((st.map (rv b ca)).map fun v => v.category).sum ≤ 8 := lv_room (by rw [rv_sum]; exact hw)
  have h2 := O.2.2.2.2.2.2.2.2.2.2.2.1
  omega
theorem J_callV {con0 : JK} {d1 M1 N1 nL1 ix : Nat} {y1 : MethodName} {cc1 : ByteArray} {rt1 : Option FieldType} {Post1 : Option Value → List MC → Prop} {As rest : List Value} {a ci : Nat} {fs : List Value} {q : vw_C} (hd : decode cc pc = .ok (.invokevirtual ix, 3)) (hM : CT con0 d1 M1 N1 y1 cc1 nL1 rt1 (.ref a :: As) h Post1) (hN : JN x con0) (hi1 : Cond.methodLink y.cls ix y1 ∈ gt) (hi2 : Cond.instanceMethod y1 ∈ gt) (hi3 : Cond.selects y1.cls y1 y1 ∈ gt) (ha : h[a]? = some (.inr (ci, fs))) (hc : vwCl[ci]? = some q) (hq : q.1 = y1.cls) (hi4 : Cond.initialized y1.cls ∈ gt) (hi5 : Cond.code y1 cc1 nL1 rt1 ∈ gt) (hdn : y1.cls ≠ "java/lang/invoke/MethodHandle" ∧ y1.cls ≠ "java/lang/invoke/VarHandle" ∧ (parseMethodDescriptor y1.desc).map (fun d => d.parameters.length) = some As.length) (hdd : d1 + 1 ≤ d) (hmx : nL1 ≤ 19) (hMM : k + M1 ≤ M) (hNN : n + N1 ≤ N) (hk : k + L0 = h.length) (hst : st = As.reverse ++ .ref a :: rest) (hw : (rest.map fun v => v.category).sum ≤ 8) (K : ∀ (r : Option Value) (h1 : List MC), Post1 r h1 → J x y cc nL rt d M N L0 (pc + 3) lv (r.toList ++ rest) h1 (k + M1) (n + N1)) : J x y cc nL rt d M N L0 pc lv st h k n := by
  obtain ⟨p, l, e, R, s, m, args, below, meth, c, b, ca, cA, D, con, Q⟩ := x
  intro O H locs ls hl hP hS
  have hx := O.1
  have hb := O.2.1
  have hts := O.2.2.2.2.1
  have hown := O.2.2.2.1
  have hK : va_K D vwCl (tz cA) s := O.2.2.2.2.2.2.2.2.1
  intro T hT X
  have hz := J_size X hT O.2.2.2.2.2.2.2.2.2.1 hk hP hS
  have hMet := hM l b ca cA D con hN
  have hG : GoodIn gt (Cond.code y1 cc1 nL1 rt1 :: gt) := fun w hw => (List.mem_cons.mp hw).elim (fun q => by rw [q]; exact gt_gt _ hi5) (gt_gt w)
  have hR : (RM d1 M1 N1).frames + 1 ≤ R.frames ∧ 8 + (nL1 + 11) + (RM d1 M1 N1).locals ≤ R.locals := by
    have h1 := O.2.2.2.2.2.2.2.2.2.2.1
    have h2 := O.2.2.2.2.2.2.2.2.2.2.2.1
    show d1 + 1 ≤ R.frames ∧ 8 + (nL1 + 11) + 38 * d1 ≤ R.locals
    omega
  have hB := callB_of (R := R) (mc := M1) (ms := N1) As.length hts hG rfl rfl rfl (hts _ hi4) (hts _ hi1) hdn hR
  have hpc : ∀ U : State, U.heap = H → s.WarmedH U.vm → PC b ca cA D con (.ref a :: As) h (((.ref a :: As)).map (rv b ca)).toArray U := fun U hU hW => ⟨rfl, by rw [hU]; exact hz, by rw [hU]; exact hP, va_K.moved hW.alike hK, CN.moved O.2.2.2.2.2.2.2.2.2.2.2.2.2.2.1 hW.alike hU hS, NW.warm hW O.2.2.2.2.2.2.2.2.2.2.2.2.2.2.2⟩
  have hcs : k + M1 ≤ R.cells ∧ n + N1 ≤ R.slots := ⟨Nat.le_trans hMM O.2.2.2.2.2.2.2.2.2.2.2.2.1, Nat.le_trans hNN O.2.2.2.2.2.2.2.2.2.2.2.2.2.1⟩
  subst hst
  have hsk : (As.reverse ++ .ref a :: rest).map (rv b ca) = (As.map (rv b ca)).reverse ++ .ref (b + a) :: rest.map (rv b ca) := by simp [rv]
  have hrm : 2 * (F0 m pc ls ((As.reverse ++ .ref a :: rest).map (rv b ca))).monitorRoom + ((rest.map (rv b ca)).map fun v => v.category).sum ≤ 8 := lv_room (by rw [rv_sum]; exact hw)
  have hrc := va_recv hK hP hc (wz_get ha)
  rw [hq] at hrc
  obtain ⟨v, st₀, t, T1, L, h0, X1, hL, e1, e2, ⟨⟨r, h1, hv, hp, hz1, hP1, hK1⟩, hF⟩, go⟩ := va_runV (Ts := gt) (As := As.map (rv b ca)) (rest := rest.map (rv b ca)) (g := F0 m pc ls ((As.reverse ++ .ref a :: rest).map (rv b ca))) ⟨hx, hb, O.2.2.1, hown, hts⟩ hMet ⟨hB, hts _ hi2, hts _ hi3⟩ ⟨PC_blind _ _ _ _ _ _ _, hrc, hpc⟩ rfl (by rw [List.length_map]) hl.1 hsk hrm hd hcs T hT X
  cases hv
  have hS1 : va_S (fun q => b ≤ q) s.heap T1.heap (locs ++ L) := by
    have hF1 : H.size ≤ t.heap.size := by rw [← h0]; exact hF.1
    refine ⟨Nat.le_trans hS.1 (by rw [e1]; exact hF1), fun q h1 h2 => ?_, fun q hq => ?_⟩
    · rw [e1, hF.2 q (by rw [h0]; exact Nat.lt_of_lt_of_le h1 hS.1) h2, h0]
      exact hS.2.1 q h1 h2
    · rcases List.mem_append.mp hq with h | h
      · exact hS.2.2 q h
      · exact hL q h
  have kk := K r h1 hp O T1.heap (locs ++ L) ls hl (by rw [e1]; exact hP1) hS1 T1 rfl X1
  obtain ⟨t2, a1, b1⟩ := kk
  refine ⟨t2, go t2 ?_, b1⟩
  cases r <;> exact a1
theorem J_callVN {con0 : JK} {d1 M1 N1 nL1 ix : Nat} {y1 : MethodName} {cc1 : ByteArray} {rt1 : Option FieldType} {Post1 : Option Value → List MC → Prop} {As rest : List Value} {a ci : Nat} {fs : List Value} {q : vw_C} {host : String} (hd : decode cc pc = .ok (.invokevirtual ix, 3)) (hM : CT con0 d1 M1 N1 y1 cc1 nL1 rt1 (.ref a :: As) h Post1) (hN : JN x con0) (hi1 : Cond.methodLinkNest y.cls ix y1 host ∈ nt) (hi2 : Cond.instanceMethod y1 ∈ gt) (hi3 : Cond.selects y1.cls y1 y1 ∈ gt) (ha : h[a]? = some (.inr (ci, fs))) (hc : vwCl[ci]? = some q) (hq : q.1 = y1.cls) (hi4 : Cond.initialized y1.cls ∈ gt) (hi5 : Cond.code y1 cc1 nL1 rt1 ∈ gt) (hdn : y1.cls ≠ "java/lang/invoke/MethodHandle" ∧ y1.cls ≠ "java/lang/invoke/VarHandle" ∧ (parseMethodDescriptor y1.desc).map (fun d => d.parameters.length) = some As.length) (hdd : d1 + 1 ≤ d) (hmx : nL1 ≤ 19) (hMM : k + M1 ≤ M) (hNN : n + N1 ≤ N) (hk : k + L0 = h.length) (hst : st = As.reverse ++ .ref a :: rest) (hw : (rest.map fun v => v.category).sum ≤ 8) (K : ∀ (r : Option Value) (h1 : List MC), Post1 r h1 → J x y cc nL rt d M N L0 (pc + 3) lv (r.toList ++ rest) h1 (k + M1) (n + N1)) : J x y cc nL rt d M N L0 pc lv st h k n := by
  obtain ⟨p, l, e, R, s, m, args, below, meth, c, b, ca, cA, D, con, Q⟩ := x
  intro O H locs ls hl hP hS
  have hx := O.1
  have hb := O.2.1
  have hts := O.2.2.2.2.1
  have hown := O.2.2.2.1
  have hK : va_K D vwCl (tz cA) s := O.2.2.2.2.2.2.2.2.1
  intro T hT X
  have hz := J_size X hT O.2.2.2.2.2.2.2.2.2.1 hk hP hS
  have hMet := hM l b ca cA D con hN
  have hG : GoodIn gt (Cond.code y1 cc1 nL1 rt1 :: gt) := fun w hw => (List.mem_cons.mp hw).elim (fun q => by rw [q]; exact gt_gt _ hi5) (gt_gt w)
  have hR : (RM d1 M1 N1).frames + 1 ≤ R.frames ∧ 8 + (nL1 + 11) + (RM d1 M1 N1).locals ≤ R.locals := by
    have h1 := O.2.2.2.2.2.2.2.2.2.2.1
    have h2 := O.2.2.2.2.2.2.2.2.2.2.2.1
    show d1 + 1 ≤ R.frames ∧ 8 + (nL1 + 11) + 38 * d1 ≤ R.locals
    omega
  have hB := va_cnB (R := R) (mc := M1) (ms := N1) As.length hts hG rfl rfl rfl (O.2.2.2.2.2.2.2.2.2.2.2.2.2.2.2 _ hi1) (hts _ hi4) hdn hR
  have hpc : ∀ U : State, U.heap = H → s.WarmedH U.vm → PC b ca cA D con (.ref a :: As) h (((.ref a :: As)).map (rv b ca)).toArray U := fun U hU hW => ⟨rfl, by rw [hU]; exact hz, by rw [hU]; exact hP, va_K.moved hW.alike hK, CN.moved O.2.2.2.2.2.2.2.2.2.2.2.2.2.2.1 hW.alike hU hS, NW.warm hW O.2.2.2.2.2.2.2.2.2.2.2.2.2.2.2⟩
  have hcs : k + M1 ≤ R.cells ∧ n + N1 ≤ R.slots := ⟨Nat.le_trans hMM O.2.2.2.2.2.2.2.2.2.2.2.2.1, Nat.le_trans hNN O.2.2.2.2.2.2.2.2.2.2.2.2.2.1⟩
  subst hst
  have hsk : (As.reverse ++ .ref a :: rest).map (rv b ca) = (As.map (rv b ca)).reverse ++ .ref (b + a) :: rest.map (rv b ca) := by simp [rv]
  have hrm : 2 * (F0 m pc ls ((As.reverse ++ .ref a :: rest).map (rv b ca))).monitorRoom + ((rest.map (rv b ca)).map fun v => v.category).sum ≤ 8 := lv_room (by rw [rv_sum]; exact hw)
  have hrc := va_recv hK hP hc (wz_get ha)
  rw [hq] at hrc
  obtain ⟨v, st₀, t, T1, L, h0, X1, hL, e1, e2, ⟨⟨r, h1, hv, hp, hz1, hP1, hK1⟩, hF⟩, go⟩ := va_runVN (Ts := gt) (As := As.map (rv b ca)) (rest := rest.map (rv b ca)) (g := F0 m pc ls ((As.reverse ++ .ref a :: rest).map (rv b ca))) ⟨hx, hb, O.2.2.1, hown, hts⟩ hMet ⟨hB, hts _ hi2, hts _ hi3⟩ ⟨PC_blind _ _ _ _ _ _ _, hrc, hpc⟩ rfl (by rw [List.length_map]) hl.1 hsk hrm hd hcs T hT X
  cases hv
  have hS1 : va_S (fun q => b ≤ q) s.heap T1.heap (locs ++ L) := by
    have hF1 : H.size ≤ t.heap.size := by rw [← h0]; exact hF.1
    refine ⟨Nat.le_trans hS.1 (by rw [e1]; exact hF1), fun q h1 h2 => ?_, fun q hq => ?_⟩
    · rw [e1, hF.2 q (by rw [h0]; exact Nat.lt_of_lt_of_le h1 hS.1) h2, h0]
      exact hS.2.1 q h1 h2
    · rcases List.mem_append.mp hq with h | h
      · exact hS.2.2 q h
      · exact hL q h
  have kk := K r h1 hp O T1.heap (locs ++ L) ls hl (by rw [e1]; exact hP1) hS1 T1 rfl X1
  obtain ⟨t2, a1, b1⟩ := kk
  refine ⟨t2, go t2 ?_, b1⟩
  cases r <;> exact a1
theorem J_callS {con0 : JK} {d1 M1 N1 nL1 ix : Nat} {y1 : MethodName} {cc1 : ByteArray} {rt1 : Option FieldType} {Post1 : Option Value → List MC → Prop} {As rest : List Value} (hd : decode cc pc = .ok (.invokestatic ix, 3)) (hM : CT con0 d1 M1 N1 y1 cc1 nL1 rt1 As h Post1) (hN : JN x con0) (hi1 : Cond.methodLink y.cls ix y1 ∈ gt) (hi2 : Cond.static y1 ∈ gt) (hi4 : Cond.initialized y1.cls ∈ gt) (hi5 : Cond.code y1 cc1 nL1 rt1 ∈ gt) (hdn : y1.cls ≠ "java/lang/invoke/MethodHandle" ∧ y1.cls ≠ "java/lang/invoke/VarHandle" ∧ (parseMethodDescriptor y1.desc).map (fun d => d.parameters.length) = some As.length) (hdd : d1 + 1 ≤ d) (hmx : nL1 ≤ 19) (hMM : k + M1 ≤ M) (hNN : n + N1 ≤ N) (hk : k + L0 = h.length) (hst : st = As.reverse ++ rest) (hw : (rest.map fun v => v.category).sum ≤ 8) (K : ∀ (r : Option Value) (h1 : List MC), Post1 r h1 → J x y cc nL rt d M N L0 (pc + 3) lv (r.toList ++ rest) h1 (k + M1) (n + N1)) : J x y cc nL rt d M N L0 pc lv st h k n := by
  obtain ⟨p, l, e, R, s, m, args, below, meth, c, b, ca, cA, D, con, Q⟩ := x
  intro O H locs ls hl hP hS
  have hx := O.1
  have hb := O.2.1
  have hts := O.2.2.2.2.1
  have hown := O.2.2.2.1
  have hK : va_K D vwCl (tz cA) s := O.2.2.2.2.2.2.2.2.1
  intro T hT X
  have hz := J_size X hT O.2.2.2.2.2.2.2.2.2.1 hk hP hS
  have hMet := hM l b ca cA D con hN
  have hG : GoodIn gt (Cond.code y1 cc1 nL1 rt1 :: gt) := fun w hw => (List.mem_cons.mp hw).elim (fun q => by rw [q]; exact gt_gt _ hi5) (gt_gt w)
  have hR : (RM d1 M1 N1).frames + 1 ≤ R.frames ∧ 8 + (nL1 + 11) + (RM d1 M1 N1).locals ≤ R.locals := by
    have h1 := O.2.2.2.2.2.2.2.2.2.2.1
    have h2 := O.2.2.2.2.2.2.2.2.2.2.2.1
    show d1 + 1 ≤ R.frames ∧ 8 + (nL1 + 11) + 38 * d1 ≤ R.locals
    omega
  have hB := callB_of (R := R) (mc := M1) (ms := N1) As.length hts hG rfl rfl rfl (hts _ hi4) (hts _ hi1) hdn hR
  have hpc : ∀ U : State, U.heap = H → s.WarmedH U.vm → PC b ca cA D con As h ((As).map (rv b ca)).toArray U := fun U hU hW => ⟨rfl, by rw [hU]; exact hz, by rw [hU]; exact hP, va_K.moved hW.alike hK, CN.moved O.2.2.2.2.2.2.2.2.2.2.2.2.2.2.1 hW.alike hU hS, NW.warm hW O.2.2.2.2.2.2.2.2.2.2.2.2.2.2.2⟩
  have hcs : k + M1 ≤ R.cells ∧ n + N1 ≤ R.slots := ⟨Nat.le_trans hMM O.2.2.2.2.2.2.2.2.2.2.2.2.1, Nat.le_trans hNN O.2.2.2.2.2.2.2.2.2.2.2.2.2.1⟩
  subst hst
  have hsk : (As.reverse ++ rest).map (rv b ca) = (As.map (rv b ca)).reverse ++ rest.map (rv b ca) := by simp [rv]
  have hrm : 2 * (F0 m pc ls ((As.reverse ++ rest).map (rv b ca))).monitorRoom + ((rest.map (rv b ca)).map fun v => v.category).sum ≤ 8 := lv_room (by rw [rv_sum]; exact hw)
  obtain ⟨v, st₀, t, T1, L, h0, X1, hL, e1, e2, ⟨⟨r, h1, hv, hp, hz1, hP1, hK1⟩, hF⟩, go⟩ := va_runS (Ts := gt) (As := As.map (rv b ca)) (rest := rest.map (rv b ca)) (g := F0 m pc ls ((As.reverse ++ rest).map (rv b ca))) ⟨hx, hb, O.2.2.1, hown, hts⟩ hMet ⟨hB, hts _ hi2⟩ ⟨PC_blind _ _ _ _ _ _ _, hpc⟩ rfl (by rw [List.length_map]) hl.1 hsk hrm hd hcs T hT X
  cases hv
  have hS1 : va_S (fun q => b ≤ q) s.heap T1.heap (locs ++ L) := by
    have hF1 : H.size ≤ t.heap.size := by rw [← h0]; exact hF.1
    refine ⟨Nat.le_trans hS.1 (by rw [e1]; exact hF1), fun q h1 h2 => ?_, fun q hq => ?_⟩
    · rw [e1, hF.2 q (by rw [h0]; exact Nat.lt_of_lt_of_le h1 hS.1) h2, h0]
      exact hS.2.1 q h1 h2
    · rcases List.mem_append.mp hq with h | h
      · exact hS.2.2 q h
      · exact hL q h
  have kk := K r h1 hp O T1.heap (locs ++ L) ls hl (by rw [e1]; exact hP1) hS1 T1 rfl X1
  obtain ⟨t2, a1, b1⟩ := kk
  refine ⟨t2, go t2 ?_, b1⟩
  cases r <;> exact a1
theorem J_callSN {con0 : JK} {d1 M1 N1 nL1 ix : Nat} {y1 : MethodName} {cc1 : ByteArray} {rt1 : Option FieldType} {Post1 : Option Value → List MC → Prop} {As rest : List Value} {host : String} (hd : decode cc pc = .ok (.invokestatic ix, 3)) (hM : CT con0 d1 M1 N1 y1 cc1 nL1 rt1 As h Post1) (hN : JN x con0) (hi1 : Cond.methodLinkNest y.cls ix y1 host ∈ nt) (hi2 : Cond.static y1 ∈ gt) (hi4 : Cond.initialized y1.cls ∈ gt) (hi5 : Cond.code y1 cc1 nL1 rt1 ∈ gt) (hdn : y1.cls ≠ "java/lang/invoke/MethodHandle" ∧ y1.cls ≠ "java/lang/invoke/VarHandle" ∧ (parseMethodDescriptor y1.desc).map (fun d => d.parameters.length) = some As.length) (hdd : d1 + 1 ≤ d) (hmx : nL1 ≤ 19) (hMM : k + M1 ≤ M) (hNN : n + N1 ≤ N) (hk : k + L0 = h.length) (hst : st = As.reverse ++ rest) (hw : (rest.map fun v => v.category).sum ≤ 8) (K : ∀ (r : Option Value) (h1 : List MC), Post1 r h1 → J x y cc nL rt d M N L0 (pc + 3) lv (r.toList ++ rest) h1 (k + M1) (n + N1)) : J x y cc nL rt d M N L0 pc lv st h k n := by
  obtain ⟨p, l, e, R, s, m, args, below, meth, c, b, ca, cA, D, con, Q⟩ := x
  intro O H locs ls hl hP hS
  have hx := O.1
  have hb := O.2.1
  have hts := O.2.2.2.2.1
  have hown := O.2.2.2.1
  have hK : va_K D vwCl (tz cA) s := O.2.2.2.2.2.2.2.2.1
  intro T hT X
  have hz := J_size X hT O.2.2.2.2.2.2.2.2.2.1 hk hP hS
  have hMet := hM l b ca cA D con hN
  have hG : GoodIn gt (Cond.code y1 cc1 nL1 rt1 :: gt) := fun w hw => (List.mem_cons.mp hw).elim (fun q => by rw [q]; exact gt_gt _ hi5) (gt_gt w)
  have hR : (RM d1 M1 N1).frames + 1 ≤ R.frames ∧ 8 + (nL1 + 11) + (RM d1 M1 N1).locals ≤ R.locals := by
    have h1 := O.2.2.2.2.2.2.2.2.2.2.1
    have h2 := O.2.2.2.2.2.2.2.2.2.2.2.1
    show d1 + 1 ≤ R.frames ∧ 8 + (nL1 + 11) + 38 * d1 ≤ R.locals
    omega
  have hB := va_cnB (R := R) (mc := M1) (ms := N1) As.length hts hG rfl rfl rfl (O.2.2.2.2.2.2.2.2.2.2.2.2.2.2.2 _ hi1) (hts _ hi4) hdn hR
  have hpc : ∀ U : State, U.heap = H → s.WarmedH U.vm → PC b ca cA D con As h ((As).map (rv b ca)).toArray U := fun U hU hW => ⟨rfl, by rw [hU]; exact hz, by rw [hU]; exact hP, va_K.moved hW.alike hK, CN.moved O.2.2.2.2.2.2.2.2.2.2.2.2.2.2.1 hW.alike hU hS, NW.warm hW O.2.2.2.2.2.2.2.2.2.2.2.2.2.2.2⟩
  have hcs : k + M1 ≤ R.cells ∧ n + N1 ≤ R.slots := ⟨Nat.le_trans hMM O.2.2.2.2.2.2.2.2.2.2.2.2.1, Nat.le_trans hNN O.2.2.2.2.2.2.2.2.2.2.2.2.2.1⟩
  subst hst
  have hsk : (As.reverse ++ rest).map (rv b ca) = (As.map (rv b ca)).reverse ++ rest.map (rv b ca) := by simp [rv]
  have hrm : 2 * (F0 m pc ls ((As.reverse ++ rest).map (rv b ca))).monitorRoom + ((rest.map (rv b ca)).map fun v => v.category).sum ≤ 8 := lv_room (by rw [rv_sum]; exact hw)
  obtain ⟨v, st₀, t, T1, L, h0, X1, hL, e1, e2, ⟨⟨r, h1, hv, hp, hz1, hP1, hK1⟩, hF⟩, go⟩ := va_runSN (Ts := gt) (As := As.map (rv b ca)) (rest := rest.map (rv b ca)) (g := F0 m pc ls ((As.reverse ++ rest).map (rv b ca))) ⟨hx, hb, O.2.2.1, hown, hts⟩ hMet ⟨hB, hts _ hi2, trivial⟩ ⟨PC_blind _ _ _ _ _ _ _, hpc⟩ rfl (by rw [List.length_map]) hl.1 hsk hrm hd hcs T hT X
  cases hv
  have hS1 : va_S (fun q => b ≤ q) s.heap T1.heap (locs ++ L) := by
    have hF1 : H.size ≤ t.heap.size := by rw [← h0]; exact hF.1
    refine ⟨Nat.le_trans hS.1 (by rw [e1]; exact hF1), fun q h1 h2 => ?_, fun q hq => ?_⟩
    · rw [e1, hF.2 q (by rw [h0]; exact Nat.lt_of_lt_of_le h1 hS.1) h2, h0]
      exact hS.2.1 q h1 h2
    · rcases List.mem_append.mp hq with h | h
      · exact hS.2.2 q h
      · exact hL q h
  have kk := K r h1 hp O T1.heap (locs ++ L) ls hl (by rw [e1]; exact hP1) hS1 T1 rfl X1
  obtain ⟨t2, a1, b1⟩ := kk
  refine ⟨t2, go t2 ?_, b1⟩
  cases r <;> exact a1
theorem J_callI {con0 : JK} {d1 M1 N1 nL1 ix : Nat} {y1 : MethodName} {cc1 : ByteArray} {rt1 : Option FieldType} {Post1 : Option Value → List MC → Prop} {As rest : List Value} {a : Nat} (hd : decode cc pc = .ok (.invokespecial ix, 3)) (hM : CT con0 d1 M1 N1 y1 cc1 nL1 rt1 (.ref a :: As) h Post1) (hN : JN x con0) (hi1 : Cond.methodLink y.cls ix y1 ∈ gt) (hi2 : Cond.instanceMethod y1 ∈ gt) (hnm : y1.name = "<init>") (hrt : rt1 = none) (hi4 : Cond.initialized y1.cls ∈ gt) (hi5 : Cond.code y1 cc1 nL1 rt1 ∈ gt) (hdn : y1.cls ≠ "java/lang/invoke/MethodHandle" ∧ y1.cls ≠ "java/lang/invoke/VarHandle" ∧ (parseMethodDescriptor y1.desc).map (fun d => d.parameters.length) = some As.length) (hdd : d1 + 1 ≤ d) (hmx : nL1 ≤ 19) (hMM : k + M1 ≤ M) (hNN : n + N1 ≤ N) (hk : k + L0 = h.length) (hst : st = As.reverse ++ .ref a :: rest) (hw : (rest.map fun v => v.category).sum ≤ 8) (K : ∀ (r : Option Value) (h1 : List MC), Post1 r h1 → J x y cc nL rt d M N L0 (pc + 3) lv (r.toList ++ rest) h1 (k + M1) (n + N1)) : J x y cc nL rt d M N L0 pc lv st h k n := by
  subst hrt
  obtain ⟨p, l, e, R, s, m, args, below, meth, c, b, ca, cA, D, con, Q⟩ := x
  intro O H locs ls hl hP hS
  have hx := O.1
  have hb := O.2.1
  have hts := O.2.2.2.2.1
  have hown := O.2.2.2.1
  have hK : va_K D vwCl (tz cA) s := O.2.2.2.2.2.2.2.2.1
  intro T hT X
  have hz := J_size X hT O.2.2.2.2.2.2.2.2.2.1 hk hP hS
  have hMet := hM l b ca cA D con hN
  have hG : GoodIn gt (Cond.code y1 cc1 nL1 none :: gt) := fun w hw => (List.mem_cons.mp hw).elim (fun q => by rw [q]; exact gt_gt _ hi5) (gt_gt w)
  have hR : (RM d1 M1 N1).frames + 1 ≤ R.frames ∧ 8 + (nL1 + 11) + (RM d1 M1 N1).locals ≤ R.locals := by
    have h1 := O.2.2.2.2.2.2.2.2.2.2.1
    have h2 := O.2.2.2.2.2.2.2.2.2.2.2.1
    show d1 + 1 ≤ R.frames ∧ 8 + (nL1 + 11) + 38 * d1 ≤ R.locals
    omega
  have hB := callB_of (R := R) (mc := M1) (ms := N1) As.length hts hG rfl rfl rfl (hts _ hi4) (hts _ hi1) hdn hR
  have hpc : ∀ U : State, U.heap = H → s.WarmedH U.vm → PC b ca cA D con (.ref a :: As) h (((.ref a :: As)).map (rv b ca)).toArray U := fun U hU hW => ⟨rfl, by rw [hU]; exact hz, by rw [hU]; exact hP, va_K.moved hW.alike hK, CN.moved O.2.2.2.2.2.2.2.2.2.2.2.2.2.2.1 hW.alike hU hS, NW.warm hW O.2.2.2.2.2.2.2.2.2.2.2.2.2.2.2⟩
  have hcs : k + M1 ≤ R.cells ∧ n + N1 ≤ R.slots := ⟨Nat.le_trans hMM O.2.2.2.2.2.2.2.2.2.2.2.2.1, Nat.le_trans hNN O.2.2.2.2.2.2.2.2.2.2.2.2.2.1⟩
  subst hst
  have hsk : (As.reverse ++ .ref a :: rest).map (rv b ca) = (As.map (rv b ca)).reverse ++ .ref (b + a) :: rest.map (rv b ca) := by simp [rv]
  have hrm : 2 * (F0 m pc ls ((As.reverse ++ .ref a :: rest).map (rv b ca))).monitorRoom + ((rest.map (rv b ca)).map fun v => v.category).sum ≤ 8 := lv_room (by rw [rv_sum]; exact hw)
  obtain ⟨v, st₀, t, T1, L, h0, X1, hL, e1, e2, ⟨⟨r, h1, hv, hp, hz1, hP1, hK1⟩, hF⟩, go⟩ := va_runI (Ts := gt) (As := As.map (rv b ca)) (rest := rest.map (rv b ca)) (g := F0 m pc ls ((As.reverse ++ .ref a :: rest).map (rv b ca))) ⟨hx, hb, O.2.2.1, hown, hts⟩ hMet ⟨hB, hnm, hts _ hi2⟩ ⟨PC_blind _ _ _ _ _ _ _, hpc⟩ rfl (by rw [List.length_map]) hl.1 hsk hrm hd hcs T hT X
  cases hv
  have hS1 : va_S (fun q => b ≤ q) s.heap T1.heap (locs ++ L) := by
    have hF1 : H.size ≤ t.heap.size := by rw [← h0]; exact hF.1
    refine ⟨Nat.le_trans hS.1 (by rw [e1]; exact hF1), fun q h1 h2 => ?_, fun q hq => ?_⟩
    · rw [e1, hF.2 q (by rw [h0]; exact Nat.lt_of_lt_of_le h1 hS.1) h2, h0]
      exact hS.2.1 q h1 h2
    · rcases List.mem_append.mp hq with h | h
      · exact hS.2.2 q h
      · exact hL q h
  have kk := K r h1 hp O T1.heap (locs ++ L) ls hl (by rw [e1]; exact hP1) hS1 T1 rfl X1
  obtain ⟨t2, a1, b1⟩ := kk
  refine ⟨t2, go t2 ?_, b1⟩
  cases r <;> exact a1
theorem J_callIN {con0 : JK} {d1 M1 N1 nL1 ix : Nat} {y1 : MethodName} {cc1 : ByteArray} {rt1 : Option FieldType} {Post1 : Option Value → List MC → Prop} {As rest : List Value} {a : Nat} {host : String} (hd : decode cc pc = .ok (.invokespecial ix, 3)) (hM : CT con0 d1 M1 N1 y1 cc1 nL1 rt1 (.ref a :: As) h Post1) (hN : JN x con0) (hi1 : Cond.methodLinkNest y.cls ix y1 host ∈ nt) (hi2 : Cond.instanceMethod y1 ∈ gt) (hnm : y1.name = "<init>") (hrt : rt1 = none) (hi4 : Cond.initialized y1.cls ∈ gt) (hi5 : Cond.code y1 cc1 nL1 rt1 ∈ gt) (hdn : y1.cls ≠ "java/lang/invoke/MethodHandle" ∧ y1.cls ≠ "java/lang/invoke/VarHandle" ∧ (parseMethodDescriptor y1.desc).map (fun d => d.parameters.length) = some As.length) (hdd : d1 + 1 ≤ d) (hmx : nL1 ≤ 19) (hMM : k + M1 ≤ M) (hNN : n + N1 ≤ N) (hk : k + L0 = h.length) (hst : st = As.reverse ++ .ref a :: rest) (hw : (rest.map fun v => v.category).sum ≤ 8) (K : ∀ (r : Option Value) (h1 : List MC), Post1 r h1 → J x y cc nL rt d M N L0 (pc + 3) lv (r.toList ++ rest) h1 (k + M1) (n + N1)) : J x y cc nL rt d M N L0 pc lv st h k n := by
  subst hrt
  obtain ⟨p, l, e, R, s, m, args, below, meth, c, b, ca, cA, D, con, Q⟩ := x
  intro O H locs ls hl hP hS
  have hx := O.1
  have hb := O.2.1
  have hts := O.2.2.2.2.1
  have hown := O.2.2.2.1
  have hK : va_K D vwCl (tz cA) s := O.2.2.2.2.2.2.2.2.1
  intro T hT X
  have hz := J_size X hT O.2.2.2.2.2.2.2.2.2.1 hk hP hS
  have hMet := hM l b ca cA D con hN
  have hG : GoodIn gt (Cond.code y1 cc1 nL1 none :: gt) := fun w hw => (List.mem_cons.mp hw).elim (fun q => by rw [q]; exact gt_gt _ hi5) (gt_gt w)
  have hR : (RM d1 M1 N1).frames + 1 ≤ R.frames ∧ 8 + (nL1 + 11) + (RM d1 M1 N1).locals ≤ R.locals := by
    have h1 := O.2.2.2.2.2.2.2.2.2.2.1
    have h2 := O.2.2.2.2.2.2.2.2.2.2.2.1
    show d1 + 1 ≤ R.frames ∧ 8 + (nL1 + 11) + 38 * d1 ≤ R.locals
    omega
  have hB := va_cnB (R := R) (mc := M1) (ms := N1) As.length hts hG rfl rfl rfl (O.2.2.2.2.2.2.2.2.2.2.2.2.2.2.2 _ hi1) (hts _ hi4) hdn hR
  have hpc : ∀ U : State, U.heap = H → s.WarmedH U.vm → PC b ca cA D con (.ref a :: As) h (((.ref a :: As)).map (rv b ca)).toArray U := fun U hU hW => ⟨rfl, by rw [hU]; exact hz, by rw [hU]; exact hP, va_K.moved hW.alike hK, CN.moved O.2.2.2.2.2.2.2.2.2.2.2.2.2.2.1 hW.alike hU hS, NW.warm hW O.2.2.2.2.2.2.2.2.2.2.2.2.2.2.2⟩
  have hcs : k + M1 ≤ R.cells ∧ n + N1 ≤ R.slots := ⟨Nat.le_trans hMM O.2.2.2.2.2.2.2.2.2.2.2.2.1, Nat.le_trans hNN O.2.2.2.2.2.2.2.2.2.2.2.2.2.1⟩
  subst hst
  have hsk : (As.reverse ++ .ref a :: rest).map (rv b ca) = (As.map (rv b ca)).reverse ++ .ref (b + a) :: rest.map (rv b ca) := by simp [rv]
  have hrm : 2 * (F0 m pc ls ((As.reverse ++ .ref a :: rest).map (rv b ca))).monitorRoom + ((rest.map (rv b ca)).map fun v => v.category).sum ≤ 8 := lv_room (by rw [rv_sum]; exact hw)
  obtain ⟨v, st₀, t, T1, L, h0, X1, hL, e1, e2, ⟨⟨r, h1, hv, hp, hz1, hP1, hK1⟩, hF⟩, go⟩ := va_runIN (Ts := gt) (As := As.map (rv b ca)) (rest := rest.map (rv b ca)) (g := F0 m pc ls ((As.reverse ++ .ref a :: rest).map (rv b ca))) ⟨hx, hb, O.2.2.1, hown, hts⟩ hMet ⟨hB, hnm, hts _ hi2⟩ ⟨PC_blind _ _ _ _ _ _ _, hpc⟩ rfl (by rw [List.length_map]) hl.1 hsk hrm hd hcs T hT X
  cases hv
  have hS1 : va_S (fun q => b ≤ q) s.heap T1.heap (locs ++ L) := by
    have hF1 : H.size ≤ t.heap.size := by rw [← h0]; exact hF.1
    refine ⟨Nat.le_trans hS.1 (by rw [e1]; exact hF1), fun q h1 h2 => ?_, fun q hq => ?_⟩
    · rw [e1, hF.2 q (by rw [h0]; exact Nat.lt_of_lt_of_le h1 hS.1) h2, h0]
      exact hS.2.1 q h1 h2
    · rcases List.mem_append.mp hq with h | h
      · exact hS.2.2 q h
      · exact hL q h
  have kk := K r h1 hp O T1.heap (locs ++ L) ls hl (by rw [e1]; exact hP1) hS1 T1 rfl X1
  obtain ⟨t2, a1, b1⟩ := kk
  refine ⟨t2, go t2 ?_, b1⟩
  cases r <;> exact a1
end
end
section
/-! the J layer: small helpers, arraycopy, max, min -/
def bI (b : Bool) : Int32 := if b then 1 else 0
theorem bI_n (b : Bool) : narrow .boolean (.int (bI b)) = .int (bI b) := by cases b <;> rfl
theorem bI_0 {b : Bool} (h : bI b = 0) : b = false := by cases b; rfl; exact absurd h (by decide)
theorem bI_1 {b : Bool} (h : ¬ bI b = 0) : b = true := by cases b; exact absurd rfl h; rfl
theorem vp_c {i : Int32} {n : Nat} (h : decide (¬ (i < 0 ∨ n ≤ i.toNatClampNeg)) = true) : vp_in i n := of_decide_eq_true (p := ¬ (i < 0 ∨ n ≤ i.toNatClampNeg)) h
theorem sa {l r : List MC} {i : Nat} {c : MC} (h : i < l.length) : (l ++ r).set i c = l.set i c ++ r := by rw [List.set_append_left _ _ h]
/-- the forms of a world: some cells set, some behind -/
theorem n1 {h L : List MC} {i : Nat} {c : MC} (hi : i < h.length) : (h.set i c ++ L)[i]? = some c := by
  rw [List.getElem?_append_left (by rw [List.length_set]; exact hi), List.getElem?_set_self hi]
theorem n2 {h L : List MC} {i j : Nat} {c x : MC} (hj : L[j]? = some x) : (h.set i c ++ L)[h.length + j]? = some x := by
  rw [List.getElem?_append_right (by rw [List.length_set]; exact Nat.le_add_right _ _), List.length_set, Nat.add_sub_cancel_left]; exact hj
section
variable {x : JX} {y : MethodName} {cc : ByteArray} {nL : Nat} {rt : Option FieldType} {d M N L0 : Nat} {pc : Nat} {lv : List (Nat × Value)} {st : List Value} {h : List MC} {k n : Nat}
theorem J_w {h2 : List MC} (e : h = h2) (K : J x y cc nL rt d M N L0 pc lv st h2 k n) : J x y cc nL rt d M N L0 pc lv st h k n := by subst e; exact K
theorem J_ci {u v : Int32} (e : u = v) (K : J x y cc nL rt d M N L0 pc lv (.int v :: st) h k n) : J x y cc nL rt d M N L0 pc lv (.int u :: st) h k n := by subst e; exact K
theorem J_cl {u v : Int64} (e : u = v) (K : J x y cc nL rt d M N L0 pc lv (.long v :: st) h k n) : J x y cc nL rt d M N L0 pc lv (.long u :: st) h k n := by subst e; exact K
theorem J_cr {u v : Nat} (e : u = v) (K : J x y cc nL rt d M N L0 pc lv (.ref v :: st) h k n) : J x y cc nL rt d M N L0 pc lv (.ref u :: st) h k n := by subst e; exact K
theorem J_topi {u : Int32} (K : ∀ v : Int32, v = u → J x y cc nL rt d M N L0 pc lv (.int v :: st) h k n) : J x y cc nL rt d M N L0 pc lv (.int u :: st) h k n := K u rfl
theorem J_topl {u : Int64} (K : ∀ v : Int64, v = u → J x y cc nL rt d M N L0 pc lv (.long v :: st) h k n) : J x y cc nL rt d M N L0 pc lv (.long u :: st) h k n := K u rfl
theorem J_ifB_eq {u : Bool} {off : Int} {tgt : Nat} (hd : decode cc pc = .ok (.ifCond .eq off, 3)) (ht : (pc : Int) + off = (tgt : Int)) (K1 : u = false → J x y cc nL rt d M N L0 tgt lv st h k n) (K2 : u = true → J x y cc nL rt d M N L0 (pc + 3) lv st h k n) : J x y cc nL rt d M N L0 pc lv (.int (bI u) :: st) h k n := J_if_eq hd ht (fun q => K1 (bI_0 q)) (fun q => K2 (bI_1 q))
theorem J_ifB_ne {u : Bool} {off : Int} {tgt : Nat} (hd : decode cc pc = .ok (.ifCond .ne off, 3)) (ht : (pc : Int) + off = (tgt : Int)) (K1 : u = true → J x y cc nL rt d M N L0 tgt lv st h k n) (K2 : u = false → J x y cc nL rt d M N L0 (pc + 3) lv st h k n) : J x y cc nL rt d M N L0 pc lv (.int (bI u) :: st) h k n := J_if_ne hd ht (fun q => K1 (bI_1 q)) (fun q => K2 (bI_0 q))
theorem J_mmax {ix : Nat} {u v : Int32} (hd : decode cc pc = .ok (.invokestatic ix, 3)) (h1 : Cond.methodLink y.cls ix Lib.Math.max.name ∈ gt) (h2 : Cond.static Lib.Math.max.name ∈ gt) (h3 : Cond.initialized "java/lang/Math" ∈ gt) (h4 : Cond.code Lib.Math.max.name Lib.Math.max.code 2 (some .int) ∈ gt) (hdd : 1 ≤ d) (hw : (st.map fun v => v.category).sum ≤ 8) (hkM : k ≤ M) (hnN : n ≤ N) (K : J x y cc nL rt d M N L0 (pc + 3) lv (.int (if u < v then v else u) :: st) h k n) : J x y cc nL rt d M N L0 pc lv (.int v :: .int u :: st) h k n := by
  obtain ⟨p, l, e, R, s, m, args, below, meth, c, b, ca, cA, D, con, Q⟩ := x
  intro O H locs ls hl hP hS
  have hx := O.1
  have hb := O.2.1
  have hts := O.2.2.2.2.1
  have hown := O.2.2.2.1
  have hK : va_K D vwCl (tz cA) s := O.2.2.2.2.2.2.2.2.1
  refine va_mmax hx hb (by rw [O.2.2.1]; exact hl.1.symm) hown (hts _ h1) (hts _ h2) (hts _ h3) (hts _ h4) (Nat.le_trans hdd O.2.2.2.2.2.2.2.2.2.2.1) ?_ (Nat.le_trans hkM O.2.2.2.2.2.2.2.2.2.2.2.2.1) (Nat.le_trans hnN O.2.2.2.2.2.2.2.2.2.2.2.2.2.1) hd (K O H locs ls hl hP hS)
  rw [rv_sum]
  have h5 := O.2.2.2.2.2.2.2.2.2.2.2.1
  omega
theorem J_mmin {ix : Nat} {u v : Int32} (hd : decode cc pc = .ok (.invokestatic ix, 3)) (h1 : Cond.methodLink y.cls ix Lib.Math.min.name ∈ gt) (h2 : Cond.static Lib.Math.min.name ∈ gt) (h3 : Cond.initialized "java/lang/Math" ∈ gt) (h4 : Cond.code Lib.Math.min.name Lib.Math.min.code 2 (some .int) ∈ gt) (hdd : 1 ≤ d) (hw : (st.map fun v => v.category).sum ≤ 8) (hkM : k ≤ M) (hnN : n ≤ N) (K : J x y cc nL rt d M N L0 (pc + 3) lv (.int (if v < u then v else u) :: st) h k n) : J x y cc nL rt d M N L0 pc lv (.int v :: .int u :: st) h k n := by
  obtain ⟨p, l, e, R, s, m, args, below, meth, c, b, ca, cA, D, con, Q⟩ := x
  intro O H locs ls hl hP hS
  have hx := O.1
  have hb := O.2.1
  have hts := O.2.2.2.2.1
  have hown := O.2.2.2.1
  have hK : va_K D vwCl (tz cA) s := O.2.2.2.2.2.2.2.2.1
  refine va_mmin hx hb (by rw [O.2.2.1]; exact hl.1.symm) hown (hts _ h1) (hts _ h2) (hts _ h3) (hts _ h4) (Nat.le_trans hdd O.2.2.2.2.2.2.2.2.2.2.1) ?_ (Nat.le_trans hkM O.2.2.2.2.2.2.2.2.2.2.2.2.1) (Nat.le_trans hnN O.2.2.2.2.2.2.2.2.2.2.2.2.2.1) hd (K O H locs ls hl hP hS)
  rw [rv_sum]
  have h5 := O.2.2.2.2.2.2.2.2.2.2.2.1
  omega
theorem J_copyi {ix a0 a1 n0 n1 : Nat} {f g : Nat → Int32} {sp dp nn : Int32} {h2 : List MC} (hd : decode cc pc = .ok (.invokestatic ix, 3)) (w1 : Cond.methodLink y.cls ix arraycopyName ∈ gt) (w2 : Cond.native arraycopyName ∈ gt) (w3 : Cond.static arraycopyName ∈ gt) (w4 : Cond.initialized "java/lang/System" ∈ gt) (ha0 : h[a0]? = some (.inl (1, n0, .inl f))) (ha1 : h[a1]? = some (.inl (1, n1, .inl g))) (h1 : ¬ sp < 0) (h3 : ¬ dp < 0) (h4 : ¬ nn < 0) (h5 : sp.toNatClampNeg + nn.toNatClampNeg ≤ n0) (h6 : dp.toNatClampNeg + nn.toNatClampNeg ≤ n1) (hdd : 1 ≤ d) (hw : (st.map fun v => v.category).sum ≤ 8) (h2e : h.set a1 (.inl (1, n1, .inl (va_cpy f g sp.toNatClampNeg dp.toNatClampNeg nn.toNatClampNeg))) = h2) (K : J x y cc nL rt d M N L0 (pc + 3) lv st h2 k n) : J x y cc nL rt d M N L0 pc lv (.int nn :: .int dp :: .ref a1 :: .int sp :: .ref a0 :: st) h k n := by
  obtain ⟨p, l, e, R, s, m, args, below, meth, c, b, ca, cA, D, con, Q⟩ := x
  intro O H locs ls hl hP hS
  have hx := O.1
  have hb := O.2.1
  have hts := O.2.2.2.2.1
  have hown := O.2.2.2.1
  have hK : va_K D vwCl (tz cA) s := O.2.2.2.2.2.2.2.2.1
  refine va_copyi (ty := .int) (A := fun q => b ≤ q) hx hb (by rw [O.2.2.1]; exact hl.1.symm) hown (hts _ w1) (hts _ w2) (hts _ w3) (hts _ w4) hK hP wz_D hS a0 a1 1 1 (wz_get ha0) (wz_get ha1) rfl rfl rfl h1 h3 h4 h5 h6 (fun _ _ => rfl) (Nat.le_trans hdd O.2.2.2.2.2.2.2.2.2.2.1) ?_ hd ?_
  · rw [rv_sum]
    have h7 := O.2.2.2.2.2.2.2.2.2.2.2.1
    have h8 : nativeFrameWords "java/lang/System" "arraycopy" 5 + 11 ≤ 30 := by decide
    omega
  · intro H1 locs1 hP1 _ hS1
    subst h2e
    refine K O H1 locs1 ls hl ?_ hS1
    rw [← wz_set]
    exact hP1
theorem J_copyb {ix a0 a1 n0 n1 : Nat} {f g : Nat → Int32} {sp dp nn : Int32} {h2 : List MC} (hd : decode cc pc = .ok (.invokestatic ix, 3)) (w1 : Cond.methodLink y.cls ix arraycopyName ∈ gt) (w2 : Cond.native arraycopyName ∈ gt) (w3 : Cond.static arraycopyName ∈ gt) (w4 : Cond.initialized "java/lang/System" ∈ gt) (ha0 : h[a0]? = some (.inl (0, n0, .inl f))) (ha1 : h[a1]? = some (.inl (0, n1, .inl g))) (h1 : ¬ sp < 0) (h3 : ¬ dp < 0) (h4 : ¬ nn < 0) (h5 : sp.toNatClampNeg + nn.toNatClampNeg ≤ n0) (h6 : dp.toNatClampNeg + nn.toNatClampNeg ≤ n1) (hfit : ∀ i, i < nn.toNatClampNeg → fits .byte (.int (f (sp.toNatClampNeg + i))) = true) (hdd : 1 ≤ d) (hw : (st.map fun v => v.category).sum ≤ 8) (h2e : h.set a1 (.inl (0, n1, .inl (va_cpy f g sp.toNatClampNeg dp.toNatClampNeg nn.toNatClampNeg))) = h2) (K : J x y cc nL rt d M N L0 (pc + 3) lv st h2 k n) : J x y cc nL rt d M N L0 pc lv (.int nn :: .int dp :: .ref a1 :: .int sp :: .ref a0 :: st) h k n := by
  obtain ⟨p, l, e, R, s, m, args, below, meth, c, b, ca, cA, D, con, Q⟩ := x
  intro O H locs ls hl hP hS
  have hx := O.1
  have hb := O.2.1
  have hts := O.2.2.2.2.1
  have hown := O.2.2.2.1
  have hK : va_K D vwCl (tz cA) s := O.2.2.2.2.2.2.2.2.1
  refine va_copyi (ty := .byte) (A := fun q => b ≤ q) hx hb (by rw [O.2.2.1]; exact hl.1.symm) hown (hts _ w1) (hts _ w2) (hts _ w3) (hts _ w4) hK hP wz_D hS a0 a1 0 0 (wz_get ha0) (wz_get ha1) rfl rfl rfl h1 h3 h4 h5 h6 hfit (Nat.le_trans hdd O.2.2.2.2.2.2.2.2.2.2.1) ?_ hd ?_
  · rw [rv_sum]
    have h7 := O.2.2.2.2.2.2.2.2.2.2.2.1
    have h8 : nativeFrameWords "java/lang/System" "arraycopy" 5 + 11 ≤ 30 := by decide
    omega
  · intro H1 locs1 hP1 _ hS1
    subst h2e
    refine K O H1 locs1 ls hl ?_ hS1
    rw [← wz_set]
    exact hP1
end
end
section
/-! constructors: the object's fields, and the cells behind -/
def con0 : JK := fun _ => none
/-- the cells B stand in h from n on -/
def At (h : List MC) (n : Nat) (B : List MC) : Prop := ∀ (i : Nat) (c : MC), B[i]? = some c → h[n + i]? = some c
theorem At_nil {h : List MC} {n : Nat} : At h n [] := fun i c q => by simp at q
theorem At_cons {h B : List MC} {n : Nat} {c : MC} (h1 : h[n]? = some c) (h2 : At h (n + 1) B) : At h n (c :: B) := by
  intro i x q
  cases i with
  | zero => cases q; exact h1
  | succ i =>
    have := h2 i x q
    rwa [Nat.add_assoc, Nat.add_comm 1 i] at this
theorem At_app {h A B : List MC} {n m : Nat} (hm : A.length = m) (h1 : At h n A) (h2 : At h (n + m) B) : At h n (A ++ B) := by
  intro i x q
  rcases Nat.lt_or_ge i A.length with hi | hi
  · rw [List.getElem?_append_left hi] at q; exact h1 i x q
  · rw [List.getElem?_append_right hi] at q
    have := h2 _ x q
    rwa [show n + m + (i - A.length) = n + i by omega] at this
theorem At.fr {h h2 B : List MC} {n N a m : Nat} (hb : At h n B) (hm : B.length = m) (hf : ∀ j, j < N → j ≠ a → h2[j]? = h[j]?) (h1 : n + m ≤ N) (h3 : a < n ∨ n + m ≤ a) : At h2 n B := by
  intro i c q
  have hi := (List.getElem?_eq_some_iff.mp q).1
  rw [hf (n + i) (by omega) (by omega)]
  exact hb i c q
theorem r_set {h h2 : List MC} {a N : Nat} {c : MC} (e : h2 = h.set a c) : ∀ j, j < N → j ≠ a → h2[j]? = h[j]? := fun j _ hj => by rw [e, List.getElem?_set_ne (Ne.symm hj)]
theorem r_push {h h2 : List MC} {a N : Nat} {c : MC} (e : h2 = h ++ [c]) (hN : h.length = N) : ∀ j, j < N → j ≠ a → h2[j]? = h[j]? := fun j hj _ => by rw [e, List.getElem?_append_left (by omega)]
theorem bq {n0 a m b : Nat} (h : a + m ≤ b) : n0 + a + m ≤ n0 + b := by omega
theorem hk1 {h w : List MC} {n0 k : Nat} (hn : h.length = n0) (hw : w.length = n0 + k) : k + h.length = w.length := by omega
theorem a_push {h h2 : List MC} {N : Nat} {c : MC} (e : h2 = h ++ [c]) (hN : h.length = N) : h2[N]? = some c := by
  subst hN; rw [e, List.getElem?_append_right (Nat.le_refl _), Nat.sub_self]; rfl
theorem a_set {h h2 : List MC} {a : Nat} {c c0 : MC} (e : h2 = h.set a c) (h0 : h[a]? = some c0) : h2[a]? = some c := by
  rw [e, List.getElem?_set_self (List.getElem?_eq_some_iff.mp h0).1]
theorem l_push {h h2 : List MC} {N m : Nat} {c : MC} (e : h2 = h ++ [c]) (hN : h.length = N) (hm : N + 1 = m) : h2.length = m := by
  rw [e, List.length_append, hN]; exact hm
theorem l_set {h h2 : List MC} {a N : Nat} {c : MC} (e : h2 = h.set a c) (hN : h.length = N) : h2.length = N := by
  rw [e, List.length_set, hN]
theorem ka0 : Cond.arrayClass .byte ∈ gt := gt_in 161 (by decide +kernel) (by decide +kernel)
theorem ka1 : Cond.arrayClass .int ∈ gt := gt_in 162 (by decide +kernel) (by decide +kernel)
theorem ka2 : Cond.arrayClass .long ∈ gt := gt_in 383 (by decide +kernel) (by decide +kernel)
theorem ka3 : Cond.arrayClass .boolean ∈ gt := gt_in 255 (by decide +kernel) (by decide +kernel)
theorem ko4 : Cond.arrayOver (.object "PondStair$Hill") ∈ nt := nt_in 122 (by decide +kernel) (by decide +kernel)
theorem ko5 : Cond.arrayOver (.object "PondStair$Told") ∈ nt := nt_in 219 (by decide +kernel) (by decide +kernel)
theorem ko6 : Cond.arrayOver (.object "PondStair$Works") ∈ nt := nt_in 124 (by decide +kernel) (by decide +kernel)
theorem fsX0 : ∀ (b : Nat) (ca : Nat → Nat) (j : Nat), j < 10 → defaultValue (tyX0 j) = vp_V (([.null, .null, .int 0, .int 0, .long 0, .int 0, .null, .null, .null, .null] : List Value).map (rv b ca)) j := by
  intro b ca j hj
  match j, hj with
  | 0, _ => rfl
  | 1, _ => rfl
  | 2, _ => rfl
  | 3, _ => rfl
  | 4, _ => rfl
  | 5, _ => rfl
  | 6, _ => rfl
  | 7, _ => rfl
  | 8, _ => rfl
  | 9, _ => rfl
  | j + 10, hj => exact absurd hj (by omega)
theorem fsX1 : ∀ (b : Nat) (ca : Nat → Nat) (j : Nat), j < 6 → defaultValue (tyX1 j) = vp_V (([.int 0, .null, .int 0, .null, .null, .null] : List Value).map (rv b ca)) j := by
  intro b ca j hj
  match j, hj with
  | 0, _ => rfl
  | 1, _ => rfl
  | 2, _ => rfl
  | 3, _ => rfl
  | 4, _ => rfl
  | 5, _ => rfl
  | j + 6, hj => exact absurd hj (by omega)
theorem fsX2 : ∀ (b : Nat) (ca : Nat → Nat) (j : Nat), j < 6 → defaultValue (tyX2 j) = vp_V (([.null, .null, .null, .null, .null, .null] : List Value).map (rv b ca)) j := by
  intro b ca j hj
  match j, hj with
  | 0, _ => rfl
  | 1, _ => rfl
  | 2, _ => rfl
  | 3, _ => rfl
  | 4, _ => rfl
  | 5, _ => rfl
  | j + 6, hj => exact absurd hj (by omega)
theorem fsX3 : ∀ (b : Nat) (ca : Nat → Nat) (j : Nat), j < 7 → defaultValue (tyX3 j) = vp_V (([.null, .null, .null, .null, .null, .int 0, .int 0] : List Value).map (rv b ca)) j := by
  intro b ca j hj
  match j, hj with
  | 0, _ => rfl
  | 1, _ => rfl
  | 2, _ => rfl
  | 3, _ => rfl
  | 4, _ => rfl
  | 5, _ => rfl
  | 6, _ => rfl
  | j + 7, hj => exact absurd hj (by omega)
theorem fsX4 : ∀ (b : Nat) (ca : Nat → Nat) (j : Nat), j < 4 → defaultValue (tyX4 j) = vp_V (([.null, .int 0, .int 0, .int 0] : List Value).map (rv b ca)) j := by
  intro b ca j hj
  match j, hj with
  | 0, _ => rfl
  | 1, _ => rfl
  | 2, _ => rfl
  | 3, _ => rfl
  | j + 4, hj => exact absurd hj (by omega)
theorem fsX5 : ∀ (b : Nat) (ca : Nat → Nat) (j : Nat), j < 7 → defaultValue (tyX5 j) = vp_V (([.int 0, .int 0, .int 0, .int 0, .int 0, .null, .null] : List Value).map (rv b ca)) j := by
  intro b ca j hj
  match j, hj with
  | 0, _ => rfl
  | 1, _ => rfl
  | 2, _ => rfl
  | 3, _ => rfl
  | 4, _ => rfl
  | 5, _ => rfl
  | 6, _ => rfl
  | j + 7, hj => exact absurd hj (by omega)
theorem fsX6 : ∀ (b : Nat) (ca : Nat → Nat) (j : Nat), j < 6 → defaultValue (tyX6 j) = vp_V (([.null, .int 0, .int 0, .int 0, .int 0, .int 0] : List Value).map (rv b ca)) j := by
  intro b ca j hj
  match j, hj with
  | 0, _ => rfl
  | 1, _ => rfl
  | 2, _ => rfl
  | 3, _ => rfl
  | 4, _ => rfl
  | 5, _ => rfl
  | j + 6, hj => exact absurd hj (by omega)
theorem fsX7 : ∀ (b : Nat) (ca : Nat → Nat) (j : Nat), j < 8 → defaultValue (tyX7 j) = vp_V (([.null, .int 0, .int 0, .int 0, .null, .int 0, .null, .int 0] : List Value).map (rv b ca)) j := by
  intro b ca j hj
  match j, hj with
  | 0, _ => rfl
  | 1, _ => rfl
  | 2, _ => rfl
  | 3, _ => rfl
  | 4, _ => rfl
  | 5, _ => rfl
  | 6, _ => rfl
  | 7, _ => rfl
  | j + 8, hj => exact absurd hj (by omega)
theorem fsX8 : ∀ (b : Nat) (ca : Nat → Nat) (j : Nat), j < 4 → defaultValue (tyX8 j) = vp_V (([.int 0, .null, .null, .null] : List Value).map (rv b ca)) j := by
  intro b ca j hj
  match j, hj with
  | 0, _ => rfl
  | 1, _ => rfl
  | 2, _ => rfl
  | 3, _ => rfl
  | j + 4, hj => exact absurd hj (by omega)
theorem fsX9 : ∀ (b : Nat) (ca : Nat → Nat) (j : Nat), j < 1 → defaultValue (tyX9 j) = vp_V (([.int 0] : List Value).map (rv b ca)) j := by
  intro b ca j hj
  match j, hj with
  | 0, _ => rfl
  | j + 1, hj => exact absurd hj (by omega)
theorem fsX10 : ∀ (b : Nat) (ca : Nat → Nat) (j : Nat), j < 10 → defaultValue (tyX10 j) = vp_V (([.null, .null, .null, .null, .null, .null, .null, .null, .null, .null] : List Value).map (rv b ca)) j := by
  intro b ca j hj
  match j, hj with
  | 0, _ => rfl
  | 1, _ => rfl
  | 2, _ => rfl
  | 3, _ => rfl
  | 4, _ => rfl
  | 5, _ => rfl
  | 6, _ => rfl
  | 7, _ => rfl
  | 8, _ => rfl
  | 9, _ => rfl
  | j + 10, hj => exact absurd hj (by omega)
theorem fsX11 : ∀ (b : Nat) (ca : Nat → Nat) (j : Nat), j < 43 → defaultValue (tyX11 j) = vp_V (([.int 0, .null, .null, .null, .null, .null, .null, .null, .int 0, .int 0, .int 0, .int 0, .int 0, .long 0, .int 0, .int 0, .int 0, .int 0, .int 0, .null, .null, .null, .int 0, .int 0, .int 0, .int 0, .int 0, .int 0, .null, .null, .null, .int 0, .int 0, .int 0, .null, .null, .null, .null, .null, .int 0, .long 0, .int 0, .null] : List Value).map (rv b ca)) j := by
  intro b ca j hj
  match j, hj with
  | 0, _ => rfl
  | 1, _ => rfl
  | 2, _ => rfl
  | 3, _ => rfl
  | 4, _ => rfl
  | 5, _ => rfl
  | 6, _ => rfl
  | 7, _ => rfl
  | 8, _ => rfl
  | 9, _ => rfl
  | 10, _ => rfl
  | 11, _ => rfl
  | 12, _ => rfl
  | 13, _ => rfl
  | 14, _ => rfl
  | 15, _ => rfl
  | 16, _ => rfl
  | 17, _ => rfl
  | 18, _ => rfl
  | 19, _ => rfl
  | 20, _ => rfl
  | 21, _ => rfl
  | 22, _ => rfl
  | 23, _ => rfl
  | 24, _ => rfl
  | 25, _ => rfl
  | 26, _ => rfl
  | 27, _ => rfl
  | 28, _ => rfl
  | 29, _ => rfl
  | 30, _ => rfl
  | 31, _ => rfl
  | 32, _ => rfl
  | 33, _ => rfl
  | 34, _ => rfl
  | 35, _ => rfl
  | 36, _ => rfl
  | 37, _ => rfl
  | 38, _ => rfl
  | 39, _ => rfl
  | 40, _ => rfl
  | 41, _ => rfl
  | 42, _ => rfl
  | j + 43, hj => exact absurd hj (by omega)
theorem k129 : Cond.methodLink RX1 3 objectInit ∈ gt := gt_in 129 (by decide +kernel) (by decide +kernel)
theorem k113 : Cond.instanceMethod objectInit ∈ gt := gt_in 113 (by decide +kernel) (by decide +kernel)
theorem k114 : Cond.code objectInit ⟨#[0xb1]⟩ 1 none ∈ gt := gt_in 114 (by decide +kernel) (by decide +kernel)
theorem k130 : Cond.fieldLink RX1 9 "PondStair$Hill" "ponds" "I" ∈ gt := gt_in 130 (by decide +kernel) (by decide +kernel)
theorem k137 : Cond.fieldLink RX1 15 "PondStair$Hill" "row" "[I" ∈ gt := gt_in 137 (by decide +kernel) (by decide +kernel)
theorem k138 : Cond.fieldLink RX1 19 "PondStair$Hill" "rains" "I" ∈ gt := gt_in 138 (by decide +kernel) (by decide +kernel)
theorem k143 : Cond.fieldLink RX1 22 "PondStair$Hill" "rainSteps" "[I" ∈ gt := gt_in 143 (by decide +kernel) (by decide +kernel)
theorem k144 : Cond.fieldLink RX1 25 "PondStair$Hill" "rainChance" "[I" ∈ gt := gt_in 144 (by decide +kernel) (by decide +kernel)
theorem k145 : Cond.fieldLink RX1 28 "PondStair$Hill" "days" "[I" ∈ gt := gt_in 145 (by decide +kernel) (by decide +kernel)
theorem k167 : Cond.methodLink RX8 3 objectInit ∈ gt := gt_in 167 (by decide +kernel) (by decide +kernel)
theorem k168 : Cond.fieldLink RX8 9 "PondStair$Works" "works" "I" ∈ gt := gt_in 168 (by decide +kernel) (by decide +kernel)
theorem k171 : Cond.fieldLink RX8 15 "PondStair$Works" "kind" "[I" ∈ gt := gt_in 171 (by decide +kernel) (by decide +kernel)
theorem k173 : Cond.fieldLink RX8 19 "PondStair$Works" "where" "[I" ∈ gt := gt_in 173 (by decide +kernel) (by decide +kernel)
theorem k175 : Cond.fieldLink RX8 22 "PondStair$Works" "much" "[I" ∈ gt := gt_in 175 (by decide +kernel) (by decide +kernel)
theorem k318 : Cond.methodLink RX5 3 objectInit ∈ gt := gt_in 318 (by decide +kernel) (by decide +kernel)
theorem k319 : Cond.fieldLink RX5 9 "PondStair$Storm" "ponds" "I" ∈ gt := gt_in 319 (by decide +kernel) (by decide +kernel)
theorem k320 : Cond.fieldLink RX5 15 "PondStair$Storm" "went" "I" ∈ gt := gt_in 320 (by decide +kernel) (by decide +kernel)
theorem k324 : Cond.fieldLink RX5 18 "PondStair$Storm" "harm" "I" ∈ gt := gt_in 324 (by decide +kernel) (by decide +kernel)
theorem k326 : Cond.fieldLink RX5 21 "PondStair$Storm" "heard" "I" ∈ gt := gt_in 326 (by decide +kernel) (by decide +kernel)
theorem k327 : Cond.fieldLink RX5 24 "PondStair$Storm" "brook" "I" ∈ gt := gt_in 327 (by decide +kernel) (by decide +kernel)
theorem k329 : Cond.fieldLink RX5 27 "PondStair$Storm" "water" "[I" ∈ gt := gt_in 329 (by decide +kernel) (by decide +kernel)
theorem k330 : Cond.fieldLink RX5 31 "PondStair$Storm" "left" "[I" ∈ gt := gt_in 330 (by decide +kernel) (by decide +kernel)
theorem k231 : Cond.methodLink RX6 1 objectInit ∈ gt := gt_in 231 (by decide +kernel) (by decide +kernel)
theorem k232 : Cond.fieldLink RX6 7 "PondStair$Tokens" "tape" "[B" ∈ gt := gt_in 232 (by decide +kernel) (by decide +kernel)
theorem k233 : Cond.fieldLink RX6 13 "PondStair$Tokens" "length" "I" ∈ gt := gt_in 233 (by decide +kernel) (by decide +kernel)
theorem k235 : Cond.fieldLink RX6 17 "PondStair$Tokens" "next" "I" ∈ gt := gt_in 235 (by decide +kernel) (by decide +kernel)
theorem k236 : Cond.fieldLink RX6 20 "PondStair$Tokens" "kind" "I" ∈ gt := gt_in 236 (by decide +kernel) (by decide +kernel)
theorem k238 : Cond.fieldLink RX6 23 "PondStair$Tokens" "start" "I" ∈ gt := gt_in 238 (by decide +kernel) (by decide +kernel)
theorem k240 : Cond.fieldLink RX6 26 "PondStair$Tokens" "value" "I" ∈ gt := gt_in 240 (by decide +kernel) (by decide +kernel)
theorem k120 : Cond.methodLink RX7 3 objectInit ∈ gt := gt_in 120 (by decide +kernel) (by decide +kernel)
theorem k186 : Cond.fieldLink RX7 9 "PondStair$Told" "tape" "[B" ∈ gt := gt_in 186 (by decide +kernel) (by decide +kernel)
theorem k188 : Cond.fieldLink RX7 15 "PondStair$Told" "length" "I" ∈ gt := gt_in 188 (by decide +kernel) (by decide +kernel)
theorem k190 : Cond.fieldLink RX7 19 "PondStair$Told" "fault" "I" ∈ gt := gt_in 190 (by decide +kernel) (by decide +kernel)
theorem k192 : Cond.fieldLink RX7 22 "PondStair$Told" "place" "I" ∈ gt := gt_in 192 (by decide +kernel) (by decide +kernel)
theorem k121 : Cond.classLink RX7 25 RX1 ∈ gt := gt_in 121 (by decide +kernel) (by decide +kernel)
theorem k194 : Cond.fieldLink RX7 27 "PondStair$Told" "hill" "[LPondStair$Hill;" ∈ gt := gt_in 194 (by decide +kernel) (by decide +kernel)
theorem k196 : Cond.fieldLink RX7 31 "PondStair$Told" "hills" "I" ∈ gt := gt_in 196 (by decide +kernel) (by decide +kernel)
theorem k123 : Cond.classLink RX7 34 RX8 ∈ gt := gt_in 123 (by decide +kernel) (by decide +kernel)
theorem k198 : Cond.fieldLink RX7 36 "PondStair$Told" "works" "[LPondStair$Works;" ∈ gt := gt_in 198 (by decide +kernel) (by decide +kernel)
theorem k200 : Cond.fieldLink RX7 40 "PondStair$Told" "plans" "I" ∈ gt := gt_in 200 (by decide +kernel) (by decide +kernel)
theorem k125 : Cond.instantiable RX1 6 ∈ gt := gt_in 125 (by decide +kernel) (by decide +kernel)
theorem k89 : Cond.initialized RX1 ∈ gt := gt_in 89 (by decide +kernel) (by decide +kernel)
theorem k126 : Cond.methodLinkNest RX7 43 yX1_init "PondStair" ∈ nt := nt_in 126 (by decide +kernel) (by decide +kernel)
theorem k127 : Cond.instanceMethod yX1_init ∈ gt := gt_in 127 (by decide +kernel) (by decide +kernel)
theorem k128 : Cond.code yX1_init cX1_init 1 none ∈ gt := gt_in 128 (by decide +kernel) (by decide +kernel)
theorem np_X1_init : yX1_init.cls ≠ "java/lang/invoke/MethodHandle" ∧ yX1_init.cls ≠ "java/lang/invoke/VarHandle" ∧ (parseMethodDescriptor yX1_init.desc).map (fun d => d.parameters.length) = some 0 := by decide +kernel
theorem k163 : Cond.instantiable RX8 4 ∈ gt := gt_in 163 (by decide +kernel) (by decide +kernel)
theorem k90 : Cond.initialized RX8 ∈ gt := gt_in 90 (by decide +kernel) (by decide +kernel)
theorem k164 : Cond.methodLinkNest RX7 44 yX8_init "PondStair" ∈ nt := nt_in 164 (by decide +kernel) (by decide +kernel)
theorem k165 : Cond.instanceMethod yX8_init ∈ gt := gt_in 165 (by decide +kernel) (by decide +kernel)
theorem k166 : Cond.code yX8_init cX8_init 1 none ∈ gt := gt_in 166 (by decide +kernel) (by decide +kernel)
theorem np_X8_init : yX8_init.cls ≠ "java/lang/invoke/MethodHandle" ∧ yX8_init.cls ≠ "java/lang/invoke/VarHandle" ∧ (parseMethodDescriptor yX8_init.desc).map (fun d => d.parameters.length) = some 0 := by decide +kernel
theorem k225 : Cond.methodLink RX3 3 objectInit ∈ gt := gt_in 225 (by decide +kernel) (by decide +kernel)
theorem k226 : Cond.classLink RX3 9 RX6 ∈ gt := gt_in 226 (by decide +kernel) (by decide +kernel)
theorem k227 : Cond.instantiable RX6 6 ∈ gt := gt_in 227 (by decide +kernel) (by decide +kernel)
theorem k92 : Cond.initialized RX6 ∈ gt := gt_in 92 (by decide +kernel) (by decide +kernel)
theorem k228 : Cond.methodLinkNest RX3 11 yX6_init "PondStair" ∈ nt := nt_in 228 (by decide +kernel) (by decide +kernel)
theorem k229 : Cond.instanceMethod yX6_init ∈ gt := gt_in 229 (by decide +kernel) (by decide +kernel)
theorem k230 : Cond.code yX6_init cX6_init 1 none ∈ gt := gt_in 230 (by decide +kernel) (by decide +kernel)
theorem np_X6_init : yX6_init.cls ≠ "java/lang/invoke/MethodHandle" ∧ yX6_init.cls ≠ "java/lang/invoke/VarHandle" ∧ (parseMethodDescriptor yX6_init.desc).map (fun d => d.parameters.length) = some 0 := by decide +kernel
theorem k260 : Cond.fieldLink RX3 12 "PondStair$Reader" "tokens" "LPondStair$Tokens;" ∈ gt := gt_in 260 (by decide +kernel) (by decide +kernel)
theorem k256 : Cond.classLink RX3 18 RX1 ∈ gt := gt_in 256 (by decide +kernel) (by decide +kernel)
theorem k257 : Cond.methodLinkNest RX3 20 yX1_init "PondStair" ∈ nt := nt_in 257 (by decide +kernel) (by decide +kernel)
theorem k261 : Cond.fieldLink RX3 21 "PondStair$Reader" "hill" "LPondStair$Hill;" ∈ gt := gt_in 261 (by decide +kernel) (by decide +kernel)
theorem k258 : Cond.classLink RX3 25 RX8 ∈ gt := gt_in 258 (by decide +kernel) (by decide +kernel)
theorem k259 : Cond.methodLinkNest RX3 27 yX8_init "PondStair" ∈ nt := nt_in 259 (by decide +kernel) (by decide +kernel)
theorem k263 : Cond.fieldLink RX3 28 "PondStair$Reader" "works" "LPondStair$Works;" ∈ gt := gt_in 263 (by decide +kernel) (by decide +kernel)
theorem k265 : Cond.fieldLink RX3 32 "PondStair$Reader" "numbers" "[I" ∈ gt := gt_in 265 (by decide +kernel) (by decide +kernel)
theorem k266 : Cond.fieldLink RX3 36 "PondStair$Reader" "places" "[I" ∈ gt := gt_in 266 (by decide +kernel) (by decide +kernel)
theorem k267 : Cond.fieldLink RX3 39 "PondStair$Reader" "fault" "I" ∈ gt := gt_in 267 (by decide +kernel) (by decide +kernel)
theorem k269 : Cond.fieldLink RX3 43 "PondStair$Reader" "place" "I" ∈ gt := gt_in 269 (by decide +kernel) (by decide +kernel)
theorem k291 : Cond.methodLink RX4 3 objectInit ∈ gt := gt_in 291 (by decide +kernel) (by decide +kernel)
theorem k292 : Cond.classLink RX4 9 RX1 ∈ gt := gt_in 292 (by decide +kernel) (by decide +kernel)
theorem k293 : Cond.methodLinkNest RX4 11 yX1_init "PondStair" ∈ nt := nt_in 293 (by decide +kernel) (by decide +kernel)
theorem k294 : Cond.fieldLink RX4 12 "PondStair$Site" "ground" "LPondStair$Hill;" ∈ gt := gt_in 294 (by decide +kernel) (by decide +kernel)
theorem k296 : Cond.fieldLink RX4 18 "PondStair$Site" "stop" "I" ∈ gt := gt_in 296 (by decide +kernel) (by decide +kernel)
theorem k298 : Cond.fieldLink RX4 22 "PondStair$Site" "days" "I" ∈ gt := gt_in 298 (by decide +kernel) (by decide +kernel)
theorem k300 : Cond.fieldLink RX4 25 "PondStair$Site" "lost" "I" ∈ gt := gt_in 300 (by decide +kernel) (by decide +kernel)
theorem k357 : Cond.methodLink RX2 3 objectInit ∈ gt := gt_in 357 (by decide +kernel) (by decide +kernel)
theorem k358 : Cond.classLink RX2 9 RX5 ∈ gt := gt_in 358 (by decide +kernel) (by decide +kernel)
theorem k314 : Cond.instantiable RX5 7 ∈ gt := gt_in 314 (by decide +kernel) (by decide +kernel)
theorem k94 : Cond.initialized RX5 ∈ gt := gt_in 94 (by decide +kernel) (by decide +kernel)
theorem k359 : Cond.methodLinkNest RX2 11 yX5_init "PondStair" ∈ nt := nt_in 359 (by decide +kernel) (by decide +kernel)
theorem k316 : Cond.instanceMethod yX5_init ∈ gt := gt_in 316 (by decide +kernel) (by decide +kernel)
theorem k317 : Cond.code yX5_init cX5_init 1 none ∈ gt := gt_in 317 (by decide +kernel) (by decide +kernel)
theorem np_X5_init : yX5_init.cls ≠ "java/lang/invoke/MethodHandle" ∧ yX5_init.cls ≠ "java/lang/invoke/VarHandle" ∧ (parseMethodDescriptor yX5_init.desc).map (fun d => d.parameters.length) = some 0 := by decide +kernel
theorem k362 : Cond.fieldLink RX2 12 "PondStair$Odds" "flow" "LPondStair$Storm;" ∈ gt := gt_in 362 (by decide +kernel) (by decide +kernel)
theorem k360 : Cond.classLink RX2 18 RX1 ∈ gt := gt_in 360 (by decide +kernel) (by decide +kernel)
theorem k361 : Cond.methodLinkNest RX2 20 yX1_init "PondStair" ∈ nt := nt_in 361 (by decide +kernel) (by decide +kernel)
theorem k363 : Cond.fieldLink RX2 21 "PondStair$Odds" "hill" "LPondStair$Hill;" ∈ gt := gt_in 363 (by decide +kernel) (by decide +kernel)
theorem k365 : Cond.fieldLink RX2 25 "PondStair$Odds" "went" "[I" ∈ gt := gt_in 365 (by decide +kernel) (by decide +kernel)
theorem k366 : Cond.fieldLink RX2 29 "PondStair$Odds" "harm" "[I" ∈ gt := gt_in 366 (by decide +kernel) (by decide +kernel)
theorem k367 : Cond.fieldLink RX2 32 "PondStair$Odds" "weight" "[J" ∈ gt := gt_in 367 (by decide +kernel) (by decide +kernel)
theorem k368 : Cond.fieldLink RX2 36 "PondStair$Odds" "together" "[J" ∈ gt := gt_in 368 (by decide +kernel) (by decide +kernel)
theorem k351 : Cond.methodLink RX0 3 objectInit ∈ gt := gt_in 351 (by decide +kernel) (by decide +kernel)
theorem k352 : Cond.classLink RX0 9 RX2 ∈ gt := gt_in 352 (by decide +kernel) (by decide +kernel)
theorem k353 : Cond.instantiable RX2 6 ∈ gt := gt_in 353 (by decide +kernel) (by decide +kernel)
theorem k96 : Cond.initialized RX2 ∈ gt := gt_in 96 (by decide +kernel) (by decide +kernel)
theorem k354 : Cond.methodLinkNest RX0 11 yX2_init "PondStair" ∈ nt := nt_in 354 (by decide +kernel) (by decide +kernel)
theorem k355 : Cond.instanceMethod yX2_init ∈ gt := gt_in 355 (by decide +kernel) (by decide +kernel)
theorem k356 : Cond.code yX2_init cX2_init 1 none ∈ gt := gt_in 356 (by decide +kernel) (by decide +kernel)
theorem np_X2_init : yX2_init.cls ≠ "java/lang/invoke/MethodHandle" ∧ yX2_init.cls ≠ "java/lang/invoke/VarHandle" ∧ (parseMethodDescriptor yX2_init.desc).map (fun d => d.parameters.length) = some 0 := by decide +kernel
theorem k386 : Cond.fieldLink RX0 12 "PondStair$Choice" "odds" "LPondStair$Odds;" ∈ gt := gt_in 386 (by decide +kernel) (by decide +kernel)
theorem k384 : Cond.classLink RX0 18 RX1 ∈ gt := gt_in 384 (by decide +kernel) (by decide +kernel)
theorem k385 : Cond.methodLinkNest RX0 20 yX1_init "PondStair" ∈ nt := nt_in 385 (by decide +kernel) (by decide +kernel)
theorem k388 : Cond.fieldLink RX0 21 "PondStair$Choice" "trial" "LPondStair$Hill;" ∈ gt := gt_in 388 (by decide +kernel) (by decide +kernel)
theorem k389 : Cond.fieldLink RX0 25 "PondStair$Choice" "first" "I" ∈ gt := gt_in 389 (by decide +kernel) (by decide +kernel)
theorem k391 : Cond.fieldLink RX0 29 "PondStair$Choice" "second" "I" ∈ gt := gt_in 391 (by decide +kernel) (by decide +kernel)
theorem k393 : Cond.fieldLink RX0 32 "PondStair$Choice" "least" "J" ∈ gt := gt_in 393 (by decide +kernel) (by decide +kernel)
theorem k395 : Cond.fieldLink RX0 36 "PondStair$Choice" "filling" "I" ∈ gt := gt_in 395 (by decide +kernel) (by decide +kernel)
theorem k396 : Cond.fieldLink RX0 39 "PondStair$Choice" "toFill" "[I" ∈ gt := gt_in 396 (by decide +kernel) (by decide +kernel)
theorem k397 : Cond.fieldLink RX0 43 "PondStair$Choice" "order" "[I" ∈ gt := gt_in 397 (by decide +kernel) (by decide +kernel)
theorem k398 : Cond.fieldLink RX0 46 "PondStair$Choice" "tried" "[I" ∈ gt := gt_in 398 (by decide +kernel) (by decide +kernel)
theorem k399 : Cond.fieldLink RX0 49 "PondStair$Choice" "filledMean" "[J" ∈ gt := gt_in 399 (by decide +kernel) (by decide +kernel)
theorem k112 : Cond.methodLink RX10 1 objectInit ∈ gt := gt_in 112 (by decide +kernel) (by decide +kernel)
theorem k115 : Cond.classLink RX10 7 RX7 ∈ gt := gt_in 115 (by decide +kernel) (by decide +kernel)
theorem k116 : Cond.instantiable RX7 8 ∈ gt := gt_in 116 (by decide +kernel) (by decide +kernel)
theorem k88 : Cond.initialized RX7 ∈ gt := gt_in 88 (by decide +kernel) (by decide +kernel)
theorem k117 : Cond.methodLink RX10 9 yX7_init ∈ gt := gt_in 117 (by decide +kernel) (by decide +kernel)
theorem k118 : Cond.instanceMethod yX7_init ∈ gt := gt_in 118 (by decide +kernel) (by decide +kernel)
theorem k119 : Cond.code yX7_init cX7_init 2 none ∈ gt := gt_in 119 (by decide +kernel) (by decide +kernel)
theorem np_X7_init : yX7_init.cls ≠ "java/lang/invoke/MethodHandle" ∧ yX7_init.cls ≠ "java/lang/invoke/VarHandle" ∧ (parseMethodDescriptor yX7_init.desc).map (fun d => d.parameters.length) = some 0 := by decide +kernel
theorem k423 : Cond.fieldLink RX10 10 "PondStair" "told" "LPondStair$Told;" ∈ gt := gt_in 423 (by decide +kernel) (by decide +kernel)
theorem k424 : Cond.fieldLink RX10 16 "PondStair" "images" "[LPondStair$Told;" ∈ gt := gt_in 424 (by decide +kernel) (by decide +kernel)
theorem k425 : Cond.fieldLink RX10 20 "PondStair" "taken" "[Z" ∈ gt := gt_in 425 (by decide +kernel) (by decide +kernel)
theorem k220 : Cond.classLink RX10 24 RX3 ∈ gt := gt_in 220 (by decide +kernel) (by decide +kernel)
theorem k221 : Cond.instantiable RX3 7 ∈ gt := gt_in 221 (by decide +kernel) (by decide +kernel)
theorem k91 : Cond.initialized RX3 ∈ gt := gt_in 91 (by decide +kernel) (by decide +kernel)
theorem k222 : Cond.methodLinkNest RX10 26 yX3_init "PondStair" ∈ nt := nt_in 222 (by decide +kernel) (by decide +kernel)
theorem k223 : Cond.instanceMethod yX3_init ∈ gt := gt_in 223 (by decide +kernel) (by decide +kernel)
theorem k224 : Cond.code yX3_init cX3_init 1 none ∈ gt := gt_in 224 (by decide +kernel) (by decide +kernel)
theorem np_X3_init : yX3_init.cls ≠ "java/lang/invoke/MethodHandle" ∧ yX3_init.cls ≠ "java/lang/invoke/VarHandle" ∧ (parseMethodDescriptor yX3_init.desc).map (fun d => d.parameters.length) = some 0 := by decide +kernel
theorem k426 : Cond.fieldLink RX10 27 "PondStair" "reader" "LPondStair$Reader;" ∈ gt := gt_in 426 (by decide +kernel) (by decide +kernel)
theorem k286 : Cond.classLink RX10 31 RX4 ∈ gt := gt_in 286 (by decide +kernel) (by decide +kernel)
theorem k287 : Cond.instantiable RX4 4 ∈ gt := gt_in 287 (by decide +kernel) (by decide +kernel)
theorem k93 : Cond.initialized RX4 ∈ gt := gt_in 93 (by decide +kernel) (by decide +kernel)
theorem k288 : Cond.methodLinkNest RX10 33 yX4_init "PondStair" ∈ nt := nt_in 288 (by decide +kernel) (by decide +kernel)
theorem k289 : Cond.instanceMethod yX4_init ∈ gt := gt_in 289 (by decide +kernel) (by decide +kernel)
theorem k290 : Cond.code yX4_init cX4_init 1 none ∈ gt := gt_in 290 (by decide +kernel) (by decide +kernel)
theorem np_X4_init : yX4_init.cls ≠ "java/lang/invoke/MethodHandle" ∧ yX4_init.cls ≠ "java/lang/invoke/VarHandle" ∧ (parseMethodDescriptor yX4_init.desc).map (fun d => d.parameters.length) = some 0 := by decide +kernel
theorem k427 : Cond.fieldLink RX10 34 "PondStair" "site" "LPondStair$Site;" ∈ gt := gt_in 427 (by decide +kernel) (by decide +kernel)
theorem k311 : Cond.classLink RX10 38 RX8 ∈ gt := gt_in 311 (by decide +kernel) (by decide +kernel)
theorem k312 : Cond.methodLinkNest RX10 40 yX8_init "PondStair" ∈ nt := nt_in 312 (by decide +kernel) (by decide +kernel)
theorem k428 : Cond.fieldLink RX10 41 "PondStair" "nothing" "LPondStair$Works;" ∈ gt := gt_in 428 (by decide +kernel) (by decide +kernel)
theorem k313 : Cond.classLink RX10 45 RX5 ∈ gt := gt_in 313 (by decide +kernel) (by decide +kernel)
theorem k315 : Cond.methodLinkNest RX10 47 yX5_init "PondStair" ∈ nt := nt_in 315 (by decide +kernel) (by decide +kernel)
theorem k429 : Cond.fieldLink RX10 48 "PondStair" "flow" "LPondStair$Storm;" ∈ gt := gt_in 429 (by decide +kernel) (by decide +kernel)
theorem k346 : Cond.classLink RX10 52 RX0 ∈ gt := gt_in 346 (by decide +kernel) (by decide +kernel)
theorem k347 : Cond.instantiable RX0 10 ∈ gt := gt_in 347 (by decide +kernel) (by decide +kernel)
theorem k95 : Cond.initialized RX0 ∈ gt := gt_in 95 (by decide +kernel) (by decide +kernel)
theorem k348 : Cond.methodLinkNest RX10 54 yX0_init "PondStair" ∈ nt := nt_in 348 (by decide +kernel) (by decide +kernel)
theorem k349 : Cond.instanceMethod yX0_init ∈ gt := gt_in 349 (by decide +kernel) (by decide +kernel)
theorem k350 : Cond.code yX0_init cX0_init 1 none ∈ gt := gt_in 350 (by decide +kernel) (by decide +kernel)
theorem np_X0_init : yX0_init.cls ≠ "java/lang/invoke/MethodHandle" ∧ yX0_init.cls ≠ "java/lang/invoke/VarHandle" ∧ (parseMethodDescriptor yX0_init.desc).map (fun d => d.parameters.length) = some 0 := by decide +kernel
theorem k430 : Cond.fieldLink RX10 55 "PondStair" "choice" "LPondStair$Choice;" ∈ gt := gt_in 430 (by decide +kernel) (by decide +kernel)
theorem k387 : Cond.fieldLinkNest RX10 59 "PondStair$Choice" "odds" "LPondStair$Odds;" "PondStair" ∈ nt := nt_in 387 (by decide +kernel) (by decide +kernel)
theorem k431 : Cond.fieldLink RX10 63 "PondStair" "odds" "LPondStair$Odds;" ∈ gt := gt_in 431 (by decide +kernel) (by decide +kernel)
theorem k421 : Cond.classLink RX10 64 RX1 ∈ gt := gt_in 421 (by decide +kernel) (by decide +kernel)
theorem k422 : Cond.methodLinkNest RX10 66 yX1_init "PondStair" ∈ nt := nt_in 422 (by decide +kernel) (by decide +kernel)
theorem k432 : Cond.fieldLink RX10 67 "PondStair" "trial" "LPondStair$Hill;" ∈ gt := gt_in 432 (by decide +kernel) (by decide +kernel)
theorem k1263 : Cond.methodLink RX11 1 objectInit ∈ gt := gt_in 1263 (by decide +kernel) (by decide +kernel)
theorem k1265 : Cond.fieldLink RX11 7 "PondStairModel" "tape" "[B" ∈ gt := gt_in 1265 (by decide +kernel) (by decide +kernel)
theorem k1266 : Cond.fieldLink RX11 13 "PondStairModel" "size" "[I" ∈ gt := gt_in 1266 (by decide +kernel) (by decide +kernel)
theorem k1267 : Cond.fieldLink RX11 17 "PondStairModel" "fault" "[I" ∈ gt := gt_in 1267 (by decide +kernel) (by decide +kernel)
theorem k1268 : Cond.fieldLink RX11 20 "PondStairModel" "faultPlace" "[I" ∈ gt := gt_in 1268 (by decide +kernel) (by decide +kernel)
theorem k1269 : Cond.fieldLink RX11 23 "PondStairModel" "many" "[I" ∈ gt := gt_in 1269 (by decide +kernel) (by decide +kernel)
theorem k1270 : Cond.fieldLink RX11 26 "PondStairModel" "hills" "[I" ∈ gt := gt_in 1270 (by decide +kernel) (by decide +kernel)
theorem k1271 : Cond.fieldLink RX11 29 "PondStairModel" "plans" "[I" ∈ gt := gt_in 1271 (by decide +kernel) (by decide +kernel)
theorem k1283 : Cond.fieldLink RX11 32 "PondStairModel" "row" "[I" ∈ gt := gt_in 1283 (by decide +kernel) (by decide +kernel)
theorem k1284 : Cond.fieldLink RX11 35 "PondStairModel" "got" "[I" ∈ gt := gt_in 1284 (by decide +kernel) (by decide +kernel)
theorem k1285 : Cond.fieldLink RX11 38 "PondStairModel" "now" "[I" ∈ gt := gt_in 1285 (by decide +kernel) (by decide +kernel)
theorem k1292 : Cond.fieldLink RX11 41 "PondStairModel" "water" "[I" ∈ gt := gt_in 1292 (by decide +kernel) (by decide +kernel)
theorem k1293 : Cond.fieldLink RX11 44 "PondStairModel" "comes" "[I" ∈ gt := gt_in 1293 (by decide +kernel) (by decide +kernel)
theorem k1294 : Cond.fieldLink RX11 47 "PondStairModel" "left" "[I" ∈ gt := gt_in 1294 (by decide +kernel) (by decide +kernel)
theorem k1298 : Cond.fieldLink RX11 50 "PondStairModel" "partsOfSet" "[J" ∈ gt := gt_in 1298 (by decide +kernel) (by decide +kernel)
theorem k1299 : Cond.fieldLink RX11 54 "PondStairModel" "chance" "[I" ∈ gt := gt_in 1299 (by decide +kernel) (by decide +kernel)
theorem k1300 : Cond.fieldLink RX11 57 "PondStairModel" "level" "[I" ∈ gt := gt_in 1300 (by decide +kernel) (by decide +kernel)
theorem k1301 : Cond.fieldLink RX11 60 "PondStairModel" "row4" "[I" ∈ gt := gt_in 1301 (by decide +kernel) (by decide +kernel)
theorem k1302 : Cond.fieldLink RX11 63 "PondStairModel" "best4" "[I" ∈ gt := gt_in 1302 (by decide +kernel) (by decide +kernel)
theorem k1306 : Cond.fieldLink RX11 66 "PondStairModel" "stored" "[Z" ∈ gt := gt_in 1306 (by decide +kernel) (by decide +kernel)
theorem dX1_init_0 : decode cX1_init 0 = .ok (.aload_n 0, 1) := by decide +kernel
theorem dX1_init_1 : decode cX1_init 1 = .ok (.invokespecial 3, 3) := by decide +kernel
theorem dX1_init_4 : decode cX1_init 4 = .ok (.aload_n 0, 1) := by decide +kernel
theorem dX1_init_5 : decode cX1_init 5 = .ok (.iconst 0, 1) := by decide +kernel
theorem dX1_init_6 : decode cX1_init 6 = .ok (.putfield 9, 3) := by decide +kernel
theorem dX1_init_9 : decode cX1_init 9 = .ok (.aload_n 0, 1) := by decide +kernel
theorem dX1_init_10 : decode cX1_init 10 = .ok (.sipush 144, 3) := by decide +kernel
theorem dX1_init_13 : decode cX1_init 13 = .ok (.newarray .int, 2) := by decide +kernel
theorem dX1_init_15 : decode cX1_init 15 = .ok (.putfield 15, 3) := by decide +kernel
theorem dX1_init_18 : decode cX1_init 18 = .ok (.aload_n 0, 1) := by decide +kernel
theorem dX1_init_19 : decode cX1_init 19 = .ok (.iconst 0, 1) := by decide +kernel
theorem dX1_init_20 : decode cX1_init 20 = .ok (.putfield 19, 3) := by decide +kernel
theorem dX1_init_23 : decode cX1_init 23 = .ok (.aload_n 0, 1) := by decide +kernel
theorem dX1_init_24 : decode cX1_init 24 = .ok (.iconst 4, 1) := by decide +kernel
theorem dX1_init_25 : decode cX1_init 25 = .ok (.newarray .int, 2) := by decide +kernel
theorem dX1_init_27 : decode cX1_init 27 = .ok (.putfield 22, 3) := by decide +kernel
theorem dX1_init_30 : decode cX1_init 30 = .ok (.aload_n 0, 1) := by decide +kernel
theorem dX1_init_31 : decode cX1_init 31 = .ok (.iconst 4, 1) := by decide +kernel
theorem dX1_init_32 : decode cX1_init 32 = .ok (.newarray .int, 2) := by decide +kernel
theorem dX1_init_34 : decode cX1_init 34 = .ok (.putfield 25, 3) := by decide +kernel
theorem dX1_init_37 : decode cX1_init 37 = .ok (.aload_n 0, 1) := by decide +kernel
theorem dX1_init_38 : decode cX1_init 38 = .ok (.iconst 3, 1) := by decide +kernel
theorem dX1_init_39 : decode cX1_init 39 = .ok (.newarray .int, 2) := by decide +kernel
theorem dX1_init_41 : decode cX1_init 41 = .ok (.putfield 28, 3) := by decide +kernel
theorem dX1_init_44 : decode cX1_init 44 = .ok (.return_, 1) := by decide +kernel
theorem dX8_init_0 : decode cX8_init 0 = .ok (.aload_n 0, 1) := by decide +kernel
theorem dX8_init_1 : decode cX8_init 1 = .ok (.invokespecial 3, 3) := by decide +kernel
theorem dX8_init_4 : decode cX8_init 4 = .ok (.aload_n 0, 1) := by decide +kernel
theorem dX8_init_5 : decode cX8_init 5 = .ok (.iconst 0, 1) := by decide +kernel
theorem dX8_init_6 : decode cX8_init 6 = .ok (.putfield 9, 3) := by decide +kernel
theorem dX8_init_9 : decode cX8_init 9 = .ok (.aload_n 0, 1) := by decide +kernel
theorem dX8_init_10 : decode cX8_init 10 = .ok (.bipush 12, 2) := by decide +kernel
theorem dX8_init_12 : decode cX8_init 12 = .ok (.newarray .int, 2) := by decide +kernel
theorem dX8_init_14 : decode cX8_init 14 = .ok (.putfield 15, 3) := by decide +kernel
theorem dX8_init_17 : decode cX8_init 17 = .ok (.aload_n 0, 1) := by decide +kernel
theorem dX8_init_18 : decode cX8_init 18 = .ok (.bipush 12, 2) := by decide +kernel
theorem dX8_init_20 : decode cX8_init 20 = .ok (.newarray .int, 2) := by decide +kernel
theorem dX8_init_22 : decode cX8_init 22 = .ok (.putfield 19, 3) := by decide +kernel
theorem dX8_init_25 : decode cX8_init 25 = .ok (.aload_n 0, 1) := by decide +kernel
theorem dX8_init_26 : decode cX8_init 26 = .ok (.bipush 12, 2) := by decide +kernel
theorem dX8_init_28 : decode cX8_init 28 = .ok (.newarray .int, 2) := by decide +kernel
theorem dX8_init_30 : decode cX8_init 30 = .ok (.putfield 22, 3) := by decide +kernel
theorem dX8_init_33 : decode cX8_init 33 = .ok (.return_, 1) := by decide +kernel
theorem dX5_init_0 : decode cX5_init 0 = .ok (.aload_n 0, 1) := by decide +kernel
theorem dX5_init_1 : decode cX5_init 1 = .ok (.invokespecial 3, 3) := by decide +kernel
theorem dX5_init_4 : decode cX5_init 4 = .ok (.aload_n 0, 1) := by decide +kernel
theorem dX5_init_5 : decode cX5_init 5 = .ok (.iconst 0, 1) := by decide +kernel
theorem dX5_init_6 : decode cX5_init 6 = .ok (.putfield 9, 3) := by decide +kernel
theorem dX5_init_9 : decode cX5_init 9 = .ok (.aload_n 0, 1) := by decide +kernel
theorem dX5_init_10 : decode cX5_init 10 = .ok (.iconst 0, 1) := by decide +kernel
theorem dX5_init_11 : decode cX5_init 11 = .ok (.putfield 15, 3) := by decide +kernel
theorem dX5_init_14 : decode cX5_init 14 = .ok (.aload_n 0, 1) := by decide +kernel
theorem dX5_init_15 : decode cX5_init 15 = .ok (.iconst 0, 1) := by decide +kernel
theorem dX5_init_16 : decode cX5_init 16 = .ok (.putfield 18, 3) := by decide +kernel
theorem dX5_init_19 : decode cX5_init 19 = .ok (.aload_n 0, 1) := by decide +kernel
theorem dX5_init_20 : decode cX5_init 20 = .ok (.iconst 0, 1) := by decide +kernel
theorem dX5_init_21 : decode cX5_init 21 = .ok (.putfield 21, 3) := by decide +kernel
theorem dX5_init_24 : decode cX5_init 24 = .ok (.aload_n 0, 1) := by decide +kernel
theorem dX5_init_25 : decode cX5_init 25 = .ok (.iconst 0, 1) := by decide +kernel
theorem dX5_init_26 : decode cX5_init 26 = .ok (.putfield 24, 3) := by decide +kernel
theorem dX5_init_29 : decode cX5_init 29 = .ok (.aload_n 0, 1) := by decide +kernel
theorem dX5_init_30 : decode cX5_init 30 = .ok (.bipush 9, 2) := by decide +kernel
theorem dX5_init_32 : decode cX5_init 32 = .ok (.newarray .int, 2) := by decide +kernel
theorem dX5_init_34 : decode cX5_init 34 = .ok (.putfield 27, 3) := by decide +kernel
theorem dX5_init_37 : decode cX5_init 37 = .ok (.aload_n 0, 1) := by decide +kernel
theorem dX5_init_38 : decode cX5_init 38 = .ok (.bipush 9, 2) := by decide +kernel
theorem dX5_init_40 : decode cX5_init 40 = .ok (.newarray .int, 2) := by decide +kernel
theorem dX5_init_42 : decode cX5_init 42 = .ok (.putfield 31, 3) := by decide +kernel
theorem dX5_init_45 : decode cX5_init 45 = .ok (.return_, 1) := by decide +kernel
theorem dX6_init_0 : decode cX6_init 0 = .ok (.aload_n 0, 1) := by decide +kernel
theorem dX6_init_1 : decode cX6_init 1 = .ok (.invokespecial 1, 3) := by decide +kernel
theorem dX6_init_4 : decode cX6_init 4 = .ok (.aload_n 0, 1) := by decide +kernel
theorem dX6_init_5 : decode cX6_init 5 = .ok (.iconst 0, 1) := by decide +kernel
theorem dX6_init_6 : decode cX6_init 6 = .ok (.newarray .byte, 2) := by decide +kernel
theorem dX6_init_8 : decode cX6_init 8 = .ok (.putfield 7, 3) := by decide +kernel
theorem dX6_init_11 : decode cX6_init 11 = .ok (.aload_n 0, 1) := by decide +kernel
theorem dX6_init_12 : decode cX6_init 12 = .ok (.iconst 0, 1) := by decide +kernel
theorem dX6_init_13 : decode cX6_init 13 = .ok (.putfield 13, 3) := by decide +kernel
theorem dX6_init_16 : decode cX6_init 16 = .ok (.aload_n 0, 1) := by decide +kernel
theorem dX6_init_17 : decode cX6_init 17 = .ok (.iconst 0, 1) := by decide +kernel
theorem dX6_init_18 : decode cX6_init 18 = .ok (.putfield 17, 3) := by decide +kernel
theorem dX6_init_21 : decode cX6_init 21 = .ok (.aload_n 0, 1) := by decide +kernel
theorem dX6_init_22 : decode cX6_init 22 = .ok (.iconst 0, 1) := by decide +kernel
theorem dX6_init_23 : decode cX6_init 23 = .ok (.putfield 20, 3) := by decide +kernel
theorem dX6_init_26 : decode cX6_init 26 = .ok (.aload_n 0, 1) := by decide +kernel
theorem dX6_init_27 : decode cX6_init 27 = .ok (.iconst 0, 1) := by decide +kernel
theorem dX6_init_28 : decode cX6_init 28 = .ok (.putfield 23, 3) := by decide +kernel
theorem dX6_init_31 : decode cX6_init 31 = .ok (.aload_n 0, 1) := by decide +kernel
theorem dX6_init_32 : decode cX6_init 32 = .ok (.iconst 0, 1) := by decide +kernel
theorem dX6_init_33 : decode cX6_init 33 = .ok (.putfield 26, 3) := by decide +kernel
theorem dX6_init_36 : decode cX6_init 36 = .ok (.return_, 1) := by decide +kernel
theorem dX7_init_0 : decode cX7_init 0 = .ok (.aload_n 0, 1) := by decide +kernel
theorem dX7_init_1 : decode cX7_init 1 = .ok (.invokespecial 3, 3) := by decide +kernel
theorem dX7_init_4 : decode cX7_init 4 = .ok (.aload_n 0, 1) := by decide +kernel
theorem dX7_init_5 : decode cX7_init 5 = .ok (.sipush 600, 3) := by decide +kernel
theorem dX7_init_8 : decode cX7_init 8 = .ok (.newarray .byte, 2) := by decide +kernel
theorem dX7_init_10 : decode cX7_init 10 = .ok (.putfield 9, 3) := by decide +kernel
theorem dX7_init_13 : decode cX7_init 13 = .ok (.aload_n 0, 1) := by decide +kernel
theorem dX7_init_14 : decode cX7_init 14 = .ok (.iconst 0, 1) := by decide +kernel
theorem dX7_init_15 : decode cX7_init 15 = .ok (.putfield 15, 3) := by decide +kernel
theorem dX7_init_18 : decode cX7_init 18 = .ok (.aload_n 0, 1) := by decide +kernel
theorem dX7_init_19 : decode cX7_init 19 = .ok (.iconst 0, 1) := by decide +kernel
theorem dX7_init_20 : decode cX7_init 20 = .ok (.putfield 19, 3) := by decide +kernel
theorem dX7_init_23 : decode cX7_init 23 = .ok (.aload_n 0, 1) := by decide +kernel
theorem dX7_init_24 : decode cX7_init 24 = .ok (.iconst (-1), 1) := by decide +kernel
theorem dX7_init_25 : decode cX7_init 25 = .ok (.putfield 22, 3) := by decide +kernel
theorem dX7_init_28 : decode cX7_init 28 = .ok (.aload_n 0, 1) := by decide +kernel
theorem dX7_init_29 : decode cX7_init 29 = .ok (.iconst 2, 1) := by decide +kernel
theorem dX7_init_30 : decode cX7_init 30 = .ok (.anewarray 25, 3) := by decide +kernel
theorem dX7_init_33 : decode cX7_init 33 = .ok (.putfield 27, 3) := by decide +kernel
theorem dX7_init_36 : decode cX7_init 36 = .ok (.aload_n 0, 1) := by decide +kernel
theorem dX7_init_37 : decode cX7_init 37 = .ok (.iconst 0, 1) := by decide +kernel
theorem dX7_init_38 : decode cX7_init 38 = .ok (.putfield 31, 3) := by decide +kernel
theorem dX7_init_41 : decode cX7_init 41 = .ok (.aload_n 0, 1) := by decide +kernel
theorem dX7_init_42 : decode cX7_init 42 = .ok (.iconst 3, 1) := by decide +kernel
theorem dX7_init_43 : decode cX7_init 43 = .ok (.anewarray 34, 3) := by decide +kernel
theorem dX7_init_46 : decode cX7_init 46 = .ok (.putfield 36, 3) := by decide +kernel
theorem dX7_init_49 : decode cX7_init 49 = .ok (.aload_n 0, 1) := by decide +kernel
theorem dX7_init_50 : decode cX7_init 50 = .ok (.iconst 0, 1) := by decide +kernel
theorem dX7_init_51 : decode cX7_init 51 = .ok (.putfield 40, 3) := by decide +kernel
theorem dX7_init_54 : decode cX7_init 54 = .ok (.iconst 0, 1) := by decide +kernel
theorem dX7_init_55 : decode cX7_init 55 = .ok (.istore_n 1, 1) := by decide +kernel
theorem dX7_init_56 : decode cX7_init 56 = .ok (.iload_n 1, 1) := by decide +kernel
theorem dX7_init_57 : decode cX7_init 57 = .ok (.iconst 2, 1) := by decide +kernel
theorem dX7_init_58 : decode cX7_init 58 = .ok (.if_icmp .ge 22, 3) := by decide +kernel
theorem dX7_init_61 : decode cX7_init 61 = .ok (.aload_n 0, 1) := by decide +kernel
theorem dX7_init_62 : decode cX7_init 62 = .ok (.getfield 27, 3) := by decide +kernel
theorem dX7_init_65 : decode cX7_init 65 = .ok (.iload_n 1, 1) := by decide +kernel
theorem dX7_init_66 : decode cX7_init 66 = .ok (.new 25, 3) := by decide +kernel
theorem dX7_init_69 : decode cX7_init 69 = .ok (.dup, 1) := by decide +kernel
theorem dX7_init_70 : decode cX7_init 70 = .ok (.invokespecial 43, 3) := by decide +kernel
theorem dX7_init_73 : decode cX7_init 73 = .ok (.aastore, 1) := by decide +kernel
theorem dX7_init_74 : decode cX7_init 74 = .ok (.iinc 1 1, 3) := by decide +kernel
theorem dX7_init_77 : decode cX7_init 77 = .ok (.goto (-21), 3) := by decide +kernel
theorem dX7_init_80 : decode cX7_init 80 = .ok (.iconst 0, 1) := by decide +kernel
theorem dX7_init_81 : decode cX7_init 81 = .ok (.istore_n 1, 1) := by decide +kernel
theorem dX7_init_82 : decode cX7_init 82 = .ok (.iload_n 1, 1) := by decide +kernel
theorem dX7_init_83 : decode cX7_init 83 = .ok (.iconst 3, 1) := by decide +kernel
theorem dX7_init_84 : decode cX7_init 84 = .ok (.if_icmp .ge 22, 3) := by decide +kernel
theorem dX7_init_87 : decode cX7_init 87 = .ok (.aload_n 0, 1) := by decide +kernel
theorem dX7_init_88 : decode cX7_init 88 = .ok (.getfield 36, 3) := by decide +kernel
theorem dX7_init_91 : decode cX7_init 91 = .ok (.iload_n 1, 1) := by decide +kernel
theorem dX7_init_92 : decode cX7_init 92 = .ok (.new 34, 3) := by decide +kernel
theorem dX7_init_95 : decode cX7_init 95 = .ok (.dup, 1) := by decide +kernel
theorem dX7_init_96 : decode cX7_init 96 = .ok (.invokespecial 44, 3) := by decide +kernel
theorem dX7_init_99 : decode cX7_init 99 = .ok (.aastore, 1) := by decide +kernel
theorem dX7_init_100 : decode cX7_init 100 = .ok (.iinc 1 1, 3) := by decide +kernel
theorem dX7_init_103 : decode cX7_init 103 = .ok (.goto (-21), 3) := by decide +kernel
theorem dX7_init_106 : decode cX7_init 106 = .ok (.return_, 1) := by decide +kernel
theorem dX3_init_0 : decode cX3_init 0 = .ok (.aload_n 0, 1) := by decide +kernel
theorem dX3_init_1 : decode cX3_init 1 = .ok (.invokespecial 3, 3) := by decide +kernel
theorem dX3_init_4 : decode cX3_init 4 = .ok (.aload_n 0, 1) := by decide +kernel
theorem dX3_init_5 : decode cX3_init 5 = .ok (.new 9, 3) := by decide +kernel
theorem dX3_init_8 : decode cX3_init 8 = .ok (.dup, 1) := by decide +kernel
theorem dX3_init_9 : decode cX3_init 9 = .ok (.invokespecial 11, 3) := by decide +kernel
theorem dX3_init_12 : decode cX3_init 12 = .ok (.putfield 12, 3) := by decide +kernel
theorem dX3_init_15 : decode cX3_init 15 = .ok (.aload_n 0, 1) := by decide +kernel
theorem dX3_init_16 : decode cX3_init 16 = .ok (.new 18, 3) := by decide +kernel
theorem dX3_init_19 : decode cX3_init 19 = .ok (.dup, 1) := by decide +kernel
theorem dX3_init_20 : decode cX3_init 20 = .ok (.invokespecial 20, 3) := by decide +kernel
theorem dX3_init_23 : decode cX3_init 23 = .ok (.putfield 21, 3) := by decide +kernel
theorem dX3_init_26 : decode cX3_init 26 = .ok (.aload_n 0, 1) := by decide +kernel
theorem dX3_init_27 : decode cX3_init 27 = .ok (.new 25, 3) := by decide +kernel
theorem dX3_init_30 : decode cX3_init 30 = .ok (.dup, 1) := by decide +kernel
theorem dX3_init_31 : decode cX3_init 31 = .ok (.invokespecial 27, 3) := by decide +kernel
theorem dX3_init_34 : decode cX3_init 34 = .ok (.putfield 28, 3) := by decide +kernel
theorem dX3_init_37 : decode cX3_init 37 = .ok (.aload_n 0, 1) := by decide +kernel
theorem dX3_init_38 : decode cX3_init 38 = .ok (.iconst 3, 1) := by decide +kernel
theorem dX3_init_39 : decode cX3_init 39 = .ok (.newarray .int, 2) := by decide +kernel
theorem dX3_init_41 : decode cX3_init 41 = .ok (.putfield 32, 3) := by decide +kernel
theorem dX3_init_44 : decode cX3_init 44 = .ok (.aload_n 0, 1) := by decide +kernel
theorem dX3_init_45 : decode cX3_init 45 = .ok (.iconst 3, 1) := by decide +kernel
theorem dX3_init_46 : decode cX3_init 46 = .ok (.newarray .int, 2) := by decide +kernel
theorem dX3_init_48 : decode cX3_init 48 = .ok (.putfield 36, 3) := by decide +kernel
theorem dX3_init_51 : decode cX3_init 51 = .ok (.aload_n 0, 1) := by decide +kernel
theorem dX3_init_52 : decode cX3_init 52 = .ok (.iconst 0, 1) := by decide +kernel
theorem dX3_init_53 : decode cX3_init 53 = .ok (.putfield 39, 3) := by decide +kernel
theorem dX3_init_56 : decode cX3_init 56 = .ok (.aload_n 0, 1) := by decide +kernel
theorem dX3_init_57 : decode cX3_init 57 = .ok (.iconst (-1), 1) := by decide +kernel
theorem dX3_init_58 : decode cX3_init 58 = .ok (.putfield 43, 3) := by decide +kernel
theorem dX3_init_61 : decode cX3_init 61 = .ok (.return_, 1) := by decide +kernel
theorem dX4_init_0 : decode cX4_init 0 = .ok (.aload_n 0, 1) := by decide +kernel
theorem dX4_init_1 : decode cX4_init 1 = .ok (.invokespecial 3, 3) := by decide +kernel
theorem dX4_init_4 : decode cX4_init 4 = .ok (.aload_n 0, 1) := by decide +kernel
theorem dX4_init_5 : decode cX4_init 5 = .ok (.new 9, 3) := by decide +kernel
theorem dX4_init_8 : decode cX4_init 8 = .ok (.dup, 1) := by decide +kernel
theorem dX4_init_9 : decode cX4_init 9 = .ok (.invokespecial 11, 3) := by decide +kernel
theorem dX4_init_12 : decode cX4_init 12 = .ok (.putfield 12, 3) := by decide +kernel
theorem dX4_init_15 : decode cX4_init 15 = .ok (.aload_n 0, 1) := by decide +kernel
theorem dX4_init_16 : decode cX4_init 16 = .ok (.iconst 0, 1) := by decide +kernel
theorem dX4_init_17 : decode cX4_init 17 = .ok (.putfield 18, 3) := by decide +kernel
theorem dX4_init_20 : decode cX4_init 20 = .ok (.aload_n 0, 1) := by decide +kernel
theorem dX4_init_21 : decode cX4_init 21 = .ok (.iconst 0, 1) := by decide +kernel
theorem dX4_init_22 : decode cX4_init 22 = .ok (.putfield 22, 3) := by decide +kernel
theorem dX4_init_25 : decode cX4_init 25 = .ok (.aload_n 0, 1) := by decide +kernel
theorem dX4_init_26 : decode cX4_init 26 = .ok (.iconst 0, 1) := by decide +kernel
theorem dX4_init_27 : decode cX4_init 27 = .ok (.putfield 25, 3) := by decide +kernel
theorem dX4_init_30 : decode cX4_init 30 = .ok (.return_, 1) := by decide +kernel
theorem dX2_init_0 : decode cX2_init 0 = .ok (.aload_n 0, 1) := by decide +kernel
theorem dX2_init_1 : decode cX2_init 1 = .ok (.invokespecial 3, 3) := by decide +kernel
theorem dX2_init_4 : decode cX2_init 4 = .ok (.aload_n 0, 1) := by decide +kernel
theorem dX2_init_5 : decode cX2_init 5 = .ok (.new 9, 3) := by decide +kernel
theorem dX2_init_8 : decode cX2_init 8 = .ok (.dup, 1) := by decide +kernel
theorem dX2_init_9 : decode cX2_init 9 = .ok (.invokespecial 11, 3) := by decide +kernel
theorem dX2_init_12 : decode cX2_init 12 = .ok (.putfield 12, 3) := by decide +kernel
theorem dX2_init_15 : decode cX2_init 15 = .ok (.aload_n 0, 1) := by decide +kernel
theorem dX2_init_16 : decode cX2_init 16 = .ok (.new 18, 3) := by decide +kernel
theorem dX2_init_19 : decode cX2_init 19 = .ok (.dup, 1) := by decide +kernel
theorem dX2_init_20 : decode cX2_init 20 = .ok (.invokespecial 20, 3) := by decide +kernel
theorem dX2_init_23 : decode cX2_init 23 = .ok (.putfield 21, 3) := by decide +kernel
theorem dX2_init_26 : decode cX2_init 26 = .ok (.aload_n 0, 1) := by decide +kernel
theorem dX2_init_27 : decode cX2_init 27 = .ok (.sipush 2048, 3) := by decide +kernel
theorem dX2_init_30 : decode cX2_init 30 = .ok (.newarray .int, 2) := by decide +kernel
theorem dX2_init_32 : decode cX2_init 32 = .ok (.putfield 25, 3) := by decide +kernel
theorem dX2_init_35 : decode cX2_init 35 = .ok (.aload_n 0, 1) := by decide +kernel
theorem dX2_init_36 : decode cX2_init 36 = .ok (.sipush 512, 3) := by decide +kernel
theorem dX2_init_39 : decode cX2_init 39 = .ok (.newarray .int, 2) := by decide +kernel
theorem dX2_init_41 : decode cX2_init 41 = .ok (.putfield 29, 3) := by decide +kernel
theorem dX2_init_44 : decode cX2_init 44 = .ok (.aload_n 0, 1) := by decide +kernel
theorem dX2_init_45 : decode cX2_init 45 = .ok (.sipush 512, 3) := by decide +kernel
theorem dX2_init_48 : decode cX2_init 48 = .ok (.newarray .long, 2) := by decide +kernel
theorem dX2_init_50 : decode cX2_init 50 = .ok (.putfield 32, 3) := by decide +kernel
theorem dX2_init_53 : decode cX2_init 53 = .ok (.aload_n 0, 1) := by decide +kernel
theorem dX2_init_54 : decode cX2_init 54 = .ok (.sipush 512, 3) := by decide +kernel
theorem dX2_init_57 : decode cX2_init 57 = .ok (.newarray .long, 2) := by decide +kernel
theorem dX2_init_59 : decode cX2_init 59 = .ok (.putfield 36, 3) := by decide +kernel
theorem dX2_init_62 : decode cX2_init 62 = .ok (.return_, 1) := by decide +kernel
theorem dX0_init_0 : decode cX0_init 0 = .ok (.aload_n 0, 1) := by decide +kernel
theorem dX0_init_1 : decode cX0_init 1 = .ok (.invokespecial 3, 3) := by decide +kernel
theorem dX0_init_4 : decode cX0_init 4 = .ok (.aload_n 0, 1) := by decide +kernel
theorem dX0_init_5 : decode cX0_init 5 = .ok (.new 9, 3) := by decide +kernel
theorem dX0_init_8 : decode cX0_init 8 = .ok (.dup, 1) := by decide +kernel
theorem dX0_init_9 : decode cX0_init 9 = .ok (.invokespecial 11, 3) := by decide +kernel
theorem dX0_init_12 : decode cX0_init 12 = .ok (.putfield 12, 3) := by decide +kernel
theorem dX0_init_15 : decode cX0_init 15 = .ok (.aload_n 0, 1) := by decide +kernel
theorem dX0_init_16 : decode cX0_init 16 = .ok (.new 18, 3) := by decide +kernel
theorem dX0_init_19 : decode cX0_init 19 = .ok (.dup, 1) := by decide +kernel
theorem dX0_init_20 : decode cX0_init 20 = .ok (.invokespecial 20, 3) := by decide +kernel
theorem dX0_init_23 : decode cX0_init 23 = .ok (.putfield 21, 3) := by decide +kernel
theorem dX0_init_26 : decode cX0_init 26 = .ok (.aload_n 0, 1) := by decide +kernel
theorem dX0_init_27 : decode cX0_init 27 = .ok (.iconst (-1), 1) := by decide +kernel
theorem dX0_init_28 : decode cX0_init 28 = .ok (.putfield 25, 3) := by decide +kernel
theorem dX0_init_31 : decode cX0_init 31 = .ok (.aload_n 0, 1) := by decide +kernel
theorem dX0_init_32 : decode cX0_init 32 = .ok (.iconst (-1), 1) := by decide +kernel
theorem dX0_init_33 : decode cX0_init 33 = .ok (.putfield 29, 3) := by decide +kernel
theorem dX0_init_36 : decode cX0_init 36 = .ok (.aload_n 0, 1) := by decide +kernel
theorem dX0_init_37 : decode cX0_init 37 = .ok (.lconst 0, 1) := by decide +kernel
theorem dX0_init_38 : decode cX0_init 38 = .ok (.putfield 32, 3) := by decide +kernel
theorem dX0_init_41 : decode cX0_init 41 = .ok (.aload_n 0, 1) := by decide +kernel
theorem dX0_init_42 : decode cX0_init 42 = .ok (.iconst 0, 1) := by decide +kernel
theorem dX0_init_43 : decode cX0_init 43 = .ok (.putfield 36, 3) := by decide +kernel
theorem dX0_init_46 : decode cX0_init 46 = .ok (.aload_n 0, 1) := by decide +kernel
theorem dX0_init_47 : decode cX0_init 47 = .ok (.iconst 4, 1) := by decide +kernel
theorem dX0_init_48 : decode cX0_init 48 = .ok (.newarray .int, 2) := by decide +kernel
theorem dX0_init_50 : decode cX0_init 50 = .ok (.putfield 39, 3) := by decide +kernel
theorem dX0_init_53 : decode cX0_init 53 = .ok (.aload_n 0, 1) := by decide +kernel
theorem dX0_init_54 : decode cX0_init 54 = .ok (.iconst 4, 1) := by decide +kernel
theorem dX0_init_55 : decode cX0_init 55 = .ok (.newarray .int, 2) := by decide +kernel
theorem dX0_init_57 : decode cX0_init 57 = .ok (.putfield 43, 3) := by decide +kernel
theorem dX0_init_60 : decode cX0_init 60 = .ok (.aload_n 0, 1) := by decide +kernel
theorem dX0_init_61 : decode cX0_init 61 = .ok (.iconst 4, 1) := by decide +kernel
theorem dX0_init_62 : decode cX0_init 62 = .ok (.newarray .int, 2) := by decide +kernel
theorem dX0_init_64 : decode cX0_init 64 = .ok (.putfield 46, 3) := by decide +kernel
theorem dX0_init_67 : decode cX0_init 67 = .ok (.aload_n 0, 1) := by decide +kernel
theorem dX0_init_68 : decode cX0_init 68 = .ok (.bipush 16, 2) := by decide +kernel
theorem dX0_init_70 : decode cX0_init 70 = .ok (.newarray .long, 2) := by decide +kernel
theorem dX0_init_72 : decode cX0_init 72 = .ok (.putfield 49, 3) := by decide +kernel
theorem dX0_init_75 : decode cX0_init 75 = .ok (.return_, 1) := by decide +kernel
theorem dX10_init_0 : decode cX10_init 0 = .ok (.aload_n 0, 1) := by decide +kernel
theorem dX10_init_1 : decode cX10_init 1 = .ok (.invokespecial 1, 3) := by decide +kernel
theorem dX10_init_4 : decode cX10_init 4 = .ok (.aload_n 0, 1) := by decide +kernel
theorem dX10_init_5 : decode cX10_init 5 = .ok (.new 7, 3) := by decide +kernel
theorem dX10_init_8 : decode cX10_init 8 = .ok (.dup, 1) := by decide +kernel
theorem dX10_init_9 : decode cX10_init 9 = .ok (.invokespecial 9, 3) := by decide +kernel
theorem dX10_init_12 : decode cX10_init 12 = .ok (.putfield 10, 3) := by decide +kernel
theorem dX10_init_15 : decode cX10_init 15 = .ok (.aload_n 0, 1) := by decide +kernel
theorem dX10_init_16 : decode cX10_init 16 = .ok (.iconst 3, 1) := by decide +kernel
theorem dX10_init_17 : decode cX10_init 17 = .ok (.anewarray 7, 3) := by decide +kernel
theorem dX10_init_20 : decode cX10_init 20 = .ok (.putfield 16, 3) := by decide +kernel
theorem dX10_init_23 : decode cX10_init 23 = .ok (.aload_n 0, 1) := by decide +kernel
theorem dX10_init_24 : decode cX10_init 24 = .ok (.iconst 3, 1) := by decide +kernel
theorem dX10_init_25 : decode cX10_init 25 = .ok (.newarray .boolean, 2) := by decide +kernel
theorem dX10_init_27 : decode cX10_init 27 = .ok (.putfield 20, 3) := by decide +kernel
theorem dX10_init_30 : decode cX10_init 30 = .ok (.aload_n 0, 1) := by decide +kernel
theorem dX10_init_31 : decode cX10_init 31 = .ok (.new 24, 3) := by decide +kernel
theorem dX10_init_34 : decode cX10_init 34 = .ok (.dup, 1) := by decide +kernel
theorem dX10_init_35 : decode cX10_init 35 = .ok (.invokespecial 26, 3) := by decide +kernel
theorem dX10_init_38 : decode cX10_init 38 = .ok (.putfield 27, 3) := by decide +kernel
theorem dX10_init_41 : decode cX10_init 41 = .ok (.aload_n 0, 1) := by decide +kernel
theorem dX10_init_42 : decode cX10_init 42 = .ok (.new 31, 3) := by decide +kernel
theorem dX10_init_45 : decode cX10_init 45 = .ok (.dup, 1) := by decide +kernel
theorem dX10_init_46 : decode cX10_init 46 = .ok (.invokespecial 33, 3) := by decide +kernel
theorem dX10_init_49 : decode cX10_init 49 = .ok (.putfield 34, 3) := by decide +kernel
theorem dX10_init_52 : decode cX10_init 52 = .ok (.aload_n 0, 1) := by decide +kernel
theorem dX10_init_53 : decode cX10_init 53 = .ok (.new 38, 3) := by decide +kernel
theorem dX10_init_56 : decode cX10_init 56 = .ok (.dup, 1) := by decide +kernel
theorem dX10_init_57 : decode cX10_init 57 = .ok (.invokespecial 40, 3) := by decide +kernel
theorem dX10_init_60 : decode cX10_init 60 = .ok (.putfield 41, 3) := by decide +kernel
theorem dX10_init_63 : decode cX10_init 63 = .ok (.aload_n 0, 1) := by decide +kernel
theorem dX10_init_64 : decode cX10_init 64 = .ok (.new 45, 3) := by decide +kernel
theorem dX10_init_67 : decode cX10_init 67 = .ok (.dup, 1) := by decide +kernel
theorem dX10_init_68 : decode cX10_init 68 = .ok (.invokespecial 47, 3) := by decide +kernel
theorem dX10_init_71 : decode cX10_init 71 = .ok (.putfield 48, 3) := by decide +kernel
theorem dX10_init_74 : decode cX10_init 74 = .ok (.aload_n 0, 1) := by decide +kernel
theorem dX10_init_75 : decode cX10_init 75 = .ok (.new 52, 3) := by decide +kernel
theorem dX10_init_78 : decode cX10_init 78 = .ok (.dup, 1) := by decide +kernel
theorem dX10_init_79 : decode cX10_init 79 = .ok (.invokespecial 54, 3) := by decide +kernel
theorem dX10_init_82 : decode cX10_init 82 = .ok (.putfield 55, 3) := by decide +kernel
theorem dX10_init_85 : decode cX10_init 85 = .ok (.aload_n 0, 1) := by decide +kernel
theorem dX10_init_86 : decode cX10_init 86 = .ok (.aload_n 0, 1) := by decide +kernel
theorem dX10_init_87 : decode cX10_init 87 = .ok (.getfield 55, 3) := by decide +kernel
theorem dX10_init_90 : decode cX10_init 90 = .ok (.getfield 59, 3) := by decide +kernel
theorem dX10_init_93 : decode cX10_init 93 = .ok (.putfield 63, 3) := by decide +kernel
theorem dX10_init_96 : decode cX10_init 96 = .ok (.aload_n 0, 1) := by decide +kernel
theorem dX10_init_97 : decode cX10_init 97 = .ok (.new 64, 3) := by decide +kernel
theorem dX10_init_100 : decode cX10_init 100 = .ok (.dup, 1) := by decide +kernel
theorem dX10_init_101 : decode cX10_init 101 = .ok (.invokespecial 66, 3) := by decide +kernel
theorem dX10_init_104 : decode cX10_init 104 = .ok (.putfield 67, 3) := by decide +kernel
theorem dX10_init_107 : decode cX10_init 107 = .ok (.iconst 0, 1) := by decide +kernel
theorem dX10_init_108 : decode cX10_init 108 = .ok (.istore_n 1, 1) := by decide +kernel
theorem dX10_init_109 : decode cX10_init 109 = .ok (.iload_n 1, 1) := by decide +kernel
theorem dX10_init_110 : decode cX10_init 110 = .ok (.iconst 3, 1) := by decide +kernel
theorem dX10_init_111 : decode cX10_init 111 = .ok (.if_icmp .ge 22, 3) := by decide +kernel
theorem dX10_init_114 : decode cX10_init 114 = .ok (.aload_n 0, 1) := by decide +kernel
theorem dX10_init_115 : decode cX10_init 115 = .ok (.getfield 16, 3) := by decide +kernel
theorem dX10_init_118 : decode cX10_init 118 = .ok (.iload_n 1, 1) := by decide +kernel
theorem dX10_init_119 : decode cX10_init 119 = .ok (.new 7, 3) := by decide +kernel
theorem dX10_init_122 : decode cX10_init 122 = .ok (.dup, 1) := by decide +kernel
theorem dX10_init_123 : decode cX10_init 123 = .ok (.invokespecial 9, 3) := by decide +kernel
theorem dX10_init_126 : decode cX10_init 126 = .ok (.aastore, 1) := by decide +kernel
theorem dX10_init_127 : decode cX10_init 127 = .ok (.iinc 1 1, 3) := by decide +kernel
theorem dX10_init_130 : decode cX10_init 130 = .ok (.goto (-21), 3) := by decide +kernel
theorem dX10_init_133 : decode cX10_init 133 = .ok (.return_, 1) := by decide +kernel
theorem dX11_init_0 : decode cX11_init 0 = .ok (.aload_n 0, 1) := by decide +kernel
theorem dX11_init_1 : decode cX11_init 1 = .ok (.invokespecial 1, 3) := by decide +kernel
theorem dX11_init_4 : decode cX11_init 4 = .ok (.aload_n 0, 1) := by decide +kernel
theorem dX11_init_5 : decode cX11_init 5 = .ok (.sipush 2400, 3) := by decide +kernel
theorem dX11_init_8 : decode cX11_init 8 = .ok (.newarray .byte, 2) := by decide +kernel
theorem dX11_init_10 : decode cX11_init 10 = .ok (.putfield 7, 3) := by decide +kernel
theorem dX11_init_13 : decode cX11_init 13 = .ok (.aload_n 0, 1) := by decide +kernel
theorem dX11_init_14 : decode cX11_init 14 = .ok (.iconst 4, 1) := by decide +kernel
theorem dX11_init_15 : decode cX11_init 15 = .ok (.newarray .int, 2) := by decide +kernel
theorem dX11_init_17 : decode cX11_init 17 = .ok (.putfield 13, 3) := by decide +kernel
theorem dX11_init_20 : decode cX11_init 20 = .ok (.aload_n 0, 1) := by decide +kernel
theorem dX11_init_21 : decode cX11_init 21 = .ok (.iconst 4, 1) := by decide +kernel
theorem dX11_init_22 : decode cX11_init 22 = .ok (.newarray .int, 2) := by decide +kernel
theorem dX11_init_24 : decode cX11_init 24 = .ok (.putfield 17, 3) := by decide +kernel
theorem dX11_init_27 : decode cX11_init 27 = .ok (.aload_n 0, 1) := by decide +kernel
theorem dX11_init_28 : decode cX11_init 28 = .ok (.iconst 4, 1) := by decide +kernel
theorem dX11_init_29 : decode cX11_init 29 = .ok (.newarray .int, 2) := by decide +kernel
theorem dX11_init_31 : decode cX11_init 31 = .ok (.putfield 20, 3) := by decide +kernel
theorem dX11_init_34 : decode cX11_init 34 = .ok (.aload_n 0, 1) := by decide +kernel
theorem dX11_init_35 : decode cX11_init 35 = .ok (.bipush 8, 2) := by decide +kernel
theorem dX11_init_37 : decode cX11_init 37 = .ok (.newarray .int, 2) := by decide +kernel
theorem dX11_init_39 : decode cX11_init 39 = .ok (.putfield 23, 3) := by decide +kernel
theorem dX11_init_42 : decode cX11_init 42 = .ok (.aload_n 0, 1) := by decide +kernel
theorem dX11_init_43 : decode cX11_init 43 = .ok (.sipush 1256, 3) := by decide +kernel
theorem dX11_init_46 : decode cX11_init 46 = .ok (.newarray .int, 2) := by decide +kernel
theorem dX11_init_48 : decode cX11_init 48 = .ok (.putfield 26, 3) := by decide +kernel
theorem dX11_init_51 : decode cX11_init 51 = .ok (.aload_n 0, 1) := by decide +kernel
theorem dX11_init_52 : decode cX11_init 52 = .ok (.sipush 444, 3) := by decide +kernel
theorem dX11_init_55 : decode cX11_init 55 = .ok (.newarray .int, 2) := by decide +kernel
theorem dX11_init_57 : decode cX11_init 57 = .ok (.putfield 29, 3) := by decide +kernel
theorem dX11_init_60 : decode cX11_init 60 = .ok (.aload_n 0, 1) := by decide +kernel
theorem dX11_init_61 : decode cX11_init 61 = .ok (.sipush 157, 3) := by decide +kernel
theorem dX11_init_64 : decode cX11_init 64 = .ok (.newarray .int, 2) := by decide +kernel
theorem dX11_init_66 : decode cX11_init 66 = .ok (.putfield 32, 3) := by decide +kernel
theorem dX11_init_69 : decode cX11_init 69 = .ok (.aload_n 0, 1) := by decide +kernel
theorem dX11_init_70 : decode cX11_init 70 = .ok (.iconst 3, 1) := by decide +kernel
theorem dX11_init_71 : decode cX11_init 71 = .ok (.newarray .int, 2) := by decide +kernel
theorem dX11_init_73 : decode cX11_init 73 = .ok (.putfield 35, 3) := by decide +kernel
theorem dX11_init_76 : decode cX11_init 76 = .ok (.aload_n 0, 1) := by decide +kernel
theorem dX11_init_77 : decode cX11_init 77 = .ok (.sipush 157, 3) := by decide +kernel
theorem dX11_init_80 : decode cX11_init 80 = .ok (.newarray .int, 2) := by decide +kernel
theorem dX11_init_82 : decode cX11_init 82 = .ok (.putfield 38, 3) := by decide +kernel
theorem dX11_init_85 : decode cX11_init 85 = .ok (.aload_n 0, 1) := by decide +kernel
theorem dX11_init_86 : decode cX11_init 86 = .ok (.bipush 9, 2) := by decide +kernel
theorem dX11_init_88 : decode cX11_init 88 = .ok (.newarray .int, 2) := by decide +kernel
theorem dX11_init_90 : decode cX11_init 90 = .ok (.putfield 41, 3) := by decide +kernel
theorem dX11_init_93 : decode cX11_init 93 = .ok (.aload_n 0, 1) := by decide +kernel
theorem dX11_init_94 : decode cX11_init 94 = .ok (.bipush 9, 2) := by decide +kernel
theorem dX11_init_96 : decode cX11_init 96 = .ok (.newarray .int, 2) := by decide +kernel
theorem dX11_init_98 : decode cX11_init 98 = .ok (.putfield 44, 3) := by decide +kernel
theorem dX11_init_101 : decode cX11_init 101 = .ok (.aload_n 0, 1) := by decide +kernel
theorem dX11_init_102 : decode cX11_init 102 = .ok (.bipush 9, 2) := by decide +kernel
theorem dX11_init_104 : decode cX11_init 104 = .ok (.newarray .int, 2) := by decide +kernel
theorem dX11_init_106 : decode cX11_init 106 = .ok (.putfield 47, 3) := by decide +kernel
theorem dX11_init_109 : decode cX11_init 109 = .ok (.aload_n 0, 1) := by decide +kernel
theorem dX11_init_110 : decode cX11_init 110 = .ok (.sipush 512, 3) := by decide +kernel
theorem dX11_init_113 : decode cX11_init 113 = .ok (.newarray .long, 2) := by decide +kernel
theorem dX11_init_115 : decode cX11_init 115 = .ok (.putfield 50, 3) := by decide +kernel
theorem dX11_init_118 : decode cX11_init 118 = .ok (.aload_n 0, 1) := by decide +kernel
theorem dX11_init_119 : decode cX11_init 119 = .ok (.bipush 9, 2) := by decide +kernel
theorem dX11_init_121 : decode cX11_init 121 = .ok (.newarray .int, 2) := by decide +kernel
theorem dX11_init_123 : decode cX11_init 123 = .ok (.putfield 54, 3) := by decide +kernel
theorem dX11_init_126 : decode cX11_init 126 = .ok (.aload_n 0, 1) := by decide +kernel
theorem dX11_init_127 : decode cX11_init 127 = .ok (.bipush 9, 2) := by decide +kernel
theorem dX11_init_129 : decode cX11_init 129 = .ok (.newarray .int, 2) := by decide +kernel
theorem dX11_init_131 : decode cX11_init 131 = .ok (.putfield 57, 3) := by decide +kernel
theorem dX11_init_134 : decode cX11_init 134 = .ok (.aload_n 0, 1) := by decide +kernel
theorem dX11_init_135 : decode cX11_init 135 = .ok (.iconst 4, 1) := by decide +kernel
theorem dX11_init_136 : decode cX11_init 136 = .ok (.newarray .int, 2) := by decide +kernel
theorem dX11_init_138 : decode cX11_init 138 = .ok (.putfield 60, 3) := by decide +kernel
theorem dX11_init_141 : decode cX11_init 141 = .ok (.aload_n 0, 1) := by decide +kernel
theorem dX11_init_142 : decode cX11_init 142 = .ok (.iconst 4, 1) := by decide +kernel
theorem dX11_init_143 : decode cX11_init 143 = .ok (.newarray .int, 2) := by decide +kernel
theorem dX11_init_145 : decode cX11_init 145 = .ok (.putfield 63, 3) := by decide +kernel
theorem dX11_init_148 : decode cX11_init 148 = .ok (.aload_n 0, 1) := by decide +kernel
theorem dX11_init_149 : decode cX11_init 149 = .ok (.iconst 3, 1) := by decide +kernel
theorem dX11_init_150 : decode cX11_init 150 = .ok (.newarray .boolean, 2) := by decide +kernel
theorem dX11_init_152 : decode cX11_init 152 = .ok (.putfield 66, 3) := by decide +kernel
theorem dX11_init_155 : decode cX11_init 155 = .ok (.aload_n 0, 1) := by decide +kernel
theorem dX11_init_156 : decode cX11_init 156 = .ok (.getfield 20, 3) := by decide +kernel
theorem dX11_init_159 : decode cX11_init 159 = .ok (.iconst 0, 1) := by decide +kernel
theorem dX11_init_160 : decode cX11_init 160 = .ok (.iconst (-1), 1) := by decide +kernel
theorem dX11_init_161 : decode cX11_init 161 = .ok (.iastore, 1) := by decide +kernel
theorem dX11_init_162 : decode cX11_init 162 = .ok (.return_, 1) := by decide +kernel
def ob1 (n : Nat) : MC := (.inr (1, [.int 0, .ref (n + 0), .int 0, .ref (n + 1), .ref (n + 2), .ref (n + 3)]))
def bk1 (n : Nat) : List MC := (.inl (1, 144, .inl (fun _ => 0))) :: ((.inl (1, 4, .inl (fun _ => 0))) :: ((.inl (1, 4, .inl (fun _ => 0))) :: ((.inl (1, 3, .inl (fun _ => 0))) :: ([]))))
set_option maxRecDepth 100000 in
theorem bl1 {n : Nat} : (bk1 n).length = 4 := rfl
set_option maxHeartbeats 4000000 in
set_option maxRecDepth 100000 in
theorem c_X1_init {d : Nat} {h : List MC} {o n0 : Nat} (hd : 1 ≤ d) (hn : h.length = n0) (ho : h[o]? = some (.inr (1, [.int 0, .null, .int 0, .null, .null, .null]))) : CT con0 d 4 155 yX1_init cX1_init 1 none [.ref o] h (fun r h2 => r = none ∧ h2.length = n0 + 4 ∧ h2[o]? = some (ob1 n0) ∧ At h2 n0 (bk1 n0) ∧ ∀ j, j < n0 → j ≠ o → h2[j]? = h[j]?) := by
  have hol : o < n0 := by rw [← hn]; exact (List.getElem?_eq_some_iff.mp ho).1
  have hn0 : h.length = n0 + 0 := hn
  refine CT_of (by decide) (Nat.le_of_ble_eq_true rfl) (fun x hq => ?_)
  show J x yX1_init cX1_init 1 none d 4 155 h.length 0 [(0, .ref o)] [] h 0 0
  refine J_aload_n (i := 0) (j := 0) dX1_init_0 rfl rfl ?_
  refine J_obj dX1_init_1 k129 k113 k114 (Nat.le_trans (by decide) hd) (Nat.le_of_ble_eq_true rfl) ?_
  refine J_aload_n (i := 0) (j := 0) dX1_init_4 rfl rfl ?_
  refine J_iconst (v := 0) dX1_init_5 (by decide) ?_
  obtain ⟨h1, e2⟩ : ∃ z, z = h.set (o) (.inr (1, [.int 0, .null, .int 0, .null, .null, .null])) := ⟨_, rfl⟩
  refine J_put (C := RX1) (T := TX1) (Z := 6) (ci := 1) (f := 0) (ty0 := tyX1) dX1_init_6 inG1 rfl tyX1_ok nmX1 (by decide) k130 rfl rfl ho (Nat.le_of_ble_eq_true rfl) (fun _ _ => ⟨rfl, rfl⟩) e2.symm ?_
  have f3 := a_set e2 ho
  have l4 : h1.length = n0 + 0 := l_set e2 hn0
  have r5 := r_set (N := n0 + 0) e2
  refine J_aload_n (i := 0) (j := 0) dX1_init_9 rfl rfl ?_
  refine J_sipush (v := 144) dX1_init_10 (by decide) ?_
  refine J_newa1 (Z := 144) dX1_init_13 ka1 (by decide) (by decide) (by decide) (hk1 hn l4) (by decide) (by decide) ?_
  obtain ⟨h6, e7⟩ : ∃ z, z = h1 ++ [(.inl (1, 144, .inl (fun _ => 0)))] := ⟨_, rfl⟩
  refine J_w e7.symm ?_
  refine J_cr (v := n0 + 0) l4 ?_
  have f8 := a_push e7 l4
  have l9 : h6.length = n0 + 1 := l_push e7 l4 rfl
  have r10 := r_push (a := n0 + 0) e7 l4
  have f11 := (r10 (o) (Nat.lt_of_lt_of_le hol (Nat.le_add_right _ _)) (Nat.ne_of_lt (Nat.lt_of_lt_of_le hol (Nat.le_add_right _ _)))).trans f3
  obtain ⟨h12, e13⟩ : ∃ z, z = h6.set (o) (.inr (1, [.int 0, .ref (n0 + 0), .int 0, .null, .null, .null])) := ⟨_, rfl⟩
  refine J_putF (C := RX1) (T := TX1) (Z := 6) (ci := 1) (f := 1) (ty0 := tyX1) dX1_init_15 inG1 rfl tyX1_ok nmX1 (by decide) k137 rfl rfl rfl rfl f11 (Nat.le_of_ble_eq_true rfl) (fun _ _ => ⟨rfl, rfl⟩) e13.symm ?_
  have f14 := a_set e13 f11
  have l15 : h12.length = n0 + 1 := l_set e13 l9
  have r16 := r_set (N := n0 + 1) e13
  refine J_aload_n (i := 0) (j := 0) dX1_init_18 rfl rfl ?_
  refine J_iconst (v := 0) dX1_init_19 (by decide) ?_
  obtain ⟨h17, e18⟩ : ∃ z, z = h12.set (o) (.inr (1, [.int 0, .ref (n0 + 0), .int 0, .null, .null, .null])) := ⟨_, rfl⟩
  refine J_put (C := RX1) (T := TX1) (Z := 6) (ci := 1) (f := 2) (ty0 := tyX1) dX1_init_20 inG1 rfl tyX1_ok nmX1 (by decide) k138 rfl rfl f14 (Nat.le_of_ble_eq_true rfl) (fun _ _ => ⟨rfl, rfl⟩) e18.symm ?_
  have f19 := a_set e18 f14
  have l20 : h17.length = n0 + 1 := l_set e18 l15
  have r21 := r_set (N := n0 + 1) e18
  refine J_aload_n (i := 0) (j := 0) dX1_init_23 rfl rfl ?_
  refine J_iconst (v := 4) dX1_init_24 (by decide) ?_
  refine J_newa1 (Z := 4) dX1_init_25 ka1 (by decide) (by decide) (by decide) (hk1 hn l20) (by decide) (by decide) ?_
  obtain ⟨h22, e23⟩ : ∃ z, z = h17 ++ [(.inl (1, 4, .inl (fun _ => 0)))] := ⟨_, rfl⟩
  refine J_w e23.symm ?_
  refine J_cr (v := n0 + 1) l20 ?_
  have f24 := a_push e23 l20
  have l25 : h22.length = n0 + 2 := l_push e23 l20 rfl
  have r26 := r_push (a := n0 + 1) e23 l20
  have f27 := (r26 (o) (Nat.lt_of_lt_of_le hol (Nat.le_add_right _ _)) (Nat.ne_of_lt (Nat.lt_of_lt_of_le hol (Nat.le_add_right _ _)))).trans f19
  obtain ⟨h28, e29⟩ : ∃ z, z = h22.set (o) (.inr (1, [.int 0, .ref (n0 + 0), .int 0, .ref (n0 + 1), .null, .null])) := ⟨_, rfl⟩
  refine J_putF (C := RX1) (T := TX1) (Z := 6) (ci := 1) (f := 3) (ty0 := tyX1) dX1_init_27 inG1 rfl tyX1_ok nmX1 (by decide) k143 rfl rfl rfl rfl f27 (Nat.le_of_ble_eq_true rfl) (fun _ _ => ⟨rfl, rfl⟩) e29.symm ?_
  have f30 := a_set e29 f27
  have l31 : h28.length = n0 + 2 := l_set e29 l25
  have r32 := r_set (N := n0 + 2) e29
  refine J_aload_n (i := 0) (j := 0) dX1_init_30 rfl rfl ?_
  refine J_iconst (v := 4) dX1_init_31 (by decide) ?_
  refine J_newa1 (Z := 4) dX1_init_32 ka1 (by decide) (by decide) (by decide) (hk1 hn l31) (by decide) (by decide) ?_
  obtain ⟨h33, e34⟩ : ∃ z, z = h28 ++ [(.inl (1, 4, .inl (fun _ => 0)))] := ⟨_, rfl⟩
  refine J_w e34.symm ?_
  refine J_cr (v := n0 + 2) l31 ?_
  have f35 := a_push e34 l31
  have l36 : h33.length = n0 + 3 := l_push e34 l31 rfl
  have r37 := r_push (a := n0 + 2) e34 l31
  have f38 := (r37 (o) (Nat.lt_of_lt_of_le hol (Nat.le_add_right _ _)) (Nat.ne_of_lt (Nat.lt_of_lt_of_le hol (Nat.le_add_right _ _)))).trans f30
  obtain ⟨h39, e40⟩ : ∃ z, z = h33.set (o) (.inr (1, [.int 0, .ref (n0 + 0), .int 0, .ref (n0 + 1), .ref (n0 + 2), .null])) := ⟨_, rfl⟩
  refine J_putF (C := RX1) (T := TX1) (Z := 6) (ci := 1) (f := 4) (ty0 := tyX1) dX1_init_34 inG1 rfl tyX1_ok nmX1 (by decide) k144 rfl rfl rfl rfl f38 (Nat.le_of_ble_eq_true rfl) (fun _ _ => ⟨rfl, rfl⟩) e40.symm ?_
  have f41 := a_set e40 f38
  have l42 : h39.length = n0 + 3 := l_set e40 l36
  have r43 := r_set (N := n0 + 3) e40
  refine J_aload_n (i := 0) (j := 0) dX1_init_37 rfl rfl ?_
  refine J_iconst (v := 3) dX1_init_38 (by decide) ?_
  refine J_newa1 (Z := 3) dX1_init_39 ka1 (by decide) (by decide) (by decide) (hk1 hn l42) (by decide) (by decide) ?_
  obtain ⟨h44, e45⟩ : ∃ z, z = h39 ++ [(.inl (1, 3, .inl (fun _ => 0)))] := ⟨_, rfl⟩
  refine J_w e45.symm ?_
  refine J_cr (v := n0 + 3) l42 ?_
  have f46 := a_push e45 l42
  have l47 : h44.length = n0 + 4 := l_push e45 l42 rfl
  have r48 := r_push (a := n0 + 3) e45 l42
  have f49 := (r48 (o) (Nat.lt_of_lt_of_le hol (Nat.le_add_right _ _)) (Nat.ne_of_lt (Nat.lt_of_lt_of_le hol (Nat.le_add_right _ _)))).trans f41
  obtain ⟨h50, e51⟩ : ∃ z, z = h44.set (o) (.inr (1, [.int 0, .ref (n0 + 0), .int 0, .ref (n0 + 1), .ref (n0 + 2), .ref (n0 + 3)])) := ⟨_, rfl⟩
  refine J_putF (C := RX1) (T := TX1) (Z := 6) (ci := 1) (f := 5) (ty0 := tyX1) dX1_init_41 inG1 rfl tyX1_ok nmX1 (by decide) k145 rfl rfl rfl rfl f49 (Nat.le_of_ble_eq_true rfl) (fun _ _ => ⟨rfl, rfl⟩) e51.symm ?_
  have f52 := a_set e51 f49
  have l53 : h50.length = n0 + 4 := l_set e51 l47
  have r54 := r_set (N := n0 + 4) e51
  have f55 := (r16 (n0 + 0) (Nat.add_lt_add_left (by decide) n0) (Nat.ne_of_gt (Nat.lt_of_lt_of_le hol (Nat.le_add_right _ _)))).trans f8
  have f56 := (r21 (n0 + 0) (Nat.add_lt_add_left (by decide) n0) (Nat.ne_of_gt (Nat.lt_of_lt_of_le hol (Nat.le_add_right _ _)))).trans f55
  have f57 := (r26 (n0 + 0) (Nat.add_lt_add_left (by decide) n0) (fun q => absurd (Nat.add_left_cancel q) (by decide))).trans f56
  have f58 := (r32 (n0 + 0) (Nat.add_lt_add_left (by decide) n0) (Nat.ne_of_gt (Nat.lt_of_lt_of_le hol (Nat.le_add_right _ _)))).trans f57
  have f59 := (r37 (n0 + 0) (Nat.add_lt_add_left (by decide) n0) (fun q => absurd (Nat.add_left_cancel q) (by decide))).trans f58
  have f60 := (r43 (n0 + 0) (Nat.add_lt_add_left (by decide) n0) (Nat.ne_of_gt (Nat.lt_of_lt_of_le hol (Nat.le_add_right _ _)))).trans f59
  have f61 := (r48 (n0 + 0) (Nat.add_lt_add_left (by decide) n0) (fun q => absurd (Nat.add_left_cancel q) (by decide))).trans f60
  have f62 := (r54 (n0 + 0) (Nat.add_lt_add_left (by decide) n0) (Nat.ne_of_gt (Nat.lt_of_lt_of_le hol (Nat.le_add_right _ _)))).trans f61
  have f63 := (r32 (n0 + 1) (Nat.add_lt_add_left (by decide) n0) (Nat.ne_of_gt (Nat.lt_of_lt_of_le hol (Nat.le_add_right _ _)))).trans f24
  have f64 := (r37 (n0 + 1) (Nat.add_lt_add_left (by decide) n0) (fun q => absurd (Nat.add_left_cancel q) (by decide))).trans f63
  have f65 := (r43 (n0 + 1) (Nat.add_lt_add_left (by decide) n0) (Nat.ne_of_gt (Nat.lt_of_lt_of_le hol (Nat.le_add_right _ _)))).trans f64
  have f66 := (r48 (n0 + 1) (Nat.add_lt_add_left (by decide) n0) (fun q => absurd (Nat.add_left_cancel q) (by decide))).trans f65
  have f67 := (r54 (n0 + 1) (Nat.add_lt_add_left (by decide) n0) (Nat.ne_of_gt (Nat.lt_of_lt_of_le hol (Nat.le_add_right _ _)))).trans f66
  have f68 := (r43 (n0 + 2) (Nat.add_lt_add_left (by decide) n0) (Nat.ne_of_gt (Nat.lt_of_lt_of_le hol (Nat.le_add_right _ _)))).trans f35
  have f69 := (r48 (n0 + 2) (Nat.add_lt_add_left (by decide) n0) (fun q => absurd (Nat.add_left_cancel q) (by decide))).trans f68
  have f70 := (r54 (n0 + 2) (Nat.add_lt_add_left (by decide) n0) (Nat.ne_of_gt (Nat.lt_of_lt_of_le hol (Nat.le_add_right _ _)))).trans f69
  have f71 := (r54 (n0 + 3) (Nat.add_lt_add_left (by decide) n0) (Nat.ne_of_gt (Nat.lt_of_lt_of_le hol (Nat.le_add_right _ _)))).trans f46
  have hfr : ∀ j, j < n0 → j ≠ o → h50[j]? = h[j]? := by
    intro j hj hjo
    rw [r54 j (Nat.lt_of_lt_of_le hj (Nat.le_add_right _ _)) hjo, r48 j (Nat.lt_of_lt_of_le hj (Nat.le_add_right _ _)) (Nat.ne_of_lt (Nat.lt_of_lt_of_le hj (Nat.le_add_right _ _))), r43 j (Nat.lt_of_lt_of_le hj (Nat.le_add_right _ _)) hjo, r37 j (Nat.lt_of_lt_of_le hj (Nat.le_add_right _ _)) (Nat.ne_of_lt (Nat.lt_of_lt_of_le hj (Nat.le_add_right _ _))), r32 j (Nat.lt_of_lt_of_le hj (Nat.le_add_right _ _)) hjo, r26 j (Nat.lt_of_lt_of_le hj (Nat.le_add_right _ _)) (Nat.ne_of_lt (Nat.lt_of_lt_of_le hj (Nat.le_add_right _ _))), r21 j (Nat.lt_of_lt_of_le hj (Nat.le_add_right _ _)) hjo, r16 j (Nat.lt_of_lt_of_le hj (Nat.le_add_right _ _)) hjo, r10 j (Nat.lt_of_lt_of_le hj (Nat.le_add_right _ _)) (Nat.ne_of_lt (Nat.lt_of_lt_of_le hj (Nat.le_add_right _ _))), r5 j (Nat.lt_of_lt_of_le hj (Nat.le_add_right _ _)) hjo]
  exact J_vret hq dX1_init_44 rfl (hk1 hn l53) (by decide) (by decide) ⟨rfl, l53, f52, (At_cons f62 (At_cons f67 (At_cons f70 (At_cons f71 At_nil)))), hfr⟩
def ob8 (n : Nat) : MC := (.inr (8, [.int 0, .ref (n + 0), .ref (n + 1), .ref (n + 2)]))
def bk8 (n : Nat) : List MC := (.inl (1, 12, .inl (fun _ => 0))) :: ((.inl (1, 12, .inl (fun _ => 0))) :: ((.inl (1, 12, .inl (fun _ => 0))) :: ([])))
set_option maxRecDepth 100000 in
theorem bl8 {n : Nat} : (bk8 n).length = 3 := rfl
set_option maxHeartbeats 4000000 in
set_option maxRecDepth 100000 in
theorem c_X8_init {d : Nat} {h : List MC} {o n0 : Nat} (hd : 1 ≤ d) (hn : h.length = n0) (ho : h[o]? = some (.inr (8, [.int 0, .null, .null, .null]))) : CT con0 d 3 36 yX8_init cX8_init 1 none [.ref o] h (fun r h2 => r = none ∧ h2.length = n0 + 3 ∧ h2[o]? = some (ob8 n0) ∧ At h2 n0 (bk8 n0) ∧ ∀ j, j < n0 → j ≠ o → h2[j]? = h[j]?) := by
  have hol : o < n0 := by rw [← hn]; exact (List.getElem?_eq_some_iff.mp ho).1
  have hn0 : h.length = n0 + 0 := hn
  refine CT_of (by decide) (Nat.le_of_ble_eq_true rfl) (fun x hq => ?_)
  show J x yX8_init cX8_init 1 none d 3 36 h.length 0 [(0, .ref o)] [] h 0 0
  refine J_aload_n (i := 0) (j := 0) dX8_init_0 rfl rfl ?_
  refine J_obj dX8_init_1 k167 k113 k114 (Nat.le_trans (by decide) hd) (Nat.le_of_ble_eq_true rfl) ?_
  refine J_aload_n (i := 0) (j := 0) dX8_init_4 rfl rfl ?_
  refine J_iconst (v := 0) dX8_init_5 (by decide) ?_
  obtain ⟨h1, e2⟩ : ∃ z, z = h.set (o) (.inr (8, [.int 0, .null, .null, .null])) := ⟨_, rfl⟩
  refine J_put (C := RX8) (T := TX8) (Z := 4) (ci := 8) (f := 0) (ty0 := tyX8) dX8_init_6 inG8 rfl tyX8_ok nmX8 (by decide) k168 rfl rfl ho (Nat.le_of_ble_eq_true rfl) (fun _ _ => ⟨rfl, rfl⟩) e2.symm ?_
  have f3 := a_set e2 ho
  have l4 : h1.length = n0 + 0 := l_set e2 hn0
  have r5 := r_set (N := n0 + 0) e2
  refine J_aload_n (i := 0) (j := 0) dX8_init_9 rfl rfl ?_
  refine J_bipush (v := 12) dX8_init_10 (by decide) ?_
  refine J_newa1 (Z := 12) dX8_init_12 ka1 (by decide) (by decide) (by decide) (hk1 hn l4) (by decide) (by decide) ?_
  obtain ⟨h6, e7⟩ : ∃ z, z = h1 ++ [(.inl (1, 12, .inl (fun _ => 0)))] := ⟨_, rfl⟩
  refine J_w e7.symm ?_
  refine J_cr (v := n0 + 0) l4 ?_
  have f8 := a_push e7 l4
  have l9 : h6.length = n0 + 1 := l_push e7 l4 rfl
  have r10 := r_push (a := n0 + 0) e7 l4
  have f11 := (r10 (o) (Nat.lt_of_lt_of_le hol (Nat.le_add_right _ _)) (Nat.ne_of_lt (Nat.lt_of_lt_of_le hol (Nat.le_add_right _ _)))).trans f3
  obtain ⟨h12, e13⟩ : ∃ z, z = h6.set (o) (.inr (8, [.int 0, .ref (n0 + 0), .null, .null])) := ⟨_, rfl⟩
  refine J_putF (C := RX8) (T := TX8) (Z := 4) (ci := 8) (f := 1) (ty0 := tyX8) dX8_init_14 inG8 rfl tyX8_ok nmX8 (by decide) k171 rfl rfl rfl rfl f11 (Nat.le_of_ble_eq_true rfl) (fun _ _ => ⟨rfl, rfl⟩) e13.symm ?_
  have f14 := a_set e13 f11
  have l15 : h12.length = n0 + 1 := l_set e13 l9
  have r16 := r_set (N := n0 + 1) e13
  refine J_aload_n (i := 0) (j := 0) dX8_init_17 rfl rfl ?_
  refine J_bipush (v := 12) dX8_init_18 (by decide) ?_
  refine J_newa1 (Z := 12) dX8_init_20 ka1 (by decide) (by decide) (by decide) (hk1 hn l15) (by decide) (by decide) ?_
  obtain ⟨h17, e18⟩ : ∃ z, z = h12 ++ [(.inl (1, 12, .inl (fun _ => 0)))] := ⟨_, rfl⟩
  refine J_w e18.symm ?_
  refine J_cr (v := n0 + 1) l15 ?_
  have f19 := a_push e18 l15
  have l20 : h17.length = n0 + 2 := l_push e18 l15 rfl
  have r21 := r_push (a := n0 + 1) e18 l15
  have f22 := (r21 (o) (Nat.lt_of_lt_of_le hol (Nat.le_add_right _ _)) (Nat.ne_of_lt (Nat.lt_of_lt_of_le hol (Nat.le_add_right _ _)))).trans f14
  obtain ⟨h23, e24⟩ : ∃ z, z = h17.set (o) (.inr (8, [.int 0, .ref (n0 + 0), .ref (n0 + 1), .null])) := ⟨_, rfl⟩
  refine J_putF (C := RX8) (T := TX8) (Z := 4) (ci := 8) (f := 2) (ty0 := tyX8) dX8_init_22 inG8 rfl tyX8_ok nmX8 (by decide) k173 rfl rfl rfl rfl f22 (Nat.le_of_ble_eq_true rfl) (fun _ _ => ⟨rfl, rfl⟩) e24.symm ?_
  have f25 := a_set e24 f22
  have l26 : h23.length = n0 + 2 := l_set e24 l20
  have r27 := r_set (N := n0 + 2) e24
  refine J_aload_n (i := 0) (j := 0) dX8_init_25 rfl rfl ?_
  refine J_bipush (v := 12) dX8_init_26 (by decide) ?_
  refine J_newa1 (Z := 12) dX8_init_28 ka1 (by decide) (by decide) (by decide) (hk1 hn l26) (by decide) (by decide) ?_
  obtain ⟨h28, e29⟩ : ∃ z, z = h23 ++ [(.inl (1, 12, .inl (fun _ => 0)))] := ⟨_, rfl⟩
  refine J_w e29.symm ?_
  refine J_cr (v := n0 + 2) l26 ?_
  have f30 := a_push e29 l26
  have l31 : h28.length = n0 + 3 := l_push e29 l26 rfl
  have r32 := r_push (a := n0 + 2) e29 l26
  have f33 := (r32 (o) (Nat.lt_of_lt_of_le hol (Nat.le_add_right _ _)) (Nat.ne_of_lt (Nat.lt_of_lt_of_le hol (Nat.le_add_right _ _)))).trans f25
  obtain ⟨h34, e35⟩ : ∃ z, z = h28.set (o) (.inr (8, [.int 0, .ref (n0 + 0), .ref (n0 + 1), .ref (n0 + 2)])) := ⟨_, rfl⟩
  refine J_putF (C := RX8) (T := TX8) (Z := 4) (ci := 8) (f := 3) (ty0 := tyX8) dX8_init_30 inG8 rfl tyX8_ok nmX8 (by decide) k175 rfl rfl rfl rfl f33 (Nat.le_of_ble_eq_true rfl) (fun _ _ => ⟨rfl, rfl⟩) e35.symm ?_
  have f36 := a_set e35 f33
  have l37 : h34.length = n0 + 3 := l_set e35 l31
  have r38 := r_set (N := n0 + 3) e35
  have f39 := (r16 (n0 + 0) (Nat.add_lt_add_left (by decide) n0) (Nat.ne_of_gt (Nat.lt_of_lt_of_le hol (Nat.le_add_right _ _)))).trans f8
  have f40 := (r21 (n0 + 0) (Nat.add_lt_add_left (by decide) n0) (fun q => absurd (Nat.add_left_cancel q) (by decide))).trans f39
  have f41 := (r27 (n0 + 0) (Nat.add_lt_add_left (by decide) n0) (Nat.ne_of_gt (Nat.lt_of_lt_of_le hol (Nat.le_add_right _ _)))).trans f40
  have f42 := (r32 (n0 + 0) (Nat.add_lt_add_left (by decide) n0) (fun q => absurd (Nat.add_left_cancel q) (by decide))).trans f41
  have f43 := (r38 (n0 + 0) (Nat.add_lt_add_left (by decide) n0) (Nat.ne_of_gt (Nat.lt_of_lt_of_le hol (Nat.le_add_right _ _)))).trans f42
  have f44 := (r27 (n0 + 1) (Nat.add_lt_add_left (by decide) n0) (Nat.ne_of_gt (Nat.lt_of_lt_of_le hol (Nat.le_add_right _ _)))).trans f19
  have f45 := (r32 (n0 + 1) (Nat.add_lt_add_left (by decide) n0) (fun q => absurd (Nat.add_left_cancel q) (by decide))).trans f44
  have f46 := (r38 (n0 + 1) (Nat.add_lt_add_left (by decide) n0) (Nat.ne_of_gt (Nat.lt_of_lt_of_le hol (Nat.le_add_right _ _)))).trans f45
  have f47 := (r38 (n0 + 2) (Nat.add_lt_add_left (by decide) n0) (Nat.ne_of_gt (Nat.lt_of_lt_of_le hol (Nat.le_add_right _ _)))).trans f30
  have hfr : ∀ j, j < n0 → j ≠ o → h34[j]? = h[j]? := by
    intro j hj hjo
    rw [r38 j (Nat.lt_of_lt_of_le hj (Nat.le_add_right _ _)) hjo, r32 j (Nat.lt_of_lt_of_le hj (Nat.le_add_right _ _)) (Nat.ne_of_lt (Nat.lt_of_lt_of_le hj (Nat.le_add_right _ _))), r27 j (Nat.lt_of_lt_of_le hj (Nat.le_add_right _ _)) hjo, r21 j (Nat.lt_of_lt_of_le hj (Nat.le_add_right _ _)) (Nat.ne_of_lt (Nat.lt_of_lt_of_le hj (Nat.le_add_right _ _))), r16 j (Nat.lt_of_lt_of_le hj (Nat.le_add_right _ _)) hjo, r10 j (Nat.lt_of_lt_of_le hj (Nat.le_add_right _ _)) (Nat.ne_of_lt (Nat.lt_of_lt_of_le hj (Nat.le_add_right _ _))), r5 j (Nat.lt_of_lt_of_le hj (Nat.le_add_right _ _)) hjo]
  exact J_vret hq dX8_init_33 rfl (hk1 hn l37) (by decide) (by decide) ⟨rfl, l37, f36, (At_cons f43 (At_cons f46 (At_cons f47 At_nil))), hfr⟩
def ob5 (n : Nat) : MC := (.inr (5, [.int 0, .int 0, .int 0, .int 0, .int 0, .ref (n + 0), .ref (n + 1)]))
def bk5 (n : Nat) : List MC := (.inl (1, 9, .inl (fun _ => 0))) :: ((.inl (1, 9, .inl (fun _ => 0))) :: ([]))
set_option maxRecDepth 100000 in
theorem bl5 {n : Nat} : (bk5 n).length = 2 := rfl
set_option maxHeartbeats 4000000 in
set_option maxRecDepth 100000 in
theorem c_X5_init {d : Nat} {h : List MC} {o n0 : Nat} (hd : 1 ≤ d) (hn : h.length = n0) (ho : h[o]? = some (.inr (5, [.int 0, .int 0, .int 0, .int 0, .int 0, .null, .null]))) : CT con0 d 2 18 yX5_init cX5_init 1 none [.ref o] h (fun r h2 => r = none ∧ h2.length = n0 + 2 ∧ h2[o]? = some (ob5 n0) ∧ At h2 n0 (bk5 n0) ∧ ∀ j, j < n0 → j ≠ o → h2[j]? = h[j]?) := by
  have hol : o < n0 := by rw [← hn]; exact (List.getElem?_eq_some_iff.mp ho).1
  have hn0 : h.length = n0 + 0 := hn
  refine CT_of (by decide) (Nat.le_of_ble_eq_true rfl) (fun x hq => ?_)
  show J x yX5_init cX5_init 1 none d 2 18 h.length 0 [(0, .ref o)] [] h 0 0
  refine J_aload_n (i := 0) (j := 0) dX5_init_0 rfl rfl ?_
  refine J_obj dX5_init_1 k318 k113 k114 (Nat.le_trans (by decide) hd) (Nat.le_of_ble_eq_true rfl) ?_
  refine J_aload_n (i := 0) (j := 0) dX5_init_4 rfl rfl ?_
  refine J_iconst (v := 0) dX5_init_5 (by decide) ?_
  obtain ⟨h1, e2⟩ : ∃ z, z = h.set (o) (.inr (5, [.int 0, .int 0, .int 0, .int 0, .int 0, .null, .null])) := ⟨_, rfl⟩
  refine J_put (C := RX5) (T := TX5) (Z := 7) (ci := 5) (f := 0) (ty0 := tyX5) dX5_init_6 inG5 rfl tyX5_ok nmX5 (by decide) k319 rfl rfl ho (Nat.le_of_ble_eq_true rfl) (fun _ _ => ⟨rfl, rfl⟩) e2.symm ?_
  have f3 := a_set e2 ho
  have l4 : h1.length = n0 + 0 := l_set e2 hn0
  have r5 := r_set (N := n0 + 0) e2
  refine J_aload_n (i := 0) (j := 0) dX5_init_9 rfl rfl ?_
  refine J_iconst (v := 0) dX5_init_10 (by decide) ?_
  obtain ⟨h6, e7⟩ : ∃ z, z = h1.set (o) (.inr (5, [.int 0, .int 0, .int 0, .int 0, .int 0, .null, .null])) := ⟨_, rfl⟩
  refine J_put (C := RX5) (T := TX5) (Z := 7) (ci := 5) (f := 1) (ty0 := tyX5) dX5_init_11 inG5 rfl tyX5_ok nmX5 (by decide) k320 rfl rfl f3 (Nat.le_of_ble_eq_true rfl) (fun _ _ => ⟨rfl, rfl⟩) e7.symm ?_
  have f8 := a_set e7 f3
  have l9 : h6.length = n0 + 0 := l_set e7 l4
  have r10 := r_set (N := n0 + 0) e7
  refine J_aload_n (i := 0) (j := 0) dX5_init_14 rfl rfl ?_
  refine J_iconst (v := 0) dX5_init_15 (by decide) ?_
  obtain ⟨h11, e12⟩ : ∃ z, z = h6.set (o) (.inr (5, [.int 0, .int 0, .int 0, .int 0, .int 0, .null, .null])) := ⟨_, rfl⟩
  refine J_put (C := RX5) (T := TX5) (Z := 7) (ci := 5) (f := 2) (ty0 := tyX5) dX5_init_16 inG5 rfl tyX5_ok nmX5 (by decide) k324 rfl rfl f8 (Nat.le_of_ble_eq_true rfl) (fun _ _ => ⟨rfl, rfl⟩) e12.symm ?_
  have f13 := a_set e12 f8
  have l14 : h11.length = n0 + 0 := l_set e12 l9
  have r15 := r_set (N := n0 + 0) e12
  refine J_aload_n (i := 0) (j := 0) dX5_init_19 rfl rfl ?_
  refine J_iconst (v := 0) dX5_init_20 (by decide) ?_
  obtain ⟨h16, e17⟩ : ∃ z, z = h11.set (o) (.inr (5, [.int 0, .int 0, .int 0, .int 0, .int 0, .null, .null])) := ⟨_, rfl⟩
  refine J_put (C := RX5) (T := TX5) (Z := 7) (ci := 5) (f := 3) (ty0 := tyX5) dX5_init_21 inG5 rfl tyX5_ok nmX5 (by decide) k326 rfl rfl f13 (Nat.le_of_ble_eq_true rfl) (fun _ _ => ⟨rfl, rfl⟩) e17.symm ?_
  have f18 := a_set e17 f13
  have l19 : h16.length = n0 + 0 := l_set e17 l14
  have r20 := r_set (N := n0 + 0) e17
  refine J_aload_n (i := 0) (j := 0) dX5_init_24 rfl rfl ?_
  refine J_iconst (v := 0) dX5_init_25 (by decide) ?_
  obtain ⟨h21, e22⟩ : ∃ z, z = h16.set (o) (.inr (5, [.int 0, .int 0, .int 0, .int 0, .int 0, .null, .null])) := ⟨_, rfl⟩
  refine J_put (C := RX5) (T := TX5) (Z := 7) (ci := 5) (f := 4) (ty0 := tyX5) dX5_init_26 inG5 rfl tyX5_ok nmX5 (by decide) k327 rfl rfl f18 (Nat.le_of_ble_eq_true rfl) (fun _ _ => ⟨rfl, rfl⟩) e22.symm ?_
  have f23 := a_set e22 f18
  have l24 : h21.length = n0 + 0 := l_set e22 l19
  have r25 := r_set (N := n0 + 0) e22
  refine J_aload_n (i := 0) (j := 0) dX5_init_29 rfl rfl ?_
  refine J_bipush (v := 9) dX5_init_30 (by decide) ?_
  refine J_newa1 (Z := 9) dX5_init_32 ka1 (by decide) (by decide) (by decide) (hk1 hn l24) (by decide) (by decide) ?_
  obtain ⟨h26, e27⟩ : ∃ z, z = h21 ++ [(.inl (1, 9, .inl (fun _ => 0)))] := ⟨_, rfl⟩
  refine J_w e27.symm ?_
  refine J_cr (v := n0 + 0) l24 ?_
  have f28 := a_push e27 l24
  have l29 : h26.length = n0 + 1 := l_push e27 l24 rfl
  have r30 := r_push (a := n0 + 0) e27 l24
  have f31 := (r30 (o) (Nat.lt_of_lt_of_le hol (Nat.le_add_right _ _)) (Nat.ne_of_lt (Nat.lt_of_lt_of_le hol (Nat.le_add_right _ _)))).trans f23
  obtain ⟨h32, e33⟩ : ∃ z, z = h26.set (o) (.inr (5, [.int 0, .int 0, .int 0, .int 0, .int 0, .ref (n0 + 0), .null])) := ⟨_, rfl⟩
  refine J_putF (C := RX5) (T := TX5) (Z := 7) (ci := 5) (f := 5) (ty0 := tyX5) dX5_init_34 inG5 rfl tyX5_ok nmX5 (by decide) k329 rfl rfl rfl rfl f31 (Nat.le_of_ble_eq_true rfl) (fun _ _ => ⟨rfl, rfl⟩) e33.symm ?_
  have f34 := a_set e33 f31
  have l35 : h32.length = n0 + 1 := l_set e33 l29
  have r36 := r_set (N := n0 + 1) e33
  refine J_aload_n (i := 0) (j := 0) dX5_init_37 rfl rfl ?_
  refine J_bipush (v := 9) dX5_init_38 (by decide) ?_
  refine J_newa1 (Z := 9) dX5_init_40 ka1 (by decide) (by decide) (by decide) (hk1 hn l35) (by decide) (by decide) ?_
  obtain ⟨h37, e38⟩ : ∃ z, z = h32 ++ [(.inl (1, 9, .inl (fun _ => 0)))] := ⟨_, rfl⟩
  refine J_w e38.symm ?_
  refine J_cr (v := n0 + 1) l35 ?_
  have f39 := a_push e38 l35
  have l40 : h37.length = n0 + 2 := l_push e38 l35 rfl
  have r41 := r_push (a := n0 + 1) e38 l35
  have f42 := (r41 (o) (Nat.lt_of_lt_of_le hol (Nat.le_add_right _ _)) (Nat.ne_of_lt (Nat.lt_of_lt_of_le hol (Nat.le_add_right _ _)))).trans f34
  obtain ⟨h43, e44⟩ : ∃ z, z = h37.set (o) (.inr (5, [.int 0, .int 0, .int 0, .int 0, .int 0, .ref (n0 + 0), .ref (n0 + 1)])) := ⟨_, rfl⟩
  refine J_putF (C := RX5) (T := TX5) (Z := 7) (ci := 5) (f := 6) (ty0 := tyX5) dX5_init_42 inG5 rfl tyX5_ok nmX5 (by decide) k330 rfl rfl rfl rfl f42 (Nat.le_of_ble_eq_true rfl) (fun _ _ => ⟨rfl, rfl⟩) e44.symm ?_
  have f45 := a_set e44 f42
  have l46 : h43.length = n0 + 2 := l_set e44 l40
  have r47 := r_set (N := n0 + 2) e44
  have f48 := (r36 (n0 + 0) (Nat.add_lt_add_left (by decide) n0) (Nat.ne_of_gt (Nat.lt_of_lt_of_le hol (Nat.le_add_right _ _)))).trans f28
  have f49 := (r41 (n0 + 0) (Nat.add_lt_add_left (by decide) n0) (fun q => absurd (Nat.add_left_cancel q) (by decide))).trans f48
  have f50 := (r47 (n0 + 0) (Nat.add_lt_add_left (by decide) n0) (Nat.ne_of_gt (Nat.lt_of_lt_of_le hol (Nat.le_add_right _ _)))).trans f49
  have f51 := (r47 (n0 + 1) (Nat.add_lt_add_left (by decide) n0) (Nat.ne_of_gt (Nat.lt_of_lt_of_le hol (Nat.le_add_right _ _)))).trans f39
  have hfr : ∀ j, j < n0 → j ≠ o → h43[j]? = h[j]? := by
    intro j hj hjo
    rw [r47 j (Nat.lt_of_lt_of_le hj (Nat.le_add_right _ _)) hjo, r41 j (Nat.lt_of_lt_of_le hj (Nat.le_add_right _ _)) (Nat.ne_of_lt (Nat.lt_of_lt_of_le hj (Nat.le_add_right _ _))), r36 j (Nat.lt_of_lt_of_le hj (Nat.le_add_right _ _)) hjo, r30 j (Nat.lt_of_lt_of_le hj (Nat.le_add_right _ _)) (Nat.ne_of_lt (Nat.lt_of_lt_of_le hj (Nat.le_add_right _ _))), r25 j (Nat.lt_of_lt_of_le hj (Nat.le_add_right _ _)) hjo, r20 j (Nat.lt_of_lt_of_le hj (Nat.le_add_right _ _)) hjo, r15 j (Nat.lt_of_lt_of_le hj (Nat.le_add_right _ _)) hjo, r10 j (Nat.lt_of_lt_of_le hj (Nat.le_add_right _ _)) hjo, r5 j (Nat.lt_of_lt_of_le hj (Nat.le_add_right _ _)) hjo]
  exact J_vret hq dX5_init_45 rfl (hk1 hn l46) (by decide) (by decide) ⟨rfl, l46, f45, (At_cons f50 (At_cons f51 At_nil)), hfr⟩
def ob6 (n : Nat) : MC := (.inr (6, [.ref (n + 0), .int 0, .int 0, .int 0, .int 0, .int 0]))
def bk6 (n : Nat) : List MC := (.inl (0, 0, .inl (fun _ => 0))) :: ([])
set_option maxRecDepth 100000 in
theorem bl6 {n : Nat} : (bk6 n).length = 1 := rfl
set_option maxHeartbeats 4000000 in
set_option maxRecDepth 100000 in
theorem c_X6_init {d : Nat} {h : List MC} {o n0 : Nat} (hd : 1 ≤ d) (hn : h.length = n0) (ho : h[o]? = some (.inr (6, [.null, .int 0, .int 0, .int 0, .int 0, .int 0]))) : CT con0 d 1 0 yX6_init cX6_init 1 none [.ref o] h (fun r h2 => r = none ∧ h2.length = n0 + 1 ∧ h2[o]? = some (ob6 n0) ∧ At h2 n0 (bk6 n0) ∧ ∀ j, j < n0 → j ≠ o → h2[j]? = h[j]?) := by
  have hol : o < n0 := by rw [← hn]; exact (List.getElem?_eq_some_iff.mp ho).1
  have hn0 : h.length = n0 + 0 := hn
  refine CT_of (by decide) (Nat.le_of_ble_eq_true rfl) (fun x hq => ?_)
  show J x yX6_init cX6_init 1 none d 1 0 h.length 0 [(0, .ref o)] [] h 0 0
  refine J_aload_n (i := 0) (j := 0) dX6_init_0 rfl rfl ?_
  refine J_obj dX6_init_1 k231 k113 k114 (Nat.le_trans (by decide) hd) (Nat.le_of_ble_eq_true rfl) ?_
  refine J_aload_n (i := 0) (j := 0) dX6_init_4 rfl rfl ?_
  refine J_iconst (v := 0) dX6_init_5 (by decide) ?_
  refine J_newa0 (Z := 0) dX6_init_6 ka0 (by decide) (by decide) (by decide) (hk1 hn hn0) (by decide) (by decide) ?_
  obtain ⟨h1, e2⟩ : ∃ z, z = h ++ [(.inl (0, 0, .inl (fun _ => 0)))] := ⟨_, rfl⟩
  refine J_w e2.symm ?_
  refine J_cr (v := n0 + 0) hn0 ?_
  have f3 := a_push e2 hn0
  have l4 : h1.length = n0 + 1 := l_push e2 hn0 rfl
  have r5 := r_push (a := n0 + 0) e2 hn0
  have f6 := (r5 (o) (Nat.lt_of_lt_of_le hol (Nat.le_add_right _ _)) (Nat.ne_of_lt (Nat.lt_of_lt_of_le hol (Nat.le_add_right _ _)))).trans ho
  obtain ⟨h7, e8⟩ : ∃ z, z = h1.set (o) (.inr (6, [.ref (n0 + 0), .int 0, .int 0, .int 0, .int 0, .int 0])) := ⟨_, rfl⟩
  refine J_put (C := RX6) (T := TX6) (Z := 6) (ci := 6) (f := 0) (ty0 := tyX6) dX6_init_8 inG6 rfl tyX6_ok nmX6 (by decide) k232 rfl rfl f6 (Nat.le_of_ble_eq_true rfl) (fun _ _ => ⟨rfl, rfl⟩) e8.symm ?_
  have f9 := a_set e8 f6
  have l10 : h7.length = n0 + 1 := l_set e8 l4
  have r11 := r_set (N := n0 + 1) e8
  refine J_aload_n (i := 0) (j := 0) dX6_init_11 rfl rfl ?_
  refine J_iconst (v := 0) dX6_init_12 (by decide) ?_
  obtain ⟨h12, e13⟩ : ∃ z, z = h7.set (o) (.inr (6, [.ref (n0 + 0), .int 0, .int 0, .int 0, .int 0, .int 0])) := ⟨_, rfl⟩
  refine J_put (C := RX6) (T := TX6) (Z := 6) (ci := 6) (f := 1) (ty0 := tyX6) dX6_init_13 inG6 rfl tyX6_ok nmX6 (by decide) k233 rfl rfl f9 (Nat.le_of_ble_eq_true rfl) (fun _ _ => ⟨rfl, rfl⟩) e13.symm ?_
  have f14 := a_set e13 f9
  have l15 : h12.length = n0 + 1 := l_set e13 l10
  have r16 := r_set (N := n0 + 1) e13
  refine J_aload_n (i := 0) (j := 0) dX6_init_16 rfl rfl ?_
  refine J_iconst (v := 0) dX6_init_17 (by decide) ?_
  obtain ⟨h17, e18⟩ : ∃ z, z = h12.set (o) (.inr (6, [.ref (n0 + 0), .int 0, .int 0, .int 0, .int 0, .int 0])) := ⟨_, rfl⟩
  refine J_put (C := RX6) (T := TX6) (Z := 6) (ci := 6) (f := 2) (ty0 := tyX6) dX6_init_18 inG6 rfl tyX6_ok nmX6 (by decide) k235 rfl rfl f14 (Nat.le_of_ble_eq_true rfl) (fun _ _ => ⟨rfl, rfl⟩) e18.symm ?_
  have f19 := a_set e18 f14
  have l20 : h17.length = n0 + 1 := l_set e18 l15
  have r21 := r_set (N := n0 + 1) e18
  refine J_aload_n (i := 0) (j := 0) dX6_init_21 rfl rfl ?_
  refine J_iconst (v := 0) dX6_init_22 (by decide) ?_
  obtain ⟨h22, e23⟩ : ∃ z, z = h17.set (o) (.inr (6, [.ref (n0 + 0), .int 0, .int 0, .int 0, .int 0, .int 0])) := ⟨_, rfl⟩
  refine J_put (C := RX6) (T := TX6) (Z := 6) (ci := 6) (f := 3) (ty0 := tyX6) dX6_init_23 inG6 rfl tyX6_ok nmX6 (by decide) k236 rfl rfl f19 (Nat.le_of_ble_eq_true rfl) (fun _ _ => ⟨rfl, rfl⟩) e23.symm ?_
  have f24 := a_set e23 f19
  have l25 : h22.length = n0 + 1 := l_set e23 l20
  have r26 := r_set (N := n0 + 1) e23
  refine J_aload_n (i := 0) (j := 0) dX6_init_26 rfl rfl ?_
  refine J_iconst (v := 0) dX6_init_27 (by decide) ?_
  obtain ⟨h27, e28⟩ : ∃ z, z = h22.set (o) (.inr (6, [.ref (n0 + 0), .int 0, .int 0, .int 0, .int 0, .int 0])) := ⟨_, rfl⟩
  refine J_put (C := RX6) (T := TX6) (Z := 6) (ci := 6) (f := 4) (ty0 := tyX6) dX6_init_28 inG6 rfl tyX6_ok nmX6 (by decide) k238 rfl rfl f24 (Nat.le_of_ble_eq_true rfl) (fun _ _ => ⟨rfl, rfl⟩) e28.symm ?_
  have f29 := a_set e28 f24
  have l30 : h27.length = n0 + 1 := l_set e28 l25
  have r31 := r_set (N := n0 + 1) e28
  refine J_aload_n (i := 0) (j := 0) dX6_init_31 rfl rfl ?_
  refine J_iconst (v := 0) dX6_init_32 (by decide) ?_
  obtain ⟨h32, e33⟩ : ∃ z, z = h27.set (o) (.inr (6, [.ref (n0 + 0), .int 0, .int 0, .int 0, .int 0, .int 0])) := ⟨_, rfl⟩
  refine J_put (C := RX6) (T := TX6) (Z := 6) (ci := 6) (f := 5) (ty0 := tyX6) dX6_init_33 inG6 rfl tyX6_ok nmX6 (by decide) k240 rfl rfl f29 (Nat.le_of_ble_eq_true rfl) (fun _ _ => ⟨rfl, rfl⟩) e33.symm ?_
  have f34 := a_set e33 f29
  have l35 : h32.length = n0 + 1 := l_set e33 l30
  have r36 := r_set (N := n0 + 1) e33
  have f37 := (r11 (n0 + 0) (Nat.add_lt_add_left (by decide) n0) (Nat.ne_of_gt (Nat.lt_of_lt_of_le hol (Nat.le_add_right _ _)))).trans f3
  have f38 := (r16 (n0 + 0) (Nat.add_lt_add_left (by decide) n0) (Nat.ne_of_gt (Nat.lt_of_lt_of_le hol (Nat.le_add_right _ _)))).trans f37
  have f39 := (r21 (n0 + 0) (Nat.add_lt_add_left (by decide) n0) (Nat.ne_of_gt (Nat.lt_of_lt_of_le hol (Nat.le_add_right _ _)))).trans f38
  have f40 := (r26 (n0 + 0) (Nat.add_lt_add_left (by decide) n0) (Nat.ne_of_gt (Nat.lt_of_lt_of_le hol (Nat.le_add_right _ _)))).trans f39
  have f41 := (r31 (n0 + 0) (Nat.add_lt_add_left (by decide) n0) (Nat.ne_of_gt (Nat.lt_of_lt_of_le hol (Nat.le_add_right _ _)))).trans f40
  have f42 := (r36 (n0 + 0) (Nat.add_lt_add_left (by decide) n0) (Nat.ne_of_gt (Nat.lt_of_lt_of_le hol (Nat.le_add_right _ _)))).trans f41
  have hfr : ∀ j, j < n0 → j ≠ o → h32[j]? = h[j]? := by
    intro j hj hjo
    rw [r36 j (Nat.lt_of_lt_of_le hj (Nat.le_add_right _ _)) hjo, r31 j (Nat.lt_of_lt_of_le hj (Nat.le_add_right _ _)) hjo, r26 j (Nat.lt_of_lt_of_le hj (Nat.le_add_right _ _)) hjo, r21 j (Nat.lt_of_lt_of_le hj (Nat.le_add_right _ _)) hjo, r16 j (Nat.lt_of_lt_of_le hj (Nat.le_add_right _ _)) hjo, r11 j (Nat.lt_of_lt_of_le hj (Nat.le_add_right _ _)) hjo, r5 j (Nat.lt_of_lt_of_le hj (Nat.le_add_right _ _)) (Nat.ne_of_lt (Nat.lt_of_lt_of_le hj (Nat.le_add_right _ _)))]
  exact J_vret hq dX6_init_36 rfl (hk1 hn l35) (by decide) (by decide) ⟨rfl, l35, f34, (At_cons f42 At_nil), hfr⟩
def ob7 (n : Nat) : MC := (.inr (7, [.ref (n + 0), .int 0, .int 0, .int (-1), .ref (n + 1), .int 0, .ref (n + 2), .int 0]))
def bk7 (n : Nat) : List MC := (.inl (0, 600, .inl (fun _ => 0))) :: ((.inl (4, 2, .inr (.inr (va_up (va_up (fun _ => none) ((0 : Int32).toNatClampNeg) (some (n + 3))) ((1 : Int32).toNatClampNeg) (some (n + 8)))))) :: ((.inl (6, 3, .inr (.inr (va_up (va_up (va_up (fun _ => none) ((0 : Int32).toNatClampNeg) (some (n + 13))) ((1 : Int32).toNatClampNeg) (some (n + 17))) ((2 : Int32).toNatClampNeg) (some (n + 21)))))) :: (ob1 (n + 4) :: (bk1 (n + 4) ++ (ob1 (n + 9) :: (bk1 (n + 9) ++ (ob8 (n + 14) :: (bk8 (n + 14) ++ (ob8 (n + 18) :: (bk8 (n + 18) ++ (ob8 (n + 22) :: (bk8 (n + 22) ++ ([])))))))))))))
set_option maxRecDepth 100000 in
theorem bl7 {n : Nat} : (bk7 n).length = 25 := rfl
set_option maxHeartbeats 4000000 in
set_option maxRecDepth 100000 in
theorem c_X7_init {d : Nat} {h : List MC} {o n0 : Nat} (hd : 2 ≤ d) (hn : h.length = n0) (ho : h[o]? = some (.inr (7, [.null, .int 0, .int 0, .int 0, .null, .int 0, .null, .int 0]))) : CT con0 d 25 1047 yX7_init cX7_init 2 none [.ref o] h (fun r h2 => r = none ∧ h2.length = n0 + 25 ∧ h2[o]? = some (ob7 n0) ∧ At h2 n0 (bk7 n0) ∧ ∀ j, j < n0 → j ≠ o → h2[j]? = h[j]?) := by
  have hol : o < n0 := by rw [← hn]; exact (List.getElem?_eq_some_iff.mp ho).1
  have hn0 : h.length = n0 + 0 := hn
  refine CT_of (by decide) (Nat.le_of_ble_eq_true rfl) (fun x hq => ?_)
  show J x yX7_init cX7_init 2 none d 25 1047 h.length 0 [(0, .ref o)] [] h 0 0
  refine J_aload_n (i := 0) (j := 0) dX7_init_0 rfl rfl ?_
  refine J_obj dX7_init_1 k120 k113 k114 (Nat.le_trans (by decide) hd) (Nat.le_of_ble_eq_true rfl) ?_
  refine J_aload_n (i := 0) (j := 0) dX7_init_4 rfl rfl ?_
  refine J_sipush (v := 600) dX7_init_5 (by decide) ?_
  refine J_newa0 (Z := 600) dX7_init_8 ka0 (by decide) (by decide) (by decide) (hk1 hn hn0) (by decide) (by decide) ?_
  obtain ⟨h1, e2⟩ : ∃ z, z = h ++ [(.inl (0, 600, .inl (fun _ => 0)))] := ⟨_, rfl⟩
  refine J_w e2.symm ?_
  refine J_cr (v := n0 + 0) hn0 ?_
  have f3 := a_push e2 hn0
  have l4 : h1.length = n0 + 1 := l_push e2 hn0 rfl
  have r5 := r_push (a := n0 + 0) e2 hn0
  have f6 := (r5 (o) (Nat.lt_of_lt_of_le hol (Nat.le_add_right _ _)) (Nat.ne_of_lt (Nat.lt_of_lt_of_le hol (Nat.le_add_right _ _)))).trans ho
  obtain ⟨h7, e8⟩ : ∃ z, z = h1.set (o) (.inr (7, [.ref (n0 + 0), .int 0, .int 0, .int 0, .null, .int 0, .null, .int 0])) := ⟨_, rfl⟩
  refine J_putF (C := RX7) (T := TX7) (Z := 8) (ci := 7) (f := 0) (ty0 := tyX7) dX7_init_10 inG7 rfl tyX7_ok nmX7 (by decide) k186 rfl rfl rfl rfl f6 (Nat.le_of_ble_eq_true rfl) (fun _ _ => ⟨rfl, rfl⟩) e8.symm ?_
  have f9 := a_set e8 f6
  have l10 : h7.length = n0 + 1 := l_set e8 l4
  have r11 := r_set (N := n0 + 1) e8
  refine J_aload_n (i := 0) (j := 0) dX7_init_13 rfl rfl ?_
  refine J_iconst (v := 0) dX7_init_14 (by decide) ?_
  obtain ⟨h12, e13⟩ : ∃ z, z = h7.set (o) (.inr (7, [.ref (n0 + 0), .int 0, .int 0, .int 0, .null, .int 0, .null, .int 0])) := ⟨_, rfl⟩
  refine J_put (C := RX7) (T := TX7) (Z := 8) (ci := 7) (f := 1) (ty0 := tyX7) dX7_init_15 inG7 rfl tyX7_ok nmX7 (by decide) k188 rfl rfl f9 (Nat.le_of_ble_eq_true rfl) (fun _ _ => ⟨rfl, rfl⟩) e13.symm ?_
  have f14 := a_set e13 f9
  have l15 : h12.length = n0 + 1 := l_set e13 l10
  have r16 := r_set (N := n0 + 1) e13
  refine J_aload_n (i := 0) (j := 0) dX7_init_18 rfl rfl ?_
  refine J_iconst (v := 0) dX7_init_19 (by decide) ?_
  obtain ⟨h17, e18⟩ : ∃ z, z = h12.set (o) (.inr (7, [.ref (n0 + 0), .int 0, .int 0, .int 0, .null, .int 0, .null, .int 0])) := ⟨_, rfl⟩
  refine J_put (C := RX7) (T := TX7) (Z := 8) (ci := 7) (f := 2) (ty0 := tyX7) dX7_init_20 inG7 rfl tyX7_ok nmX7 (by decide) k190 rfl rfl f14 (Nat.le_of_ble_eq_true rfl) (fun _ _ => ⟨rfl, rfl⟩) e18.symm ?_
  have f19 := a_set e18 f14
  have l20 : h17.length = n0 + 1 := l_set e18 l15
  have r21 := r_set (N := n0 + 1) e18
  refine J_aload_n (i := 0) (j := 0) dX7_init_23 rfl rfl ?_
  refine J_iconst (v := (-1)) dX7_init_24 (by decide) ?_
  obtain ⟨h22, e23⟩ : ∃ z, z = h17.set (o) (.inr (7, [.ref (n0 + 0), .int 0, .int 0, .int (-1), .null, .int 0, .null, .int 0])) := ⟨_, rfl⟩
  refine J_put (C := RX7) (T := TX7) (Z := 8) (ci := 7) (f := 3) (ty0 := tyX7) dX7_init_25 inG7 rfl tyX7_ok nmX7 (by decide) k192 rfl rfl f19 (Nat.le_of_ble_eq_true rfl) (fun _ _ => ⟨rfl, rfl⟩) e23.symm ?_
  have f24 := a_set e23 f19
  have l25 : h22.length = n0 + 1 := l_set e23 l20
  have r26 := r_set (N := n0 + 1) e23
  refine J_aload_n (i := 0) (j := 0) dX7_init_28 rfl rfl ?_
  refine J_iconst (v := 2) dX7_init_29 (by decide) ?_
  refine J_newq (t := 4) (Z := 2) dX7_init_30 k121 ko4 (fun _ => rfl) (by decide) (by decide) (by decide) (hk1 hn l25) (by decide) (by decide) ?_
  obtain ⟨h27, e28⟩ : ∃ z, z = h22 ++ [(.inl (4, 2, .inr (.inr (fun _ => none))))] := ⟨_, rfl⟩
  refine J_w e28.symm ?_
  refine J_cr (v := n0 + 1) l25 ?_
  have f29 := a_push e28 l25
  have l30 : h27.length = n0 + 2 := l_push e28 l25 rfl
  have r31 := r_push (a := n0 + 1) e28 l25
  have f32 := (r31 (o) (Nat.lt_of_lt_of_le hol (Nat.le_add_right _ _)) (Nat.ne_of_lt (Nat.lt_of_lt_of_le hol (Nat.le_add_right _ _)))).trans f24
  obtain ⟨h33, e34⟩ : ∃ z, z = h27.set (o) (.inr (7, [.ref (n0 + 0), .int 0, .int 0, .int (-1), .ref (n0 + 1), .int 0, .null, .int 0])) := ⟨_, rfl⟩
  refine J_putF (C := RX7) (T := TX7) (Z := 8) (ci := 7) (f := 4) (ty0 := tyX7) dX7_init_33 inG7 rfl tyX7_ok nmX7 (by decide) k194 rfl rfl rfl rfl f32 (Nat.le_of_ble_eq_true rfl) (fun _ _ => ⟨rfl, rfl⟩) e34.symm ?_
  have f35 := a_set e34 f32
  have l36 : h33.length = n0 + 2 := l_set e34 l30
  have r37 := r_set (N := n0 + 2) e34
  refine J_aload_n (i := 0) (j := 0) dX7_init_36 rfl rfl ?_
  refine J_iconst (v := 0) dX7_init_37 (by decide) ?_
  obtain ⟨h38, e39⟩ : ∃ z, z = h33.set (o) (.inr (7, [.ref (n0 + 0), .int 0, .int 0, .int (-1), .ref (n0 + 1), .int 0, .null, .int 0])) := ⟨_, rfl⟩
  refine J_put (C := RX7) (T := TX7) (Z := 8) (ci := 7) (f := 5) (ty0 := tyX7) dX7_init_38 inG7 rfl tyX7_ok nmX7 (by decide) k196 rfl rfl f35 (Nat.le_of_ble_eq_true rfl) (fun _ _ => ⟨rfl, rfl⟩) e39.symm ?_
  have f40 := a_set e39 f35
  have l41 : h38.length = n0 + 2 := l_set e39 l36
  have r42 := r_set (N := n0 + 2) e39
  refine J_aload_n (i := 0) (j := 0) dX7_init_41 rfl rfl ?_
  refine J_iconst (v := 3) dX7_init_42 (by decide) ?_
  refine J_newq (t := 6) (Z := 3) dX7_init_43 k123 ko6 (fun _ => rfl) (by decide) (by decide) (by decide) (hk1 hn l41) (by decide) (by decide) ?_
  obtain ⟨h43, e44⟩ : ∃ z, z = h38 ++ [(.inl (6, 3, .inr (.inr (fun _ => none))))] := ⟨_, rfl⟩
  refine J_w e44.symm ?_
  refine J_cr (v := n0 + 2) l41 ?_
  have f45 := a_push e44 l41
  have l46 : h43.length = n0 + 3 := l_push e44 l41 rfl
  have r47 := r_push (a := n0 + 2) e44 l41
  have f48 := (r47 (o) (Nat.lt_of_lt_of_le hol (Nat.le_add_right _ _)) (Nat.ne_of_lt (Nat.lt_of_lt_of_le hol (Nat.le_add_right _ _)))).trans f40
  obtain ⟨h49, e50⟩ : ∃ z, z = h43.set (o) (.inr (7, [.ref (n0 + 0), .int 0, .int 0, .int (-1), .ref (n0 + 1), .int 0, .ref (n0 + 2), .int 0])) := ⟨_, rfl⟩
  refine J_putF (C := RX7) (T := TX7) (Z := 8) (ci := 7) (f := 6) (ty0 := tyX7) dX7_init_46 inG7 rfl tyX7_ok nmX7 (by decide) k198 rfl rfl rfl rfl f48 (Nat.le_of_ble_eq_true rfl) (fun _ _ => ⟨rfl, rfl⟩) e50.symm ?_
  have f51 := a_set e50 f48
  have l52 : h49.length = n0 + 3 := l_set e50 l46
  have r53 := r_set (N := n0 + 3) e50
  refine J_aload_n (i := 0) (j := 0) dX7_init_49 rfl rfl ?_
  refine J_iconst (v := 0) dX7_init_50 (by decide) ?_
  obtain ⟨h54, e55⟩ : ∃ z, z = h49.set (o) (.inr (7, [.ref (n0 + 0), .int 0, .int 0, .int (-1), .ref (n0 + 1), .int 0, .ref (n0 + 2), .int 0])) := ⟨_, rfl⟩
  refine J_put (C := RX7) (T := TX7) (Z := 8) (ci := 7) (f := 7) (ty0 := tyX7) dX7_init_51 inG7 rfl tyX7_ok nmX7 (by decide) k200 rfl rfl f51 (Nat.le_of_ble_eq_true rfl) (fun _ _ => ⟨rfl, rfl⟩) e55.symm ?_
  have f56 := a_set e55 f51
  have l57 : h54.length = n0 + 3 := l_set e55 l52
  have r58 := r_set (N := n0 + 3) e55
  refine J_iconst (v := 0) dX7_init_54 (by decide) ?_
  refine J_istore_n (i := 1) (lw := [(1, .int 0), (0, .ref o)]) dX7_init_55 rfl (by decide) rfl ?_
  refine J_iload_n (i := 1) (j := 0) dX7_init_56 rfl rfl ?_
  refine J_iconst (v := 2) dX7_init_57 (by decide) ?_
  refine J_icmp_ge (tgt := 80) dX7_init_58 (by decide) (fun q => absurd q (by decide)) (fun _ => ?_)
  refine J_aload_n (i := 0) (j := 1) dX7_init_61 rfl rfl ?_
  refine J_get (C := RX7) (T := TX7) (Z := 8) (ci := 7) (f := 4) dX7_init_62 inG7 rfl (by decide) k194 f56 rfl ?_
  refine J_iload_n (i := 1) (j := 0) dX7_init_65 rfl rfl ?_
  refine J_new (C := RX1) (T := TX1) (Z := 6) (ci := 1) (fs := [.int 0, .null, .int 0, .null, .null, .null]) (ty0 := tyX1) dX7_init_66 inG1 rfl tyX1_ok k121 k125 k89 fsX1 (hk1 hn l57) (by decide) (by decide) ?_
  obtain ⟨h59, e60⟩ : ∃ z, z = h54 ++ [(.inr (1, [.int 0, .null, .int 0, .null, .null, .null]))] := ⟨_, rfl⟩
  refine J_w e60.symm ?_
  refine J_cr (v := n0 + 3) l57 ?_
  have f61 := a_push e60 l57
  have l62 : h59.length = n0 + 4 := l_push e60 l57 rfl
  have r63 := r_push (a := n0 + 3) e60 l57
  refine J_dup dX7_init_69 rfl ?_
  refine J_callIN (As := []) (rest := [.ref (n0 + 3), .int 0, .ref (n0 + 1)]) dX7_init_70 (c_X1_init (d := 1) (h := h59) (o := n0 + 3) (n0 := n0 + 4) (by decide) l62 f61) hq.n k126 k127 rfl rfl k89 k128 np_X1_init (Nat.le_trans (by decide) hd) (by decide) (by decide) (by decide) (hk1 hn l62) rfl (Nat.le_of_ble_eq_true rfl) (fun r64 h65 p66 => ?_)
  obtain ⟨rfl, l67, f68, b69, r70⟩ := p66
  have l71 : h65.length = n0 + 8 := l67
  have f72 := (r37 (n0 + 1) (Nat.add_lt_add_left (by decide) n0) (Nat.ne_of_gt (Nat.lt_of_lt_of_le hol (Nat.le_add_right _ _)))).trans f29
  have f73 := (r42 (n0 + 1) (Nat.add_lt_add_left (by decide) n0) (Nat.ne_of_gt (Nat.lt_of_lt_of_le hol (Nat.le_add_right _ _)))).trans f72
  have f74 := (r47 (n0 + 1) (Nat.add_lt_add_left (by decide) n0) (fun q => absurd (Nat.add_left_cancel q) (by decide))).trans f73
  have f75 := (r53 (n0 + 1) (Nat.add_lt_add_left (by decide) n0) (Nat.ne_of_gt (Nat.lt_of_lt_of_le hol (Nat.le_add_right _ _)))).trans f74
  have f76 := (r58 (n0 + 1) (Nat.add_lt_add_left (by decide) n0) (Nat.ne_of_gt (Nat.lt_of_lt_of_le hol (Nat.le_add_right _ _)))).trans f75
  have f77 := (r63 (n0 + 1) (Nat.add_lt_add_left (by decide) n0) (fun q => absurd (Nat.add_left_cancel q) (by decide))).trans f76
  have f78 := (r70 (n0 + 1) (Nat.add_lt_add_left (by decide) n0) (fun q => absurd (Nat.add_left_cancel q) (by decide))).trans f77
  obtain ⟨h79, e80⟩ : ∃ z, z = h65.set (n0 + 1) (.inl (4, 2, .inr (.inr (va_up (fun _ => none) ((0 : Int32).toNatClampNeg) (some (n0 + 3)))))) := ⟨_, rfl⟩
  refine J_aast (r := (RX1, TX1, 6)) dX7_init_73 f78 (fun _ => rfl) f68 rfl (vp_c (by decide)) e80.symm ?_
  have f81 := a_set e80 f78
  have l82 : h79.length = n0 + 8 := l_set e80 l71
  have r83 := r_set (N := n0 + 8) e80
  refine J_iinc (i := 1) (j := 0) (v := 1) (lw := [(1, .int 1), (0, .ref o)]) dX7_init_74 rfl (by decide) (by decide) rfl ?_
  refine J_goto (tgt := 56) dX7_init_77 (by decide) ?_
  refine J_iload_n (i := 1) (j := 0) dX7_init_56 rfl rfl ?_
  refine J_iconst (v := 2) dX7_init_57 (by decide) ?_
  refine J_icmp_ge (tgt := 80) dX7_init_58 (by decide) (fun q => absurd q (by decide)) (fun _ => ?_)
  refine J_aload_n (i := 0) (j := 1) dX7_init_61 rfl rfl ?_
  have f84 := (r63 (o) (Nat.lt_of_lt_of_le hol (Nat.le_add_right _ _)) (Nat.ne_of_lt (Nat.lt_of_lt_of_le hol (Nat.le_add_right _ _)))).trans f56
  have f85 := (r70 (o) (Nat.lt_of_lt_of_le hol (Nat.le_add_right _ _)) (Nat.ne_of_lt (Nat.lt_of_lt_of_le hol (Nat.le_add_right _ _)))).trans f84
  have f86 := (r83 (o) (Nat.lt_of_lt_of_le hol (Nat.le_add_right _ _)) (Nat.ne_of_lt (Nat.lt_of_lt_of_le hol (Nat.le_add_right _ _)))).trans f85
  refine J_get (C := RX7) (T := TX7) (Z := 8) (ci := 7) (f := 4) dX7_init_62 inG7 rfl (by decide) k194 f86 rfl ?_
  refine J_iload_n (i := 1) (j := 0) dX7_init_65 rfl rfl ?_
  refine J_new (C := RX1) (T := TX1) (Z := 6) (ci := 1) (fs := [.int 0, .null, .int 0, .null, .null, .null]) (ty0 := tyX1) dX7_init_66 inG1 rfl tyX1_ok k121 k125 k89 fsX1 (hk1 hn l82) (by decide) (by decide) ?_
  obtain ⟨h87, e88⟩ : ∃ z, z = h79 ++ [(.inr (1, [.int 0, .null, .int 0, .null, .null, .null]))] := ⟨_, rfl⟩
  refine J_w e88.symm ?_
  refine J_cr (v := n0 + 8) l82 ?_
  have f89 := a_push e88 l82
  have l90 : h87.length = n0 + 9 := l_push e88 l82 rfl
  have r91 := r_push (a := n0 + 8) e88 l82
  refine J_dup dX7_init_69 rfl ?_
  refine J_callIN (As := []) (rest := [.ref (n0 + 8), .int 1, .ref (n0 + 1)]) dX7_init_70 (c_X1_init (d := 1) (h := h87) (o := n0 + 8) (n0 := n0 + 9) (by decide) l90 f89) hq.n k126 k127 rfl rfl k89 k128 np_X1_init (Nat.le_trans (by decide) hd) (by decide) (by decide) (by decide) (hk1 hn l90) rfl (Nat.le_of_ble_eq_true rfl) (fun r92 h93 p94 => ?_)
  obtain ⟨rfl, l95, f96, b97, r98⟩ := p94
  have l99 : h93.length = n0 + 13 := l95
  have f100 := (r91 (n0 + 1) (Nat.add_lt_add_left (by decide) n0) (fun q => absurd (Nat.add_left_cancel q) (by decide))).trans f81
  have f101 := (r98 (n0 + 1) (Nat.add_lt_add_left (by decide) n0) (fun q => absurd (Nat.add_left_cancel q) (by decide))).trans f100
  obtain ⟨h102, e103⟩ : ∃ z, z = h93.set (n0 + 1) (.inl (4, 2, .inr (.inr (va_up (va_up (fun _ => none) ((0 : Int32).toNatClampNeg) (some (n0 + 3))) ((1 : Int32).toNatClampNeg) (some (n0 + 8)))))) := ⟨_, rfl⟩
  refine J_aast (r := (RX1, TX1, 6)) dX7_init_73 f101 (fun _ => rfl) f96 rfl (vp_c (by decide)) e103.symm ?_
  have f104 := a_set e103 f101
  have l105 : h102.length = n0 + 13 := l_set e103 l99
  have r106 := r_set (N := n0 + 13) e103
  refine J_iinc (i := 1) (j := 0) (v := 2) (lw := [(1, .int 2), (0, .ref o)]) dX7_init_74 rfl (by decide) (by decide) rfl ?_
  refine J_goto (tgt := 56) dX7_init_77 (by decide) ?_
  refine J_iload_n (i := 1) (j := 0) dX7_init_56 rfl rfl ?_
  refine J_iconst (v := 2) dX7_init_57 (by decide) ?_
  refine J_icmp_ge (tgt := 80) dX7_init_58 (by decide) (fun _ => ?_) (fun q => absurd (by decide) q)
  refine J_iconst (v := 0) dX7_init_80 (by decide) ?_
  refine J_istore_n (i := 1) (lw := [(1, .int 0), (0, .ref o)]) dX7_init_81 rfl (by decide) rfl ?_
  refine J_iload_n (i := 1) (j := 0) dX7_init_82 rfl rfl ?_
  refine J_iconst (v := 3) dX7_init_83 (by decide) ?_
  refine J_icmp_ge (tgt := 106) dX7_init_84 (by decide) (fun q => absurd q (by decide)) (fun _ => ?_)
  refine J_aload_n (i := 0) (j := 1) dX7_init_87 rfl rfl ?_
  have f107 := (r91 (o) (Nat.lt_of_lt_of_le hol (Nat.le_add_right _ _)) (Nat.ne_of_lt (Nat.lt_of_lt_of_le hol (Nat.le_add_right _ _)))).trans f86
  have f108 := (r98 (o) (Nat.lt_of_lt_of_le hol (Nat.le_add_right _ _)) (Nat.ne_of_lt (Nat.lt_of_lt_of_le hol (Nat.le_add_right _ _)))).trans f107
  have f109 := (r106 (o) (Nat.lt_of_lt_of_le hol (Nat.le_add_right _ _)) (Nat.ne_of_lt (Nat.lt_of_lt_of_le hol (Nat.le_add_right _ _)))).trans f108
  refine J_get (C := RX7) (T := TX7) (Z := 8) (ci := 7) (f := 6) dX7_init_88 inG7 rfl (by decide) k198 f109 rfl ?_
  refine J_iload_n (i := 1) (j := 0) dX7_init_91 rfl rfl ?_
  refine J_new (C := RX8) (T := TX8) (Z := 4) (ci := 8) (fs := [.int 0, .null, .null, .null]) (ty0 := tyX8) dX7_init_92 inG8 rfl tyX8_ok k123 k163 k90 fsX8 (hk1 hn l105) (by decide) (by decide) ?_
  obtain ⟨h110, e111⟩ : ∃ z, z = h102 ++ [(.inr (8, [.int 0, .null, .null, .null]))] := ⟨_, rfl⟩
  refine J_w e111.symm ?_
  refine J_cr (v := n0 + 13) l105 ?_
  have f112 := a_push e111 l105
  have l113 : h110.length = n0 + 14 := l_push e111 l105 rfl
  have r114 := r_push (a := n0 + 13) e111 l105
  refine J_dup dX7_init_95 rfl ?_
  refine J_callIN (As := []) (rest := [.ref (n0 + 13), .int 0, .ref (n0 + 2)]) dX7_init_96 (c_X8_init (d := 1) (h := h110) (o := n0 + 13) (n0 := n0 + 14) (by decide) l113 f112) hq.n k164 k165 rfl rfl k90 k166 np_X8_init (Nat.le_trans (by decide) hd) (by decide) (by decide) (by decide) (hk1 hn l113) rfl (Nat.le_of_ble_eq_true rfl) (fun r115 h116 p117 => ?_)
  obtain ⟨rfl, l118, f119, b120, r121⟩ := p117
  have l122 : h116.length = n0 + 17 := l118
  have f123 := (r53 (n0 + 2) (Nat.add_lt_add_left (by decide) n0) (Nat.ne_of_gt (Nat.lt_of_lt_of_le hol (Nat.le_add_right _ _)))).trans f45
  have f124 := (r58 (n0 + 2) (Nat.add_lt_add_left (by decide) n0) (Nat.ne_of_gt (Nat.lt_of_lt_of_le hol (Nat.le_add_right _ _)))).trans f123
  have f125 := (r63 (n0 + 2) (Nat.add_lt_add_left (by decide) n0) (fun q => absurd (Nat.add_left_cancel q) (by decide))).trans f124
  have f126 := (r70 (n0 + 2) (Nat.add_lt_add_left (by decide) n0) (fun q => absurd (Nat.add_left_cancel q) (by decide))).trans f125
  have f127 := (r83 (n0 + 2) (Nat.add_lt_add_left (by decide) n0) (fun q => absurd (Nat.add_left_cancel q) (by decide))).trans f126
  have f128 := (r91 (n0 + 2) (Nat.add_lt_add_left (by decide) n0) (fun q => absurd (Nat.add_left_cancel q) (by decide))).trans f127
  have f129 := (r98 (n0 + 2) (Nat.add_lt_add_left (by decide) n0) (fun q => absurd (Nat.add_left_cancel q) (by decide))).trans f128
  have f130 := (r106 (n0 + 2) (Nat.add_lt_add_left (by decide) n0) (fun q => absurd (Nat.add_left_cancel q) (by decide))).trans f129
  have f131 := (r114 (n0 + 2) (Nat.add_lt_add_left (by decide) n0) (fun q => absurd (Nat.add_left_cancel q) (by decide))).trans f130
  have f132 := (r121 (n0 + 2) (Nat.add_lt_add_left (by decide) n0) (fun q => absurd (Nat.add_left_cancel q) (by decide))).trans f131
  obtain ⟨h133, e134⟩ : ∃ z, z = h116.set (n0 + 2) (.inl (6, 3, .inr (.inr (va_up (fun _ => none) ((0 : Int32).toNatClampNeg) (some (n0 + 13)))))) := ⟨_, rfl⟩
  refine J_aast (r := (RX8, TX8, 4)) dX7_init_99 f132 (fun _ => rfl) f119 rfl (vp_c (by decide)) e134.symm ?_
  have f135 := a_set e134 f132
  have l136 : h133.length = n0 + 17 := l_set e134 l122
  have r137 := r_set (N := n0 + 17) e134
  refine J_iinc (i := 1) (j := 0) (v := 1) (lw := [(1, .int 1), (0, .ref o)]) dX7_init_100 rfl (by decide) (by decide) rfl ?_
  refine J_goto (tgt := 82) dX7_init_103 (by decide) ?_
  refine J_iload_n (i := 1) (j := 0) dX7_init_82 rfl rfl ?_
  refine J_iconst (v := 3) dX7_init_83 (by decide) ?_
  refine J_icmp_ge (tgt := 106) dX7_init_84 (by decide) (fun q => absurd q (by decide)) (fun _ => ?_)
  refine J_aload_n (i := 0) (j := 1) dX7_init_87 rfl rfl ?_
  have f138 := (r114 (o) (Nat.lt_of_lt_of_le hol (Nat.le_add_right _ _)) (Nat.ne_of_lt (Nat.lt_of_lt_of_le hol (Nat.le_add_right _ _)))).trans f109
  have f139 := (r121 (o) (Nat.lt_of_lt_of_le hol (Nat.le_add_right _ _)) (Nat.ne_of_lt (Nat.lt_of_lt_of_le hol (Nat.le_add_right _ _)))).trans f138
  have f140 := (r137 (o) (Nat.lt_of_lt_of_le hol (Nat.le_add_right _ _)) (Nat.ne_of_lt (Nat.lt_of_lt_of_le hol (Nat.le_add_right _ _)))).trans f139
  refine J_get (C := RX7) (T := TX7) (Z := 8) (ci := 7) (f := 6) dX7_init_88 inG7 rfl (by decide) k198 f140 rfl ?_
  refine J_iload_n (i := 1) (j := 0) dX7_init_91 rfl rfl ?_
  refine J_new (C := RX8) (T := TX8) (Z := 4) (ci := 8) (fs := [.int 0, .null, .null, .null]) (ty0 := tyX8) dX7_init_92 inG8 rfl tyX8_ok k123 k163 k90 fsX8 (hk1 hn l136) (by decide) (by decide) ?_
  obtain ⟨h141, e142⟩ : ∃ z, z = h133 ++ [(.inr (8, [.int 0, .null, .null, .null]))] := ⟨_, rfl⟩
  refine J_w e142.symm ?_
  refine J_cr (v := n0 + 17) l136 ?_
  have f143 := a_push e142 l136
  have l144 : h141.length = n0 + 18 := l_push e142 l136 rfl
  have r145 := r_push (a := n0 + 17) e142 l136
  refine J_dup dX7_init_95 rfl ?_
  refine J_callIN (As := []) (rest := [.ref (n0 + 17), .int 1, .ref (n0 + 2)]) dX7_init_96 (c_X8_init (d := 1) (h := h141) (o := n0 + 17) (n0 := n0 + 18) (by decide) l144 f143) hq.n k164 k165 rfl rfl k90 k166 np_X8_init (Nat.le_trans (by decide) hd) (by decide) (by decide) (by decide) (hk1 hn l144) rfl (Nat.le_of_ble_eq_true rfl) (fun r146 h147 p148 => ?_)
  obtain ⟨rfl, l149, f150, b151, r152⟩ := p148
  have l153 : h147.length = n0 + 21 := l149
  have f154 := (r145 (n0 + 2) (Nat.add_lt_add_left (by decide) n0) (fun q => absurd (Nat.add_left_cancel q) (by decide))).trans f135
  have f155 := (r152 (n0 + 2) (Nat.add_lt_add_left (by decide) n0) (fun q => absurd (Nat.add_left_cancel q) (by decide))).trans f154
  obtain ⟨h156, e157⟩ : ∃ z, z = h147.set (n0 + 2) (.inl (6, 3, .inr (.inr (va_up (va_up (fun _ => none) ((0 : Int32).toNatClampNeg) (some (n0 + 13))) ((1 : Int32).toNatClampNeg) (some (n0 + 17)))))) := ⟨_, rfl⟩
  refine J_aast (r := (RX8, TX8, 4)) dX7_init_99 f155 (fun _ => rfl) f150 rfl (vp_c (by decide)) e157.symm ?_
  have f158 := a_set e157 f155
  have l159 : h156.length = n0 + 21 := l_set e157 l153
  have r160 := r_set (N := n0 + 21) e157
  refine J_iinc (i := 1) (j := 0) (v := 2) (lw := [(1, .int 2), (0, .ref o)]) dX7_init_100 rfl (by decide) (by decide) rfl ?_
  refine J_goto (tgt := 82) dX7_init_103 (by decide) ?_
  refine J_iload_n (i := 1) (j := 0) dX7_init_82 rfl rfl ?_
  refine J_iconst (v := 3) dX7_init_83 (by decide) ?_
  refine J_icmp_ge (tgt := 106) dX7_init_84 (by decide) (fun q => absurd q (by decide)) (fun _ => ?_)
  refine J_aload_n (i := 0) (j := 1) dX7_init_87 rfl rfl ?_
  have f161 := (r145 (o) (Nat.lt_of_lt_of_le hol (Nat.le_add_right _ _)) (Nat.ne_of_lt (Nat.lt_of_lt_of_le hol (Nat.le_add_right _ _)))).trans f140
  have f162 := (r152 (o) (Nat.lt_of_lt_of_le hol (Nat.le_add_right _ _)) (Nat.ne_of_lt (Nat.lt_of_lt_of_le hol (Nat.le_add_right _ _)))).trans f161
  have f163 := (r160 (o) (Nat.lt_of_lt_of_le hol (Nat.le_add_right _ _)) (Nat.ne_of_lt (Nat.lt_of_lt_of_le hol (Nat.le_add_right _ _)))).trans f162
  refine J_get (C := RX7) (T := TX7) (Z := 8) (ci := 7) (f := 6) dX7_init_88 inG7 rfl (by decide) k198 f163 rfl ?_
  refine J_iload_n (i := 1) (j := 0) dX7_init_91 rfl rfl ?_
  refine J_new (C := RX8) (T := TX8) (Z := 4) (ci := 8) (fs := [.int 0, .null, .null, .null]) (ty0 := tyX8) dX7_init_92 inG8 rfl tyX8_ok k123 k163 k90 fsX8 (hk1 hn l159) (by decide) (by decide) ?_
  obtain ⟨h164, e165⟩ : ∃ z, z = h156 ++ [(.inr (8, [.int 0, .null, .null, .null]))] := ⟨_, rfl⟩
  refine J_w e165.symm ?_
  refine J_cr (v := n0 + 21) l159 ?_
  have f166 := a_push e165 l159
  have l167 : h164.length = n0 + 22 := l_push e165 l159 rfl
  have r168 := r_push (a := n0 + 21) e165 l159
  refine J_dup dX7_init_95 rfl ?_
  refine J_callIN (As := []) (rest := [.ref (n0 + 21), .int 2, .ref (n0 + 2)]) dX7_init_96 (c_X8_init (d := 1) (h := h164) (o := n0 + 21) (n0 := n0 + 22) (by decide) l167 f166) hq.n k164 k165 rfl rfl k90 k166 np_X8_init (Nat.le_trans (by decide) hd) (by decide) (by decide) (by decide) (hk1 hn l167) rfl (Nat.le_of_ble_eq_true rfl) (fun r169 h170 p171 => ?_)
  obtain ⟨rfl, l172, f173, b174, r175⟩ := p171
  have l176 : h170.length = n0 + 25 := l172
  have f177 := (r168 (n0 + 2) (Nat.add_lt_add_left (by decide) n0) (fun q => absurd (Nat.add_left_cancel q) (by decide))).trans f158
  have f178 := (r175 (n0 + 2) (Nat.add_lt_add_left (by decide) n0) (fun q => absurd (Nat.add_left_cancel q) (by decide))).trans f177
  obtain ⟨h179, e180⟩ : ∃ z, z = h170.set (n0 + 2) (.inl (6, 3, .inr (.inr (va_up (va_up (va_up (fun _ => none) ((0 : Int32).toNatClampNeg) (some (n0 + 13))) ((1 : Int32).toNatClampNeg) (some (n0 + 17))) ((2 : Int32).toNatClampNeg) (some (n0 + 21)))))) := ⟨_, rfl⟩
  refine J_aast (r := (RX8, TX8, 4)) dX7_init_99 f178 (fun _ => rfl) f173 rfl (vp_c (by decide)) e180.symm ?_
  have f181 := a_set e180 f178
  have l182 : h179.length = n0 + 25 := l_set e180 l176
  have r183 := r_set (N := n0 + 25) e180
  refine J_iinc (i := 1) (j := 0) (v := 3) (lw := [(1, .int 3), (0, .ref o)]) dX7_init_100 rfl (by decide) (by decide) rfl ?_
  refine J_goto (tgt := 82) dX7_init_103 (by decide) ?_
  refine J_iload_n (i := 1) (j := 0) dX7_init_82 rfl rfl ?_
  refine J_iconst (v := 3) dX7_init_83 (by decide) ?_
  refine J_icmp_ge (tgt := 106) dX7_init_84 (by decide) (fun _ => ?_) (fun q => absurd (by decide) q)
  have f184 := (r168 (o) (Nat.lt_of_lt_of_le hol (Nat.le_add_right _ _)) (Nat.ne_of_lt (Nat.lt_of_lt_of_le hol (Nat.le_add_right _ _)))).trans f163
  have f185 := (r175 (o) (Nat.lt_of_lt_of_le hol (Nat.le_add_right _ _)) (Nat.ne_of_lt (Nat.lt_of_lt_of_le hol (Nat.le_add_right _ _)))).trans f184
  have f186 := (r183 (o) (Nat.lt_of_lt_of_le hol (Nat.le_add_right _ _)) (Nat.ne_of_lt (Nat.lt_of_lt_of_le hol (Nat.le_add_right _ _)))).trans f185
  have f187 := (r11 (n0 + 0) (Nat.add_lt_add_left (by decide) n0) (Nat.ne_of_gt (Nat.lt_of_lt_of_le hol (Nat.le_add_right _ _)))).trans f3
  have f188 := (r16 (n0 + 0) (Nat.add_lt_add_left (by decide) n0) (Nat.ne_of_gt (Nat.lt_of_lt_of_le hol (Nat.le_add_right _ _)))).trans f187
  have f189 := (r21 (n0 + 0) (Nat.add_lt_add_left (by decide) n0) (Nat.ne_of_gt (Nat.lt_of_lt_of_le hol (Nat.le_add_right _ _)))).trans f188
  have f190 := (r26 (n0 + 0) (Nat.add_lt_add_left (by decide) n0) (Nat.ne_of_gt (Nat.lt_of_lt_of_le hol (Nat.le_add_right _ _)))).trans f189
  have f191 := (r31 (n0 + 0) (Nat.add_lt_add_left (by decide) n0) (fun q => absurd (Nat.add_left_cancel q) (by decide))).trans f190
  have f192 := (r37 (n0 + 0) (Nat.add_lt_add_left (by decide) n0) (Nat.ne_of_gt (Nat.lt_of_lt_of_le hol (Nat.le_add_right _ _)))).trans f191
  have f193 := (r42 (n0 + 0) (Nat.add_lt_add_left (by decide) n0) (Nat.ne_of_gt (Nat.lt_of_lt_of_le hol (Nat.le_add_right _ _)))).trans f192
  have f194 := (r47 (n0 + 0) (Nat.add_lt_add_left (by decide) n0) (fun q => absurd (Nat.add_left_cancel q) (by decide))).trans f193
  have f195 := (r53 (n0 + 0) (Nat.add_lt_add_left (by decide) n0) (Nat.ne_of_gt (Nat.lt_of_lt_of_le hol (Nat.le_add_right _ _)))).trans f194
  have f196 := (r58 (n0 + 0) (Nat.add_lt_add_left (by decide) n0) (Nat.ne_of_gt (Nat.lt_of_lt_of_le hol (Nat.le_add_right _ _)))).trans f195
  have f197 := (r63 (n0 + 0) (Nat.add_lt_add_left (by decide) n0) (fun q => absurd (Nat.add_left_cancel q) (by decide))).trans f196
  have f198 := (r70 (n0 + 0) (Nat.add_lt_add_left (by decide) n0) (fun q => absurd (Nat.add_left_cancel q) (by decide))).trans f197
  have f199 := (r83 (n0 + 0) (Nat.add_lt_add_left (by decide) n0) (fun q => absurd (Nat.add_left_cancel q) (by decide))).trans f198
  have f200 := (r91 (n0 + 0) (Nat.add_lt_add_left (by decide) n0) (fun q => absurd (Nat.add_left_cancel q) (by decide))).trans f199
  have f201 := (r98 (n0 + 0) (Nat.add_lt_add_left (by decide) n0) (fun q => absurd (Nat.add_left_cancel q) (by decide))).trans f200
  have f202 := (r106 (n0 + 0) (Nat.add_lt_add_left (by decide) n0) (fun q => absurd (Nat.add_left_cancel q) (by decide))).trans f201
  have f203 := (r114 (n0 + 0) (Nat.add_lt_add_left (by decide) n0) (fun q => absurd (Nat.add_left_cancel q) (by decide))).trans f202
  have f204 := (r121 (n0 + 0) (Nat.add_lt_add_left (by decide) n0) (fun q => absurd (Nat.add_left_cancel q) (by decide))).trans f203
  have f205 := (r137 (n0 + 0) (Nat.add_lt_add_left (by decide) n0) (fun q => absurd (Nat.add_left_cancel q) (by decide))).trans f204
  have f206 := (r145 (n0 + 0) (Nat.add_lt_add_left (by decide) n0) (fun q => absurd (Nat.add_left_cancel q) (by decide))).trans f205
  have f207 := (r152 (n0 + 0) (Nat.add_lt_add_left (by decide) n0) (fun q => absurd (Nat.add_left_cancel q) (by decide))).trans f206
  have f208 := (r160 (n0 + 0) (Nat.add_lt_add_left (by decide) n0) (fun q => absurd (Nat.add_left_cancel q) (by decide))).trans f207
  have f209 := (r168 (n0 + 0) (Nat.add_lt_add_left (by decide) n0) (fun q => absurd (Nat.add_left_cancel q) (by decide))).trans f208
  have f210 := (r175 (n0 + 0) (Nat.add_lt_add_left (by decide) n0) (fun q => absurd (Nat.add_left_cancel q) (by decide))).trans f209
  have f211 := (r183 (n0 + 0) (Nat.add_lt_add_left (by decide) n0) (fun q => absurd (Nat.add_left_cancel q) (by decide))).trans f210
  have f212 := (r114 (n0 + 1) (Nat.add_lt_add_left (by decide) n0) (fun q => absurd (Nat.add_left_cancel q) (by decide))).trans f104
  have f213 := (r121 (n0 + 1) (Nat.add_lt_add_left (by decide) n0) (fun q => absurd (Nat.add_left_cancel q) (by decide))).trans f212
  have f214 := (r137 (n0 + 1) (Nat.add_lt_add_left (by decide) n0) (fun q => absurd (Nat.add_left_cancel q) (by decide))).trans f213
  have f215 := (r145 (n0 + 1) (Nat.add_lt_add_left (by decide) n0) (fun q => absurd (Nat.add_left_cancel q) (by decide))).trans f214
  have f216 := (r152 (n0 + 1) (Nat.add_lt_add_left (by decide) n0) (fun q => absurd (Nat.add_left_cancel q) (by decide))).trans f215
  have f217 := (r160 (n0 + 1) (Nat.add_lt_add_left (by decide) n0) (fun q => absurd (Nat.add_left_cancel q) (by decide))).trans f216
  have f218 := (r168 (n0 + 1) (Nat.add_lt_add_left (by decide) n0) (fun q => absurd (Nat.add_left_cancel q) (by decide))).trans f217
  have f219 := (r175 (n0 + 1) (Nat.add_lt_add_left (by decide) n0) (fun q => absurd (Nat.add_left_cancel q) (by decide))).trans f218
  have f220 := (r183 (n0 + 1) (Nat.add_lt_add_left (by decide) n0) (fun q => absurd (Nat.add_left_cancel q) (by decide))).trans f219
  have f221 := (r83 (n0 + 3) (Nat.add_lt_add_left (by decide) n0) (fun q => absurd (Nat.add_left_cancel q) (by decide))).trans f68
  have f222 := (r91 (n0 + 3) (Nat.add_lt_add_left (by decide) n0) (fun q => absurd (Nat.add_left_cancel q) (by decide))).trans f221
  have f223 := (r98 (n0 + 3) (Nat.add_lt_add_left (by decide) n0) (fun q => absurd (Nat.add_left_cancel q) (by decide))).trans f222
  have f224 := (r106 (n0 + 3) (Nat.add_lt_add_left (by decide) n0) (fun q => absurd (Nat.add_left_cancel q) (by decide))).trans f223
  have f225 := (r114 (n0 + 3) (Nat.add_lt_add_left (by decide) n0) (fun q => absurd (Nat.add_left_cancel q) (by decide))).trans f224
  have f226 := (r121 (n0 + 3) (Nat.add_lt_add_left (by decide) n0) (fun q => absurd (Nat.add_left_cancel q) (by decide))).trans f225
  have f227 := (r137 (n0 + 3) (Nat.add_lt_add_left (by decide) n0) (fun q => absurd (Nat.add_left_cancel q) (by decide))).trans f226
  have f228 := (r145 (n0 + 3) (Nat.add_lt_add_left (by decide) n0) (fun q => absurd (Nat.add_left_cancel q) (by decide))).trans f227
  have f229 := (r152 (n0 + 3) (Nat.add_lt_add_left (by decide) n0) (fun q => absurd (Nat.add_left_cancel q) (by decide))).trans f228
  have f230 := (r160 (n0 + 3) (Nat.add_lt_add_left (by decide) n0) (fun q => absurd (Nat.add_left_cancel q) (by decide))).trans f229
  have f231 := (r168 (n0 + 3) (Nat.add_lt_add_left (by decide) n0) (fun q => absurd (Nat.add_left_cancel q) (by decide))).trans f230
  have f232 := (r175 (n0 + 3) (Nat.add_lt_add_left (by decide) n0) (fun q => absurd (Nat.add_left_cancel q) (by decide))).trans f231
  have f233 := (r183 (n0 + 3) (Nat.add_lt_add_left (by decide) n0) (fun q => absurd (Nat.add_left_cancel q) (by decide))).trans f232
  have b234 : At h79 (n0 + 4) (bk1 (n0 + 4)) := At.fr (m := 4) b69 bl1 r83 (bq (by decide)) (Or.inl (Nat.add_lt_add_left (by decide) n0))
  have b235 : At h87 (n0 + 4) (bk1 (n0 + 4)) := At.fr (m := 4) b234 bl1 r91 (bq (by decide)) (Or.inr (bq (by decide)))
  have b236 : At h93 (n0 + 4) (bk1 (n0 + 4)) := At.fr (m := 4) b235 bl1 r98 (bq (by decide)) (Or.inr (bq (by decide)))
  have b237 : At h102 (n0 + 4) (bk1 (n0 + 4)) := At.fr (m := 4) b236 bl1 r106 (bq (by decide)) (Or.inl (Nat.add_lt_add_left (by decide) n0))
  have b238 : At h110 (n0 + 4) (bk1 (n0 + 4)) := At.fr (m := 4) b237 bl1 r114 (bq (by decide)) (Or.inr (bq (by decide)))
  have b239 : At h116 (n0 + 4) (bk1 (n0 + 4)) := At.fr (m := 4) b238 bl1 r121 (bq (by decide)) (Or.inr (bq (by decide)))
  have b240 : At h133 (n0 + 4) (bk1 (n0 + 4)) := At.fr (m := 4) b239 bl1 r137 (bq (by decide)) (Or.inl (Nat.add_lt_add_left (by decide) n0))
  have b241 : At h141 (n0 + 4) (bk1 (n0 + 4)) := At.fr (m := 4) b240 bl1 r145 (bq (by decide)) (Or.inr (bq (by decide)))
  have b242 : At h147 (n0 + 4) (bk1 (n0 + 4)) := At.fr (m := 4) b241 bl1 r152 (bq (by decide)) (Or.inr (bq (by decide)))
  have b243 : At h156 (n0 + 4) (bk1 (n0 + 4)) := At.fr (m := 4) b242 bl1 r160 (bq (by decide)) (Or.inl (Nat.add_lt_add_left (by decide) n0))
  have b244 : At h164 (n0 + 4) (bk1 (n0 + 4)) := At.fr (m := 4) b243 bl1 r168 (bq (by decide)) (Or.inr (bq (by decide)))
  have b245 : At h170 (n0 + 4) (bk1 (n0 + 4)) := At.fr (m := 4) b244 bl1 r175 (bq (by decide)) (Or.inr (bq (by decide)))
  have b246 : At h179 (n0 + 4) (bk1 (n0 + 4)) := At.fr (m := 4) b245 bl1 r183 (bq (by decide)) (Or.inl (Nat.add_lt_add_left (by decide) n0))
  have f247 := (r106 (n0 + 8) (Nat.add_lt_add_left (by decide) n0) (fun q => absurd (Nat.add_left_cancel q) (by decide))).trans f96
  have f248 := (r114 (n0 + 8) (Nat.add_lt_add_left (by decide) n0) (fun q => absurd (Nat.add_left_cancel q) (by decide))).trans f247
  have f249 := (r121 (n0 + 8) (Nat.add_lt_add_left (by decide) n0) (fun q => absurd (Nat.add_left_cancel q) (by decide))).trans f248
  have f250 := (r137 (n0 + 8) (Nat.add_lt_add_left (by decide) n0) (fun q => absurd (Nat.add_left_cancel q) (by decide))).trans f249
  have f251 := (r145 (n0 + 8) (Nat.add_lt_add_left (by decide) n0) (fun q => absurd (Nat.add_left_cancel q) (by decide))).trans f250
  have f252 := (r152 (n0 + 8) (Nat.add_lt_add_left (by decide) n0) (fun q => absurd (Nat.add_left_cancel q) (by decide))).trans f251
  have f253 := (r160 (n0 + 8) (Nat.add_lt_add_left (by decide) n0) (fun q => absurd (Nat.add_left_cancel q) (by decide))).trans f252
  have f254 := (r168 (n0 + 8) (Nat.add_lt_add_left (by decide) n0) (fun q => absurd (Nat.add_left_cancel q) (by decide))).trans f253
  have f255 := (r175 (n0 + 8) (Nat.add_lt_add_left (by decide) n0) (fun q => absurd (Nat.add_left_cancel q) (by decide))).trans f254
  have f256 := (r183 (n0 + 8) (Nat.add_lt_add_left (by decide) n0) (fun q => absurd (Nat.add_left_cancel q) (by decide))).trans f255
  have b257 : At h102 (n0 + 9) (bk1 (n0 + 9)) := At.fr (m := 4) b97 bl1 r106 (bq (by decide)) (Or.inl (Nat.add_lt_add_left (by decide) n0))
  have b258 : At h110 (n0 + 9) (bk1 (n0 + 9)) := At.fr (m := 4) b257 bl1 r114 (bq (by decide)) (Or.inr (bq (by decide)))
  have b259 : At h116 (n0 + 9) (bk1 (n0 + 9)) := At.fr (m := 4) b258 bl1 r121 (bq (by decide)) (Or.inr (bq (by decide)))
  have b260 : At h133 (n0 + 9) (bk1 (n0 + 9)) := At.fr (m := 4) b259 bl1 r137 (bq (by decide)) (Or.inl (Nat.add_lt_add_left (by decide) n0))
  have b261 : At h141 (n0 + 9) (bk1 (n0 + 9)) := At.fr (m := 4) b260 bl1 r145 (bq (by decide)) (Or.inr (bq (by decide)))
  have b262 : At h147 (n0 + 9) (bk1 (n0 + 9)) := At.fr (m := 4) b261 bl1 r152 (bq (by decide)) (Or.inr (bq (by decide)))
  have b263 : At h156 (n0 + 9) (bk1 (n0 + 9)) := At.fr (m := 4) b262 bl1 r160 (bq (by decide)) (Or.inl (Nat.add_lt_add_left (by decide) n0))
  have b264 : At h164 (n0 + 9) (bk1 (n0 + 9)) := At.fr (m := 4) b263 bl1 r168 (bq (by decide)) (Or.inr (bq (by decide)))
  have b265 : At h170 (n0 + 9) (bk1 (n0 + 9)) := At.fr (m := 4) b264 bl1 r175 (bq (by decide)) (Or.inr (bq (by decide)))
  have b266 : At h179 (n0 + 9) (bk1 (n0 + 9)) := At.fr (m := 4) b265 bl1 r183 (bq (by decide)) (Or.inl (Nat.add_lt_add_left (by decide) n0))
  have f267 := (r137 (n0 + 13) (Nat.add_lt_add_left (by decide) n0) (fun q => absurd (Nat.add_left_cancel q) (by decide))).trans f119
  have f268 := (r145 (n0 + 13) (Nat.add_lt_add_left (by decide) n0) (fun q => absurd (Nat.add_left_cancel q) (by decide))).trans f267
  have f269 := (r152 (n0 + 13) (Nat.add_lt_add_left (by decide) n0) (fun q => absurd (Nat.add_left_cancel q) (by decide))).trans f268
  have f270 := (r160 (n0 + 13) (Nat.add_lt_add_left (by decide) n0) (fun q => absurd (Nat.add_left_cancel q) (by decide))).trans f269
  have f271 := (r168 (n0 + 13) (Nat.add_lt_add_left (by decide) n0) (fun q => absurd (Nat.add_left_cancel q) (by decide))).trans f270
  have f272 := (r175 (n0 + 13) (Nat.add_lt_add_left (by decide) n0) (fun q => absurd (Nat.add_left_cancel q) (by decide))).trans f271
  have f273 := (r183 (n0 + 13) (Nat.add_lt_add_left (by decide) n0) (fun q => absurd (Nat.add_left_cancel q) (by decide))).trans f272
  have b274 : At h133 (n0 + 14) (bk8 (n0 + 14)) := At.fr (m := 3) b120 bl8 r137 (bq (by decide)) (Or.inl (Nat.add_lt_add_left (by decide) n0))
  have b275 : At h141 (n0 + 14) (bk8 (n0 + 14)) := At.fr (m := 3) b274 bl8 r145 (bq (by decide)) (Or.inr (bq (by decide)))
  have b276 : At h147 (n0 + 14) (bk8 (n0 + 14)) := At.fr (m := 3) b275 bl8 r152 (bq (by decide)) (Or.inr (bq (by decide)))
  have b277 : At h156 (n0 + 14) (bk8 (n0 + 14)) := At.fr (m := 3) b276 bl8 r160 (bq (by decide)) (Or.inl (Nat.add_lt_add_left (by decide) n0))
  have b278 : At h164 (n0 + 14) (bk8 (n0 + 14)) := At.fr (m := 3) b277 bl8 r168 (bq (by decide)) (Or.inr (bq (by decide)))
  have b279 : At h170 (n0 + 14) (bk8 (n0 + 14)) := At.fr (m := 3) b278 bl8 r175 (bq (by decide)) (Or.inr (bq (by decide)))
  have b280 : At h179 (n0 + 14) (bk8 (n0 + 14)) := At.fr (m := 3) b279 bl8 r183 (bq (by decide)) (Or.inl (Nat.add_lt_add_left (by decide) n0))
  have f281 := (r160 (n0 + 17) (Nat.add_lt_add_left (by decide) n0) (fun q => absurd (Nat.add_left_cancel q) (by decide))).trans f150
  have f282 := (r168 (n0 + 17) (Nat.add_lt_add_left (by decide) n0) (fun q => absurd (Nat.add_left_cancel q) (by decide))).trans f281
  have f283 := (r175 (n0 + 17) (Nat.add_lt_add_left (by decide) n0) (fun q => absurd (Nat.add_left_cancel q) (by decide))).trans f282
  have f284 := (r183 (n0 + 17) (Nat.add_lt_add_left (by decide) n0) (fun q => absurd (Nat.add_left_cancel q) (by decide))).trans f283
  have b285 : At h156 (n0 + 18) (bk8 (n0 + 18)) := At.fr (m := 3) b151 bl8 r160 (bq (by decide)) (Or.inl (Nat.add_lt_add_left (by decide) n0))
  have b286 : At h164 (n0 + 18) (bk8 (n0 + 18)) := At.fr (m := 3) b285 bl8 r168 (bq (by decide)) (Or.inr (bq (by decide)))
  have b287 : At h170 (n0 + 18) (bk8 (n0 + 18)) := At.fr (m := 3) b286 bl8 r175 (bq (by decide)) (Or.inr (bq (by decide)))
  have b288 : At h179 (n0 + 18) (bk8 (n0 + 18)) := At.fr (m := 3) b287 bl8 r183 (bq (by decide)) (Or.inl (Nat.add_lt_add_left (by decide) n0))
  have f289 := (r183 (n0 + 21) (Nat.add_lt_add_left (by decide) n0) (fun q => absurd (Nat.add_left_cancel q) (by decide))).trans f173
  have b290 : At h179 (n0 + 22) (bk8 (n0 + 22)) := At.fr (m := 3) b174 bl8 r183 (bq (by decide)) (Or.inl (Nat.add_lt_add_left (by decide) n0))
  have hfr : ∀ j, j < n0 → j ≠ o → h179[j]? = h[j]? := by
    intro j hj hjo
    rw [r183 j (Nat.lt_of_lt_of_le hj (Nat.le_add_right _ _)) (Nat.ne_of_lt (Nat.lt_of_lt_of_le hj (Nat.le_add_right _ _))), r175 j (Nat.lt_of_lt_of_le hj (Nat.le_add_right _ _)) (Nat.ne_of_lt (Nat.lt_of_lt_of_le hj (Nat.le_add_right _ _))), r168 j (Nat.lt_of_lt_of_le hj (Nat.le_add_right _ _)) (Nat.ne_of_lt (Nat.lt_of_lt_of_le hj (Nat.le_add_right _ _))), r160 j (Nat.lt_of_lt_of_le hj (Nat.le_add_right _ _)) (Nat.ne_of_lt (Nat.lt_of_lt_of_le hj (Nat.le_add_right _ _))), r152 j (Nat.lt_of_lt_of_le hj (Nat.le_add_right _ _)) (Nat.ne_of_lt (Nat.lt_of_lt_of_le hj (Nat.le_add_right _ _))), r145 j (Nat.lt_of_lt_of_le hj (Nat.le_add_right _ _)) (Nat.ne_of_lt (Nat.lt_of_lt_of_le hj (Nat.le_add_right _ _))), r137 j (Nat.lt_of_lt_of_le hj (Nat.le_add_right _ _)) (Nat.ne_of_lt (Nat.lt_of_lt_of_le hj (Nat.le_add_right _ _))), r121 j (Nat.lt_of_lt_of_le hj (Nat.le_add_right _ _)) (Nat.ne_of_lt (Nat.lt_of_lt_of_le hj (Nat.le_add_right _ _))), r114 j (Nat.lt_of_lt_of_le hj (Nat.le_add_right _ _)) (Nat.ne_of_lt (Nat.lt_of_lt_of_le hj (Nat.le_add_right _ _))), r106 j (Nat.lt_of_lt_of_le hj (Nat.le_add_right _ _)) (Nat.ne_of_lt (Nat.lt_of_lt_of_le hj (Nat.le_add_right _ _))), r98 j (Nat.lt_of_lt_of_le hj (Nat.le_add_right _ _)) (Nat.ne_of_lt (Nat.lt_of_lt_of_le hj (Nat.le_add_right _ _))), r91 j (Nat.lt_of_lt_of_le hj (Nat.le_add_right _ _)) (Nat.ne_of_lt (Nat.lt_of_lt_of_le hj (Nat.le_add_right _ _))), r83 j (Nat.lt_of_lt_of_le hj (Nat.le_add_right _ _)) (Nat.ne_of_lt (Nat.lt_of_lt_of_le hj (Nat.le_add_right _ _))), r70 j (Nat.lt_of_lt_of_le hj (Nat.le_add_right _ _)) (Nat.ne_of_lt (Nat.lt_of_lt_of_le hj (Nat.le_add_right _ _))), r63 j (Nat.lt_of_lt_of_le hj (Nat.le_add_right _ _)) (Nat.ne_of_lt (Nat.lt_of_lt_of_le hj (Nat.le_add_right _ _))), r58 j (Nat.lt_of_lt_of_le hj (Nat.le_add_right _ _)) hjo, r53 j (Nat.lt_of_lt_of_le hj (Nat.le_add_right _ _)) hjo, r47 j (Nat.lt_of_lt_of_le hj (Nat.le_add_right _ _)) (Nat.ne_of_lt (Nat.lt_of_lt_of_le hj (Nat.le_add_right _ _))), r42 j (Nat.lt_of_lt_of_le hj (Nat.le_add_right _ _)) hjo, r37 j (Nat.lt_of_lt_of_le hj (Nat.le_add_right _ _)) hjo, r31 j (Nat.lt_of_lt_of_le hj (Nat.le_add_right _ _)) (Nat.ne_of_lt (Nat.lt_of_lt_of_le hj (Nat.le_add_right _ _))), r26 j (Nat.lt_of_lt_of_le hj (Nat.le_add_right _ _)) hjo, r21 j (Nat.lt_of_lt_of_le hj (Nat.le_add_right _ _)) hjo, r16 j (Nat.lt_of_lt_of_le hj (Nat.le_add_right _ _)) hjo, r11 j (Nat.lt_of_lt_of_le hj (Nat.le_add_right _ _)) hjo, r5 j (Nat.lt_of_lt_of_le hj (Nat.le_add_right _ _)) (Nat.ne_of_lt (Nat.lt_of_lt_of_le hj (Nat.le_add_right _ _)))]
  exact J_vret hq dX7_init_106 rfl (hk1 hn l182) (by decide) (by decide) ⟨rfl, l182, f186, (At_cons f211 (At_cons f220 (At_cons f181 (At_cons f233 (At_app bl1 b246 (At_cons f256 (At_app bl1 b266 (At_cons f273 (At_app bl8 b280 (At_cons f284 (At_app bl8 b288 (At_cons f289 (At_app bl8 b290 At_nil))))))))))))), hfr⟩
def ob3 (n : Nat) : MC := (.inr (3, [.ref (n + 0), .ref (n + 2), .ref (n + 7), .ref (n + 11), .ref (n + 12), .int 0, .int (-1)]))
def bk3 (n : Nat) : List MC := ob6 (n + 1) :: (bk6 (n + 1) ++ (ob1 (n + 3) :: (bk1 (n + 3) ++ (ob8 (n + 8) :: (bk8 (n + 8) ++ ((.inl (1, 3, .inl (fun _ => 0))) :: ((.inl (1, 3, .inl (fun _ => 0))) :: ([]))))))))
set_option maxRecDepth 100000 in
theorem bl3 {n : Nat} : (bk3 n).length = 13 := rfl
set_option maxHeartbeats 4000000 in
set_option maxRecDepth 100000 in
theorem c_X3_init {d : Nat} {h : List MC} {o n0 : Nat} (hd : 2 ≤ d) (hn : h.length = n0) (ho : h[o]? = some (.inr (3, [.null, .null, .null, .null, .null, .int 0, .int 0]))) : CT con0 d 13 213 yX3_init cX3_init 1 none [.ref o] h (fun r h2 => r = none ∧ h2.length = n0 + 13 ∧ h2[o]? = some (ob3 n0) ∧ At h2 n0 (bk3 n0) ∧ ∀ j, j < n0 → j ≠ o → h2[j]? = h[j]?) := by
  have hol : o < n0 := by rw [← hn]; exact (List.getElem?_eq_some_iff.mp ho).1
  have hn0 : h.length = n0 + 0 := hn
  refine CT_of (by decide) (Nat.le_of_ble_eq_true rfl) (fun x hq => ?_)
  show J x yX3_init cX3_init 1 none d 13 213 h.length 0 [(0, .ref o)] [] h 0 0
  refine J_aload_n (i := 0) (j := 0) dX3_init_0 rfl rfl ?_
  refine J_obj dX3_init_1 k225 k113 k114 (Nat.le_trans (by decide) hd) (Nat.le_of_ble_eq_true rfl) ?_
  refine J_aload_n (i := 0) (j := 0) dX3_init_4 rfl rfl ?_
  refine J_new (C := RX6) (T := TX6) (Z := 6) (ci := 6) (fs := [.null, .int 0, .int 0, .int 0, .int 0, .int 0]) (ty0 := tyX6) dX3_init_5 inG6 rfl tyX6_ok k226 k227 k92 fsX6 (hk1 hn hn0) (by decide) (by decide) ?_
  obtain ⟨h1, e2⟩ : ∃ z, z = h ++ [(.inr (6, [.null, .int 0, .int 0, .int 0, .int 0, .int 0]))] := ⟨_, rfl⟩
  refine J_w e2.symm ?_
  refine J_cr (v := n0 + 0) hn0 ?_
  have f3 := a_push e2 hn0
  have l4 : h1.length = n0 + 1 := l_push e2 hn0 rfl
  have r5 := r_push (a := n0 + 0) e2 hn0
  refine J_dup dX3_init_8 rfl ?_
  refine J_callIN (As := []) (rest := [.ref (n0 + 0), .ref o]) dX3_init_9 (c_X6_init (d := 1) (h := h1) (o := n0 + 0) (n0 := n0 + 1) (by decide) l4 f3) hq.n k228 k229 rfl rfl k92 k230 np_X6_init (Nat.le_trans (by decide) hd) (by decide) (by decide) (by decide) (hk1 hn l4) rfl (Nat.le_of_ble_eq_true rfl) (fun r6 h7 p8 => ?_)
  obtain ⟨rfl, l9, f10, b11, r12⟩ := p8
  have l13 : h7.length = n0 + 2 := l9
  have f14 := (r5 (o) (Nat.lt_of_lt_of_le hol (Nat.le_add_right _ _)) (Nat.ne_of_lt (Nat.lt_of_lt_of_le hol (Nat.le_add_right _ _)))).trans ho
  have f15 := (r12 (o) (Nat.lt_of_lt_of_le hol (Nat.le_add_right _ _)) (Nat.ne_of_lt (Nat.lt_of_lt_of_le hol (Nat.le_add_right _ _)))).trans f14
  obtain ⟨h16, e17⟩ : ∃ z, z = h7.set (o) (.inr (3, [.ref (n0 + 0), .null, .null, .null, .null, .int 0, .int 0])) := ⟨_, rfl⟩
  refine J_putF (C := RX3) (T := TX3) (Z := 7) (ci := 3) (f := 0) (ty0 := tyX3) dX3_init_12 inG3 rfl tyX3_ok nmX3 (by decide) k260 rfl rfl rfl rfl f15 (Nat.le_of_ble_eq_true rfl) (fun _ _ => ⟨rfl, rfl⟩) e17.symm ?_
  have f18 := a_set e17 f15
  have l19 : h16.length = n0 + 2 := l_set e17 l13
  have r20 := r_set (N := n0 + 2) e17
  refine J_aload_n (i := 0) (j := 0) dX3_init_15 rfl rfl ?_
  refine J_new (C := RX1) (T := TX1) (Z := 6) (ci := 1) (fs := [.int 0, .null, .int 0, .null, .null, .null]) (ty0 := tyX1) dX3_init_16 inG1 rfl tyX1_ok k256 k125 k89 fsX1 (hk1 hn l19) (by decide) (by decide) ?_
  obtain ⟨h21, e22⟩ : ∃ z, z = h16 ++ [(.inr (1, [.int 0, .null, .int 0, .null, .null, .null]))] := ⟨_, rfl⟩
  refine J_w e22.symm ?_
  refine J_cr (v := n0 + 2) l19 ?_
  have f23 := a_push e22 l19
  have l24 : h21.length = n0 + 3 := l_push e22 l19 rfl
  have r25 := r_push (a := n0 + 2) e22 l19
  refine J_dup dX3_init_19 rfl ?_
  refine J_callIN (As := []) (rest := [.ref (n0 + 2), .ref o]) dX3_init_20 (c_X1_init (d := 1) (h := h21) (o := n0 + 2) (n0 := n0 + 3) (by decide) l24 f23) hq.n k257 k127 rfl rfl k89 k128 np_X1_init (Nat.le_trans (by decide) hd) (by decide) (by decide) (by decide) (hk1 hn l24) rfl (Nat.le_of_ble_eq_true rfl) (fun r26 h27 p28 => ?_)
  obtain ⟨rfl, l29, f30, b31, r32⟩ := p28
  have l33 : h27.length = n0 + 7 := l29
  have f34 := (r25 (o) (Nat.lt_of_lt_of_le hol (Nat.le_add_right _ _)) (Nat.ne_of_lt (Nat.lt_of_lt_of_le hol (Nat.le_add_right _ _)))).trans f18
  have f35 := (r32 (o) (Nat.lt_of_lt_of_le hol (Nat.le_add_right _ _)) (Nat.ne_of_lt (Nat.lt_of_lt_of_le hol (Nat.le_add_right _ _)))).trans f34
  obtain ⟨h36, e37⟩ : ∃ z, z = h27.set (o) (.inr (3, [.ref (n0 + 0), .ref (n0 + 2), .null, .null, .null, .int 0, .int 0])) := ⟨_, rfl⟩
  refine J_putF (C := RX3) (T := TX3) (Z := 7) (ci := 3) (f := 1) (ty0 := tyX3) dX3_init_23 inG3 rfl tyX3_ok nmX3 (by decide) k261 rfl rfl rfl rfl f35 (Nat.le_of_ble_eq_true rfl) (fun _ _ => ⟨rfl, rfl⟩) e37.symm ?_
  have f38 := a_set e37 f35
  have l39 : h36.length = n0 + 7 := l_set e37 l33
  have r40 := r_set (N := n0 + 7) e37
  refine J_aload_n (i := 0) (j := 0) dX3_init_26 rfl rfl ?_
  refine J_new (C := RX8) (T := TX8) (Z := 4) (ci := 8) (fs := [.int 0, .null, .null, .null]) (ty0 := tyX8) dX3_init_27 inG8 rfl tyX8_ok k258 k163 k90 fsX8 (hk1 hn l39) (by decide) (by decide) ?_
  obtain ⟨h41, e42⟩ : ∃ z, z = h36 ++ [(.inr (8, [.int 0, .null, .null, .null]))] := ⟨_, rfl⟩
  refine J_w e42.symm ?_
  refine J_cr (v := n0 + 7) l39 ?_
  have f43 := a_push e42 l39
  have l44 : h41.length = n0 + 8 := l_push e42 l39 rfl
  have r45 := r_push (a := n0 + 7) e42 l39
  refine J_dup dX3_init_30 rfl ?_
  refine J_callIN (As := []) (rest := [.ref (n0 + 7), .ref o]) dX3_init_31 (c_X8_init (d := 1) (h := h41) (o := n0 + 7) (n0 := n0 + 8) (by decide) l44 f43) hq.n k259 k165 rfl rfl k90 k166 np_X8_init (Nat.le_trans (by decide) hd) (by decide) (by decide) (by decide) (hk1 hn l44) rfl (Nat.le_of_ble_eq_true rfl) (fun r46 h47 p48 => ?_)
  obtain ⟨rfl, l49, f50, b51, r52⟩ := p48
  have l53 : h47.length = n0 + 11 := l49
  have f54 := (r45 (o) (Nat.lt_of_lt_of_le hol (Nat.le_add_right _ _)) (Nat.ne_of_lt (Nat.lt_of_lt_of_le hol (Nat.le_add_right _ _)))).trans f38
  have f55 := (r52 (o) (Nat.lt_of_lt_of_le hol (Nat.le_add_right _ _)) (Nat.ne_of_lt (Nat.lt_of_lt_of_le hol (Nat.le_add_right _ _)))).trans f54
  obtain ⟨h56, e57⟩ : ∃ z, z = h47.set (o) (.inr (3, [.ref (n0 + 0), .ref (n0 + 2), .ref (n0 + 7), .null, .null, .int 0, .int 0])) := ⟨_, rfl⟩
  refine J_putF (C := RX3) (T := TX3) (Z := 7) (ci := 3) (f := 2) (ty0 := tyX3) dX3_init_34 inG3 rfl tyX3_ok nmX3 (by decide) k263 rfl rfl rfl rfl f55 (Nat.le_of_ble_eq_true rfl) (fun _ _ => ⟨rfl, rfl⟩) e57.symm ?_
  have f58 := a_set e57 f55
  have l59 : h56.length = n0 + 11 := l_set e57 l53
  have r60 := r_set (N := n0 + 11) e57
  refine J_aload_n (i := 0) (j := 0) dX3_init_37 rfl rfl ?_
  refine J_iconst (v := 3) dX3_init_38 (by decide) ?_
  refine J_newa1 (Z := 3) dX3_init_39 ka1 (by decide) (by decide) (by decide) (hk1 hn l59) (by decide) (by decide) ?_
  obtain ⟨h61, e62⟩ : ∃ z, z = h56 ++ [(.inl (1, 3, .inl (fun _ => 0)))] := ⟨_, rfl⟩
  refine J_w e62.symm ?_
  refine J_cr (v := n0 + 11) l59 ?_
  have f63 := a_push e62 l59
  have l64 : h61.length = n0 + 12 := l_push e62 l59 rfl
  have r65 := r_push (a := n0 + 11) e62 l59
  have f66 := (r65 (o) (Nat.lt_of_lt_of_le hol (Nat.le_add_right _ _)) (Nat.ne_of_lt (Nat.lt_of_lt_of_le hol (Nat.le_add_right _ _)))).trans f58
  obtain ⟨h67, e68⟩ : ∃ z, z = h61.set (o) (.inr (3, [.ref (n0 + 0), .ref (n0 + 2), .ref (n0 + 7), .ref (n0 + 11), .null, .int 0, .int 0])) := ⟨_, rfl⟩
  refine J_putF (C := RX3) (T := TX3) (Z := 7) (ci := 3) (f := 3) (ty0 := tyX3) dX3_init_41 inG3 rfl tyX3_ok nmX3 (by decide) k265 rfl rfl rfl rfl f66 (Nat.le_of_ble_eq_true rfl) (fun _ _ => ⟨rfl, rfl⟩) e68.symm ?_
  have f69 := a_set e68 f66
  have l70 : h67.length = n0 + 12 := l_set e68 l64
  have r71 := r_set (N := n0 + 12) e68
  refine J_aload_n (i := 0) (j := 0) dX3_init_44 rfl rfl ?_
  refine J_iconst (v := 3) dX3_init_45 (by decide) ?_
  refine J_newa1 (Z := 3) dX3_init_46 ka1 (by decide) (by decide) (by decide) (hk1 hn l70) (by decide) (by decide) ?_
  obtain ⟨h72, e73⟩ : ∃ z, z = h67 ++ [(.inl (1, 3, .inl (fun _ => 0)))] := ⟨_, rfl⟩
  refine J_w e73.symm ?_
  refine J_cr (v := n0 + 12) l70 ?_
  have f74 := a_push e73 l70
  have l75 : h72.length = n0 + 13 := l_push e73 l70 rfl
  have r76 := r_push (a := n0 + 12) e73 l70
  have f77 := (r76 (o) (Nat.lt_of_lt_of_le hol (Nat.le_add_right _ _)) (Nat.ne_of_lt (Nat.lt_of_lt_of_le hol (Nat.le_add_right _ _)))).trans f69
  obtain ⟨h78, e79⟩ : ∃ z, z = h72.set (o) (.inr (3, [.ref (n0 + 0), .ref (n0 + 2), .ref (n0 + 7), .ref (n0 + 11), .ref (n0 + 12), .int 0, .int 0])) := ⟨_, rfl⟩
  refine J_putF (C := RX3) (T := TX3) (Z := 7) (ci := 3) (f := 4) (ty0 := tyX3) dX3_init_48 inG3 rfl tyX3_ok nmX3 (by decide) k266 rfl rfl rfl rfl f77 (Nat.le_of_ble_eq_true rfl) (fun _ _ => ⟨rfl, rfl⟩) e79.symm ?_
  have f80 := a_set e79 f77
  have l81 : h78.length = n0 + 13 := l_set e79 l75
  have r82 := r_set (N := n0 + 13) e79
  refine J_aload_n (i := 0) (j := 0) dX3_init_51 rfl rfl ?_
  refine J_iconst (v := 0) dX3_init_52 (by decide) ?_
  obtain ⟨h83, e84⟩ : ∃ z, z = h78.set (o) (.inr (3, [.ref (n0 + 0), .ref (n0 + 2), .ref (n0 + 7), .ref (n0 + 11), .ref (n0 + 12), .int 0, .int 0])) := ⟨_, rfl⟩
  refine J_put (C := RX3) (T := TX3) (Z := 7) (ci := 3) (f := 5) (ty0 := tyX3) dX3_init_53 inG3 rfl tyX3_ok nmX3 (by decide) k267 rfl rfl f80 (Nat.le_of_ble_eq_true rfl) (fun _ _ => ⟨rfl, rfl⟩) e84.symm ?_
  have f85 := a_set e84 f80
  have l86 : h83.length = n0 + 13 := l_set e84 l81
  have r87 := r_set (N := n0 + 13) e84
  refine J_aload_n (i := 0) (j := 0) dX3_init_56 rfl rfl ?_
  refine J_iconst (v := (-1)) dX3_init_57 (by decide) ?_
  obtain ⟨h88, e89⟩ : ∃ z, z = h83.set (o) (.inr (3, [.ref (n0 + 0), .ref (n0 + 2), .ref (n0 + 7), .ref (n0 + 11), .ref (n0 + 12), .int 0, .int (-1)])) := ⟨_, rfl⟩
  refine J_put (C := RX3) (T := TX3) (Z := 7) (ci := 3) (f := 6) (ty0 := tyX3) dX3_init_58 inG3 rfl tyX3_ok nmX3 (by decide) k269 rfl rfl f85 (Nat.le_of_ble_eq_true rfl) (fun _ _ => ⟨rfl, rfl⟩) e89.symm ?_
  have f90 := a_set e89 f85
  have l91 : h88.length = n0 + 13 := l_set e89 l86
  have r92 := r_set (N := n0 + 13) e89
  have f93 := (r20 (n0 + 0) (Nat.add_lt_add_left (by decide) n0) (Nat.ne_of_gt (Nat.lt_of_lt_of_le hol (Nat.le_add_right _ _)))).trans f10
  have f94 := (r25 (n0 + 0) (Nat.add_lt_add_left (by decide) n0) (fun q => absurd (Nat.add_left_cancel q) (by decide))).trans f93
  have f95 := (r32 (n0 + 0) (Nat.add_lt_add_left (by decide) n0) (fun q => absurd (Nat.add_left_cancel q) (by decide))).trans f94
  have f96 := (r40 (n0 + 0) (Nat.add_lt_add_left (by decide) n0) (Nat.ne_of_gt (Nat.lt_of_lt_of_le hol (Nat.le_add_right _ _)))).trans f95
  have f97 := (r45 (n0 + 0) (Nat.add_lt_add_left (by decide) n0) (fun q => absurd (Nat.add_left_cancel q) (by decide))).trans f96
  have f98 := (r52 (n0 + 0) (Nat.add_lt_add_left (by decide) n0) (fun q => absurd (Nat.add_left_cancel q) (by decide))).trans f97
  have f99 := (r60 (n0 + 0) (Nat.add_lt_add_left (by decide) n0) (Nat.ne_of_gt (Nat.lt_of_lt_of_le hol (Nat.le_add_right _ _)))).trans f98
  have f100 := (r65 (n0 + 0) (Nat.add_lt_add_left (by decide) n0) (fun q => absurd (Nat.add_left_cancel q) (by decide))).trans f99
  have f101 := (r71 (n0 + 0) (Nat.add_lt_add_left (by decide) n0) (Nat.ne_of_gt (Nat.lt_of_lt_of_le hol (Nat.le_add_right _ _)))).trans f100
  have f102 := (r76 (n0 + 0) (Nat.add_lt_add_left (by decide) n0) (fun q => absurd (Nat.add_left_cancel q) (by decide))).trans f101
  have f103 := (r82 (n0 + 0) (Nat.add_lt_add_left (by decide) n0) (Nat.ne_of_gt (Nat.lt_of_lt_of_le hol (Nat.le_add_right _ _)))).trans f102
  have f104 := (r87 (n0 + 0) (Nat.add_lt_add_left (by decide) n0) (Nat.ne_of_gt (Nat.lt_of_lt_of_le hol (Nat.le_add_right _ _)))).trans f103
  have f105 := (r92 (n0 + 0) (Nat.add_lt_add_left (by decide) n0) (Nat.ne_of_gt (Nat.lt_of_lt_of_le hol (Nat.le_add_right _ _)))).trans f104
  have b106 : At h16 (n0 + 1) (bk6 (n0 + 1)) := At.fr (m := 1) b11 bl6 r20 (bq (by decide)) (Or.inl (Nat.lt_of_lt_of_le hol (Nat.le_add_right _ _)))
  have b107 : At h21 (n0 + 1) (bk6 (n0 + 1)) := At.fr (m := 1) b106 bl6 r25 (bq (by decide)) (Or.inr (bq (by decide)))
  have b108 : At h27 (n0 + 1) (bk6 (n0 + 1)) := At.fr (m := 1) b107 bl6 r32 (bq (by decide)) (Or.inr (bq (by decide)))
  have b109 : At h36 (n0 + 1) (bk6 (n0 + 1)) := At.fr (m := 1) b108 bl6 r40 (bq (by decide)) (Or.inl (Nat.lt_of_lt_of_le hol (Nat.le_add_right _ _)))
  have b110 : At h41 (n0 + 1) (bk6 (n0 + 1)) := At.fr (m := 1) b109 bl6 r45 (bq (by decide)) (Or.inr (bq (by decide)))
  have b111 : At h47 (n0 + 1) (bk6 (n0 + 1)) := At.fr (m := 1) b110 bl6 r52 (bq (by decide)) (Or.inr (bq (by decide)))
  have b112 : At h56 (n0 + 1) (bk6 (n0 + 1)) := At.fr (m := 1) b111 bl6 r60 (bq (by decide)) (Or.inl (Nat.lt_of_lt_of_le hol (Nat.le_add_right _ _)))
  have b113 : At h61 (n0 + 1) (bk6 (n0 + 1)) := At.fr (m := 1) b112 bl6 r65 (bq (by decide)) (Or.inr (bq (by decide)))
  have b114 : At h67 (n0 + 1) (bk6 (n0 + 1)) := At.fr (m := 1) b113 bl6 r71 (bq (by decide)) (Or.inl (Nat.lt_of_lt_of_le hol (Nat.le_add_right _ _)))
  have b115 : At h72 (n0 + 1) (bk6 (n0 + 1)) := At.fr (m := 1) b114 bl6 r76 (bq (by decide)) (Or.inr (bq (by decide)))
  have b116 : At h78 (n0 + 1) (bk6 (n0 + 1)) := At.fr (m := 1) b115 bl6 r82 (bq (by decide)) (Or.inl (Nat.lt_of_lt_of_le hol (Nat.le_add_right _ _)))
  have b117 : At h83 (n0 + 1) (bk6 (n0 + 1)) := At.fr (m := 1) b116 bl6 r87 (bq (by decide)) (Or.inl (Nat.lt_of_lt_of_le hol (Nat.le_add_right _ _)))
  have b118 : At h88 (n0 + 1) (bk6 (n0 + 1)) := At.fr (m := 1) b117 bl6 r92 (bq (by decide)) (Or.inl (Nat.lt_of_lt_of_le hol (Nat.le_add_right _ _)))
  have f119 := (r40 (n0 + 2) (Nat.add_lt_add_left (by decide) n0) (Nat.ne_of_gt (Nat.lt_of_lt_of_le hol (Nat.le_add_right _ _)))).trans f30
  have f120 := (r45 (n0 + 2) (Nat.add_lt_add_left (by decide) n0) (fun q => absurd (Nat.add_left_cancel q) (by decide))).trans f119
  have f121 := (r52 (n0 + 2) (Nat.add_lt_add_left (by decide) n0) (fun q => absurd (Nat.add_left_cancel q) (by decide))).trans f120
  have f122 := (r60 (n0 + 2) (Nat.add_lt_add_left (by decide) n0) (Nat.ne_of_gt (Nat.lt_of_lt_of_le hol (Nat.le_add_right _ _)))).trans f121
  have f123 := (r65 (n0 + 2) (Nat.add_lt_add_left (by decide) n0) (fun q => absurd (Nat.add_left_cancel q) (by decide))).trans f122
  have f124 := (r71 (n0 + 2) (Nat.add_lt_add_left (by decide) n0) (Nat.ne_of_gt (Nat.lt_of_lt_of_le hol (Nat.le_add_right _ _)))).trans f123
  have f125 := (r76 (n0 + 2) (Nat.add_lt_add_left (by decide) n0) (fun q => absurd (Nat.add_left_cancel q) (by decide))).trans f124
  have f126 := (r82 (n0 + 2) (Nat.add_lt_add_left (by decide) n0) (Nat.ne_of_gt (Nat.lt_of_lt_of_le hol (Nat.le_add_right _ _)))).trans f125
  have f127 := (r87 (n0 + 2) (Nat.add_lt_add_left (by decide) n0) (Nat.ne_of_gt (Nat.lt_of_lt_of_le hol (Nat.le_add_right _ _)))).trans f126
  have f128 := (r92 (n0 + 2) (Nat.add_lt_add_left (by decide) n0) (Nat.ne_of_gt (Nat.lt_of_lt_of_le hol (Nat.le_add_right _ _)))).trans f127
  have b129 : At h36 (n0 + 3) (bk1 (n0 + 3)) := At.fr (m := 4) b31 bl1 r40 (bq (by decide)) (Or.inl (Nat.lt_of_lt_of_le hol (Nat.le_add_right _ _)))
  have b130 : At h41 (n0 + 3) (bk1 (n0 + 3)) := At.fr (m := 4) b129 bl1 r45 (bq (by decide)) (Or.inr (bq (by decide)))
  have b131 : At h47 (n0 + 3) (bk1 (n0 + 3)) := At.fr (m := 4) b130 bl1 r52 (bq (by decide)) (Or.inr (bq (by decide)))
  have b132 : At h56 (n0 + 3) (bk1 (n0 + 3)) := At.fr (m := 4) b131 bl1 r60 (bq (by decide)) (Or.inl (Nat.lt_of_lt_of_le hol (Nat.le_add_right _ _)))
  have b133 : At h61 (n0 + 3) (bk1 (n0 + 3)) := At.fr (m := 4) b132 bl1 r65 (bq (by decide)) (Or.inr (bq (by decide)))
  have b134 : At h67 (n0 + 3) (bk1 (n0 + 3)) := At.fr (m := 4) b133 bl1 r71 (bq (by decide)) (Or.inl (Nat.lt_of_lt_of_le hol (Nat.le_add_right _ _)))
  have b135 : At h72 (n0 + 3) (bk1 (n0 + 3)) := At.fr (m := 4) b134 bl1 r76 (bq (by decide)) (Or.inr (bq (by decide)))
  have b136 : At h78 (n0 + 3) (bk1 (n0 + 3)) := At.fr (m := 4) b135 bl1 r82 (bq (by decide)) (Or.inl (Nat.lt_of_lt_of_le hol (Nat.le_add_right _ _)))
  have b137 : At h83 (n0 + 3) (bk1 (n0 + 3)) := At.fr (m := 4) b136 bl1 r87 (bq (by decide)) (Or.inl (Nat.lt_of_lt_of_le hol (Nat.le_add_right _ _)))
  have b138 : At h88 (n0 + 3) (bk1 (n0 + 3)) := At.fr (m := 4) b137 bl1 r92 (bq (by decide)) (Or.inl (Nat.lt_of_lt_of_le hol (Nat.le_add_right _ _)))
  have f139 := (r60 (n0 + 7) (Nat.add_lt_add_left (by decide) n0) (Nat.ne_of_gt (Nat.lt_of_lt_of_le hol (Nat.le_add_right _ _)))).trans f50
  have f140 := (r65 (n0 + 7) (Nat.add_lt_add_left (by decide) n0) (fun q => absurd (Nat.add_left_cancel q) (by decide))).trans f139
  have f141 := (r71 (n0 + 7) (Nat.add_lt_add_left (by decide) n0) (Nat.ne_of_gt (Nat.lt_of_lt_of_le hol (Nat.le_add_right _ _)))).trans f140
  have f142 := (r76 (n0 + 7) (Nat.add_lt_add_left (by decide) n0) (fun q => absurd (Nat.add_left_cancel q) (by decide))).trans f141
  have f143 := (r82 (n0 + 7) (Nat.add_lt_add_left (by decide) n0) (Nat.ne_of_gt (Nat.lt_of_lt_of_le hol (Nat.le_add_right _ _)))).trans f142
  have f144 := (r87 (n0 + 7) (Nat.add_lt_add_left (by decide) n0) (Nat.ne_of_gt (Nat.lt_of_lt_of_le hol (Nat.le_add_right _ _)))).trans f143
  have f145 := (r92 (n0 + 7) (Nat.add_lt_add_left (by decide) n0) (Nat.ne_of_gt (Nat.lt_of_lt_of_le hol (Nat.le_add_right _ _)))).trans f144
  have b146 : At h56 (n0 + 8) (bk8 (n0 + 8)) := At.fr (m := 3) b51 bl8 r60 (bq (by decide)) (Or.inl (Nat.lt_of_lt_of_le hol (Nat.le_add_right _ _)))
  have b147 : At h61 (n0 + 8) (bk8 (n0 + 8)) := At.fr (m := 3) b146 bl8 r65 (bq (by decide)) (Or.inr (bq (by decide)))
  have b148 : At h67 (n0 + 8) (bk8 (n0 + 8)) := At.fr (m := 3) b147 bl8 r71 (bq (by decide)) (Or.inl (Nat.lt_of_lt_of_le hol (Nat.le_add_right _ _)))
  have b149 : At h72 (n0 + 8) (bk8 (n0 + 8)) := At.fr (m := 3) b148 bl8 r76 (bq (by decide)) (Or.inr (bq (by decide)))
  have b150 : At h78 (n0 + 8) (bk8 (n0 + 8)) := At.fr (m := 3) b149 bl8 r82 (bq (by decide)) (Or.inl (Nat.lt_of_lt_of_le hol (Nat.le_add_right _ _)))
  have b151 : At h83 (n0 + 8) (bk8 (n0 + 8)) := At.fr (m := 3) b150 bl8 r87 (bq (by decide)) (Or.inl (Nat.lt_of_lt_of_le hol (Nat.le_add_right _ _)))
  have b152 : At h88 (n0 + 8) (bk8 (n0 + 8)) := At.fr (m := 3) b151 bl8 r92 (bq (by decide)) (Or.inl (Nat.lt_of_lt_of_le hol (Nat.le_add_right _ _)))
  have f153 := (r71 (n0 + 11) (Nat.add_lt_add_left (by decide) n0) (Nat.ne_of_gt (Nat.lt_of_lt_of_le hol (Nat.le_add_right _ _)))).trans f63
  have f154 := (r76 (n0 + 11) (Nat.add_lt_add_left (by decide) n0) (fun q => absurd (Nat.add_left_cancel q) (by decide))).trans f153
  have f155 := (r82 (n0 + 11) (Nat.add_lt_add_left (by decide) n0) (Nat.ne_of_gt (Nat.lt_of_lt_of_le hol (Nat.le_add_right _ _)))).trans f154
  have f156 := (r87 (n0 + 11) (Nat.add_lt_add_left (by decide) n0) (Nat.ne_of_gt (Nat.lt_of_lt_of_le hol (Nat.le_add_right _ _)))).trans f155
  have f157 := (r92 (n0 + 11) (Nat.add_lt_add_left (by decide) n0) (Nat.ne_of_gt (Nat.lt_of_lt_of_le hol (Nat.le_add_right _ _)))).trans f156
  have f158 := (r82 (n0 + 12) (Nat.add_lt_add_left (by decide) n0) (Nat.ne_of_gt (Nat.lt_of_lt_of_le hol (Nat.le_add_right _ _)))).trans f74
  have f159 := (r87 (n0 + 12) (Nat.add_lt_add_left (by decide) n0) (Nat.ne_of_gt (Nat.lt_of_lt_of_le hol (Nat.le_add_right _ _)))).trans f158
  have f160 := (r92 (n0 + 12) (Nat.add_lt_add_left (by decide) n0) (Nat.ne_of_gt (Nat.lt_of_lt_of_le hol (Nat.le_add_right _ _)))).trans f159
  have hfr : ∀ j, j < n0 → j ≠ o → h88[j]? = h[j]? := by
    intro j hj hjo
    rw [r92 j (Nat.lt_of_lt_of_le hj (Nat.le_add_right _ _)) hjo, r87 j (Nat.lt_of_lt_of_le hj (Nat.le_add_right _ _)) hjo, r82 j (Nat.lt_of_lt_of_le hj (Nat.le_add_right _ _)) hjo, r76 j (Nat.lt_of_lt_of_le hj (Nat.le_add_right _ _)) (Nat.ne_of_lt (Nat.lt_of_lt_of_le hj (Nat.le_add_right _ _))), r71 j (Nat.lt_of_lt_of_le hj (Nat.le_add_right _ _)) hjo, r65 j (Nat.lt_of_lt_of_le hj (Nat.le_add_right _ _)) (Nat.ne_of_lt (Nat.lt_of_lt_of_le hj (Nat.le_add_right _ _))), r60 j (Nat.lt_of_lt_of_le hj (Nat.le_add_right _ _)) hjo, r52 j (Nat.lt_of_lt_of_le hj (Nat.le_add_right _ _)) (Nat.ne_of_lt (Nat.lt_of_lt_of_le hj (Nat.le_add_right _ _))), r45 j (Nat.lt_of_lt_of_le hj (Nat.le_add_right _ _)) (Nat.ne_of_lt (Nat.lt_of_lt_of_le hj (Nat.le_add_right _ _))), r40 j (Nat.lt_of_lt_of_le hj (Nat.le_add_right _ _)) hjo, r32 j (Nat.lt_of_lt_of_le hj (Nat.le_add_right _ _)) (Nat.ne_of_lt (Nat.lt_of_lt_of_le hj (Nat.le_add_right _ _))), r25 j (Nat.lt_of_lt_of_le hj (Nat.le_add_right _ _)) (Nat.ne_of_lt (Nat.lt_of_lt_of_le hj (Nat.le_add_right _ _))), r20 j (Nat.lt_of_lt_of_le hj (Nat.le_add_right _ _)) hjo, r12 j (Nat.lt_of_lt_of_le hj (Nat.le_add_right _ _)) (Nat.ne_of_lt (Nat.lt_of_lt_of_le hj (Nat.le_add_right _ _))), r5 j (Nat.lt_of_lt_of_le hj (Nat.le_add_right _ _)) (Nat.ne_of_lt (Nat.lt_of_lt_of_le hj (Nat.le_add_right _ _)))]
  exact J_vret hq dX3_init_61 rfl (hk1 hn l91) (by decide) (by decide) ⟨rfl, l91, f90, (At_cons f105 (At_app bl6 b118 (At_cons f128 (At_app bl1 b138 (At_cons f145 (At_app bl8 b152 (At_cons f157 (At_cons f160 At_nil)))))))), hfr⟩
def ob4 (n : Nat) : MC := (.inr (4, [.ref (n + 0), .int 0, .int 0, .int 0]))
def bk4 (n : Nat) : List MC := ob1 (n + 1) :: (bk1 (n + 1) ++ ([]))
set_option maxRecDepth 100000 in
theorem bl4 {n : Nat} : (bk4 n).length = 5 := rfl
set_option maxHeartbeats 4000000 in
set_option maxRecDepth 100000 in
theorem c_X4_init {d : Nat} {h : List MC} {o n0 : Nat} (hd : 2 ≤ d) (hn : h.length = n0) (ho : h[o]? = some (.inr (4, [.null, .int 0, .int 0, .int 0]))) : CT con0 d 5 161 yX4_init cX4_init 1 none [.ref o] h (fun r h2 => r = none ∧ h2.length = n0 + 5 ∧ h2[o]? = some (ob4 n0) ∧ At h2 n0 (bk4 n0) ∧ ∀ j, j < n0 → j ≠ o → h2[j]? = h[j]?) := by
  have hol : o < n0 := by rw [← hn]; exact (List.getElem?_eq_some_iff.mp ho).1
  have hn0 : h.length = n0 + 0 := hn
  refine CT_of (by decide) (Nat.le_of_ble_eq_true rfl) (fun x hq => ?_)
  show J x yX4_init cX4_init 1 none d 5 161 h.length 0 [(0, .ref o)] [] h 0 0
  refine J_aload_n (i := 0) (j := 0) dX4_init_0 rfl rfl ?_
  refine J_obj dX4_init_1 k291 k113 k114 (Nat.le_trans (by decide) hd) (Nat.le_of_ble_eq_true rfl) ?_
  refine J_aload_n (i := 0) (j := 0) dX4_init_4 rfl rfl ?_
  refine J_new (C := RX1) (T := TX1) (Z := 6) (ci := 1) (fs := [.int 0, .null, .int 0, .null, .null, .null]) (ty0 := tyX1) dX4_init_5 inG1 rfl tyX1_ok k292 k125 k89 fsX1 (hk1 hn hn0) (by decide) (by decide) ?_
  obtain ⟨h1, e2⟩ : ∃ z, z = h ++ [(.inr (1, [.int 0, .null, .int 0, .null, .null, .null]))] := ⟨_, rfl⟩
  refine J_w e2.symm ?_
  refine J_cr (v := n0 + 0) hn0 ?_
  have f3 := a_push e2 hn0
  have l4 : h1.length = n0 + 1 := l_push e2 hn0 rfl
  have r5 := r_push (a := n0 + 0) e2 hn0
  refine J_dup dX4_init_8 rfl ?_
  refine J_callIN (As := []) (rest := [.ref (n0 + 0), .ref o]) dX4_init_9 (c_X1_init (d := 1) (h := h1) (o := n0 + 0) (n0 := n0 + 1) (by decide) l4 f3) hq.n k293 k127 rfl rfl k89 k128 np_X1_init (Nat.le_trans (by decide) hd) (by decide) (by decide) (by decide) (hk1 hn l4) rfl (Nat.le_of_ble_eq_true rfl) (fun r6 h7 p8 => ?_)
  obtain ⟨rfl, l9, f10, b11, r12⟩ := p8
  have l13 : h7.length = n0 + 5 := l9
  have f14 := (r5 (o) (Nat.lt_of_lt_of_le hol (Nat.le_add_right _ _)) (Nat.ne_of_lt (Nat.lt_of_lt_of_le hol (Nat.le_add_right _ _)))).trans ho
  have f15 := (r12 (o) (Nat.lt_of_lt_of_le hol (Nat.le_add_right _ _)) (Nat.ne_of_lt (Nat.lt_of_lt_of_le hol (Nat.le_add_right _ _)))).trans f14
  obtain ⟨h16, e17⟩ : ∃ z, z = h7.set (o) (.inr (4, [.ref (n0 + 0), .int 0, .int 0, .int 0])) := ⟨_, rfl⟩
  refine J_putF (C := RX4) (T := TX4) (Z := 4) (ci := 4) (f := 0) (ty0 := tyX4) dX4_init_12 inG4 rfl tyX4_ok nmX4 (by decide) k294 rfl rfl rfl rfl f15 (Nat.le_of_ble_eq_true rfl) (fun _ _ => ⟨rfl, rfl⟩) e17.symm ?_
  have f18 := a_set e17 f15
  have l19 : h16.length = n0 + 5 := l_set e17 l13
  have r20 := r_set (N := n0 + 5) e17
  refine J_aload_n (i := 0) (j := 0) dX4_init_15 rfl rfl ?_
  refine J_iconst (v := 0) dX4_init_16 (by decide) ?_
  obtain ⟨h21, e22⟩ : ∃ z, z = h16.set (o) (.inr (4, [.ref (n0 + 0), .int 0, .int 0, .int 0])) := ⟨_, rfl⟩
  refine J_put (C := RX4) (T := TX4) (Z := 4) (ci := 4) (f := 1) (ty0 := tyX4) dX4_init_17 inG4 rfl tyX4_ok nmX4 (by decide) k296 rfl rfl f18 (Nat.le_of_ble_eq_true rfl) (fun _ _ => ⟨rfl, rfl⟩) e22.symm ?_
  have f23 := a_set e22 f18
  have l24 : h21.length = n0 + 5 := l_set e22 l19
  have r25 := r_set (N := n0 + 5) e22
  refine J_aload_n (i := 0) (j := 0) dX4_init_20 rfl rfl ?_
  refine J_iconst (v := 0) dX4_init_21 (by decide) ?_
  obtain ⟨h26, e27⟩ : ∃ z, z = h21.set (o) (.inr (4, [.ref (n0 + 0), .int 0, .int 0, .int 0])) := ⟨_, rfl⟩
  refine J_put (C := RX4) (T := TX4) (Z := 4) (ci := 4) (f := 2) (ty0 := tyX4) dX4_init_22 inG4 rfl tyX4_ok nmX4 (by decide) k298 rfl rfl f23 (Nat.le_of_ble_eq_true rfl) (fun _ _ => ⟨rfl, rfl⟩) e27.symm ?_
  have f28 := a_set e27 f23
  have l29 : h26.length = n0 + 5 := l_set e27 l24
  have r30 := r_set (N := n0 + 5) e27
  refine J_aload_n (i := 0) (j := 0) dX4_init_25 rfl rfl ?_
  refine J_iconst (v := 0) dX4_init_26 (by decide) ?_
  obtain ⟨h31, e32⟩ : ∃ z, z = h26.set (o) (.inr (4, [.ref (n0 + 0), .int 0, .int 0, .int 0])) := ⟨_, rfl⟩
  refine J_put (C := RX4) (T := TX4) (Z := 4) (ci := 4) (f := 3) (ty0 := tyX4) dX4_init_27 inG4 rfl tyX4_ok nmX4 (by decide) k300 rfl rfl f28 (Nat.le_of_ble_eq_true rfl) (fun _ _ => ⟨rfl, rfl⟩) e32.symm ?_
  have f33 := a_set e32 f28
  have l34 : h31.length = n0 + 5 := l_set e32 l29
  have r35 := r_set (N := n0 + 5) e32
  have f36 := (r20 (n0 + 0) (Nat.add_lt_add_left (by decide) n0) (Nat.ne_of_gt (Nat.lt_of_lt_of_le hol (Nat.le_add_right _ _)))).trans f10
  have f37 := (r25 (n0 + 0) (Nat.add_lt_add_left (by decide) n0) (Nat.ne_of_gt (Nat.lt_of_lt_of_le hol (Nat.le_add_right _ _)))).trans f36
  have f38 := (r30 (n0 + 0) (Nat.add_lt_add_left (by decide) n0) (Nat.ne_of_gt (Nat.lt_of_lt_of_le hol (Nat.le_add_right _ _)))).trans f37
  have f39 := (r35 (n0 + 0) (Nat.add_lt_add_left (by decide) n0) (Nat.ne_of_gt (Nat.lt_of_lt_of_le hol (Nat.le_add_right _ _)))).trans f38
  have b40 : At h16 (n0 + 1) (bk1 (n0 + 1)) := At.fr (m := 4) b11 bl1 r20 (bq (by decide)) (Or.inl (Nat.lt_of_lt_of_le hol (Nat.le_add_right _ _)))
  have b41 : At h21 (n0 + 1) (bk1 (n0 + 1)) := At.fr (m := 4) b40 bl1 r25 (bq (by decide)) (Or.inl (Nat.lt_of_lt_of_le hol (Nat.le_add_right _ _)))
  have b42 : At h26 (n0 + 1) (bk1 (n0 + 1)) := At.fr (m := 4) b41 bl1 r30 (bq (by decide)) (Or.inl (Nat.lt_of_lt_of_le hol (Nat.le_add_right _ _)))
  have b43 : At h31 (n0 + 1) (bk1 (n0 + 1)) := At.fr (m := 4) b42 bl1 r35 (bq (by decide)) (Or.inl (Nat.lt_of_lt_of_le hol (Nat.le_add_right _ _)))
  have hfr : ∀ j, j < n0 → j ≠ o → h31[j]? = h[j]? := by
    intro j hj hjo
    rw [r35 j (Nat.lt_of_lt_of_le hj (Nat.le_add_right _ _)) hjo, r30 j (Nat.lt_of_lt_of_le hj (Nat.le_add_right _ _)) hjo, r25 j (Nat.lt_of_lt_of_le hj (Nat.le_add_right _ _)) hjo, r20 j (Nat.lt_of_lt_of_le hj (Nat.le_add_right _ _)) hjo, r12 j (Nat.lt_of_lt_of_le hj (Nat.le_add_right _ _)) (Nat.ne_of_lt (Nat.lt_of_lt_of_le hj (Nat.le_add_right _ _))), r5 j (Nat.lt_of_lt_of_le hj (Nat.le_add_right _ _)) (Nat.ne_of_lt (Nat.lt_of_lt_of_le hj (Nat.le_add_right _ _)))]
  exact J_vret hq dX4_init_30 rfl (hk1 hn l34) (by decide) (by decide) ⟨rfl, l34, f33, (At_cons f39 (At_app bl1 b43 At_nil)), hfr⟩
def ob2 (n : Nat) : MC := (.inr (2, [.ref (n + 0), .ref (n + 3), .ref (n + 8), .ref (n + 9), .ref (n + 10), .ref (n + 11)]))
def bk2 (n : Nat) : List MC := ob5 (n + 1) :: (bk5 (n + 1) ++ (ob1 (n + 4) :: (bk1 (n + 4) ++ ((.inl (1, 2048, .inl (fun _ => 0))) :: ((.inl (1, 512, .inl (fun _ => 0))) :: ((.inl (2, 512, .inr (.inl (fun _ => 0)))) :: ((.inl (2, 512, .inr (.inl (fun _ => 0)))) :: ([]))))))))
set_option maxRecDepth 100000 in
theorem bl2 {n : Nat} : (bk2 n).length = 12 := rfl
set_option maxHeartbeats 4000000 in
set_option maxRecDepth 100000 in
theorem c_X2_init {d : Nat} {h : List MC} {o n0 : Nat} (hd : 2 ≤ d) (hn : h.length = n0) (ho : h[o]? = some (.inr (2, [.null, .null, .null, .null, .null, .null]))) : CT con0 d 12 3770 yX2_init cX2_init 1 none [.ref o] h (fun r h2 => r = none ∧ h2.length = n0 + 12 ∧ h2[o]? = some (ob2 n0) ∧ At h2 n0 (bk2 n0) ∧ ∀ j, j < n0 → j ≠ o → h2[j]? = h[j]?) := by
  have hol : o < n0 := by rw [← hn]; exact (List.getElem?_eq_some_iff.mp ho).1
  have hn0 : h.length = n0 + 0 := hn
  refine CT_of (by decide) (Nat.le_of_ble_eq_true rfl) (fun x hq => ?_)
  show J x yX2_init cX2_init 1 none d 12 3770 h.length 0 [(0, .ref o)] [] h 0 0
  refine J_aload_n (i := 0) (j := 0) dX2_init_0 rfl rfl ?_
  refine J_obj dX2_init_1 k357 k113 k114 (Nat.le_trans (by decide) hd) (Nat.le_of_ble_eq_true rfl) ?_
  refine J_aload_n (i := 0) (j := 0) dX2_init_4 rfl rfl ?_
  refine J_new (C := RX5) (T := TX5) (Z := 7) (ci := 5) (fs := [.int 0, .int 0, .int 0, .int 0, .int 0, .null, .null]) (ty0 := tyX5) dX2_init_5 inG5 rfl tyX5_ok k358 k314 k94 fsX5 (hk1 hn hn0) (by decide) (by decide) ?_
  obtain ⟨h1, e2⟩ : ∃ z, z = h ++ [(.inr (5, [.int 0, .int 0, .int 0, .int 0, .int 0, .null, .null]))] := ⟨_, rfl⟩
  refine J_w e2.symm ?_
  refine J_cr (v := n0 + 0) hn0 ?_
  have f3 := a_push e2 hn0
  have l4 : h1.length = n0 + 1 := l_push e2 hn0 rfl
  have r5 := r_push (a := n0 + 0) e2 hn0
  refine J_dup dX2_init_8 rfl ?_
  refine J_callIN (As := []) (rest := [.ref (n0 + 0), .ref o]) dX2_init_9 (c_X5_init (d := 1) (h := h1) (o := n0 + 0) (n0 := n0 + 1) (by decide) l4 f3) hq.n k359 k316 rfl rfl k94 k317 np_X5_init (Nat.le_trans (by decide) hd) (by decide) (by decide) (by decide) (hk1 hn l4) rfl (Nat.le_of_ble_eq_true rfl) (fun r6 h7 p8 => ?_)
  obtain ⟨rfl, l9, f10, b11, r12⟩ := p8
  have l13 : h7.length = n0 + 3 := l9
  have f14 := (r5 (o) (Nat.lt_of_lt_of_le hol (Nat.le_add_right _ _)) (Nat.ne_of_lt (Nat.lt_of_lt_of_le hol (Nat.le_add_right _ _)))).trans ho
  have f15 := (r12 (o) (Nat.lt_of_lt_of_le hol (Nat.le_add_right _ _)) (Nat.ne_of_lt (Nat.lt_of_lt_of_le hol (Nat.le_add_right _ _)))).trans f14
  obtain ⟨h16, e17⟩ : ∃ z, z = h7.set (o) (.inr (2, [.ref (n0 + 0), .null, .null, .null, .null, .null])) := ⟨_, rfl⟩
  refine J_putF (C := RX2) (T := TX2) (Z := 6) (ci := 2) (f := 0) (ty0 := tyX2) dX2_init_12 inG2 rfl tyX2_ok nmX2 (by decide) k362 rfl rfl rfl rfl f15 (Nat.le_of_ble_eq_true rfl) (fun _ _ => ⟨rfl, rfl⟩) e17.symm ?_
  have f18 := a_set e17 f15
  have l19 : h16.length = n0 + 3 := l_set e17 l13
  have r20 := r_set (N := n0 + 3) e17
  refine J_aload_n (i := 0) (j := 0) dX2_init_15 rfl rfl ?_
  refine J_new (C := RX1) (T := TX1) (Z := 6) (ci := 1) (fs := [.int 0, .null, .int 0, .null, .null, .null]) (ty0 := tyX1) dX2_init_16 inG1 rfl tyX1_ok k360 k125 k89 fsX1 (hk1 hn l19) (by decide) (by decide) ?_
  obtain ⟨h21, e22⟩ : ∃ z, z = h16 ++ [(.inr (1, [.int 0, .null, .int 0, .null, .null, .null]))] := ⟨_, rfl⟩
  refine J_w e22.symm ?_
  refine J_cr (v := n0 + 3) l19 ?_
  have f23 := a_push e22 l19
  have l24 : h21.length = n0 + 4 := l_push e22 l19 rfl
  have r25 := r_push (a := n0 + 3) e22 l19
  refine J_dup dX2_init_19 rfl ?_
  refine J_callIN (As := []) (rest := [.ref (n0 + 3), .ref o]) dX2_init_20 (c_X1_init (d := 1) (h := h21) (o := n0 + 3) (n0 := n0 + 4) (by decide) l24 f23) hq.n k361 k127 rfl rfl k89 k128 np_X1_init (Nat.le_trans (by decide) hd) (by decide) (by decide) (by decide) (hk1 hn l24) rfl (Nat.le_of_ble_eq_true rfl) (fun r26 h27 p28 => ?_)
  obtain ⟨rfl, l29, f30, b31, r32⟩ := p28
  have l33 : h27.length = n0 + 8 := l29
  have f34 := (r25 (o) (Nat.lt_of_lt_of_le hol (Nat.le_add_right _ _)) (Nat.ne_of_lt (Nat.lt_of_lt_of_le hol (Nat.le_add_right _ _)))).trans f18
  have f35 := (r32 (o) (Nat.lt_of_lt_of_le hol (Nat.le_add_right _ _)) (Nat.ne_of_lt (Nat.lt_of_lt_of_le hol (Nat.le_add_right _ _)))).trans f34
  obtain ⟨h36, e37⟩ : ∃ z, z = h27.set (o) (.inr (2, [.ref (n0 + 0), .ref (n0 + 3), .null, .null, .null, .null])) := ⟨_, rfl⟩
  refine J_putF (C := RX2) (T := TX2) (Z := 6) (ci := 2) (f := 1) (ty0 := tyX2) dX2_init_23 inG2 rfl tyX2_ok nmX2 (by decide) k363 rfl rfl rfl rfl f35 (Nat.le_of_ble_eq_true rfl) (fun _ _ => ⟨rfl, rfl⟩) e37.symm ?_
  have f38 := a_set e37 f35
  have l39 : h36.length = n0 + 8 := l_set e37 l33
  have r40 := r_set (N := n0 + 8) e37
  refine J_aload_n (i := 0) (j := 0) dX2_init_26 rfl rfl ?_
  refine J_sipush (v := 2048) dX2_init_27 (by decide) ?_
  refine J_newa1 (Z := 2048) dX2_init_30 ka1 (by decide) (by decide) (by decide) (hk1 hn l39) (by decide) (by decide) ?_
  obtain ⟨h41, e42⟩ : ∃ z, z = h36 ++ [(.inl (1, 2048, .inl (fun _ => 0)))] := ⟨_, rfl⟩
  refine J_w e42.symm ?_
  refine J_cr (v := n0 + 8) l39 ?_
  have f43 := a_push e42 l39
  have l44 : h41.length = n0 + 9 := l_push e42 l39 rfl
  have r45 := r_push (a := n0 + 8) e42 l39
  have f46 := (r45 (o) (Nat.lt_of_lt_of_le hol (Nat.le_add_right _ _)) (Nat.ne_of_lt (Nat.lt_of_lt_of_le hol (Nat.le_add_right _ _)))).trans f38
  obtain ⟨h47, e48⟩ : ∃ z, z = h41.set (o) (.inr (2, [.ref (n0 + 0), .ref (n0 + 3), .ref (n0 + 8), .null, .null, .null])) := ⟨_, rfl⟩
  refine J_putF (C := RX2) (T := TX2) (Z := 6) (ci := 2) (f := 2) (ty0 := tyX2) dX2_init_32 inG2 rfl tyX2_ok nmX2 (by decide) k365 rfl rfl rfl rfl f46 (Nat.le_of_ble_eq_true rfl) (fun _ _ => ⟨rfl, rfl⟩) e48.symm ?_
  have f49 := a_set e48 f46
  have l50 : h47.length = n0 + 9 := l_set e48 l44
  have r51 := r_set (N := n0 + 9) e48
  refine J_aload_n (i := 0) (j := 0) dX2_init_35 rfl rfl ?_
  refine J_sipush (v := 512) dX2_init_36 (by decide) ?_
  refine J_newa1 (Z := 512) dX2_init_39 ka1 (by decide) (by decide) (by decide) (hk1 hn l50) (by decide) (by decide) ?_
  obtain ⟨h52, e53⟩ : ∃ z, z = h47 ++ [(.inl (1, 512, .inl (fun _ => 0)))] := ⟨_, rfl⟩
  refine J_w e53.symm ?_
  refine J_cr (v := n0 + 9) l50 ?_
  have f54 := a_push e53 l50
  have l55 : h52.length = n0 + 10 := l_push e53 l50 rfl
  have r56 := r_push (a := n0 + 9) e53 l50
  have f57 := (r56 (o) (Nat.lt_of_lt_of_le hol (Nat.le_add_right _ _)) (Nat.ne_of_lt (Nat.lt_of_lt_of_le hol (Nat.le_add_right _ _)))).trans f49
  obtain ⟨h58, e59⟩ : ∃ z, z = h52.set (o) (.inr (2, [.ref (n0 + 0), .ref (n0 + 3), .ref (n0 + 8), .ref (n0 + 9), .null, .null])) := ⟨_, rfl⟩
  refine J_putF (C := RX2) (T := TX2) (Z := 6) (ci := 2) (f := 3) (ty0 := tyX2) dX2_init_41 inG2 rfl tyX2_ok nmX2 (by decide) k366 rfl rfl rfl rfl f57 (Nat.le_of_ble_eq_true rfl) (fun _ _ => ⟨rfl, rfl⟩) e59.symm ?_
  have f60 := a_set e59 f57
  have l61 : h58.length = n0 + 10 := l_set e59 l55
  have r62 := r_set (N := n0 + 10) e59
  refine J_aload_n (i := 0) (j := 0) dX2_init_44 rfl rfl ?_
  refine J_sipush (v := 512) dX2_init_45 (by decide) ?_
  refine J_newa2 (Z := 512) dX2_init_48 ka2 (by decide) (by decide) (by decide) (hk1 hn l61) (by decide) (by decide) ?_
  obtain ⟨h63, e64⟩ : ∃ z, z = h58 ++ [(.inl (2, 512, .inr (.inl (fun _ => 0))))] := ⟨_, rfl⟩
  refine J_w e64.symm ?_
  refine J_cr (v := n0 + 10) l61 ?_
  have f65 := a_push e64 l61
  have l66 : h63.length = n0 + 11 := l_push e64 l61 rfl
  have r67 := r_push (a := n0 + 10) e64 l61
  have f68 := (r67 (o) (Nat.lt_of_lt_of_le hol (Nat.le_add_right _ _)) (Nat.ne_of_lt (Nat.lt_of_lt_of_le hol (Nat.le_add_right _ _)))).trans f60
  obtain ⟨h69, e70⟩ : ∃ z, z = h63.set (o) (.inr (2, [.ref (n0 + 0), .ref (n0 + 3), .ref (n0 + 8), .ref (n0 + 9), .ref (n0 + 10), .null])) := ⟨_, rfl⟩
  refine J_putF (C := RX2) (T := TX2) (Z := 6) (ci := 2) (f := 4) (ty0 := tyX2) dX2_init_50 inG2 rfl tyX2_ok nmX2 (by decide) k367 rfl rfl rfl rfl f68 (Nat.le_of_ble_eq_true rfl) (fun _ _ => ⟨rfl, rfl⟩) e70.symm ?_
  have f71 := a_set e70 f68
  have l72 : h69.length = n0 + 11 := l_set e70 l66
  have r73 := r_set (N := n0 + 11) e70
  refine J_aload_n (i := 0) (j := 0) dX2_init_53 rfl rfl ?_
  refine J_sipush (v := 512) dX2_init_54 (by decide) ?_
  refine J_newa2 (Z := 512) dX2_init_57 ka2 (by decide) (by decide) (by decide) (hk1 hn l72) (by decide) (by decide) ?_
  obtain ⟨h74, e75⟩ : ∃ z, z = h69 ++ [(.inl (2, 512, .inr (.inl (fun _ => 0))))] := ⟨_, rfl⟩
  refine J_w e75.symm ?_
  refine J_cr (v := n0 + 11) l72 ?_
  have f76 := a_push e75 l72
  have l77 : h74.length = n0 + 12 := l_push e75 l72 rfl
  have r78 := r_push (a := n0 + 11) e75 l72
  have f79 := (r78 (o) (Nat.lt_of_lt_of_le hol (Nat.le_add_right _ _)) (Nat.ne_of_lt (Nat.lt_of_lt_of_le hol (Nat.le_add_right _ _)))).trans f71
  obtain ⟨h80, e81⟩ : ∃ z, z = h74.set (o) (.inr (2, [.ref (n0 + 0), .ref (n0 + 3), .ref (n0 + 8), .ref (n0 + 9), .ref (n0 + 10), .ref (n0 + 11)])) := ⟨_, rfl⟩
  refine J_putF (C := RX2) (T := TX2) (Z := 6) (ci := 2) (f := 5) (ty0 := tyX2) dX2_init_59 inG2 rfl tyX2_ok nmX2 (by decide) k368 rfl rfl rfl rfl f79 (Nat.le_of_ble_eq_true rfl) (fun _ _ => ⟨rfl, rfl⟩) e81.symm ?_
  have f82 := a_set e81 f79
  have l83 : h80.length = n0 + 12 := l_set e81 l77
  have r84 := r_set (N := n0 + 12) e81
  have f85 := (r20 (n0 + 0) (Nat.add_lt_add_left (by decide) n0) (Nat.ne_of_gt (Nat.lt_of_lt_of_le hol (Nat.le_add_right _ _)))).trans f10
  have f86 := (r25 (n0 + 0) (Nat.add_lt_add_left (by decide) n0) (fun q => absurd (Nat.add_left_cancel q) (by decide))).trans f85
  have f87 := (r32 (n0 + 0) (Nat.add_lt_add_left (by decide) n0) (fun q => absurd (Nat.add_left_cancel q) (by decide))).trans f86
  have f88 := (r40 (n0 + 0) (Nat.add_lt_add_left (by decide) n0) (Nat.ne_of_gt (Nat.lt_of_lt_of_le hol (Nat.le_add_right _ _)))).trans f87
  have f89 := (r45 (n0 + 0) (Nat.add_lt_add_left (by decide) n0) (fun q => absurd (Nat.add_left_cancel q) (by decide))).trans f88
  have f90 := (r51 (n0 + 0) (Nat.add_lt_add_left (by decide) n0) (Nat.ne_of_gt (Nat.lt_of_lt_of_le hol (Nat.le_add_right _ _)))).trans f89
  have f91 := (r56 (n0 + 0) (Nat.add_lt_add_left (by decide) n0) (fun q => absurd (Nat.add_left_cancel q) (by decide))).trans f90
  have f92 := (r62 (n0 + 0) (Nat.add_lt_add_left (by decide) n0) (Nat.ne_of_gt (Nat.lt_of_lt_of_le hol (Nat.le_add_right _ _)))).trans f91
  have f93 := (r67 (n0 + 0) (Nat.add_lt_add_left (by decide) n0) (fun q => absurd (Nat.add_left_cancel q) (by decide))).trans f92
  have f94 := (r73 (n0 + 0) (Nat.add_lt_add_left (by decide) n0) (Nat.ne_of_gt (Nat.lt_of_lt_of_le hol (Nat.le_add_right _ _)))).trans f93
  have f95 := (r78 (n0 + 0) (Nat.add_lt_add_left (by decide) n0) (fun q => absurd (Nat.add_left_cancel q) (by decide))).trans f94
  have f96 := (r84 (n0 + 0) (Nat.add_lt_add_left (by decide) n0) (Nat.ne_of_gt (Nat.lt_of_lt_of_le hol (Nat.le_add_right _ _)))).trans f95
  have b97 : At h16 (n0 + 1) (bk5 (n0 + 1)) := At.fr (m := 2) b11 bl5 r20 (bq (by decide)) (Or.inl (Nat.lt_of_lt_of_le hol (Nat.le_add_right _ _)))
  have b98 : At h21 (n0 + 1) (bk5 (n0 + 1)) := At.fr (m := 2) b97 bl5 r25 (bq (by decide)) (Or.inr (bq (by decide)))
  have b99 : At h27 (n0 + 1) (bk5 (n0 + 1)) := At.fr (m := 2) b98 bl5 r32 (bq (by decide)) (Or.inr (bq (by decide)))
  have b100 : At h36 (n0 + 1) (bk5 (n0 + 1)) := At.fr (m := 2) b99 bl5 r40 (bq (by decide)) (Or.inl (Nat.lt_of_lt_of_le hol (Nat.le_add_right _ _)))
  have b101 : At h41 (n0 + 1) (bk5 (n0 + 1)) := At.fr (m := 2) b100 bl5 r45 (bq (by decide)) (Or.inr (bq (by decide)))
  have b102 : At h47 (n0 + 1) (bk5 (n0 + 1)) := At.fr (m := 2) b101 bl5 r51 (bq (by decide)) (Or.inl (Nat.lt_of_lt_of_le hol (Nat.le_add_right _ _)))
  have b103 : At h52 (n0 + 1) (bk5 (n0 + 1)) := At.fr (m := 2) b102 bl5 r56 (bq (by decide)) (Or.inr (bq (by decide)))
  have b104 : At h58 (n0 + 1) (bk5 (n0 + 1)) := At.fr (m := 2) b103 bl5 r62 (bq (by decide)) (Or.inl (Nat.lt_of_lt_of_le hol (Nat.le_add_right _ _)))
  have b105 : At h63 (n0 + 1) (bk5 (n0 + 1)) := At.fr (m := 2) b104 bl5 r67 (bq (by decide)) (Or.inr (bq (by decide)))
  have b106 : At h69 (n0 + 1) (bk5 (n0 + 1)) := At.fr (m := 2) b105 bl5 r73 (bq (by decide)) (Or.inl (Nat.lt_of_lt_of_le hol (Nat.le_add_right _ _)))
  have b107 : At h74 (n0 + 1) (bk5 (n0 + 1)) := At.fr (m := 2) b106 bl5 r78 (bq (by decide)) (Or.inr (bq (by decide)))
  have b108 : At h80 (n0 + 1) (bk5 (n0 + 1)) := At.fr (m := 2) b107 bl5 r84 (bq (by decide)) (Or.inl (Nat.lt_of_lt_of_le hol (Nat.le_add_right _ _)))
  have f109 := (r40 (n0 + 3) (Nat.add_lt_add_left (by decide) n0) (Nat.ne_of_gt (Nat.lt_of_lt_of_le hol (Nat.le_add_right _ _)))).trans f30
  have f110 := (r45 (n0 + 3) (Nat.add_lt_add_left (by decide) n0) (fun q => absurd (Nat.add_left_cancel q) (by decide))).trans f109
  have f111 := (r51 (n0 + 3) (Nat.add_lt_add_left (by decide) n0) (Nat.ne_of_gt (Nat.lt_of_lt_of_le hol (Nat.le_add_right _ _)))).trans f110
  have f112 := (r56 (n0 + 3) (Nat.add_lt_add_left (by decide) n0) (fun q => absurd (Nat.add_left_cancel q) (by decide))).trans f111
  have f113 := (r62 (n0 + 3) (Nat.add_lt_add_left (by decide) n0) (Nat.ne_of_gt (Nat.lt_of_lt_of_le hol (Nat.le_add_right _ _)))).trans f112
  have f114 := (r67 (n0 + 3) (Nat.add_lt_add_left (by decide) n0) (fun q => absurd (Nat.add_left_cancel q) (by decide))).trans f113
  have f115 := (r73 (n0 + 3) (Nat.add_lt_add_left (by decide) n0) (Nat.ne_of_gt (Nat.lt_of_lt_of_le hol (Nat.le_add_right _ _)))).trans f114
  have f116 := (r78 (n0 + 3) (Nat.add_lt_add_left (by decide) n0) (fun q => absurd (Nat.add_left_cancel q) (by decide))).trans f115
  have f117 := (r84 (n0 + 3) (Nat.add_lt_add_left (by decide) n0) (Nat.ne_of_gt (Nat.lt_of_lt_of_le hol (Nat.le_add_right _ _)))).trans f116
  have b118 : At h36 (n0 + 4) (bk1 (n0 + 4)) := At.fr (m := 4) b31 bl1 r40 (bq (by decide)) (Or.inl (Nat.lt_of_lt_of_le hol (Nat.le_add_right _ _)))
  have b119 : At h41 (n0 + 4) (bk1 (n0 + 4)) := At.fr (m := 4) b118 bl1 r45 (bq (by decide)) (Or.inr (bq (by decide)))
  have b120 : At h47 (n0 + 4) (bk1 (n0 + 4)) := At.fr (m := 4) b119 bl1 r51 (bq (by decide)) (Or.inl (Nat.lt_of_lt_of_le hol (Nat.le_add_right _ _)))
  have b121 : At h52 (n0 + 4) (bk1 (n0 + 4)) := At.fr (m := 4) b120 bl1 r56 (bq (by decide)) (Or.inr (bq (by decide)))
  have b122 : At h58 (n0 + 4) (bk1 (n0 + 4)) := At.fr (m := 4) b121 bl1 r62 (bq (by decide)) (Or.inl (Nat.lt_of_lt_of_le hol (Nat.le_add_right _ _)))
  have b123 : At h63 (n0 + 4) (bk1 (n0 + 4)) := At.fr (m := 4) b122 bl1 r67 (bq (by decide)) (Or.inr (bq (by decide)))
  have b124 : At h69 (n0 + 4) (bk1 (n0 + 4)) := At.fr (m := 4) b123 bl1 r73 (bq (by decide)) (Or.inl (Nat.lt_of_lt_of_le hol (Nat.le_add_right _ _)))
  have b125 : At h74 (n0 + 4) (bk1 (n0 + 4)) := At.fr (m := 4) b124 bl1 r78 (bq (by decide)) (Or.inr (bq (by decide)))
  have b126 : At h80 (n0 + 4) (bk1 (n0 + 4)) := At.fr (m := 4) b125 bl1 r84 (bq (by decide)) (Or.inl (Nat.lt_of_lt_of_le hol (Nat.le_add_right _ _)))
  have f127 := (r51 (n0 + 8) (Nat.add_lt_add_left (by decide) n0) (Nat.ne_of_gt (Nat.lt_of_lt_of_le hol (Nat.le_add_right _ _)))).trans f43
  have f128 := (r56 (n0 + 8) (Nat.add_lt_add_left (by decide) n0) (fun q => absurd (Nat.add_left_cancel q) (by decide))).trans f127
  have f129 := (r62 (n0 + 8) (Nat.add_lt_add_left (by decide) n0) (Nat.ne_of_gt (Nat.lt_of_lt_of_le hol (Nat.le_add_right _ _)))).trans f128
  have f130 := (r67 (n0 + 8) (Nat.add_lt_add_left (by decide) n0) (fun q => absurd (Nat.add_left_cancel q) (by decide))).trans f129
  have f131 := (r73 (n0 + 8) (Nat.add_lt_add_left (by decide) n0) (Nat.ne_of_gt (Nat.lt_of_lt_of_le hol (Nat.le_add_right _ _)))).trans f130
  have f132 := (r78 (n0 + 8) (Nat.add_lt_add_left (by decide) n0) (fun q => absurd (Nat.add_left_cancel q) (by decide))).trans f131
  have f133 := (r84 (n0 + 8) (Nat.add_lt_add_left (by decide) n0) (Nat.ne_of_gt (Nat.lt_of_lt_of_le hol (Nat.le_add_right _ _)))).trans f132
  have f134 := (r62 (n0 + 9) (Nat.add_lt_add_left (by decide) n0) (Nat.ne_of_gt (Nat.lt_of_lt_of_le hol (Nat.le_add_right _ _)))).trans f54
  have f135 := (r67 (n0 + 9) (Nat.add_lt_add_left (by decide) n0) (fun q => absurd (Nat.add_left_cancel q) (by decide))).trans f134
  have f136 := (r73 (n0 + 9) (Nat.add_lt_add_left (by decide) n0) (Nat.ne_of_gt (Nat.lt_of_lt_of_le hol (Nat.le_add_right _ _)))).trans f135
  have f137 := (r78 (n0 + 9) (Nat.add_lt_add_left (by decide) n0) (fun q => absurd (Nat.add_left_cancel q) (by decide))).trans f136
  have f138 := (r84 (n0 + 9) (Nat.add_lt_add_left (by decide) n0) (Nat.ne_of_gt (Nat.lt_of_lt_of_le hol (Nat.le_add_right _ _)))).trans f137
  have f139 := (r73 (n0 + 10) (Nat.add_lt_add_left (by decide) n0) (Nat.ne_of_gt (Nat.lt_of_lt_of_le hol (Nat.le_add_right _ _)))).trans f65
  have f140 := (r78 (n0 + 10) (Nat.add_lt_add_left (by decide) n0) (fun q => absurd (Nat.add_left_cancel q) (by decide))).trans f139
  have f141 := (r84 (n0 + 10) (Nat.add_lt_add_left (by decide) n0) (Nat.ne_of_gt (Nat.lt_of_lt_of_le hol (Nat.le_add_right _ _)))).trans f140
  have f142 := (r84 (n0 + 11) (Nat.add_lt_add_left (by decide) n0) (Nat.ne_of_gt (Nat.lt_of_lt_of_le hol (Nat.le_add_right _ _)))).trans f76
  have hfr : ∀ j, j < n0 → j ≠ o → h80[j]? = h[j]? := by
    intro j hj hjo
    rw [r84 j (Nat.lt_of_lt_of_le hj (Nat.le_add_right _ _)) hjo, r78 j (Nat.lt_of_lt_of_le hj (Nat.le_add_right _ _)) (Nat.ne_of_lt (Nat.lt_of_lt_of_le hj (Nat.le_add_right _ _))), r73 j (Nat.lt_of_lt_of_le hj (Nat.le_add_right _ _)) hjo, r67 j (Nat.lt_of_lt_of_le hj (Nat.le_add_right _ _)) (Nat.ne_of_lt (Nat.lt_of_lt_of_le hj (Nat.le_add_right _ _))), r62 j (Nat.lt_of_lt_of_le hj (Nat.le_add_right _ _)) hjo, r56 j (Nat.lt_of_lt_of_le hj (Nat.le_add_right _ _)) (Nat.ne_of_lt (Nat.lt_of_lt_of_le hj (Nat.le_add_right _ _))), r51 j (Nat.lt_of_lt_of_le hj (Nat.le_add_right _ _)) hjo, r45 j (Nat.lt_of_lt_of_le hj (Nat.le_add_right _ _)) (Nat.ne_of_lt (Nat.lt_of_lt_of_le hj (Nat.le_add_right _ _))), r40 j (Nat.lt_of_lt_of_le hj (Nat.le_add_right _ _)) hjo, r32 j (Nat.lt_of_lt_of_le hj (Nat.le_add_right _ _)) (Nat.ne_of_lt (Nat.lt_of_lt_of_le hj (Nat.le_add_right _ _))), r25 j (Nat.lt_of_lt_of_le hj (Nat.le_add_right _ _)) (Nat.ne_of_lt (Nat.lt_of_lt_of_le hj (Nat.le_add_right _ _))), r20 j (Nat.lt_of_lt_of_le hj (Nat.le_add_right _ _)) hjo, r12 j (Nat.lt_of_lt_of_le hj (Nat.le_add_right _ _)) (Nat.ne_of_lt (Nat.lt_of_lt_of_le hj (Nat.le_add_right _ _))), r5 j (Nat.lt_of_lt_of_le hj (Nat.le_add_right _ _)) (Nat.ne_of_lt (Nat.lt_of_lt_of_le hj (Nat.le_add_right _ _)))]
  exact J_vret hq dX2_init_62 rfl (hk1 hn l83) (by decide) (by decide) ⟨rfl, l83, f82, (At_cons f96 (At_app bl5 b108 (At_cons f117 (At_app bl1 b126 (At_cons f133 (At_cons f138 (At_cons f141 (At_cons f142 At_nil)))))))), hfr⟩
def ob0 (n : Nat) : MC := (.inr (0, [.ref (n + 0), .ref (n + 13), .int (-1), .int (-1), .long 0, .int 0, .ref (n + 18), .ref (n + 19), .ref (n + 20), .ref (n + 21)]))
def bk0 (n : Nat) : List MC := ob2 (n + 1) :: (bk2 (n + 1) ++ (ob1 (n + 14) :: (bk1 (n + 14) ++ ((.inl (1, 4, .inl (fun _ => 0))) :: ((.inl (1, 4, .inl (fun _ => 0))) :: ((.inl (1, 4, .inl (fun _ => 0))) :: ((.inl (2, 16, .inr (.inl (fun _ => 0)))) :: ([]))))))))
set_option maxRecDepth 100000 in
theorem bl0 {n : Nat} : (bk0 n).length = 22 := rfl
set_option maxHeartbeats 4000000 in
set_option maxRecDepth 100000 in
theorem c_X0_init {d : Nat} {h : List MC} {o n0 : Nat} (hd : 3 ≤ d) (hn : h.length = n0) (ho : h[o]? = some (.inr (0, [.null, .null, .int 0, .int 0, .long 0, .int 0, .null, .null, .null, .null]))) : CT con0 d 22 3965 yX0_init cX0_init 1 none [.ref o] h (fun r h2 => r = none ∧ h2.length = n0 + 22 ∧ h2[o]? = some (ob0 n0) ∧ At h2 n0 (bk0 n0) ∧ ∀ j, j < n0 → j ≠ o → h2[j]? = h[j]?) := by
  have hol : o < n0 := by rw [← hn]; exact (List.getElem?_eq_some_iff.mp ho).1
  have hn0 : h.length = n0 + 0 := hn
  refine CT_of (by decide) (Nat.le_of_ble_eq_true rfl) (fun x hq => ?_)
  show J x yX0_init cX0_init 1 none d 22 3965 h.length 0 [(0, .ref o)] [] h 0 0
  refine J_aload_n (i := 0) (j := 0) dX0_init_0 rfl rfl ?_
  refine J_obj dX0_init_1 k351 k113 k114 (Nat.le_trans (by decide) hd) (Nat.le_of_ble_eq_true rfl) ?_
  refine J_aload_n (i := 0) (j := 0) dX0_init_4 rfl rfl ?_
  refine J_new (C := RX2) (T := TX2) (Z := 6) (ci := 2) (fs := [.null, .null, .null, .null, .null, .null]) (ty0 := tyX2) dX0_init_5 inG2 rfl tyX2_ok k352 k353 k96 fsX2 (hk1 hn hn0) (by decide) (by decide) ?_
  obtain ⟨h1, e2⟩ : ∃ z, z = h ++ [(.inr (2, [.null, .null, .null, .null, .null, .null]))] := ⟨_, rfl⟩
  refine J_w e2.symm ?_
  refine J_cr (v := n0 + 0) hn0 ?_
  have f3 := a_push e2 hn0
  have l4 : h1.length = n0 + 1 := l_push e2 hn0 rfl
  have r5 := r_push (a := n0 + 0) e2 hn0
  refine J_dup dX0_init_8 rfl ?_
  refine J_callIN (As := []) (rest := [.ref (n0 + 0), .ref o]) dX0_init_9 (c_X2_init (d := 2) (h := h1) (o := n0 + 0) (n0 := n0 + 1) (by decide) l4 f3) hq.n k354 k355 rfl rfl k96 k356 np_X2_init (Nat.le_trans (by decide) hd) (by decide) (by decide) (by decide) (hk1 hn l4) rfl (Nat.le_of_ble_eq_true rfl) (fun r6 h7 p8 => ?_)
  obtain ⟨rfl, l9, f10, b11, r12⟩ := p8
  have l13 : h7.length = n0 + 13 := l9
  have f14 := (r5 (o) (Nat.lt_of_lt_of_le hol (Nat.le_add_right _ _)) (Nat.ne_of_lt (Nat.lt_of_lt_of_le hol (Nat.le_add_right _ _)))).trans ho
  have f15 := (r12 (o) (Nat.lt_of_lt_of_le hol (Nat.le_add_right _ _)) (Nat.ne_of_lt (Nat.lt_of_lt_of_le hol (Nat.le_add_right _ _)))).trans f14
  obtain ⟨h16, e17⟩ : ∃ z, z = h7.set (o) (.inr (0, [.ref (n0 + 0), .null, .int 0, .int 0, .long 0, .int 0, .null, .null, .null, .null])) := ⟨_, rfl⟩
  refine J_putF (C := RX0) (T := TX0) (Z := 10) (ci := 0) (f := 0) (ty0 := tyX0) dX0_init_12 inG0 rfl tyX0_ok nmX0 (by decide) k386 rfl rfl rfl rfl f15 (Nat.le_of_ble_eq_true rfl) (fun _ _ => ⟨rfl, rfl⟩) e17.symm ?_
  have f18 := a_set e17 f15
  have l19 : h16.length = n0 + 13 := l_set e17 l13
  have r20 := r_set (N := n0 + 13) e17
  refine J_aload_n (i := 0) (j := 0) dX0_init_15 rfl rfl ?_
  refine J_new (C := RX1) (T := TX1) (Z := 6) (ci := 1) (fs := [.int 0, .null, .int 0, .null, .null, .null]) (ty0 := tyX1) dX0_init_16 inG1 rfl tyX1_ok k384 k125 k89 fsX1 (hk1 hn l19) (by decide) (by decide) ?_
  obtain ⟨h21, e22⟩ : ∃ z, z = h16 ++ [(.inr (1, [.int 0, .null, .int 0, .null, .null, .null]))] := ⟨_, rfl⟩
  refine J_w e22.symm ?_
  refine J_cr (v := n0 + 13) l19 ?_
  have f23 := a_push e22 l19
  have l24 : h21.length = n0 + 14 := l_push e22 l19 rfl
  have r25 := r_push (a := n0 + 13) e22 l19
  refine J_dup dX0_init_19 rfl ?_
  refine J_callIN (As := []) (rest := [.ref (n0 + 13), .ref o]) dX0_init_20 (c_X1_init (d := 1) (h := h21) (o := n0 + 13) (n0 := n0 + 14) (by decide) l24 f23) hq.n k385 k127 rfl rfl k89 k128 np_X1_init (Nat.le_trans (by decide) hd) (by decide) (by decide) (by decide) (hk1 hn l24) rfl (Nat.le_of_ble_eq_true rfl) (fun r26 h27 p28 => ?_)
  obtain ⟨rfl, l29, f30, b31, r32⟩ := p28
  have l33 : h27.length = n0 + 18 := l29
  have f34 := (r25 (o) (Nat.lt_of_lt_of_le hol (Nat.le_add_right _ _)) (Nat.ne_of_lt (Nat.lt_of_lt_of_le hol (Nat.le_add_right _ _)))).trans f18
  have f35 := (r32 (o) (Nat.lt_of_lt_of_le hol (Nat.le_add_right _ _)) (Nat.ne_of_lt (Nat.lt_of_lt_of_le hol (Nat.le_add_right _ _)))).trans f34
  obtain ⟨h36, e37⟩ : ∃ z, z = h27.set (o) (.inr (0, [.ref (n0 + 0), .ref (n0 + 13), .int 0, .int 0, .long 0, .int 0, .null, .null, .null, .null])) := ⟨_, rfl⟩
  refine J_putF (C := RX0) (T := TX0) (Z := 10) (ci := 0) (f := 1) (ty0 := tyX0) dX0_init_23 inG0 rfl tyX0_ok nmX0 (by decide) k388 rfl rfl rfl rfl f35 (Nat.le_of_ble_eq_true rfl) (fun _ _ => ⟨rfl, rfl⟩) e37.symm ?_
  have f38 := a_set e37 f35
  have l39 : h36.length = n0 + 18 := l_set e37 l33
  have r40 := r_set (N := n0 + 18) e37
  refine J_aload_n (i := 0) (j := 0) dX0_init_26 rfl rfl ?_
  refine J_iconst (v := (-1)) dX0_init_27 (by decide) ?_
  obtain ⟨h41, e42⟩ : ∃ z, z = h36.set (o) (.inr (0, [.ref (n0 + 0), .ref (n0 + 13), .int (-1), .int 0, .long 0, .int 0, .null, .null, .null, .null])) := ⟨_, rfl⟩
  refine J_put (C := RX0) (T := TX0) (Z := 10) (ci := 0) (f := 2) (ty0 := tyX0) dX0_init_28 inG0 rfl tyX0_ok nmX0 (by decide) k389 rfl rfl f38 (Nat.le_of_ble_eq_true rfl) (fun _ _ => ⟨rfl, rfl⟩) e42.symm ?_
  have f43 := a_set e42 f38
  have l44 : h41.length = n0 + 18 := l_set e42 l39
  have r45 := r_set (N := n0 + 18) e42
  refine J_aload_n (i := 0) (j := 0) dX0_init_31 rfl rfl ?_
  refine J_iconst (v := (-1)) dX0_init_32 (by decide) ?_
  obtain ⟨h46, e47⟩ : ∃ z, z = h41.set (o) (.inr (0, [.ref (n0 + 0), .ref (n0 + 13), .int (-1), .int (-1), .long 0, .int 0, .null, .null, .null, .null])) := ⟨_, rfl⟩
  refine J_put (C := RX0) (T := TX0) (Z := 10) (ci := 0) (f := 3) (ty0 := tyX0) dX0_init_33 inG0 rfl tyX0_ok nmX0 (by decide) k391 rfl rfl f43 (Nat.le_of_ble_eq_true rfl) (fun _ _ => ⟨rfl, rfl⟩) e47.symm ?_
  have f48 := a_set e47 f43
  have l49 : h46.length = n0 + 18 := l_set e47 l44
  have r50 := r_set (N := n0 + 18) e47
  refine J_aload_n (i := 0) (j := 0) dX0_init_36 rfl rfl ?_
  refine J_lconst (v := 0) dX0_init_37 (by decide) ?_
  obtain ⟨h51, e52⟩ : ∃ z, z = h46.set (o) (.inr (0, [.ref (n0 + 0), .ref (n0 + 13), .int (-1), .int (-1), .long 0, .int 0, .null, .null, .null, .null])) := ⟨_, rfl⟩
  refine J_put (C := RX0) (T := TX0) (Z := 10) (ci := 0) (f := 4) (ty0 := tyX0) dX0_init_38 inG0 rfl tyX0_ok nmX0 (by decide) k393 rfl rfl f48 (Nat.le_of_ble_eq_true rfl) (fun _ _ => ⟨rfl, rfl⟩) e52.symm ?_
  have f53 := a_set e52 f48
  have l54 : h51.length = n0 + 18 := l_set e52 l49
  have r55 := r_set (N := n0 + 18) e52
  refine J_aload_n (i := 0) (j := 0) dX0_init_41 rfl rfl ?_
  refine J_iconst (v := 0) dX0_init_42 (by decide) ?_
  obtain ⟨h56, e57⟩ : ∃ z, z = h51.set (o) (.inr (0, [.ref (n0 + 0), .ref (n0 + 13), .int (-1), .int (-1), .long 0, .int 0, .null, .null, .null, .null])) := ⟨_, rfl⟩
  refine J_put (C := RX0) (T := TX0) (Z := 10) (ci := 0) (f := 5) (ty0 := tyX0) dX0_init_43 inG0 rfl tyX0_ok nmX0 (by decide) k395 rfl rfl f53 (Nat.le_of_ble_eq_true rfl) (fun _ _ => ⟨rfl, rfl⟩) e57.symm ?_
  have f58 := a_set e57 f53
  have l59 : h56.length = n0 + 18 := l_set e57 l54
  have r60 := r_set (N := n0 + 18) e57
  refine J_aload_n (i := 0) (j := 0) dX0_init_46 rfl rfl ?_
  refine J_iconst (v := 4) dX0_init_47 (by decide) ?_
  refine J_newa1 (Z := 4) dX0_init_48 ka1 (by decide) (by decide) (by decide) (hk1 hn l59) (by decide) (by decide) ?_
  obtain ⟨h61, e62⟩ : ∃ z, z = h56 ++ [(.inl (1, 4, .inl (fun _ => 0)))] := ⟨_, rfl⟩
  refine J_w e62.symm ?_
  refine J_cr (v := n0 + 18) l59 ?_
  have f63 := a_push e62 l59
  have l64 : h61.length = n0 + 19 := l_push e62 l59 rfl
  have r65 := r_push (a := n0 + 18) e62 l59
  have f66 := (r65 (o) (Nat.lt_of_lt_of_le hol (Nat.le_add_right _ _)) (Nat.ne_of_lt (Nat.lt_of_lt_of_le hol (Nat.le_add_right _ _)))).trans f58
  obtain ⟨h67, e68⟩ : ∃ z, z = h61.set (o) (.inr (0, [.ref (n0 + 0), .ref (n0 + 13), .int (-1), .int (-1), .long 0, .int 0, .ref (n0 + 18), .null, .null, .null])) := ⟨_, rfl⟩
  refine J_putF (C := RX0) (T := TX0) (Z := 10) (ci := 0) (f := 6) (ty0 := tyX0) dX0_init_50 inG0 rfl tyX0_ok nmX0 (by decide) k396 rfl rfl rfl rfl f66 (Nat.le_of_ble_eq_true rfl) (fun _ _ => ⟨rfl, rfl⟩) e68.symm ?_
  have f69 := a_set e68 f66
  have l70 : h67.length = n0 + 19 := l_set e68 l64
  have r71 := r_set (N := n0 + 19) e68
  refine J_aload_n (i := 0) (j := 0) dX0_init_53 rfl rfl ?_
  refine J_iconst (v := 4) dX0_init_54 (by decide) ?_
  refine J_newa1 (Z := 4) dX0_init_55 ka1 (by decide) (by decide) (by decide) (hk1 hn l70) (by decide) (by decide) ?_
  obtain ⟨h72, e73⟩ : ∃ z, z = h67 ++ [(.inl (1, 4, .inl (fun _ => 0)))] := ⟨_, rfl⟩
  refine J_w e73.symm ?_
  refine J_cr (v := n0 + 19) l70 ?_
  have f74 := a_push e73 l70
  have l75 : h72.length = n0 + 20 := l_push e73 l70 rfl
  have r76 := r_push (a := n0 + 19) e73 l70
  have f77 := (r76 (o) (Nat.lt_of_lt_of_le hol (Nat.le_add_right _ _)) (Nat.ne_of_lt (Nat.lt_of_lt_of_le hol (Nat.le_add_right _ _)))).trans f69
  obtain ⟨h78, e79⟩ : ∃ z, z = h72.set (o) (.inr (0, [.ref (n0 + 0), .ref (n0 + 13), .int (-1), .int (-1), .long 0, .int 0, .ref (n0 + 18), .ref (n0 + 19), .null, .null])) := ⟨_, rfl⟩
  refine J_putF (C := RX0) (T := TX0) (Z := 10) (ci := 0) (f := 7) (ty0 := tyX0) dX0_init_57 inG0 rfl tyX0_ok nmX0 (by decide) k397 rfl rfl rfl rfl f77 (Nat.le_of_ble_eq_true rfl) (fun _ _ => ⟨rfl, rfl⟩) e79.symm ?_
  have f80 := a_set e79 f77
  have l81 : h78.length = n0 + 20 := l_set e79 l75
  have r82 := r_set (N := n0 + 20) e79
  refine J_aload_n (i := 0) (j := 0) dX0_init_60 rfl rfl ?_
  refine J_iconst (v := 4) dX0_init_61 (by decide) ?_
  refine J_newa1 (Z := 4) dX0_init_62 ka1 (by decide) (by decide) (by decide) (hk1 hn l81) (by decide) (by decide) ?_
  obtain ⟨h83, e84⟩ : ∃ z, z = h78 ++ [(.inl (1, 4, .inl (fun _ => 0)))] := ⟨_, rfl⟩
  refine J_w e84.symm ?_
  refine J_cr (v := n0 + 20) l81 ?_
  have f85 := a_push e84 l81
  have l86 : h83.length = n0 + 21 := l_push e84 l81 rfl
  have r87 := r_push (a := n0 + 20) e84 l81
  have f88 := (r87 (o) (Nat.lt_of_lt_of_le hol (Nat.le_add_right _ _)) (Nat.ne_of_lt (Nat.lt_of_lt_of_le hol (Nat.le_add_right _ _)))).trans f80
  obtain ⟨h89, e90⟩ : ∃ z, z = h83.set (o) (.inr (0, [.ref (n0 + 0), .ref (n0 + 13), .int (-1), .int (-1), .long 0, .int 0, .ref (n0 + 18), .ref (n0 + 19), .ref (n0 + 20), .null])) := ⟨_, rfl⟩
  refine J_putF (C := RX0) (T := TX0) (Z := 10) (ci := 0) (f := 8) (ty0 := tyX0) dX0_init_64 inG0 rfl tyX0_ok nmX0 (by decide) k398 rfl rfl rfl rfl f88 (Nat.le_of_ble_eq_true rfl) (fun _ _ => ⟨rfl, rfl⟩) e90.symm ?_
  have f91 := a_set e90 f88
  have l92 : h89.length = n0 + 21 := l_set e90 l86
  have r93 := r_set (N := n0 + 21) e90
  refine J_aload_n (i := 0) (j := 0) dX0_init_67 rfl rfl ?_
  refine J_bipush (v := 16) dX0_init_68 (by decide) ?_
  refine J_newa2 (Z := 16) dX0_init_70 ka2 (by decide) (by decide) (by decide) (hk1 hn l92) (by decide) (by decide) ?_
  obtain ⟨h94, e95⟩ : ∃ z, z = h89 ++ [(.inl (2, 16, .inr (.inl (fun _ => 0))))] := ⟨_, rfl⟩
  refine J_w e95.symm ?_
  refine J_cr (v := n0 + 21) l92 ?_
  have f96 := a_push e95 l92
  have l97 : h94.length = n0 + 22 := l_push e95 l92 rfl
  have r98 := r_push (a := n0 + 21) e95 l92
  have f99 := (r98 (o) (Nat.lt_of_lt_of_le hol (Nat.le_add_right _ _)) (Nat.ne_of_lt (Nat.lt_of_lt_of_le hol (Nat.le_add_right _ _)))).trans f91
  obtain ⟨h100, e101⟩ : ∃ z, z = h94.set (o) (.inr (0, [.ref (n0 + 0), .ref (n0 + 13), .int (-1), .int (-1), .long 0, .int 0, .ref (n0 + 18), .ref (n0 + 19), .ref (n0 + 20), .ref (n0 + 21)])) := ⟨_, rfl⟩
  refine J_putF (C := RX0) (T := TX0) (Z := 10) (ci := 0) (f := 9) (ty0 := tyX0) dX0_init_72 inG0 rfl tyX0_ok nmX0 (by decide) k399 rfl rfl rfl rfl f99 (Nat.le_of_ble_eq_true rfl) (fun _ _ => ⟨rfl, rfl⟩) e101.symm ?_
  have f102 := a_set e101 f99
  have l103 : h100.length = n0 + 22 := l_set e101 l97
  have r104 := r_set (N := n0 + 22) e101
  have f105 := (r20 (n0 + 0) (Nat.add_lt_add_left (by decide) n0) (Nat.ne_of_gt (Nat.lt_of_lt_of_le hol (Nat.le_add_right _ _)))).trans f10
  have f106 := (r25 (n0 + 0) (Nat.add_lt_add_left (by decide) n0) (fun q => absurd (Nat.add_left_cancel q) (by decide))).trans f105
  have f107 := (r32 (n0 + 0) (Nat.add_lt_add_left (by decide) n0) (fun q => absurd (Nat.add_left_cancel q) (by decide))).trans f106
  have f108 := (r40 (n0 + 0) (Nat.add_lt_add_left (by decide) n0) (Nat.ne_of_gt (Nat.lt_of_lt_of_le hol (Nat.le_add_right _ _)))).trans f107
  have f109 := (r45 (n0 + 0) (Nat.add_lt_add_left (by decide) n0) (Nat.ne_of_gt (Nat.lt_of_lt_of_le hol (Nat.le_add_right _ _)))).trans f108
  have f110 := (r50 (n0 + 0) (Nat.add_lt_add_left (by decide) n0) (Nat.ne_of_gt (Nat.lt_of_lt_of_le hol (Nat.le_add_right _ _)))).trans f109
  have f111 := (r55 (n0 + 0) (Nat.add_lt_add_left (by decide) n0) (Nat.ne_of_gt (Nat.lt_of_lt_of_le hol (Nat.le_add_right _ _)))).trans f110
  have f112 := (r60 (n0 + 0) (Nat.add_lt_add_left (by decide) n0) (Nat.ne_of_gt (Nat.lt_of_lt_of_le hol (Nat.le_add_right _ _)))).trans f111
  have f113 := (r65 (n0 + 0) (Nat.add_lt_add_left (by decide) n0) (fun q => absurd (Nat.add_left_cancel q) (by decide))).trans f112
  have f114 := (r71 (n0 + 0) (Nat.add_lt_add_left (by decide) n0) (Nat.ne_of_gt (Nat.lt_of_lt_of_le hol (Nat.le_add_right _ _)))).trans f113
  have f115 := (r76 (n0 + 0) (Nat.add_lt_add_left (by decide) n0) (fun q => absurd (Nat.add_left_cancel q) (by decide))).trans f114
  have f116 := (r82 (n0 + 0) (Nat.add_lt_add_left (by decide) n0) (Nat.ne_of_gt (Nat.lt_of_lt_of_le hol (Nat.le_add_right _ _)))).trans f115
  have f117 := (r87 (n0 + 0) (Nat.add_lt_add_left (by decide) n0) (fun q => absurd (Nat.add_left_cancel q) (by decide))).trans f116
  have f118 := (r93 (n0 + 0) (Nat.add_lt_add_left (by decide) n0) (Nat.ne_of_gt (Nat.lt_of_lt_of_le hol (Nat.le_add_right _ _)))).trans f117
  have f119 := (r98 (n0 + 0) (Nat.add_lt_add_left (by decide) n0) (fun q => absurd (Nat.add_left_cancel q) (by decide))).trans f118
  have f120 := (r104 (n0 + 0) (Nat.add_lt_add_left (by decide) n0) (Nat.ne_of_gt (Nat.lt_of_lt_of_le hol (Nat.le_add_right _ _)))).trans f119
  have b121 : At h16 (n0 + 1) (bk2 (n0 + 1)) := At.fr (m := 12) b11 bl2 r20 (bq (by decide)) (Or.inl (Nat.lt_of_lt_of_le hol (Nat.le_add_right _ _)))
  have b122 : At h21 (n0 + 1) (bk2 (n0 + 1)) := At.fr (m := 12) b121 bl2 r25 (bq (by decide)) (Or.inr (bq (by decide)))
  have b123 : At h27 (n0 + 1) (bk2 (n0 + 1)) := At.fr (m := 12) b122 bl2 r32 (bq (by decide)) (Or.inr (bq (by decide)))
  have b124 : At h36 (n0 + 1) (bk2 (n0 + 1)) := At.fr (m := 12) b123 bl2 r40 (bq (by decide)) (Or.inl (Nat.lt_of_lt_of_le hol (Nat.le_add_right _ _)))
  have b125 : At h41 (n0 + 1) (bk2 (n0 + 1)) := At.fr (m := 12) b124 bl2 r45 (bq (by decide)) (Or.inl (Nat.lt_of_lt_of_le hol (Nat.le_add_right _ _)))
  have b126 : At h46 (n0 + 1) (bk2 (n0 + 1)) := At.fr (m := 12) b125 bl2 r50 (bq (by decide)) (Or.inl (Nat.lt_of_lt_of_le hol (Nat.le_add_right _ _)))
  have b127 : At h51 (n0 + 1) (bk2 (n0 + 1)) := At.fr (m := 12) b126 bl2 r55 (bq (by decide)) (Or.inl (Nat.lt_of_lt_of_le hol (Nat.le_add_right _ _)))
  have b128 : At h56 (n0 + 1) (bk2 (n0 + 1)) := At.fr (m := 12) b127 bl2 r60 (bq (by decide)) (Or.inl (Nat.lt_of_lt_of_le hol (Nat.le_add_right _ _)))
  have b129 : At h61 (n0 + 1) (bk2 (n0 + 1)) := At.fr (m := 12) b128 bl2 r65 (bq (by decide)) (Or.inr (bq (by decide)))
  have b130 : At h67 (n0 + 1) (bk2 (n0 + 1)) := At.fr (m := 12) b129 bl2 r71 (bq (by decide)) (Or.inl (Nat.lt_of_lt_of_le hol (Nat.le_add_right _ _)))
  have b131 : At h72 (n0 + 1) (bk2 (n0 + 1)) := At.fr (m := 12) b130 bl2 r76 (bq (by decide)) (Or.inr (bq (by decide)))
  have b132 : At h78 (n0 + 1) (bk2 (n0 + 1)) := At.fr (m := 12) b131 bl2 r82 (bq (by decide)) (Or.inl (Nat.lt_of_lt_of_le hol (Nat.le_add_right _ _)))
  have b133 : At h83 (n0 + 1) (bk2 (n0 + 1)) := At.fr (m := 12) b132 bl2 r87 (bq (by decide)) (Or.inr (bq (by decide)))
  have b134 : At h89 (n0 + 1) (bk2 (n0 + 1)) := At.fr (m := 12) b133 bl2 r93 (bq (by decide)) (Or.inl (Nat.lt_of_lt_of_le hol (Nat.le_add_right _ _)))
  have b135 : At h94 (n0 + 1) (bk2 (n0 + 1)) := At.fr (m := 12) b134 bl2 r98 (bq (by decide)) (Or.inr (bq (by decide)))
  have b136 : At h100 (n0 + 1) (bk2 (n0 + 1)) := At.fr (m := 12) b135 bl2 r104 (bq (by decide)) (Or.inl (Nat.lt_of_lt_of_le hol (Nat.le_add_right _ _)))
  have f137 := (r40 (n0 + 13) (Nat.add_lt_add_left (by decide) n0) (Nat.ne_of_gt (Nat.lt_of_lt_of_le hol (Nat.le_add_right _ _)))).trans f30
  have f138 := (r45 (n0 + 13) (Nat.add_lt_add_left (by decide) n0) (Nat.ne_of_gt (Nat.lt_of_lt_of_le hol (Nat.le_add_right _ _)))).trans f137
  have f139 := (r50 (n0 + 13) (Nat.add_lt_add_left (by decide) n0) (Nat.ne_of_gt (Nat.lt_of_lt_of_le hol (Nat.le_add_right _ _)))).trans f138
  have f140 := (r55 (n0 + 13) (Nat.add_lt_add_left (by decide) n0) (Nat.ne_of_gt (Nat.lt_of_lt_of_le hol (Nat.le_add_right _ _)))).trans f139
  have f141 := (r60 (n0 + 13) (Nat.add_lt_add_left (by decide) n0) (Nat.ne_of_gt (Nat.lt_of_lt_of_le hol (Nat.le_add_right _ _)))).trans f140
  have f142 := (r65 (n0 + 13) (Nat.add_lt_add_left (by decide) n0) (fun q => absurd (Nat.add_left_cancel q) (by decide))).trans f141
  have f143 := (r71 (n0 + 13) (Nat.add_lt_add_left (by decide) n0) (Nat.ne_of_gt (Nat.lt_of_lt_of_le hol (Nat.le_add_right _ _)))).trans f142
  have f144 := (r76 (n0 + 13) (Nat.add_lt_add_left (by decide) n0) (fun q => absurd (Nat.add_left_cancel q) (by decide))).trans f143
  have f145 := (r82 (n0 + 13) (Nat.add_lt_add_left (by decide) n0) (Nat.ne_of_gt (Nat.lt_of_lt_of_le hol (Nat.le_add_right _ _)))).trans f144
  have f146 := (r87 (n0 + 13) (Nat.add_lt_add_left (by decide) n0) (fun q => absurd (Nat.add_left_cancel q) (by decide))).trans f145
  have f147 := (r93 (n0 + 13) (Nat.add_lt_add_left (by decide) n0) (Nat.ne_of_gt (Nat.lt_of_lt_of_le hol (Nat.le_add_right _ _)))).trans f146
  have f148 := (r98 (n0 + 13) (Nat.add_lt_add_left (by decide) n0) (fun q => absurd (Nat.add_left_cancel q) (by decide))).trans f147
  have f149 := (r104 (n0 + 13) (Nat.add_lt_add_left (by decide) n0) (Nat.ne_of_gt (Nat.lt_of_lt_of_le hol (Nat.le_add_right _ _)))).trans f148
  have b150 : At h36 (n0 + 14) (bk1 (n0 + 14)) := At.fr (m := 4) b31 bl1 r40 (bq (by decide)) (Or.inl (Nat.lt_of_lt_of_le hol (Nat.le_add_right _ _)))
  have b151 : At h41 (n0 + 14) (bk1 (n0 + 14)) := At.fr (m := 4) b150 bl1 r45 (bq (by decide)) (Or.inl (Nat.lt_of_lt_of_le hol (Nat.le_add_right _ _)))
  have b152 : At h46 (n0 + 14) (bk1 (n0 + 14)) := At.fr (m := 4) b151 bl1 r50 (bq (by decide)) (Or.inl (Nat.lt_of_lt_of_le hol (Nat.le_add_right _ _)))
  have b153 : At h51 (n0 + 14) (bk1 (n0 + 14)) := At.fr (m := 4) b152 bl1 r55 (bq (by decide)) (Or.inl (Nat.lt_of_lt_of_le hol (Nat.le_add_right _ _)))
  have b154 : At h56 (n0 + 14) (bk1 (n0 + 14)) := At.fr (m := 4) b153 bl1 r60 (bq (by decide)) (Or.inl (Nat.lt_of_lt_of_le hol (Nat.le_add_right _ _)))
  have b155 : At h61 (n0 + 14) (bk1 (n0 + 14)) := At.fr (m := 4) b154 bl1 r65 (bq (by decide)) (Or.inr (bq (by decide)))
  have b156 : At h67 (n0 + 14) (bk1 (n0 + 14)) := At.fr (m := 4) b155 bl1 r71 (bq (by decide)) (Or.inl (Nat.lt_of_lt_of_le hol (Nat.le_add_right _ _)))
  have b157 : At h72 (n0 + 14) (bk1 (n0 + 14)) := At.fr (m := 4) b156 bl1 r76 (bq (by decide)) (Or.inr (bq (by decide)))
  have b158 : At h78 (n0 + 14) (bk1 (n0 + 14)) := At.fr (m := 4) b157 bl1 r82 (bq (by decide)) (Or.inl (Nat.lt_of_lt_of_le hol (Nat.le_add_right _ _)))
  have b159 : At h83 (n0 + 14) (bk1 (n0 + 14)) := At.fr (m := 4) b158 bl1 r87 (bq (by decide)) (Or.inr (bq (by decide)))
  have b160 : At h89 (n0 + 14) (bk1 (n0 + 14)) := At.fr (m := 4) b159 bl1 r93 (bq (by decide)) (Or.inl (Nat.lt_of_lt_of_le hol (Nat.le_add_right _ _)))
  have b161 : At h94 (n0 + 14) (bk1 (n0 + 14)) := At.fr (m := 4) b160 bl1 r98 (bq (by decide)) (Or.inr (bq (by decide)))
  have b162 : At h100 (n0 + 14) (bk1 (n0 + 14)) := At.fr (m := 4) b161 bl1 r104 (bq (by decide)) (Or.inl (Nat.lt_of_lt_of_le hol (Nat.le_add_right _ _)))
  have f163 := (r71 (n0 + 18) (Nat.add_lt_add_left (by decide) n0) (Nat.ne_of_gt (Nat.lt_of_lt_of_le hol (Nat.le_add_right _ _)))).trans f63
  have f164 := (r76 (n0 + 18) (Nat.add_lt_add_left (by decide) n0) (fun q => absurd (Nat.add_left_cancel q) (by decide))).trans f163
  have f165 := (r82 (n0 + 18) (Nat.add_lt_add_left (by decide) n0) (Nat.ne_of_gt (Nat.lt_of_lt_of_le hol (Nat.le_add_right _ _)))).trans f164
  have f166 := (r87 (n0 + 18) (Nat.add_lt_add_left (by decide) n0) (fun q => absurd (Nat.add_left_cancel q) (by decide))).trans f165
  have f167 := (r93 (n0 + 18) (Nat.add_lt_add_left (by decide) n0) (Nat.ne_of_gt (Nat.lt_of_lt_of_le hol (Nat.le_add_right _ _)))).trans f166
  have f168 := (r98 (n0 + 18) (Nat.add_lt_add_left (by decide) n0) (fun q => absurd (Nat.add_left_cancel q) (by decide))).trans f167
  have f169 := (r104 (n0 + 18) (Nat.add_lt_add_left (by decide) n0) (Nat.ne_of_gt (Nat.lt_of_lt_of_le hol (Nat.le_add_right _ _)))).trans f168
  have f170 := (r82 (n0 + 19) (Nat.add_lt_add_left (by decide) n0) (Nat.ne_of_gt (Nat.lt_of_lt_of_le hol (Nat.le_add_right _ _)))).trans f74
  have f171 := (r87 (n0 + 19) (Nat.add_lt_add_left (by decide) n0) (fun q => absurd (Nat.add_left_cancel q) (by decide))).trans f170
  have f172 := (r93 (n0 + 19) (Nat.add_lt_add_left (by decide) n0) (Nat.ne_of_gt (Nat.lt_of_lt_of_le hol (Nat.le_add_right _ _)))).trans f171
  have f173 := (r98 (n0 + 19) (Nat.add_lt_add_left (by decide) n0) (fun q => absurd (Nat.add_left_cancel q) (by decide))).trans f172
  have f174 := (r104 (n0 + 19) (Nat.add_lt_add_left (by decide) n0) (Nat.ne_of_gt (Nat.lt_of_lt_of_le hol (Nat.le_add_right _ _)))).trans f173
  have f175 := (r93 (n0 + 20) (Nat.add_lt_add_left (by decide) n0) (Nat.ne_of_gt (Nat.lt_of_lt_of_le hol (Nat.le_add_right _ _)))).trans f85
  have f176 := (r98 (n0 + 20) (Nat.add_lt_add_left (by decide) n0) (fun q => absurd (Nat.add_left_cancel q) (by decide))).trans f175
  have f177 := (r104 (n0 + 20) (Nat.add_lt_add_left (by decide) n0) (Nat.ne_of_gt (Nat.lt_of_lt_of_le hol (Nat.le_add_right _ _)))).trans f176
  have f178 := (r104 (n0 + 21) (Nat.add_lt_add_left (by decide) n0) (Nat.ne_of_gt (Nat.lt_of_lt_of_le hol (Nat.le_add_right _ _)))).trans f96
  have hfr : ∀ j, j < n0 → j ≠ o → h100[j]? = h[j]? := by
    intro j hj hjo
    rw [r104 j (Nat.lt_of_lt_of_le hj (Nat.le_add_right _ _)) hjo, r98 j (Nat.lt_of_lt_of_le hj (Nat.le_add_right _ _)) (Nat.ne_of_lt (Nat.lt_of_lt_of_le hj (Nat.le_add_right _ _))), r93 j (Nat.lt_of_lt_of_le hj (Nat.le_add_right _ _)) hjo, r87 j (Nat.lt_of_lt_of_le hj (Nat.le_add_right _ _)) (Nat.ne_of_lt (Nat.lt_of_lt_of_le hj (Nat.le_add_right _ _))), r82 j (Nat.lt_of_lt_of_le hj (Nat.le_add_right _ _)) hjo, r76 j (Nat.lt_of_lt_of_le hj (Nat.le_add_right _ _)) (Nat.ne_of_lt (Nat.lt_of_lt_of_le hj (Nat.le_add_right _ _))), r71 j (Nat.lt_of_lt_of_le hj (Nat.le_add_right _ _)) hjo, r65 j (Nat.lt_of_lt_of_le hj (Nat.le_add_right _ _)) (Nat.ne_of_lt (Nat.lt_of_lt_of_le hj (Nat.le_add_right _ _))), r60 j (Nat.lt_of_lt_of_le hj (Nat.le_add_right _ _)) hjo, r55 j (Nat.lt_of_lt_of_le hj (Nat.le_add_right _ _)) hjo, r50 j (Nat.lt_of_lt_of_le hj (Nat.le_add_right _ _)) hjo, r45 j (Nat.lt_of_lt_of_le hj (Nat.le_add_right _ _)) hjo, r40 j (Nat.lt_of_lt_of_le hj (Nat.le_add_right _ _)) hjo, r32 j (Nat.lt_of_lt_of_le hj (Nat.le_add_right _ _)) (Nat.ne_of_lt (Nat.lt_of_lt_of_le hj (Nat.le_add_right _ _))), r25 j (Nat.lt_of_lt_of_le hj (Nat.le_add_right _ _)) (Nat.ne_of_lt (Nat.lt_of_lt_of_le hj (Nat.le_add_right _ _))), r20 j (Nat.lt_of_lt_of_le hj (Nat.le_add_right _ _)) hjo, r12 j (Nat.lt_of_lt_of_le hj (Nat.le_add_right _ _)) (Nat.ne_of_lt (Nat.lt_of_lt_of_le hj (Nat.le_add_right _ _))), r5 j (Nat.lt_of_lt_of_le hj (Nat.le_add_right _ _)) (Nat.ne_of_lt (Nat.lt_of_lt_of_le hj (Nat.le_add_right _ _)))]
  exact J_vret hq dX0_init_75 rfl (hk1 hn l103) (by decide) (by decide) ⟨rfl, l103, f102, (At_cons f120 (At_app bl2 b136 (At_cons f149 (At_app bl1 b162 (At_cons f169 (At_cons f174 (At_cons f177 (At_cons f178 At_nil)))))))), hfr⟩
def ob10 (n : Nat) : MC := (.inr (10, [.ref (n + 0), .ref (n + 26), .ref (n + 27), .ref (n + 28), .ref (n + 42), .ref (n + 48), .ref (n + 52), .ref (n + 55), .ref (n + 56), .ref (n + 78)]))
def bk10 (n : Nat) : List MC := ob7 (n + 1) :: (bk7 (n + 1) ++ ((.inl (5, 3, .inr (.inr (va_up (va_up (va_up (fun _ => none) ((0 : Int32).toNatClampNeg) (some (n + 83))) ((1 : Int32).toNatClampNeg) (some (n + 109))) ((2 : Int32).toNatClampNeg) (some (n + 135)))))) :: ((.inl (3, 3, .inl (fun _ => 0))) :: (ob3 (n + 29) :: (bk3 (n + 29) ++ (ob4 (n + 43) :: (bk4 (n + 43) ++ (ob8 (n + 49) :: (bk8 (n + 49) ++ (ob5 (n + 53) :: (bk5 (n + 53) ++ (ob0 (n + 56) :: (bk0 (n + 56) ++ (ob1 (n + 79) :: (bk1 (n + 79) ++ (ob7 (n + 84) :: (bk7 (n + 84) ++ (ob7 (n + 110) :: (bk7 (n + 110) ++ (ob7 (n + 136) :: (bk7 (n + 136) ++ ([]))))))))))))))))))))))
set_option maxRecDepth 100000 in
theorem bl10 {n : Nat} : (bk10 n).length = 161 := rfl
set_option maxHeartbeats 4000000 in
set_option maxRecDepth 100000 in
theorem c_X10_init {d : Nat} {h : List MC} {o n0 : Nat} (hd : 4 ≤ d) (hn : h.length = n0) (ho : h[o]? = some (.inr (10, [.null, .null, .null, .null, .null, .null, .null, .null, .null, .null]))) : CT con0 d 161 8812 yX10_init cX10_init 2 none [.ref o] h (fun r h2 => r = none ∧ h2.length = n0 + 161 ∧ h2[o]? = some (ob10 n0) ∧ At h2 n0 (bk10 n0) ∧ ∀ j, j < n0 → j ≠ o → h2[j]? = h[j]?) := by
  have hol : o < n0 := by rw [← hn]; exact (List.getElem?_eq_some_iff.mp ho).1
  have hn0 : h.length = n0 + 0 := hn
  refine CT_of (by decide) (Nat.le_of_ble_eq_true rfl) (fun x hq => ?_)
  show J x yX10_init cX10_init 2 none d 161 8812 h.length 0 [(0, .ref o)] [] h 0 0
  refine J_aload_n (i := 0) (j := 0) dX10_init_0 rfl rfl ?_
  refine J_obj dX10_init_1 k112 k113 k114 (Nat.le_trans (by decide) hd) (Nat.le_of_ble_eq_true rfl) ?_
  refine J_aload_n (i := 0) (j := 0) dX10_init_4 rfl rfl ?_
  refine J_new (C := RX7) (T := TX7) (Z := 8) (ci := 7) (fs := [.null, .int 0, .int 0, .int 0, .null, .int 0, .null, .int 0]) (ty0 := tyX7) dX10_init_5 inG7 rfl tyX7_ok k115 k116 k88 fsX7 (hk1 hn hn0) (by decide) (by decide) ?_
  obtain ⟨h1, e2⟩ : ∃ z, z = h ++ [(.inr (7, [.null, .int 0, .int 0, .int 0, .null, .int 0, .null, .int 0]))] := ⟨_, rfl⟩
  refine J_w e2.symm ?_
  refine J_cr (v := n0 + 0) hn0 ?_
  have f3 := a_push e2 hn0
  have l4 : h1.length = n0 + 1 := l_push e2 hn0 rfl
  have r5 := r_push (a := n0 + 0) e2 hn0
  refine J_dup dX10_init_8 rfl ?_
  refine J_callI (As := []) (rest := [.ref (n0 + 0), .ref o]) dX10_init_9 (c_X7_init (d := 2) (h := h1) (o := n0 + 0) (n0 := n0 + 1) (by decide) l4 f3) hq.n k117 k118 rfl rfl k88 k119 np_X7_init (Nat.le_trans (by decide) hd) (by decide) (by decide) (by decide) (hk1 hn l4) rfl (Nat.le_of_ble_eq_true rfl) (fun r6 h7 p8 => ?_)
  obtain ⟨rfl, l9, f10, b11, r12⟩ := p8
  have l13 : h7.length = n0 + 26 := l9
  have f14 := (r5 (o) (Nat.lt_of_lt_of_le hol (Nat.le_add_right _ _)) (Nat.ne_of_lt (Nat.lt_of_lt_of_le hol (Nat.le_add_right _ _)))).trans ho
  have f15 := (r12 (o) (Nat.lt_of_lt_of_le hol (Nat.le_add_right _ _)) (Nat.ne_of_lt (Nat.lt_of_lt_of_le hol (Nat.le_add_right _ _)))).trans f14
  obtain ⟨h16, e17⟩ : ∃ z, z = h7.set (o) (.inr (10, [.ref (n0 + 0), .null, .null, .null, .null, .null, .null, .null, .null, .null])) := ⟨_, rfl⟩
  refine J_putF (C := RX10) (T := TX10) (Z := 10) (ci := 10) (f := 0) (ty0 := tyX10) dX10_init_12 inG10 rfl tyX10_ok nmX10 (by decide) k423 rfl rfl rfl rfl f15 (Nat.le_of_ble_eq_true rfl) (fun _ _ => ⟨rfl, rfl⟩) e17.symm ?_
  have f18 := a_set e17 f15
  have l19 : h16.length = n0 + 26 := l_set e17 l13
  have r20 := r_set (N := n0 + 26) e17
  refine J_aload_n (i := 0) (j := 0) dX10_init_15 rfl rfl ?_
  refine J_iconst (v := 3) dX10_init_16 (by decide) ?_
  refine J_newq (t := 5) (Z := 3) dX10_init_17 k115 ko5 (fun _ => rfl) (by decide) (by decide) (by decide) (hk1 hn l19) (by decide) (by decide) ?_
  obtain ⟨h21, e22⟩ : ∃ z, z = h16 ++ [(.inl (5, 3, .inr (.inr (fun _ => none))))] := ⟨_, rfl⟩
  refine J_w e22.symm ?_
  refine J_cr (v := n0 + 26) l19 ?_
  have f23 := a_push e22 l19
  have l24 : h21.length = n0 + 27 := l_push e22 l19 rfl
  have r25 := r_push (a := n0 + 26) e22 l19
  have f26 := (r25 (o) (Nat.lt_of_lt_of_le hol (Nat.le_add_right _ _)) (Nat.ne_of_lt (Nat.lt_of_lt_of_le hol (Nat.le_add_right _ _)))).trans f18
  obtain ⟨h27, e28⟩ : ∃ z, z = h21.set (o) (.inr (10, [.ref (n0 + 0), .ref (n0 + 26), .null, .null, .null, .null, .null, .null, .null, .null])) := ⟨_, rfl⟩
  refine J_putF (C := RX10) (T := TX10) (Z := 10) (ci := 10) (f := 1) (ty0 := tyX10) dX10_init_20 inG10 rfl tyX10_ok nmX10 (by decide) k424 rfl rfl rfl rfl f26 (Nat.le_of_ble_eq_true rfl) (fun _ _ => ⟨rfl, rfl⟩) e28.symm ?_
  have f29 := a_set e28 f26
  have l30 : h27.length = n0 + 27 := l_set e28 l24
  have r31 := r_set (N := n0 + 27) e28
  refine J_aload_n (i := 0) (j := 0) dX10_init_23 rfl rfl ?_
  refine J_iconst (v := 3) dX10_init_24 (by decide) ?_
  refine J_newa3 (Z := 3) dX10_init_25 ka3 (by decide) (by decide) (by decide) (hk1 hn l30) (by decide) (by decide) ?_
  obtain ⟨h32, e33⟩ : ∃ z, z = h27 ++ [(.inl (3, 3, .inl (fun _ => 0)))] := ⟨_, rfl⟩
  refine J_w e33.symm ?_
  refine J_cr (v := n0 + 27) l30 ?_
  have f34 := a_push e33 l30
  have l35 : h32.length = n0 + 28 := l_push e33 l30 rfl
  have r36 := r_push (a := n0 + 27) e33 l30
  have f37 := (r36 (o) (Nat.lt_of_lt_of_le hol (Nat.le_add_right _ _)) (Nat.ne_of_lt (Nat.lt_of_lt_of_le hol (Nat.le_add_right _ _)))).trans f29
  obtain ⟨h38, e39⟩ : ∃ z, z = h32.set (o) (.inr (10, [.ref (n0 + 0), .ref (n0 + 26), .ref (n0 + 27), .null, .null, .null, .null, .null, .null, .null])) := ⟨_, rfl⟩
  refine J_putF (C := RX10) (T := TX10) (Z := 10) (ci := 10) (f := 2) (ty0 := tyX10) dX10_init_27 inG10 rfl tyX10_ok nmX10 (by decide) k425 rfl rfl rfl rfl f37 (Nat.le_of_ble_eq_true rfl) (fun _ _ => ⟨rfl, rfl⟩) e39.symm ?_
  have f40 := a_set e39 f37
  have l41 : h38.length = n0 + 28 := l_set e39 l35
  have r42 := r_set (N := n0 + 28) e39
  refine J_aload_n (i := 0) (j := 0) dX10_init_30 rfl rfl ?_
  refine J_new (C := RX3) (T := TX3) (Z := 7) (ci := 3) (fs := [.null, .null, .null, .null, .null, .int 0, .int 0]) (ty0 := tyX3) dX10_init_31 inG3 rfl tyX3_ok k220 k221 k91 fsX3 (hk1 hn l41) (by decide) (by decide) ?_
  obtain ⟨h43, e44⟩ : ∃ z, z = h38 ++ [(.inr (3, [.null, .null, .null, .null, .null, .int 0, .int 0]))] := ⟨_, rfl⟩
  refine J_w e44.symm ?_
  refine J_cr (v := n0 + 28) l41 ?_
  have f45 := a_push e44 l41
  have l46 : h43.length = n0 + 29 := l_push e44 l41 rfl
  have r47 := r_push (a := n0 + 28) e44 l41
  refine J_dup dX10_init_34 rfl ?_
  refine J_callIN (As := []) (rest := [.ref (n0 + 28), .ref o]) dX10_init_35 (c_X3_init (d := 2) (h := h43) (o := n0 + 28) (n0 := n0 + 29) (by decide) l46 f45) hq.n k222 k223 rfl rfl k91 k224 np_X3_init (Nat.le_trans (by decide) hd) (by decide) (by decide) (by decide) (hk1 hn l46) rfl (Nat.le_of_ble_eq_true rfl) (fun r48 h49 p50 => ?_)
  obtain ⟨rfl, l51, f52, b53, r54⟩ := p50
  have l55 : h49.length = n0 + 42 := l51
  have f56 := (r47 (o) (Nat.lt_of_lt_of_le hol (Nat.le_add_right _ _)) (Nat.ne_of_lt (Nat.lt_of_lt_of_le hol (Nat.le_add_right _ _)))).trans f40
  have f57 := (r54 (o) (Nat.lt_of_lt_of_le hol (Nat.le_add_right _ _)) (Nat.ne_of_lt (Nat.lt_of_lt_of_le hol (Nat.le_add_right _ _)))).trans f56
  obtain ⟨h58, e59⟩ : ∃ z, z = h49.set (o) (.inr (10, [.ref (n0 + 0), .ref (n0 + 26), .ref (n0 + 27), .ref (n0 + 28), .null, .null, .null, .null, .null, .null])) := ⟨_, rfl⟩
  refine J_putF (C := RX10) (T := TX10) (Z := 10) (ci := 10) (f := 3) (ty0 := tyX10) dX10_init_38 inG10 rfl tyX10_ok nmX10 (by decide) k426 rfl rfl rfl rfl f57 (Nat.le_of_ble_eq_true rfl) (fun _ _ => ⟨rfl, rfl⟩) e59.symm ?_
  have f60 := a_set e59 f57
  have l61 : h58.length = n0 + 42 := l_set e59 l55
  have r62 := r_set (N := n0 + 42) e59
  refine J_aload_n (i := 0) (j := 0) dX10_init_41 rfl rfl ?_
  refine J_new (C := RX4) (T := TX4) (Z := 4) (ci := 4) (fs := [.null, .int 0, .int 0, .int 0]) (ty0 := tyX4) dX10_init_42 inG4 rfl tyX4_ok k286 k287 k93 fsX4 (hk1 hn l61) (by decide) (by decide) ?_
  obtain ⟨h63, e64⟩ : ∃ z, z = h58 ++ [(.inr (4, [.null, .int 0, .int 0, .int 0]))] := ⟨_, rfl⟩
  refine J_w e64.symm ?_
  refine J_cr (v := n0 + 42) l61 ?_
  have f65 := a_push e64 l61
  have l66 : h63.length = n0 + 43 := l_push e64 l61 rfl
  have r67 := r_push (a := n0 + 42) e64 l61
  refine J_dup dX10_init_45 rfl ?_
  refine J_callIN (As := []) (rest := [.ref (n0 + 42), .ref o]) dX10_init_46 (c_X4_init (d := 2) (h := h63) (o := n0 + 42) (n0 := n0 + 43) (by decide) l66 f65) hq.n k288 k289 rfl rfl k93 k290 np_X4_init (Nat.le_trans (by decide) hd) (by decide) (by decide) (by decide) (hk1 hn l66) rfl (Nat.le_of_ble_eq_true rfl) (fun r68 h69 p70 => ?_)
  obtain ⟨rfl, l71, f72, b73, r74⟩ := p70
  have l75 : h69.length = n0 + 48 := l71
  have f76 := (r67 (o) (Nat.lt_of_lt_of_le hol (Nat.le_add_right _ _)) (Nat.ne_of_lt (Nat.lt_of_lt_of_le hol (Nat.le_add_right _ _)))).trans f60
  have f77 := (r74 (o) (Nat.lt_of_lt_of_le hol (Nat.le_add_right _ _)) (Nat.ne_of_lt (Nat.lt_of_lt_of_le hol (Nat.le_add_right _ _)))).trans f76
  obtain ⟨h78, e79⟩ : ∃ z, z = h69.set (o) (.inr (10, [.ref (n0 + 0), .ref (n0 + 26), .ref (n0 + 27), .ref (n0 + 28), .ref (n0 + 42), .null, .null, .null, .null, .null])) := ⟨_, rfl⟩
  refine J_putF (C := RX10) (T := TX10) (Z := 10) (ci := 10) (f := 4) (ty0 := tyX10) dX10_init_49 inG10 rfl tyX10_ok nmX10 (by decide) k427 rfl rfl rfl rfl f77 (Nat.le_of_ble_eq_true rfl) (fun _ _ => ⟨rfl, rfl⟩) e79.symm ?_
  have f80 := a_set e79 f77
  have l81 : h78.length = n0 + 48 := l_set e79 l75
  have r82 := r_set (N := n0 + 48) e79
  refine J_aload_n (i := 0) (j := 0) dX10_init_52 rfl rfl ?_
  refine J_new (C := RX8) (T := TX8) (Z := 4) (ci := 8) (fs := [.int 0, .null, .null, .null]) (ty0 := tyX8) dX10_init_53 inG8 rfl tyX8_ok k311 k163 k90 fsX8 (hk1 hn l81) (by decide) (by decide) ?_
  obtain ⟨h83, e84⟩ : ∃ z, z = h78 ++ [(.inr (8, [.int 0, .null, .null, .null]))] := ⟨_, rfl⟩
  refine J_w e84.symm ?_
  refine J_cr (v := n0 + 48) l81 ?_
  have f85 := a_push e84 l81
  have l86 : h83.length = n0 + 49 := l_push e84 l81 rfl
  have r87 := r_push (a := n0 + 48) e84 l81
  refine J_dup dX10_init_56 rfl ?_
  refine J_callIN (As := []) (rest := [.ref (n0 + 48), .ref o]) dX10_init_57 (c_X8_init (d := 1) (h := h83) (o := n0 + 48) (n0 := n0 + 49) (by decide) l86 f85) hq.n k312 k165 rfl rfl k90 k166 np_X8_init (Nat.le_trans (by decide) hd) (by decide) (by decide) (by decide) (hk1 hn l86) rfl (Nat.le_of_ble_eq_true rfl) (fun r88 h89 p90 => ?_)
  obtain ⟨rfl, l91, f92, b93, r94⟩ := p90
  have l95 : h89.length = n0 + 52 := l91
  have f96 := (r87 (o) (Nat.lt_of_lt_of_le hol (Nat.le_add_right _ _)) (Nat.ne_of_lt (Nat.lt_of_lt_of_le hol (Nat.le_add_right _ _)))).trans f80
  have f97 := (r94 (o) (Nat.lt_of_lt_of_le hol (Nat.le_add_right _ _)) (Nat.ne_of_lt (Nat.lt_of_lt_of_le hol (Nat.le_add_right _ _)))).trans f96
  obtain ⟨h98, e99⟩ : ∃ z, z = h89.set (o) (.inr (10, [.ref (n0 + 0), .ref (n0 + 26), .ref (n0 + 27), .ref (n0 + 28), .ref (n0 + 42), .ref (n0 + 48), .null, .null, .null, .null])) := ⟨_, rfl⟩
  refine J_putF (C := RX10) (T := TX10) (Z := 10) (ci := 10) (f := 5) (ty0 := tyX10) dX10_init_60 inG10 rfl tyX10_ok nmX10 (by decide) k428 rfl rfl rfl rfl f97 (Nat.le_of_ble_eq_true rfl) (fun _ _ => ⟨rfl, rfl⟩) e99.symm ?_
  have f100 := a_set e99 f97
  have l101 : h98.length = n0 + 52 := l_set e99 l95
  have r102 := r_set (N := n0 + 52) e99
  refine J_aload_n (i := 0) (j := 0) dX10_init_63 rfl rfl ?_
  refine J_new (C := RX5) (T := TX5) (Z := 7) (ci := 5) (fs := [.int 0, .int 0, .int 0, .int 0, .int 0, .null, .null]) (ty0 := tyX5) dX10_init_64 inG5 rfl tyX5_ok k313 k314 k94 fsX5 (hk1 hn l101) (by decide) (by decide) ?_
  obtain ⟨h103, e104⟩ : ∃ z, z = h98 ++ [(.inr (5, [.int 0, .int 0, .int 0, .int 0, .int 0, .null, .null]))] := ⟨_, rfl⟩
  refine J_w e104.symm ?_
  refine J_cr (v := n0 + 52) l101 ?_
  have f105 := a_push e104 l101
  have l106 : h103.length = n0 + 53 := l_push e104 l101 rfl
  have r107 := r_push (a := n0 + 52) e104 l101
  refine J_dup dX10_init_67 rfl ?_
  refine J_callIN (As := []) (rest := [.ref (n0 + 52), .ref o]) dX10_init_68 (c_X5_init (d := 1) (h := h103) (o := n0 + 52) (n0 := n0 + 53) (by decide) l106 f105) hq.n k315 k316 rfl rfl k94 k317 np_X5_init (Nat.le_trans (by decide) hd) (by decide) (by decide) (by decide) (hk1 hn l106) rfl (Nat.le_of_ble_eq_true rfl) (fun r108 h109 p110 => ?_)
  obtain ⟨rfl, l111, f112, b113, r114⟩ := p110
  have l115 : h109.length = n0 + 55 := l111
  have f116 := (r107 (o) (Nat.lt_of_lt_of_le hol (Nat.le_add_right _ _)) (Nat.ne_of_lt (Nat.lt_of_lt_of_le hol (Nat.le_add_right _ _)))).trans f100
  have f117 := (r114 (o) (Nat.lt_of_lt_of_le hol (Nat.le_add_right _ _)) (Nat.ne_of_lt (Nat.lt_of_lt_of_le hol (Nat.le_add_right _ _)))).trans f116
  obtain ⟨h118, e119⟩ : ∃ z, z = h109.set (o) (.inr (10, [.ref (n0 + 0), .ref (n0 + 26), .ref (n0 + 27), .ref (n0 + 28), .ref (n0 + 42), .ref (n0 + 48), .ref (n0 + 52), .null, .null, .null])) := ⟨_, rfl⟩
  refine J_putF (C := RX10) (T := TX10) (Z := 10) (ci := 10) (f := 6) (ty0 := tyX10) dX10_init_71 inG10 rfl tyX10_ok nmX10 (by decide) k429 rfl rfl rfl rfl f117 (Nat.le_of_ble_eq_true rfl) (fun _ _ => ⟨rfl, rfl⟩) e119.symm ?_
  have f120 := a_set e119 f117
  have l121 : h118.length = n0 + 55 := l_set e119 l115
  have r122 := r_set (N := n0 + 55) e119
  refine J_aload_n (i := 0) (j := 0) dX10_init_74 rfl rfl ?_
  refine J_new (C := RX0) (T := TX0) (Z := 10) (ci := 0) (fs := [.null, .null, .int 0, .int 0, .long 0, .int 0, .null, .null, .null, .null]) (ty0 := tyX0) dX10_init_75 inG0 rfl tyX0_ok k346 k347 k95 fsX0 (hk1 hn l121) (by decide) (by decide) ?_
  obtain ⟨h123, e124⟩ : ∃ z, z = h118 ++ [(.inr (0, [.null, .null, .int 0, .int 0, .long 0, .int 0, .null, .null, .null, .null]))] := ⟨_, rfl⟩
  refine J_w e124.symm ?_
  refine J_cr (v := n0 + 55) l121 ?_
  have f125 := a_push e124 l121
  have l126 : h123.length = n0 + 56 := l_push e124 l121 rfl
  have r127 := r_push (a := n0 + 55) e124 l121
  refine J_dup dX10_init_78 rfl ?_
  refine J_callIN (As := []) (rest := [.ref (n0 + 55), .ref o]) dX10_init_79 (c_X0_init (d := 3) (h := h123) (o := n0 + 55) (n0 := n0 + 56) (by decide) l126 f125) hq.n k348 k349 rfl rfl k95 k350 np_X0_init (Nat.le_trans (by decide) hd) (by decide) (by decide) (by decide) (hk1 hn l126) rfl (Nat.le_of_ble_eq_true rfl) (fun r128 h129 p130 => ?_)
  obtain ⟨rfl, l131, f132, b133, r134⟩ := p130
  have l135 : h129.length = n0 + 78 := l131
  have f136 := (r127 (o) (Nat.lt_of_lt_of_le hol (Nat.le_add_right _ _)) (Nat.ne_of_lt (Nat.lt_of_lt_of_le hol (Nat.le_add_right _ _)))).trans f120
  have f137 := (r134 (o) (Nat.lt_of_lt_of_le hol (Nat.le_add_right _ _)) (Nat.ne_of_lt (Nat.lt_of_lt_of_le hol (Nat.le_add_right _ _)))).trans f136
  obtain ⟨h138, e139⟩ : ∃ z, z = h129.set (o) (.inr (10, [.ref (n0 + 0), .ref (n0 + 26), .ref (n0 + 27), .ref (n0 + 28), .ref (n0 + 42), .ref (n0 + 48), .ref (n0 + 52), .ref (n0 + 55), .null, .null])) := ⟨_, rfl⟩
  refine J_putF (C := RX10) (T := TX10) (Z := 10) (ci := 10) (f := 7) (ty0 := tyX10) dX10_init_82 inG10 rfl tyX10_ok nmX10 (by decide) k430 rfl rfl rfl rfl f137 (Nat.le_of_ble_eq_true rfl) (fun _ _ => ⟨rfl, rfl⟩) e139.symm ?_
  have f140 := a_set e139 f137
  have l141 : h138.length = n0 + 78 := l_set e139 l135
  have r142 := r_set (N := n0 + 78) e139
  refine J_aload_n (i := 0) (j := 0) dX10_init_85 rfl rfl ?_
  refine J_aload_n (i := 0) (j := 0) dX10_init_86 rfl rfl ?_
  refine J_get (C := RX10) (T := TX10) (Z := 10) (ci := 10) (f := 7) dX10_init_87 inG10 rfl (by decide) k430 f140 rfl ?_
  have f143 := (r142 (n0 + 55) (Nat.add_lt_add_left (by decide) n0) (Nat.ne_of_gt (Nat.lt_of_lt_of_le hol (Nat.le_add_right _ _)))).trans f132
  refine J_getN (C := RX0) (T := TX0) (Z := 10) (ci := 0) (f := 0) dX10_init_90 inG0 rfl (by decide) k387 f143 rfl ?_
  obtain ⟨h144, e145⟩ : ∃ z, z = h138.set (o) (.inr (10, [.ref (n0 + 0), .ref (n0 + 26), .ref (n0 + 27), .ref (n0 + 28), .ref (n0 + 42), .ref (n0 + 48), .ref (n0 + 52), .ref (n0 + 55), .ref (n0 + 56), .null])) := ⟨_, rfl⟩
  refine J_putF (C := RX10) (T := TX10) (Z := 10) (ci := 10) (f := 8) (ty0 := tyX10) dX10_init_93 inG10 rfl tyX10_ok nmX10 (by decide) k431 rfl rfl rfl rfl f140 (Nat.le_of_ble_eq_true rfl) (fun _ _ => ⟨rfl, rfl⟩) e145.symm ?_
  have f146 := a_set e145 f140
  have l147 : h144.length = n0 + 78 := l_set e145 l141
  have r148 := r_set (N := n0 + 78) e145
  refine J_aload_n (i := 0) (j := 0) dX10_init_96 rfl rfl ?_
  refine J_new (C := RX1) (T := TX1) (Z := 6) (ci := 1) (fs := [.int 0, .null, .int 0, .null, .null, .null]) (ty0 := tyX1) dX10_init_97 inG1 rfl tyX1_ok k421 k125 k89 fsX1 (hk1 hn l147) (by decide) (by decide) ?_
  obtain ⟨h149, e150⟩ : ∃ z, z = h144 ++ [(.inr (1, [.int 0, .null, .int 0, .null, .null, .null]))] := ⟨_, rfl⟩
  refine J_w e150.symm ?_
  refine J_cr (v := n0 + 78) l147 ?_
  have f151 := a_push e150 l147
  have l152 : h149.length = n0 + 79 := l_push e150 l147 rfl
  have r153 := r_push (a := n0 + 78) e150 l147
  refine J_dup dX10_init_100 rfl ?_
  refine J_callIN (As := []) (rest := [.ref (n0 + 78), .ref o]) dX10_init_101 (c_X1_init (d := 1) (h := h149) (o := n0 + 78) (n0 := n0 + 79) (by decide) l152 f151) hq.n k422 k127 rfl rfl k89 k128 np_X1_init (Nat.le_trans (by decide) hd) (by decide) (by decide) (by decide) (hk1 hn l152) rfl (Nat.le_of_ble_eq_true rfl) (fun r154 h155 p156 => ?_)
  obtain ⟨rfl, l157, f158, b159, r160⟩ := p156
  have l161 : h155.length = n0 + 83 := l157
  have f162 := (r153 (o) (Nat.lt_of_lt_of_le hol (Nat.le_add_right _ _)) (Nat.ne_of_lt (Nat.lt_of_lt_of_le hol (Nat.le_add_right _ _)))).trans f146
  have f163 := (r160 (o) (Nat.lt_of_lt_of_le hol (Nat.le_add_right _ _)) (Nat.ne_of_lt (Nat.lt_of_lt_of_le hol (Nat.le_add_right _ _)))).trans f162
  obtain ⟨h164, e165⟩ : ∃ z, z = h155.set (o) (.inr (10, [.ref (n0 + 0), .ref (n0 + 26), .ref (n0 + 27), .ref (n0 + 28), .ref (n0 + 42), .ref (n0 + 48), .ref (n0 + 52), .ref (n0 + 55), .ref (n0 + 56), .ref (n0 + 78)])) := ⟨_, rfl⟩
  refine J_putF (C := RX10) (T := TX10) (Z := 10) (ci := 10) (f := 9) (ty0 := tyX10) dX10_init_104 inG10 rfl tyX10_ok nmX10 (by decide) k432 rfl rfl rfl rfl f163 (Nat.le_of_ble_eq_true rfl) (fun _ _ => ⟨rfl, rfl⟩) e165.symm ?_
  have f166 := a_set e165 f163
  have l167 : h164.length = n0 + 83 := l_set e165 l161
  have r168 := r_set (N := n0 + 83) e165
  refine J_iconst (v := 0) dX10_init_107 (by decide) ?_
  refine J_istore_n (i := 1) (lw := [(1, .int 0), (0, .ref o)]) dX10_init_108 rfl (by decide) rfl ?_
  refine J_iload_n (i := 1) (j := 0) dX10_init_109 rfl rfl ?_
  refine J_iconst (v := 3) dX10_init_110 (by decide) ?_
  refine J_icmp_ge (tgt := 133) dX10_init_111 (by decide) (fun q => absurd q (by decide)) (fun _ => ?_)
  refine J_aload_n (i := 0) (j := 1) dX10_init_114 rfl rfl ?_
  refine J_get (C := RX10) (T := TX10) (Z := 10) (ci := 10) (f := 1) dX10_init_115 inG10 rfl (by decide) k424 f166 rfl ?_
  refine J_iload_n (i := 1) (j := 0) dX10_init_118 rfl rfl ?_
  refine J_new (C := RX7) (T := TX7) (Z := 8) (ci := 7) (fs := [.null, .int 0, .int 0, .int 0, .null, .int 0, .null, .int 0]) (ty0 := tyX7) dX10_init_119 inG7 rfl tyX7_ok k115 k116 k88 fsX7 (hk1 hn l167) (by decide) (by decide) ?_
  obtain ⟨h169, e170⟩ : ∃ z, z = h164 ++ [(.inr (7, [.null, .int 0, .int 0, .int 0, .null, .int 0, .null, .int 0]))] := ⟨_, rfl⟩
  refine J_w e170.symm ?_
  refine J_cr (v := n0 + 83) l167 ?_
  have f171 := a_push e170 l167
  have l172 : h169.length = n0 + 84 := l_push e170 l167 rfl
  have r173 := r_push (a := n0 + 83) e170 l167
  refine J_dup dX10_init_122 rfl ?_
  refine J_callI (As := []) (rest := [.ref (n0 + 83), .int 0, .ref (n0 + 26)]) dX10_init_123 (c_X7_init (d := 2) (h := h169) (o := n0 + 83) (n0 := n0 + 84) (by decide) l172 f171) hq.n k117 k118 rfl rfl k88 k119 np_X7_init (Nat.le_trans (by decide) hd) (by decide) (by decide) (by decide) (hk1 hn l172) rfl (Nat.le_of_ble_eq_true rfl) (fun r174 h175 p176 => ?_)
  obtain ⟨rfl, l177, f178, b179, r180⟩ := p176
  have l181 : h175.length = n0 + 109 := l177
  have f182 := (r31 (n0 + 26) (Nat.add_lt_add_left (by decide) n0) (Nat.ne_of_gt (Nat.lt_of_lt_of_le hol (Nat.le_add_right _ _)))).trans f23
  have f183 := (r36 (n0 + 26) (Nat.add_lt_add_left (by decide) n0) (fun q => absurd (Nat.add_left_cancel q) (by decide))).trans f182
  have f184 := (r42 (n0 + 26) (Nat.add_lt_add_left (by decide) n0) (Nat.ne_of_gt (Nat.lt_of_lt_of_le hol (Nat.le_add_right _ _)))).trans f183
  have f185 := (r47 (n0 + 26) (Nat.add_lt_add_left (by decide) n0) (fun q => absurd (Nat.add_left_cancel q) (by decide))).trans f184
  have f186 := (r54 (n0 + 26) (Nat.add_lt_add_left (by decide) n0) (fun q => absurd (Nat.add_left_cancel q) (by decide))).trans f185
  have f187 := (r62 (n0 + 26) (Nat.add_lt_add_left (by decide) n0) (Nat.ne_of_gt (Nat.lt_of_lt_of_le hol (Nat.le_add_right _ _)))).trans f186
  have f188 := (r67 (n0 + 26) (Nat.add_lt_add_left (by decide) n0) (fun q => absurd (Nat.add_left_cancel q) (by decide))).trans f187
  have f189 := (r74 (n0 + 26) (Nat.add_lt_add_left (by decide) n0) (fun q => absurd (Nat.add_left_cancel q) (by decide))).trans f188
  have f190 := (r82 (n0 + 26) (Nat.add_lt_add_left (by decide) n0) (Nat.ne_of_gt (Nat.lt_of_lt_of_le hol (Nat.le_add_right _ _)))).trans f189
  have f191 := (r87 (n0 + 26) (Nat.add_lt_add_left (by decide) n0) (fun q => absurd (Nat.add_left_cancel q) (by decide))).trans f190
  have f192 := (r94 (n0 + 26) (Nat.add_lt_add_left (by decide) n0) (fun q => absurd (Nat.add_left_cancel q) (by decide))).trans f191
  have f193 := (r102 (n0 + 26) (Nat.add_lt_add_left (by decide) n0) (Nat.ne_of_gt (Nat.lt_of_lt_of_le hol (Nat.le_add_right _ _)))).trans f192
  have f194 := (r107 (n0 + 26) (Nat.add_lt_add_left (by decide) n0) (fun q => absurd (Nat.add_left_cancel q) (by decide))).trans f193
  have f195 := (r114 (n0 + 26) (Nat.add_lt_add_left (by decide) n0) (fun q => absurd (Nat.add_left_cancel q) (by decide))).trans f194
  have f196 := (r122 (n0 + 26) (Nat.add_lt_add_left (by decide) n0) (Nat.ne_of_gt (Nat.lt_of_lt_of_le hol (Nat.le_add_right _ _)))).trans f195
  have f197 := (r127 (n0 + 26) (Nat.add_lt_add_left (by decide) n0) (fun q => absurd (Nat.add_left_cancel q) (by decide))).trans f196
  have f198 := (r134 (n0 + 26) (Nat.add_lt_add_left (by decide) n0) (fun q => absurd (Nat.add_left_cancel q) (by decide))).trans f197
  have f199 := (r142 (n0 + 26) (Nat.add_lt_add_left (by decide) n0) (Nat.ne_of_gt (Nat.lt_of_lt_of_le hol (Nat.le_add_right _ _)))).trans f198
  have f200 := (r148 (n0 + 26) (Nat.add_lt_add_left (by decide) n0) (Nat.ne_of_gt (Nat.lt_of_lt_of_le hol (Nat.le_add_right _ _)))).trans f199
  have f201 := (r153 (n0 + 26) (Nat.add_lt_add_left (by decide) n0) (fun q => absurd (Nat.add_left_cancel q) (by decide))).trans f200
  have f202 := (r160 (n0 + 26) (Nat.add_lt_add_left (by decide) n0) (fun q => absurd (Nat.add_left_cancel q) (by decide))).trans f201
  have f203 := (r168 (n0 + 26) (Nat.add_lt_add_left (by decide) n0) (Nat.ne_of_gt (Nat.lt_of_lt_of_le hol (Nat.le_add_right _ _)))).trans f202
  have f204 := (r173 (n0 + 26) (Nat.add_lt_add_left (by decide) n0) (fun q => absurd (Nat.add_left_cancel q) (by decide))).trans f203
  have f205 := (r180 (n0 + 26) (Nat.add_lt_add_left (by decide) n0) (fun q => absurd (Nat.add_left_cancel q) (by decide))).trans f204
  obtain ⟨h206, e207⟩ : ∃ z, z = h175.set (n0 + 26) (.inl (5, 3, .inr (.inr (va_up (fun _ => none) ((0 : Int32).toNatClampNeg) (some (n0 + 83)))))) := ⟨_, rfl⟩
  refine J_aast (r := (RX7, TX7, 8)) dX10_init_126 f205 (fun _ => rfl) f178 rfl (vp_c (by decide)) e207.symm ?_
  have f208 := a_set e207 f205
  have l209 : h206.length = n0 + 109 := l_set e207 l181
  have r210 := r_set (N := n0 + 109) e207
  refine J_iinc (i := 1) (j := 0) (v := 1) (lw := [(1, .int 1), (0, .ref o)]) dX10_init_127 rfl (by decide) (by decide) rfl ?_
  refine J_goto (tgt := 109) dX10_init_130 (by decide) ?_
  refine J_iload_n (i := 1) (j := 0) dX10_init_109 rfl rfl ?_
  refine J_iconst (v := 3) dX10_init_110 (by decide) ?_
  refine J_icmp_ge (tgt := 133) dX10_init_111 (by decide) (fun q => absurd q (by decide)) (fun _ => ?_)
  refine J_aload_n (i := 0) (j := 1) dX10_init_114 rfl rfl ?_
  have f211 := (r173 (o) (Nat.lt_of_lt_of_le hol (Nat.le_add_right _ _)) (Nat.ne_of_lt (Nat.lt_of_lt_of_le hol (Nat.le_add_right _ _)))).trans f166
  have f212 := (r180 (o) (Nat.lt_of_lt_of_le hol (Nat.le_add_right _ _)) (Nat.ne_of_lt (Nat.lt_of_lt_of_le hol (Nat.le_add_right _ _)))).trans f211
  have f213 := (r210 (o) (Nat.lt_of_lt_of_le hol (Nat.le_add_right _ _)) (Nat.ne_of_lt (Nat.lt_of_lt_of_le hol (Nat.le_add_right _ _)))).trans f212
  refine J_get (C := RX10) (T := TX10) (Z := 10) (ci := 10) (f := 1) dX10_init_115 inG10 rfl (by decide) k424 f213 rfl ?_
  refine J_iload_n (i := 1) (j := 0) dX10_init_118 rfl rfl ?_
  refine J_new (C := RX7) (T := TX7) (Z := 8) (ci := 7) (fs := [.null, .int 0, .int 0, .int 0, .null, .int 0, .null, .int 0]) (ty0 := tyX7) dX10_init_119 inG7 rfl tyX7_ok k115 k116 k88 fsX7 (hk1 hn l209) (by decide) (by decide) ?_
  obtain ⟨h214, e215⟩ : ∃ z, z = h206 ++ [(.inr (7, [.null, .int 0, .int 0, .int 0, .null, .int 0, .null, .int 0]))] := ⟨_, rfl⟩
  refine J_w e215.symm ?_
  refine J_cr (v := n0 + 109) l209 ?_
  have f216 := a_push e215 l209
  have l217 : h214.length = n0 + 110 := l_push e215 l209 rfl
  have r218 := r_push (a := n0 + 109) e215 l209
  refine J_dup dX10_init_122 rfl ?_
  refine J_callI (As := []) (rest := [.ref (n0 + 109), .int 1, .ref (n0 + 26)]) dX10_init_123 (c_X7_init (d := 2) (h := h214) (o := n0 + 109) (n0 := n0 + 110) (by decide) l217 f216) hq.n k117 k118 rfl rfl k88 k119 np_X7_init (Nat.le_trans (by decide) hd) (by decide) (by decide) (by decide) (hk1 hn l217) rfl (Nat.le_of_ble_eq_true rfl) (fun r219 h220 p221 => ?_)
  obtain ⟨rfl, l222, f223, b224, r225⟩ := p221
  have l226 : h220.length = n0 + 135 := l222
  have f227 := (r218 (n0 + 26) (Nat.add_lt_add_left (by decide) n0) (fun q => absurd (Nat.add_left_cancel q) (by decide))).trans f208
  have f228 := (r225 (n0 + 26) (Nat.add_lt_add_left (by decide) n0) (fun q => absurd (Nat.add_left_cancel q) (by decide))).trans f227
  obtain ⟨h229, e230⟩ : ∃ z, z = h220.set (n0 + 26) (.inl (5, 3, .inr (.inr (va_up (va_up (fun _ => none) ((0 : Int32).toNatClampNeg) (some (n0 + 83))) ((1 : Int32).toNatClampNeg) (some (n0 + 109)))))) := ⟨_, rfl⟩
  refine J_aast (r := (RX7, TX7, 8)) dX10_init_126 f228 (fun _ => rfl) f223 rfl (vp_c (by decide)) e230.symm ?_
  have f231 := a_set e230 f228
  have l232 : h229.length = n0 + 135 := l_set e230 l226
  have r233 := r_set (N := n0 + 135) e230
  refine J_iinc (i := 1) (j := 0) (v := 2) (lw := [(1, .int 2), (0, .ref o)]) dX10_init_127 rfl (by decide) (by decide) rfl ?_
  refine J_goto (tgt := 109) dX10_init_130 (by decide) ?_
  refine J_iload_n (i := 1) (j := 0) dX10_init_109 rfl rfl ?_
  refine J_iconst (v := 3) dX10_init_110 (by decide) ?_
  refine J_icmp_ge (tgt := 133) dX10_init_111 (by decide) (fun q => absurd q (by decide)) (fun _ => ?_)
  refine J_aload_n (i := 0) (j := 1) dX10_init_114 rfl rfl ?_
  have f234 := (r218 (o) (Nat.lt_of_lt_of_le hol (Nat.le_add_right _ _)) (Nat.ne_of_lt (Nat.lt_of_lt_of_le hol (Nat.le_add_right _ _)))).trans f213
  have f235 := (r225 (o) (Nat.lt_of_lt_of_le hol (Nat.le_add_right _ _)) (Nat.ne_of_lt (Nat.lt_of_lt_of_le hol (Nat.le_add_right _ _)))).trans f234
  have f236 := (r233 (o) (Nat.lt_of_lt_of_le hol (Nat.le_add_right _ _)) (Nat.ne_of_lt (Nat.lt_of_lt_of_le hol (Nat.le_add_right _ _)))).trans f235
  refine J_get (C := RX10) (T := TX10) (Z := 10) (ci := 10) (f := 1) dX10_init_115 inG10 rfl (by decide) k424 f236 rfl ?_
  refine J_iload_n (i := 1) (j := 0) dX10_init_118 rfl rfl ?_
  refine J_new (C := RX7) (T := TX7) (Z := 8) (ci := 7) (fs := [.null, .int 0, .int 0, .int 0, .null, .int 0, .null, .int 0]) (ty0 := tyX7) dX10_init_119 inG7 rfl tyX7_ok k115 k116 k88 fsX7 (hk1 hn l232) (by decide) (by decide) ?_
  obtain ⟨h237, e238⟩ : ∃ z, z = h229 ++ [(.inr (7, [.null, .int 0, .int 0, .int 0, .null, .int 0, .null, .int 0]))] := ⟨_, rfl⟩
  refine J_w e238.symm ?_
  refine J_cr (v := n0 + 135) l232 ?_
  have f239 := a_push e238 l232
  have l240 : h237.length = n0 + 136 := l_push e238 l232 rfl
  have r241 := r_push (a := n0 + 135) e238 l232
  refine J_dup dX10_init_122 rfl ?_
  refine J_callI (As := []) (rest := [.ref (n0 + 135), .int 2, .ref (n0 + 26)]) dX10_init_123 (c_X7_init (d := 2) (h := h237) (o := n0 + 135) (n0 := n0 + 136) (by decide) l240 f239) hq.n k117 k118 rfl rfl k88 k119 np_X7_init (Nat.le_trans (by decide) hd) (by decide) (by decide) (by decide) (hk1 hn l240) rfl (Nat.le_of_ble_eq_true rfl) (fun r242 h243 p244 => ?_)
  obtain ⟨rfl, l245, f246, b247, r248⟩ := p244
  have l249 : h243.length = n0 + 161 := l245
  have f250 := (r241 (n0 + 26) (Nat.add_lt_add_left (by decide) n0) (fun q => absurd (Nat.add_left_cancel q) (by decide))).trans f231
  have f251 := (r248 (n0 + 26) (Nat.add_lt_add_left (by decide) n0) (fun q => absurd (Nat.add_left_cancel q) (by decide))).trans f250
  obtain ⟨h252, e253⟩ : ∃ z, z = h243.set (n0 + 26) (.inl (5, 3, .inr (.inr (va_up (va_up (va_up (fun _ => none) ((0 : Int32).toNatClampNeg) (some (n0 + 83))) ((1 : Int32).toNatClampNeg) (some (n0 + 109))) ((2 : Int32).toNatClampNeg) (some (n0 + 135)))))) := ⟨_, rfl⟩
  refine J_aast (r := (RX7, TX7, 8)) dX10_init_126 f251 (fun _ => rfl) f246 rfl (vp_c (by decide)) e253.symm ?_
  have f254 := a_set e253 f251
  have l255 : h252.length = n0 + 161 := l_set e253 l249
  have r256 := r_set (N := n0 + 161) e253
  refine J_iinc (i := 1) (j := 0) (v := 3) (lw := [(1, .int 3), (0, .ref o)]) dX10_init_127 rfl (by decide) (by decide) rfl ?_
  refine J_goto (tgt := 109) dX10_init_130 (by decide) ?_
  refine J_iload_n (i := 1) (j := 0) dX10_init_109 rfl rfl ?_
  refine J_iconst (v := 3) dX10_init_110 (by decide) ?_
  refine J_icmp_ge (tgt := 133) dX10_init_111 (by decide) (fun _ => ?_) (fun q => absurd (by decide) q)
  have f257 := (r241 (o) (Nat.lt_of_lt_of_le hol (Nat.le_add_right _ _)) (Nat.ne_of_lt (Nat.lt_of_lt_of_le hol (Nat.le_add_right _ _)))).trans f236
  have f258 := (r248 (o) (Nat.lt_of_lt_of_le hol (Nat.le_add_right _ _)) (Nat.ne_of_lt (Nat.lt_of_lt_of_le hol (Nat.le_add_right _ _)))).trans f257
  have f259 := (r256 (o) (Nat.lt_of_lt_of_le hol (Nat.le_add_right _ _)) (Nat.ne_of_lt (Nat.lt_of_lt_of_le hol (Nat.le_add_right _ _)))).trans f258
  have f260 := (r20 (n0 + 0) (Nat.add_lt_add_left (by decide) n0) (Nat.ne_of_gt (Nat.lt_of_lt_of_le hol (Nat.le_add_right _ _)))).trans f10
  have f261 := (r25 (n0 + 0) (Nat.add_lt_add_left (by decide) n0) (fun q => absurd (Nat.add_left_cancel q) (by decide))).trans f260
  have f262 := (r31 (n0 + 0) (Nat.add_lt_add_left (by decide) n0) (Nat.ne_of_gt (Nat.lt_of_lt_of_le hol (Nat.le_add_right _ _)))).trans f261
  have f263 := (r36 (n0 + 0) (Nat.add_lt_add_left (by decide) n0) (fun q => absurd (Nat.add_left_cancel q) (by decide))).trans f262
  have f264 := (r42 (n0 + 0) (Nat.add_lt_add_left (by decide) n0) (Nat.ne_of_gt (Nat.lt_of_lt_of_le hol (Nat.le_add_right _ _)))).trans f263
  have f265 := (r47 (n0 + 0) (Nat.add_lt_add_left (by decide) n0) (fun q => absurd (Nat.add_left_cancel q) (by decide))).trans f264
  have f266 := (r54 (n0 + 0) (Nat.add_lt_add_left (by decide) n0) (fun q => absurd (Nat.add_left_cancel q) (by decide))).trans f265
  have f267 := (r62 (n0 + 0) (Nat.add_lt_add_left (by decide) n0) (Nat.ne_of_gt (Nat.lt_of_lt_of_le hol (Nat.le_add_right _ _)))).trans f266
  have f268 := (r67 (n0 + 0) (Nat.add_lt_add_left (by decide) n0) (fun q => absurd (Nat.add_left_cancel q) (by decide))).trans f267
  have f269 := (r74 (n0 + 0) (Nat.add_lt_add_left (by decide) n0) (fun q => absurd (Nat.add_left_cancel q) (by decide))).trans f268
  have f270 := (r82 (n0 + 0) (Nat.add_lt_add_left (by decide) n0) (Nat.ne_of_gt (Nat.lt_of_lt_of_le hol (Nat.le_add_right _ _)))).trans f269
  have f271 := (r87 (n0 + 0) (Nat.add_lt_add_left (by decide) n0) (fun q => absurd (Nat.add_left_cancel q) (by decide))).trans f270
  have f272 := (r94 (n0 + 0) (Nat.add_lt_add_left (by decide) n0) (fun q => absurd (Nat.add_left_cancel q) (by decide))).trans f271
  have f273 := (r102 (n0 + 0) (Nat.add_lt_add_left (by decide) n0) (Nat.ne_of_gt (Nat.lt_of_lt_of_le hol (Nat.le_add_right _ _)))).trans f272
  have f274 := (r107 (n0 + 0) (Nat.add_lt_add_left (by decide) n0) (fun q => absurd (Nat.add_left_cancel q) (by decide))).trans f273
  have f275 := (r114 (n0 + 0) (Nat.add_lt_add_left (by decide) n0) (fun q => absurd (Nat.add_left_cancel q) (by decide))).trans f274
  have f276 := (r122 (n0 + 0) (Nat.add_lt_add_left (by decide) n0) (Nat.ne_of_gt (Nat.lt_of_lt_of_le hol (Nat.le_add_right _ _)))).trans f275
  have f277 := (r127 (n0 + 0) (Nat.add_lt_add_left (by decide) n0) (fun q => absurd (Nat.add_left_cancel q) (by decide))).trans f276
  have f278 := (r134 (n0 + 0) (Nat.add_lt_add_left (by decide) n0) (fun q => absurd (Nat.add_left_cancel q) (by decide))).trans f277
  have f279 := (r142 (n0 + 0) (Nat.add_lt_add_left (by decide) n0) (Nat.ne_of_gt (Nat.lt_of_lt_of_le hol (Nat.le_add_right _ _)))).trans f278
  have f280 := (r148 (n0 + 0) (Nat.add_lt_add_left (by decide) n0) (Nat.ne_of_gt (Nat.lt_of_lt_of_le hol (Nat.le_add_right _ _)))).trans f279
  have f281 := (r153 (n0 + 0) (Nat.add_lt_add_left (by decide) n0) (fun q => absurd (Nat.add_left_cancel q) (by decide))).trans f280
  have f282 := (r160 (n0 + 0) (Nat.add_lt_add_left (by decide) n0) (fun q => absurd (Nat.add_left_cancel q) (by decide))).trans f281
  have f283 := (r168 (n0 + 0) (Nat.add_lt_add_left (by decide) n0) (Nat.ne_of_gt (Nat.lt_of_lt_of_le hol (Nat.le_add_right _ _)))).trans f282
  have f284 := (r173 (n0 + 0) (Nat.add_lt_add_left (by decide) n0) (fun q => absurd (Nat.add_left_cancel q) (by decide))).trans f283
  have f285 := (r180 (n0 + 0) (Nat.add_lt_add_left (by decide) n0) (fun q => absurd (Nat.add_left_cancel q) (by decide))).trans f284
  have f286 := (r210 (n0 + 0) (Nat.add_lt_add_left (by decide) n0) (fun q => absurd (Nat.add_left_cancel q) (by decide))).trans f285
  have f287 := (r218 (n0 + 0) (Nat.add_lt_add_left (by decide) n0) (fun q => absurd (Nat.add_left_cancel q) (by decide))).trans f286
  have f288 := (r225 (n0 + 0) (Nat.add_lt_add_left (by decide) n0) (fun q => absurd (Nat.add_left_cancel q) (by decide))).trans f287
  have f289 := (r233 (n0 + 0) (Nat.add_lt_add_left (by decide) n0) (fun q => absurd (Nat.add_left_cancel q) (by decide))).trans f288
  have f290 := (r241 (n0 + 0) (Nat.add_lt_add_left (by decide) n0) (fun q => absurd (Nat.add_left_cancel q) (by decide))).trans f289
  have f291 := (r248 (n0 + 0) (Nat.add_lt_add_left (by decide) n0) (fun q => absurd (Nat.add_left_cancel q) (by decide))).trans f290
  have f292 := (r256 (n0 + 0) (Nat.add_lt_add_left (by decide) n0) (fun q => absurd (Nat.add_left_cancel q) (by decide))).trans f291
  have b293 : At h16 (n0 + 1) (bk7 (n0 + 1)) := At.fr (m := 25) b11 bl7 r20 (bq (by decide)) (Or.inl (Nat.lt_of_lt_of_le hol (Nat.le_add_right _ _)))
  have b294 : At h21 (n0 + 1) (bk7 (n0 + 1)) := At.fr (m := 25) b293 bl7 r25 (bq (by decide)) (Or.inr (bq (by decide)))
  have b295 : At h27 (n0 + 1) (bk7 (n0 + 1)) := At.fr (m := 25) b294 bl7 r31 (bq (by decide)) (Or.inl (Nat.lt_of_lt_of_le hol (Nat.le_add_right _ _)))
  have b296 : At h32 (n0 + 1) (bk7 (n0 + 1)) := At.fr (m := 25) b295 bl7 r36 (bq (by decide)) (Or.inr (bq (by decide)))
  have b297 : At h38 (n0 + 1) (bk7 (n0 + 1)) := At.fr (m := 25) b296 bl7 r42 (bq (by decide)) (Or.inl (Nat.lt_of_lt_of_le hol (Nat.le_add_right _ _)))
  have b298 : At h43 (n0 + 1) (bk7 (n0 + 1)) := At.fr (m := 25) b297 bl7 r47 (bq (by decide)) (Or.inr (bq (by decide)))
  have b299 : At h49 (n0 + 1) (bk7 (n0 + 1)) := At.fr (m := 25) b298 bl7 r54 (bq (by decide)) (Or.inr (bq (by decide)))
  have b300 : At h58 (n0 + 1) (bk7 (n0 + 1)) := At.fr (m := 25) b299 bl7 r62 (bq (by decide)) (Or.inl (Nat.lt_of_lt_of_le hol (Nat.le_add_right _ _)))
  have b301 : At h63 (n0 + 1) (bk7 (n0 + 1)) := At.fr (m := 25) b300 bl7 r67 (bq (by decide)) (Or.inr (bq (by decide)))
  have b302 : At h69 (n0 + 1) (bk7 (n0 + 1)) := At.fr (m := 25) b301 bl7 r74 (bq (by decide)) (Or.inr (bq (by decide)))
  have b303 : At h78 (n0 + 1) (bk7 (n0 + 1)) := At.fr (m := 25) b302 bl7 r82 (bq (by decide)) (Or.inl (Nat.lt_of_lt_of_le hol (Nat.le_add_right _ _)))
  have b304 : At h83 (n0 + 1) (bk7 (n0 + 1)) := At.fr (m := 25) b303 bl7 r87 (bq (by decide)) (Or.inr (bq (by decide)))
  have b305 : At h89 (n0 + 1) (bk7 (n0 + 1)) := At.fr (m := 25) b304 bl7 r94 (bq (by decide)) (Or.inr (bq (by decide)))
  have b306 : At h98 (n0 + 1) (bk7 (n0 + 1)) := At.fr (m := 25) b305 bl7 r102 (bq (by decide)) (Or.inl (Nat.lt_of_lt_of_le hol (Nat.le_add_right _ _)))
  have b307 : At h103 (n0 + 1) (bk7 (n0 + 1)) := At.fr (m := 25) b306 bl7 r107 (bq (by decide)) (Or.inr (bq (by decide)))
  have b308 : At h109 (n0 + 1) (bk7 (n0 + 1)) := At.fr (m := 25) b307 bl7 r114 (bq (by decide)) (Or.inr (bq (by decide)))
  have b309 : At h118 (n0 + 1) (bk7 (n0 + 1)) := At.fr (m := 25) b308 bl7 r122 (bq (by decide)) (Or.inl (Nat.lt_of_lt_of_le hol (Nat.le_add_right _ _)))
  have b310 : At h123 (n0 + 1) (bk7 (n0 + 1)) := At.fr (m := 25) b309 bl7 r127 (bq (by decide)) (Or.inr (bq (by decide)))
  have b311 : At h129 (n0 + 1) (bk7 (n0 + 1)) := At.fr (m := 25) b310 bl7 r134 (bq (by decide)) (Or.inr (bq (by decide)))
  have b312 : At h138 (n0 + 1) (bk7 (n0 + 1)) := At.fr (m := 25) b311 bl7 r142 (bq (by decide)) (Or.inl (Nat.lt_of_lt_of_le hol (Nat.le_add_right _ _)))
  have b313 : At h144 (n0 + 1) (bk7 (n0 + 1)) := At.fr (m := 25) b312 bl7 r148 (bq (by decide)) (Or.inl (Nat.lt_of_lt_of_le hol (Nat.le_add_right _ _)))
  have b314 : At h149 (n0 + 1) (bk7 (n0 + 1)) := At.fr (m := 25) b313 bl7 r153 (bq (by decide)) (Or.inr (bq (by decide)))
  have b315 : At h155 (n0 + 1) (bk7 (n0 + 1)) := At.fr (m := 25) b314 bl7 r160 (bq (by decide)) (Or.inr (bq (by decide)))
  have b316 : At h164 (n0 + 1) (bk7 (n0 + 1)) := At.fr (m := 25) b315 bl7 r168 (bq (by decide)) (Or.inl (Nat.lt_of_lt_of_le hol (Nat.le_add_right _ _)))
  have b317 : At h169 (n0 + 1) (bk7 (n0 + 1)) := At.fr (m := 25) b316 bl7 r173 (bq (by decide)) (Or.inr (bq (by decide)))
  have b318 : At h175 (n0 + 1) (bk7 (n0 + 1)) := At.fr (m := 25) b317 bl7 r180 (bq (by decide)) (Or.inr (bq (by decide)))
  have b319 : At h206 (n0 + 1) (bk7 (n0 + 1)) := At.fr (m := 25) b318 bl7 r210 (bq (by decide)) (Or.inr (bq (by decide)))
  have b320 : At h214 (n0 + 1) (bk7 (n0 + 1)) := At.fr (m := 25) b319 bl7 r218 (bq (by decide)) (Or.inr (bq (by decide)))
  have b321 : At h220 (n0 + 1) (bk7 (n0 + 1)) := At.fr (m := 25) b320 bl7 r225 (bq (by decide)) (Or.inr (bq (by decide)))
  have b322 : At h229 (n0 + 1) (bk7 (n0 + 1)) := At.fr (m := 25) b321 bl7 r233 (bq (by decide)) (Or.inr (bq (by decide)))
  have b323 : At h237 (n0 + 1) (bk7 (n0 + 1)) := At.fr (m := 25) b322 bl7 r241 (bq (by decide)) (Or.inr (bq (by decide)))
  have b324 : At h243 (n0 + 1) (bk7 (n0 + 1)) := At.fr (m := 25) b323 bl7 r248 (bq (by decide)) (Or.inr (bq (by decide)))
  have b325 : At h252 (n0 + 1) (bk7 (n0 + 1)) := At.fr (m := 25) b324 bl7 r256 (bq (by decide)) (Or.inr (bq (by decide)))
  have f326 := (r42 (n0 + 27) (Nat.add_lt_add_left (by decide) n0) (Nat.ne_of_gt (Nat.lt_of_lt_of_le hol (Nat.le_add_right _ _)))).trans f34
  have f327 := (r47 (n0 + 27) (Nat.add_lt_add_left (by decide) n0) (fun q => absurd (Nat.add_left_cancel q) (by decide))).trans f326
  have f328 := (r54 (n0 + 27) (Nat.add_lt_add_left (by decide) n0) (fun q => absurd (Nat.add_left_cancel q) (by decide))).trans f327
  have f329 := (r62 (n0 + 27) (Nat.add_lt_add_left (by decide) n0) (Nat.ne_of_gt (Nat.lt_of_lt_of_le hol (Nat.le_add_right _ _)))).trans f328
  have f330 := (r67 (n0 + 27) (Nat.add_lt_add_left (by decide) n0) (fun q => absurd (Nat.add_left_cancel q) (by decide))).trans f329
  have f331 := (r74 (n0 + 27) (Nat.add_lt_add_left (by decide) n0) (fun q => absurd (Nat.add_left_cancel q) (by decide))).trans f330
  have f332 := (r82 (n0 + 27) (Nat.add_lt_add_left (by decide) n0) (Nat.ne_of_gt (Nat.lt_of_lt_of_le hol (Nat.le_add_right _ _)))).trans f331
  have f333 := (r87 (n0 + 27) (Nat.add_lt_add_left (by decide) n0) (fun q => absurd (Nat.add_left_cancel q) (by decide))).trans f332
  have f334 := (r94 (n0 + 27) (Nat.add_lt_add_left (by decide) n0) (fun q => absurd (Nat.add_left_cancel q) (by decide))).trans f333
  have f335 := (r102 (n0 + 27) (Nat.add_lt_add_left (by decide) n0) (Nat.ne_of_gt (Nat.lt_of_lt_of_le hol (Nat.le_add_right _ _)))).trans f334
  have f336 := (r107 (n0 + 27) (Nat.add_lt_add_left (by decide) n0) (fun q => absurd (Nat.add_left_cancel q) (by decide))).trans f335
  have f337 := (r114 (n0 + 27) (Nat.add_lt_add_left (by decide) n0) (fun q => absurd (Nat.add_left_cancel q) (by decide))).trans f336
  have f338 := (r122 (n0 + 27) (Nat.add_lt_add_left (by decide) n0) (Nat.ne_of_gt (Nat.lt_of_lt_of_le hol (Nat.le_add_right _ _)))).trans f337
  have f339 := (r127 (n0 + 27) (Nat.add_lt_add_left (by decide) n0) (fun q => absurd (Nat.add_left_cancel q) (by decide))).trans f338
  have f340 := (r134 (n0 + 27) (Nat.add_lt_add_left (by decide) n0) (fun q => absurd (Nat.add_left_cancel q) (by decide))).trans f339
  have f341 := (r142 (n0 + 27) (Nat.add_lt_add_left (by decide) n0) (Nat.ne_of_gt (Nat.lt_of_lt_of_le hol (Nat.le_add_right _ _)))).trans f340
  have f342 := (r148 (n0 + 27) (Nat.add_lt_add_left (by decide) n0) (Nat.ne_of_gt (Nat.lt_of_lt_of_le hol (Nat.le_add_right _ _)))).trans f341
  have f343 := (r153 (n0 + 27) (Nat.add_lt_add_left (by decide) n0) (fun q => absurd (Nat.add_left_cancel q) (by decide))).trans f342
  have f344 := (r160 (n0 + 27) (Nat.add_lt_add_left (by decide) n0) (fun q => absurd (Nat.add_left_cancel q) (by decide))).trans f343
  have f345 := (r168 (n0 + 27) (Nat.add_lt_add_left (by decide) n0) (Nat.ne_of_gt (Nat.lt_of_lt_of_le hol (Nat.le_add_right _ _)))).trans f344
  have f346 := (r173 (n0 + 27) (Nat.add_lt_add_left (by decide) n0) (fun q => absurd (Nat.add_left_cancel q) (by decide))).trans f345
  have f347 := (r180 (n0 + 27) (Nat.add_lt_add_left (by decide) n0) (fun q => absurd (Nat.add_left_cancel q) (by decide))).trans f346
  have f348 := (r210 (n0 + 27) (Nat.add_lt_add_left (by decide) n0) (fun q => absurd (Nat.add_left_cancel q) (by decide))).trans f347
  have f349 := (r218 (n0 + 27) (Nat.add_lt_add_left (by decide) n0) (fun q => absurd (Nat.add_left_cancel q) (by decide))).trans f348
  have f350 := (r225 (n0 + 27) (Nat.add_lt_add_left (by decide) n0) (fun q => absurd (Nat.add_left_cancel q) (by decide))).trans f349
  have f351 := (r233 (n0 + 27) (Nat.add_lt_add_left (by decide) n0) (fun q => absurd (Nat.add_left_cancel q) (by decide))).trans f350
  have f352 := (r241 (n0 + 27) (Nat.add_lt_add_left (by decide) n0) (fun q => absurd (Nat.add_left_cancel q) (by decide))).trans f351
  have f353 := (r248 (n0 + 27) (Nat.add_lt_add_left (by decide) n0) (fun q => absurd (Nat.add_left_cancel q) (by decide))).trans f352
  have f354 := (r256 (n0 + 27) (Nat.add_lt_add_left (by decide) n0) (fun q => absurd (Nat.add_left_cancel q) (by decide))).trans f353
  have f355 := (r62 (n0 + 28) (Nat.add_lt_add_left (by decide) n0) (Nat.ne_of_gt (Nat.lt_of_lt_of_le hol (Nat.le_add_right _ _)))).trans f52
  have f356 := (r67 (n0 + 28) (Nat.add_lt_add_left (by decide) n0) (fun q => absurd (Nat.add_left_cancel q) (by decide))).trans f355
  have f357 := (r74 (n0 + 28) (Nat.add_lt_add_left (by decide) n0) (fun q => absurd (Nat.add_left_cancel q) (by decide))).trans f356
  have f358 := (r82 (n0 + 28) (Nat.add_lt_add_left (by decide) n0) (Nat.ne_of_gt (Nat.lt_of_lt_of_le hol (Nat.le_add_right _ _)))).trans f357
  have f359 := (r87 (n0 + 28) (Nat.add_lt_add_left (by decide) n0) (fun q => absurd (Nat.add_left_cancel q) (by decide))).trans f358
  have f360 := (r94 (n0 + 28) (Nat.add_lt_add_left (by decide) n0) (fun q => absurd (Nat.add_left_cancel q) (by decide))).trans f359
  have f361 := (r102 (n0 + 28) (Nat.add_lt_add_left (by decide) n0) (Nat.ne_of_gt (Nat.lt_of_lt_of_le hol (Nat.le_add_right _ _)))).trans f360
  have f362 := (r107 (n0 + 28) (Nat.add_lt_add_left (by decide) n0) (fun q => absurd (Nat.add_left_cancel q) (by decide))).trans f361
  have f363 := (r114 (n0 + 28) (Nat.add_lt_add_left (by decide) n0) (fun q => absurd (Nat.add_left_cancel q) (by decide))).trans f362
  have f364 := (r122 (n0 + 28) (Nat.add_lt_add_left (by decide) n0) (Nat.ne_of_gt (Nat.lt_of_lt_of_le hol (Nat.le_add_right _ _)))).trans f363
  have f365 := (r127 (n0 + 28) (Nat.add_lt_add_left (by decide) n0) (fun q => absurd (Nat.add_left_cancel q) (by decide))).trans f364
  have f366 := (r134 (n0 + 28) (Nat.add_lt_add_left (by decide) n0) (fun q => absurd (Nat.add_left_cancel q) (by decide))).trans f365
  have f367 := (r142 (n0 + 28) (Nat.add_lt_add_left (by decide) n0) (Nat.ne_of_gt (Nat.lt_of_lt_of_le hol (Nat.le_add_right _ _)))).trans f366
  have f368 := (r148 (n0 + 28) (Nat.add_lt_add_left (by decide) n0) (Nat.ne_of_gt (Nat.lt_of_lt_of_le hol (Nat.le_add_right _ _)))).trans f367
  have f369 := (r153 (n0 + 28) (Nat.add_lt_add_left (by decide) n0) (fun q => absurd (Nat.add_left_cancel q) (by decide))).trans f368
  have f370 := (r160 (n0 + 28) (Nat.add_lt_add_left (by decide) n0) (fun q => absurd (Nat.add_left_cancel q) (by decide))).trans f369
  have f371 := (r168 (n0 + 28) (Nat.add_lt_add_left (by decide) n0) (Nat.ne_of_gt (Nat.lt_of_lt_of_le hol (Nat.le_add_right _ _)))).trans f370
  have f372 := (r173 (n0 + 28) (Nat.add_lt_add_left (by decide) n0) (fun q => absurd (Nat.add_left_cancel q) (by decide))).trans f371
  have f373 := (r180 (n0 + 28) (Nat.add_lt_add_left (by decide) n0) (fun q => absurd (Nat.add_left_cancel q) (by decide))).trans f372
  have f374 := (r210 (n0 + 28) (Nat.add_lt_add_left (by decide) n0) (fun q => absurd (Nat.add_left_cancel q) (by decide))).trans f373
  have f375 := (r218 (n0 + 28) (Nat.add_lt_add_left (by decide) n0) (fun q => absurd (Nat.add_left_cancel q) (by decide))).trans f374
  have f376 := (r225 (n0 + 28) (Nat.add_lt_add_left (by decide) n0) (fun q => absurd (Nat.add_left_cancel q) (by decide))).trans f375
  have f377 := (r233 (n0 + 28) (Nat.add_lt_add_left (by decide) n0) (fun q => absurd (Nat.add_left_cancel q) (by decide))).trans f376
  have f378 := (r241 (n0 + 28) (Nat.add_lt_add_left (by decide) n0) (fun q => absurd (Nat.add_left_cancel q) (by decide))).trans f377
  have f379 := (r248 (n0 + 28) (Nat.add_lt_add_left (by decide) n0) (fun q => absurd (Nat.add_left_cancel q) (by decide))).trans f378
  have f380 := (r256 (n0 + 28) (Nat.add_lt_add_left (by decide) n0) (fun q => absurd (Nat.add_left_cancel q) (by decide))).trans f379
  have b381 : At h58 (n0 + 29) (bk3 (n0 + 29)) := At.fr (m := 13) b53 bl3 r62 (bq (by decide)) (Or.inl (Nat.lt_of_lt_of_le hol (Nat.le_add_right _ _)))
  have b382 : At h63 (n0 + 29) (bk3 (n0 + 29)) := At.fr (m := 13) b381 bl3 r67 (bq (by decide)) (Or.inr (bq (by decide)))
  have b383 : At h69 (n0 + 29) (bk3 (n0 + 29)) := At.fr (m := 13) b382 bl3 r74 (bq (by decide)) (Or.inr (bq (by decide)))
  have b384 : At h78 (n0 + 29) (bk3 (n0 + 29)) := At.fr (m := 13) b383 bl3 r82 (bq (by decide)) (Or.inl (Nat.lt_of_lt_of_le hol (Nat.le_add_right _ _)))
  have b385 : At h83 (n0 + 29) (bk3 (n0 + 29)) := At.fr (m := 13) b384 bl3 r87 (bq (by decide)) (Or.inr (bq (by decide)))
  have b386 : At h89 (n0 + 29) (bk3 (n0 + 29)) := At.fr (m := 13) b385 bl3 r94 (bq (by decide)) (Or.inr (bq (by decide)))
  have b387 : At h98 (n0 + 29) (bk3 (n0 + 29)) := At.fr (m := 13) b386 bl3 r102 (bq (by decide)) (Or.inl (Nat.lt_of_lt_of_le hol (Nat.le_add_right _ _)))
  have b388 : At h103 (n0 + 29) (bk3 (n0 + 29)) := At.fr (m := 13) b387 bl3 r107 (bq (by decide)) (Or.inr (bq (by decide)))
  have b389 : At h109 (n0 + 29) (bk3 (n0 + 29)) := At.fr (m := 13) b388 bl3 r114 (bq (by decide)) (Or.inr (bq (by decide)))
  have b390 : At h118 (n0 + 29) (bk3 (n0 + 29)) := At.fr (m := 13) b389 bl3 r122 (bq (by decide)) (Or.inl (Nat.lt_of_lt_of_le hol (Nat.le_add_right _ _)))
  have b391 : At h123 (n0 + 29) (bk3 (n0 + 29)) := At.fr (m := 13) b390 bl3 r127 (bq (by decide)) (Or.inr (bq (by decide)))
  have b392 : At h129 (n0 + 29) (bk3 (n0 + 29)) := At.fr (m := 13) b391 bl3 r134 (bq (by decide)) (Or.inr (bq (by decide)))
  have b393 : At h138 (n0 + 29) (bk3 (n0 + 29)) := At.fr (m := 13) b392 bl3 r142 (bq (by decide)) (Or.inl (Nat.lt_of_lt_of_le hol (Nat.le_add_right _ _)))
  have b394 : At h144 (n0 + 29) (bk3 (n0 + 29)) := At.fr (m := 13) b393 bl3 r148 (bq (by decide)) (Or.inl (Nat.lt_of_lt_of_le hol (Nat.le_add_right _ _)))
  have b395 : At h149 (n0 + 29) (bk3 (n0 + 29)) := At.fr (m := 13) b394 bl3 r153 (bq (by decide)) (Or.inr (bq (by decide)))
  have b396 : At h155 (n0 + 29) (bk3 (n0 + 29)) := At.fr (m := 13) b395 bl3 r160 (bq (by decide)) (Or.inr (bq (by decide)))
  have b397 : At h164 (n0 + 29) (bk3 (n0 + 29)) := At.fr (m := 13) b396 bl3 r168 (bq (by decide)) (Or.inl (Nat.lt_of_lt_of_le hol (Nat.le_add_right _ _)))
  have b398 : At h169 (n0 + 29) (bk3 (n0 + 29)) := At.fr (m := 13) b397 bl3 r173 (bq (by decide)) (Or.inr (bq (by decide)))
  have b399 : At h175 (n0 + 29) (bk3 (n0 + 29)) := At.fr (m := 13) b398 bl3 r180 (bq (by decide)) (Or.inr (bq (by decide)))
  have b400 : At h206 (n0 + 29) (bk3 (n0 + 29)) := At.fr (m := 13) b399 bl3 r210 (bq (by decide)) (Or.inl (Nat.add_lt_add_left (by decide) n0))
  have b401 : At h214 (n0 + 29) (bk3 (n0 + 29)) := At.fr (m := 13) b400 bl3 r218 (bq (by decide)) (Or.inr (bq (by decide)))
  have b402 : At h220 (n0 + 29) (bk3 (n0 + 29)) := At.fr (m := 13) b401 bl3 r225 (bq (by decide)) (Or.inr (bq (by decide)))
  have b403 : At h229 (n0 + 29) (bk3 (n0 + 29)) := At.fr (m := 13) b402 bl3 r233 (bq (by decide)) (Or.inl (Nat.add_lt_add_left (by decide) n0))
  have b404 : At h237 (n0 + 29) (bk3 (n0 + 29)) := At.fr (m := 13) b403 bl3 r241 (bq (by decide)) (Or.inr (bq (by decide)))
  have b405 : At h243 (n0 + 29) (bk3 (n0 + 29)) := At.fr (m := 13) b404 bl3 r248 (bq (by decide)) (Or.inr (bq (by decide)))
  have b406 : At h252 (n0 + 29) (bk3 (n0 + 29)) := At.fr (m := 13) b405 bl3 r256 (bq (by decide)) (Or.inl (Nat.add_lt_add_left (by decide) n0))
  have f407 := (r82 (n0 + 42) (Nat.add_lt_add_left (by decide) n0) (Nat.ne_of_gt (Nat.lt_of_lt_of_le hol (Nat.le_add_right _ _)))).trans f72
  have f408 := (r87 (n0 + 42) (Nat.add_lt_add_left (by decide) n0) (fun q => absurd (Nat.add_left_cancel q) (by decide))).trans f407
  have f409 := (r94 (n0 + 42) (Nat.add_lt_add_left (by decide) n0) (fun q => absurd (Nat.add_left_cancel q) (by decide))).trans f408
  have f410 := (r102 (n0 + 42) (Nat.add_lt_add_left (by decide) n0) (Nat.ne_of_gt (Nat.lt_of_lt_of_le hol (Nat.le_add_right _ _)))).trans f409
  have f411 := (r107 (n0 + 42) (Nat.add_lt_add_left (by decide) n0) (fun q => absurd (Nat.add_left_cancel q) (by decide))).trans f410
  have f412 := (r114 (n0 + 42) (Nat.add_lt_add_left (by decide) n0) (fun q => absurd (Nat.add_left_cancel q) (by decide))).trans f411
  have f413 := (r122 (n0 + 42) (Nat.add_lt_add_left (by decide) n0) (Nat.ne_of_gt (Nat.lt_of_lt_of_le hol (Nat.le_add_right _ _)))).trans f412
  have f414 := (r127 (n0 + 42) (Nat.add_lt_add_left (by decide) n0) (fun q => absurd (Nat.add_left_cancel q) (by decide))).trans f413
  have f415 := (r134 (n0 + 42) (Nat.add_lt_add_left (by decide) n0) (fun q => absurd (Nat.add_left_cancel q) (by decide))).trans f414
  have f416 := (r142 (n0 + 42) (Nat.add_lt_add_left (by decide) n0) (Nat.ne_of_gt (Nat.lt_of_lt_of_le hol (Nat.le_add_right _ _)))).trans f415
  have f417 := (r148 (n0 + 42) (Nat.add_lt_add_left (by decide) n0) (Nat.ne_of_gt (Nat.lt_of_lt_of_le hol (Nat.le_add_right _ _)))).trans f416
  have f418 := (r153 (n0 + 42) (Nat.add_lt_add_left (by decide) n0) (fun q => absurd (Nat.add_left_cancel q) (by decide))).trans f417
  have f419 := (r160 (n0 + 42) (Nat.add_lt_add_left (by decide) n0) (fun q => absurd (Nat.add_left_cancel q) (by decide))).trans f418
  have f420 := (r168 (n0 + 42) (Nat.add_lt_add_left (by decide) n0) (Nat.ne_of_gt (Nat.lt_of_lt_of_le hol (Nat.le_add_right _ _)))).trans f419
  have f421 := (r173 (n0 + 42) (Nat.add_lt_add_left (by decide) n0) (fun q => absurd (Nat.add_left_cancel q) (by decide))).trans f420
  have f422 := (r180 (n0 + 42) (Nat.add_lt_add_left (by decide) n0) (fun q => absurd (Nat.add_left_cancel q) (by decide))).trans f421
  have f423 := (r210 (n0 + 42) (Nat.add_lt_add_left (by decide) n0) (fun q => absurd (Nat.add_left_cancel q) (by decide))).trans f422
  have f424 := (r218 (n0 + 42) (Nat.add_lt_add_left (by decide) n0) (fun q => absurd (Nat.add_left_cancel q) (by decide))).trans f423
  have f425 := (r225 (n0 + 42) (Nat.add_lt_add_left (by decide) n0) (fun q => absurd (Nat.add_left_cancel q) (by decide))).trans f424
  have f426 := (r233 (n0 + 42) (Nat.add_lt_add_left (by decide) n0) (fun q => absurd (Nat.add_left_cancel q) (by decide))).trans f425
  have f427 := (r241 (n0 + 42) (Nat.add_lt_add_left (by decide) n0) (fun q => absurd (Nat.add_left_cancel q) (by decide))).trans f426
  have f428 := (r248 (n0 + 42) (Nat.add_lt_add_left (by decide) n0) (fun q => absurd (Nat.add_left_cancel q) (by decide))).trans f427
  have f429 := (r256 (n0 + 42) (Nat.add_lt_add_left (by decide) n0) (fun q => absurd (Nat.add_left_cancel q) (by decide))).trans f428
  have b430 : At h78 (n0 + 43) (bk4 (n0 + 43)) := At.fr (m := 5) b73 bl4 r82 (bq (by decide)) (Or.inl (Nat.lt_of_lt_of_le hol (Nat.le_add_right _ _)))
  have b431 : At h83 (n0 + 43) (bk4 (n0 + 43)) := At.fr (m := 5) b430 bl4 r87 (bq (by decide)) (Or.inr (bq (by decide)))
  have b432 : At h89 (n0 + 43) (bk4 (n0 + 43)) := At.fr (m := 5) b431 bl4 r94 (bq (by decide)) (Or.inr (bq (by decide)))
  have b433 : At h98 (n0 + 43) (bk4 (n0 + 43)) := At.fr (m := 5) b432 bl4 r102 (bq (by decide)) (Or.inl (Nat.lt_of_lt_of_le hol (Nat.le_add_right _ _)))
  have b434 : At h103 (n0 + 43) (bk4 (n0 + 43)) := At.fr (m := 5) b433 bl4 r107 (bq (by decide)) (Or.inr (bq (by decide)))
  have b435 : At h109 (n0 + 43) (bk4 (n0 + 43)) := At.fr (m := 5) b434 bl4 r114 (bq (by decide)) (Or.inr (bq (by decide)))
  have b436 : At h118 (n0 + 43) (bk4 (n0 + 43)) := At.fr (m := 5) b435 bl4 r122 (bq (by decide)) (Or.inl (Nat.lt_of_lt_of_le hol (Nat.le_add_right _ _)))
  have b437 : At h123 (n0 + 43) (bk4 (n0 + 43)) := At.fr (m := 5) b436 bl4 r127 (bq (by decide)) (Or.inr (bq (by decide)))
  have b438 : At h129 (n0 + 43) (bk4 (n0 + 43)) := At.fr (m := 5) b437 bl4 r134 (bq (by decide)) (Or.inr (bq (by decide)))
  have b439 : At h138 (n0 + 43) (bk4 (n0 + 43)) := At.fr (m := 5) b438 bl4 r142 (bq (by decide)) (Or.inl (Nat.lt_of_lt_of_le hol (Nat.le_add_right _ _)))
  have b440 : At h144 (n0 + 43) (bk4 (n0 + 43)) := At.fr (m := 5) b439 bl4 r148 (bq (by decide)) (Or.inl (Nat.lt_of_lt_of_le hol (Nat.le_add_right _ _)))
  have b441 : At h149 (n0 + 43) (bk4 (n0 + 43)) := At.fr (m := 5) b440 bl4 r153 (bq (by decide)) (Or.inr (bq (by decide)))
  have b442 : At h155 (n0 + 43) (bk4 (n0 + 43)) := At.fr (m := 5) b441 bl4 r160 (bq (by decide)) (Or.inr (bq (by decide)))
  have b443 : At h164 (n0 + 43) (bk4 (n0 + 43)) := At.fr (m := 5) b442 bl4 r168 (bq (by decide)) (Or.inl (Nat.lt_of_lt_of_le hol (Nat.le_add_right _ _)))
  have b444 : At h169 (n0 + 43) (bk4 (n0 + 43)) := At.fr (m := 5) b443 bl4 r173 (bq (by decide)) (Or.inr (bq (by decide)))
  have b445 : At h175 (n0 + 43) (bk4 (n0 + 43)) := At.fr (m := 5) b444 bl4 r180 (bq (by decide)) (Or.inr (bq (by decide)))
  have b446 : At h206 (n0 + 43) (bk4 (n0 + 43)) := At.fr (m := 5) b445 bl4 r210 (bq (by decide)) (Or.inl (Nat.add_lt_add_left (by decide) n0))
  have b447 : At h214 (n0 + 43) (bk4 (n0 + 43)) := At.fr (m := 5) b446 bl4 r218 (bq (by decide)) (Or.inr (bq (by decide)))
  have b448 : At h220 (n0 + 43) (bk4 (n0 + 43)) := At.fr (m := 5) b447 bl4 r225 (bq (by decide)) (Or.inr (bq (by decide)))
  have b449 : At h229 (n0 + 43) (bk4 (n0 + 43)) := At.fr (m := 5) b448 bl4 r233 (bq (by decide)) (Or.inl (Nat.add_lt_add_left (by decide) n0))
  have b450 : At h237 (n0 + 43) (bk4 (n0 + 43)) := At.fr (m := 5) b449 bl4 r241 (bq (by decide)) (Or.inr (bq (by decide)))
  have b451 : At h243 (n0 + 43) (bk4 (n0 + 43)) := At.fr (m := 5) b450 bl4 r248 (bq (by decide)) (Or.inr (bq (by decide)))
  have b452 : At h252 (n0 + 43) (bk4 (n0 + 43)) := At.fr (m := 5) b451 bl4 r256 (bq (by decide)) (Or.inl (Nat.add_lt_add_left (by decide) n0))
  have f453 := (r102 (n0 + 48) (Nat.add_lt_add_left (by decide) n0) (Nat.ne_of_gt (Nat.lt_of_lt_of_le hol (Nat.le_add_right _ _)))).trans f92
  have f454 := (r107 (n0 + 48) (Nat.add_lt_add_left (by decide) n0) (fun q => absurd (Nat.add_left_cancel q) (by decide))).trans f453
  have f455 := (r114 (n0 + 48) (Nat.add_lt_add_left (by decide) n0) (fun q => absurd (Nat.add_left_cancel q) (by decide))).trans f454
  have f456 := (r122 (n0 + 48) (Nat.add_lt_add_left (by decide) n0) (Nat.ne_of_gt (Nat.lt_of_lt_of_le hol (Nat.le_add_right _ _)))).trans f455
  have f457 := (r127 (n0 + 48) (Nat.add_lt_add_left (by decide) n0) (fun q => absurd (Nat.add_left_cancel q) (by decide))).trans f456
  have f458 := (r134 (n0 + 48) (Nat.add_lt_add_left (by decide) n0) (fun q => absurd (Nat.add_left_cancel q) (by decide))).trans f457
  have f459 := (r142 (n0 + 48) (Nat.add_lt_add_left (by decide) n0) (Nat.ne_of_gt (Nat.lt_of_lt_of_le hol (Nat.le_add_right _ _)))).trans f458
  have f460 := (r148 (n0 + 48) (Nat.add_lt_add_left (by decide) n0) (Nat.ne_of_gt (Nat.lt_of_lt_of_le hol (Nat.le_add_right _ _)))).trans f459
  have f461 := (r153 (n0 + 48) (Nat.add_lt_add_left (by decide) n0) (fun q => absurd (Nat.add_left_cancel q) (by decide))).trans f460
  have f462 := (r160 (n0 + 48) (Nat.add_lt_add_left (by decide) n0) (fun q => absurd (Nat.add_left_cancel q) (by decide))).trans f461
  have f463 := (r168 (n0 + 48) (Nat.add_lt_add_left (by decide) n0) (Nat.ne_of_gt (Nat.lt_of_lt_of_le hol (Nat.le_add_right _ _)))).trans f462
  have f464 := (r173 (n0 + 48) (Nat.add_lt_add_left (by decide) n0) (fun q => absurd (Nat.add_left_cancel q) (by decide))).trans f463
  have f465 := (r180 (n0 + 48) (Nat.add_lt_add_left (by decide) n0) (fun q => absurd (Nat.add_left_cancel q) (by decide))).trans f464
  have f466 := (r210 (n0 + 48) (Nat.add_lt_add_left (by decide) n0) (fun q => absurd (Nat.add_left_cancel q) (by decide))).trans f465
  have f467 := (r218 (n0 + 48) (Nat.add_lt_add_left (by decide) n0) (fun q => absurd (Nat.add_left_cancel q) (by decide))).trans f466
  have f468 := (r225 (n0 + 48) (Nat.add_lt_add_left (by decide) n0) (fun q => absurd (Nat.add_left_cancel q) (by decide))).trans f467
  have f469 := (r233 (n0 + 48) (Nat.add_lt_add_left (by decide) n0) (fun q => absurd (Nat.add_left_cancel q) (by decide))).trans f468
  have f470 := (r241 (n0 + 48) (Nat.add_lt_add_left (by decide) n0) (fun q => absurd (Nat.add_left_cancel q) (by decide))).trans f469
  have f471 := (r248 (n0 + 48) (Nat.add_lt_add_left (by decide) n0) (fun q => absurd (Nat.add_left_cancel q) (by decide))).trans f470
  have f472 := (r256 (n0 + 48) (Nat.add_lt_add_left (by decide) n0) (fun q => absurd (Nat.add_left_cancel q) (by decide))).trans f471
  have b473 : At h98 (n0 + 49) (bk8 (n0 + 49)) := At.fr (m := 3) b93 bl8 r102 (bq (by decide)) (Or.inl (Nat.lt_of_lt_of_le hol (Nat.le_add_right _ _)))
  have b474 : At h103 (n0 + 49) (bk8 (n0 + 49)) := At.fr (m := 3) b473 bl8 r107 (bq (by decide)) (Or.inr (bq (by decide)))
  have b475 : At h109 (n0 + 49) (bk8 (n0 + 49)) := At.fr (m := 3) b474 bl8 r114 (bq (by decide)) (Or.inr (bq (by decide)))
  have b476 : At h118 (n0 + 49) (bk8 (n0 + 49)) := At.fr (m := 3) b475 bl8 r122 (bq (by decide)) (Or.inl (Nat.lt_of_lt_of_le hol (Nat.le_add_right _ _)))
  have b477 : At h123 (n0 + 49) (bk8 (n0 + 49)) := At.fr (m := 3) b476 bl8 r127 (bq (by decide)) (Or.inr (bq (by decide)))
  have b478 : At h129 (n0 + 49) (bk8 (n0 + 49)) := At.fr (m := 3) b477 bl8 r134 (bq (by decide)) (Or.inr (bq (by decide)))
  have b479 : At h138 (n0 + 49) (bk8 (n0 + 49)) := At.fr (m := 3) b478 bl8 r142 (bq (by decide)) (Or.inl (Nat.lt_of_lt_of_le hol (Nat.le_add_right _ _)))
  have b480 : At h144 (n0 + 49) (bk8 (n0 + 49)) := At.fr (m := 3) b479 bl8 r148 (bq (by decide)) (Or.inl (Nat.lt_of_lt_of_le hol (Nat.le_add_right _ _)))
  have b481 : At h149 (n0 + 49) (bk8 (n0 + 49)) := At.fr (m := 3) b480 bl8 r153 (bq (by decide)) (Or.inr (bq (by decide)))
  have b482 : At h155 (n0 + 49) (bk8 (n0 + 49)) := At.fr (m := 3) b481 bl8 r160 (bq (by decide)) (Or.inr (bq (by decide)))
  have b483 : At h164 (n0 + 49) (bk8 (n0 + 49)) := At.fr (m := 3) b482 bl8 r168 (bq (by decide)) (Or.inl (Nat.lt_of_lt_of_le hol (Nat.le_add_right _ _)))
  have b484 : At h169 (n0 + 49) (bk8 (n0 + 49)) := At.fr (m := 3) b483 bl8 r173 (bq (by decide)) (Or.inr (bq (by decide)))
  have b485 : At h175 (n0 + 49) (bk8 (n0 + 49)) := At.fr (m := 3) b484 bl8 r180 (bq (by decide)) (Or.inr (bq (by decide)))
  have b486 : At h206 (n0 + 49) (bk8 (n0 + 49)) := At.fr (m := 3) b485 bl8 r210 (bq (by decide)) (Or.inl (Nat.add_lt_add_left (by decide) n0))
  have b487 : At h214 (n0 + 49) (bk8 (n0 + 49)) := At.fr (m := 3) b486 bl8 r218 (bq (by decide)) (Or.inr (bq (by decide)))
  have b488 : At h220 (n0 + 49) (bk8 (n0 + 49)) := At.fr (m := 3) b487 bl8 r225 (bq (by decide)) (Or.inr (bq (by decide)))
  have b489 : At h229 (n0 + 49) (bk8 (n0 + 49)) := At.fr (m := 3) b488 bl8 r233 (bq (by decide)) (Or.inl (Nat.add_lt_add_left (by decide) n0))
  have b490 : At h237 (n0 + 49) (bk8 (n0 + 49)) := At.fr (m := 3) b489 bl8 r241 (bq (by decide)) (Or.inr (bq (by decide)))
  have b491 : At h243 (n0 + 49) (bk8 (n0 + 49)) := At.fr (m := 3) b490 bl8 r248 (bq (by decide)) (Or.inr (bq (by decide)))
  have b492 : At h252 (n0 + 49) (bk8 (n0 + 49)) := At.fr (m := 3) b491 bl8 r256 (bq (by decide)) (Or.inl (Nat.add_lt_add_left (by decide) n0))
  have f493 := (r122 (n0 + 52) (Nat.add_lt_add_left (by decide) n0) (Nat.ne_of_gt (Nat.lt_of_lt_of_le hol (Nat.le_add_right _ _)))).trans f112
  have f494 := (r127 (n0 + 52) (Nat.add_lt_add_left (by decide) n0) (fun q => absurd (Nat.add_left_cancel q) (by decide))).trans f493
  have f495 := (r134 (n0 + 52) (Nat.add_lt_add_left (by decide) n0) (fun q => absurd (Nat.add_left_cancel q) (by decide))).trans f494
  have f496 := (r142 (n0 + 52) (Nat.add_lt_add_left (by decide) n0) (Nat.ne_of_gt (Nat.lt_of_lt_of_le hol (Nat.le_add_right _ _)))).trans f495
  have f497 := (r148 (n0 + 52) (Nat.add_lt_add_left (by decide) n0) (Nat.ne_of_gt (Nat.lt_of_lt_of_le hol (Nat.le_add_right _ _)))).trans f496
  have f498 := (r153 (n0 + 52) (Nat.add_lt_add_left (by decide) n0) (fun q => absurd (Nat.add_left_cancel q) (by decide))).trans f497
  have f499 := (r160 (n0 + 52) (Nat.add_lt_add_left (by decide) n0) (fun q => absurd (Nat.add_left_cancel q) (by decide))).trans f498
  have f500 := (r168 (n0 + 52) (Nat.add_lt_add_left (by decide) n0) (Nat.ne_of_gt (Nat.lt_of_lt_of_le hol (Nat.le_add_right _ _)))).trans f499
  have f501 := (r173 (n0 + 52) (Nat.add_lt_add_left (by decide) n0) (fun q => absurd (Nat.add_left_cancel q) (by decide))).trans f500
  have f502 := (r180 (n0 + 52) (Nat.add_lt_add_left (by decide) n0) (fun q => absurd (Nat.add_left_cancel q) (by decide))).trans f501
  have f503 := (r210 (n0 + 52) (Nat.add_lt_add_left (by decide) n0) (fun q => absurd (Nat.add_left_cancel q) (by decide))).trans f502
  have f504 := (r218 (n0 + 52) (Nat.add_lt_add_left (by decide) n0) (fun q => absurd (Nat.add_left_cancel q) (by decide))).trans f503
  have f505 := (r225 (n0 + 52) (Nat.add_lt_add_left (by decide) n0) (fun q => absurd (Nat.add_left_cancel q) (by decide))).trans f504
  have f506 := (r233 (n0 + 52) (Nat.add_lt_add_left (by decide) n0) (fun q => absurd (Nat.add_left_cancel q) (by decide))).trans f505
  have f507 := (r241 (n0 + 52) (Nat.add_lt_add_left (by decide) n0) (fun q => absurd (Nat.add_left_cancel q) (by decide))).trans f506
  have f508 := (r248 (n0 + 52) (Nat.add_lt_add_left (by decide) n0) (fun q => absurd (Nat.add_left_cancel q) (by decide))).trans f507
  have f509 := (r256 (n0 + 52) (Nat.add_lt_add_left (by decide) n0) (fun q => absurd (Nat.add_left_cancel q) (by decide))).trans f508
  have b510 : At h118 (n0 + 53) (bk5 (n0 + 53)) := At.fr (m := 2) b113 bl5 r122 (bq (by decide)) (Or.inl (Nat.lt_of_lt_of_le hol (Nat.le_add_right _ _)))
  have b511 : At h123 (n0 + 53) (bk5 (n0 + 53)) := At.fr (m := 2) b510 bl5 r127 (bq (by decide)) (Or.inr (bq (by decide)))
  have b512 : At h129 (n0 + 53) (bk5 (n0 + 53)) := At.fr (m := 2) b511 bl5 r134 (bq (by decide)) (Or.inr (bq (by decide)))
  have b513 : At h138 (n0 + 53) (bk5 (n0 + 53)) := At.fr (m := 2) b512 bl5 r142 (bq (by decide)) (Or.inl (Nat.lt_of_lt_of_le hol (Nat.le_add_right _ _)))
  have b514 : At h144 (n0 + 53) (bk5 (n0 + 53)) := At.fr (m := 2) b513 bl5 r148 (bq (by decide)) (Or.inl (Nat.lt_of_lt_of_le hol (Nat.le_add_right _ _)))
  have b515 : At h149 (n0 + 53) (bk5 (n0 + 53)) := At.fr (m := 2) b514 bl5 r153 (bq (by decide)) (Or.inr (bq (by decide)))
  have b516 : At h155 (n0 + 53) (bk5 (n0 + 53)) := At.fr (m := 2) b515 bl5 r160 (bq (by decide)) (Or.inr (bq (by decide)))
  have b517 : At h164 (n0 + 53) (bk5 (n0 + 53)) := At.fr (m := 2) b516 bl5 r168 (bq (by decide)) (Or.inl (Nat.lt_of_lt_of_le hol (Nat.le_add_right _ _)))
  have b518 : At h169 (n0 + 53) (bk5 (n0 + 53)) := At.fr (m := 2) b517 bl5 r173 (bq (by decide)) (Or.inr (bq (by decide)))
  have b519 : At h175 (n0 + 53) (bk5 (n0 + 53)) := At.fr (m := 2) b518 bl5 r180 (bq (by decide)) (Or.inr (bq (by decide)))
  have b520 : At h206 (n0 + 53) (bk5 (n0 + 53)) := At.fr (m := 2) b519 bl5 r210 (bq (by decide)) (Or.inl (Nat.add_lt_add_left (by decide) n0))
  have b521 : At h214 (n0 + 53) (bk5 (n0 + 53)) := At.fr (m := 2) b520 bl5 r218 (bq (by decide)) (Or.inr (bq (by decide)))
  have b522 : At h220 (n0 + 53) (bk5 (n0 + 53)) := At.fr (m := 2) b521 bl5 r225 (bq (by decide)) (Or.inr (bq (by decide)))
  have b523 : At h229 (n0 + 53) (bk5 (n0 + 53)) := At.fr (m := 2) b522 bl5 r233 (bq (by decide)) (Or.inl (Nat.add_lt_add_left (by decide) n0))
  have b524 : At h237 (n0 + 53) (bk5 (n0 + 53)) := At.fr (m := 2) b523 bl5 r241 (bq (by decide)) (Or.inr (bq (by decide)))
  have b525 : At h243 (n0 + 53) (bk5 (n0 + 53)) := At.fr (m := 2) b524 bl5 r248 (bq (by decide)) (Or.inr (bq (by decide)))
  have b526 : At h252 (n0 + 53) (bk5 (n0 + 53)) := At.fr (m := 2) b525 bl5 r256 (bq (by decide)) (Or.inl (Nat.add_lt_add_left (by decide) n0))
  have f527 := (r148 (n0 + 55) (Nat.add_lt_add_left (by decide) n0) (Nat.ne_of_gt (Nat.lt_of_lt_of_le hol (Nat.le_add_right _ _)))).trans f143
  have f528 := (r153 (n0 + 55) (Nat.add_lt_add_left (by decide) n0) (fun q => absurd (Nat.add_left_cancel q) (by decide))).trans f527
  have f529 := (r160 (n0 + 55) (Nat.add_lt_add_left (by decide) n0) (fun q => absurd (Nat.add_left_cancel q) (by decide))).trans f528
  have f530 := (r168 (n0 + 55) (Nat.add_lt_add_left (by decide) n0) (Nat.ne_of_gt (Nat.lt_of_lt_of_le hol (Nat.le_add_right _ _)))).trans f529
  have f531 := (r173 (n0 + 55) (Nat.add_lt_add_left (by decide) n0) (fun q => absurd (Nat.add_left_cancel q) (by decide))).trans f530
  have f532 := (r180 (n0 + 55) (Nat.add_lt_add_left (by decide) n0) (fun q => absurd (Nat.add_left_cancel q) (by decide))).trans f531
  have f533 := (r210 (n0 + 55) (Nat.add_lt_add_left (by decide) n0) (fun q => absurd (Nat.add_left_cancel q) (by decide))).trans f532
  have f534 := (r218 (n0 + 55) (Nat.add_lt_add_left (by decide) n0) (fun q => absurd (Nat.add_left_cancel q) (by decide))).trans f533
  have f535 := (r225 (n0 + 55) (Nat.add_lt_add_left (by decide) n0) (fun q => absurd (Nat.add_left_cancel q) (by decide))).trans f534
  have f536 := (r233 (n0 + 55) (Nat.add_lt_add_left (by decide) n0) (fun q => absurd (Nat.add_left_cancel q) (by decide))).trans f535
  have f537 := (r241 (n0 + 55) (Nat.add_lt_add_left (by decide) n0) (fun q => absurd (Nat.add_left_cancel q) (by decide))).trans f536
  have f538 := (r248 (n0 + 55) (Nat.add_lt_add_left (by decide) n0) (fun q => absurd (Nat.add_left_cancel q) (by decide))).trans f537
  have f539 := (r256 (n0 + 55) (Nat.add_lt_add_left (by decide) n0) (fun q => absurd (Nat.add_left_cancel q) (by decide))).trans f538
  have b540 : At h138 (n0 + 56) (bk0 (n0 + 56)) := At.fr (m := 22) b133 bl0 r142 (bq (by decide)) (Or.inl (Nat.lt_of_lt_of_le hol (Nat.le_add_right _ _)))
  have b541 : At h144 (n0 + 56) (bk0 (n0 + 56)) := At.fr (m := 22) b540 bl0 r148 (bq (by decide)) (Or.inl (Nat.lt_of_lt_of_le hol (Nat.le_add_right _ _)))
  have b542 : At h149 (n0 + 56) (bk0 (n0 + 56)) := At.fr (m := 22) b541 bl0 r153 (bq (by decide)) (Or.inr (bq (by decide)))
  have b543 : At h155 (n0 + 56) (bk0 (n0 + 56)) := At.fr (m := 22) b542 bl0 r160 (bq (by decide)) (Or.inr (bq (by decide)))
  have b544 : At h164 (n0 + 56) (bk0 (n0 + 56)) := At.fr (m := 22) b543 bl0 r168 (bq (by decide)) (Or.inl (Nat.lt_of_lt_of_le hol (Nat.le_add_right _ _)))
  have b545 : At h169 (n0 + 56) (bk0 (n0 + 56)) := At.fr (m := 22) b544 bl0 r173 (bq (by decide)) (Or.inr (bq (by decide)))
  have b546 : At h175 (n0 + 56) (bk0 (n0 + 56)) := At.fr (m := 22) b545 bl0 r180 (bq (by decide)) (Or.inr (bq (by decide)))
  have b547 : At h206 (n0 + 56) (bk0 (n0 + 56)) := At.fr (m := 22) b546 bl0 r210 (bq (by decide)) (Or.inl (Nat.add_lt_add_left (by decide) n0))
  have b548 : At h214 (n0 + 56) (bk0 (n0 + 56)) := At.fr (m := 22) b547 bl0 r218 (bq (by decide)) (Or.inr (bq (by decide)))
  have b549 : At h220 (n0 + 56) (bk0 (n0 + 56)) := At.fr (m := 22) b548 bl0 r225 (bq (by decide)) (Or.inr (bq (by decide)))
  have b550 : At h229 (n0 + 56) (bk0 (n0 + 56)) := At.fr (m := 22) b549 bl0 r233 (bq (by decide)) (Or.inl (Nat.add_lt_add_left (by decide) n0))
  have b551 : At h237 (n0 + 56) (bk0 (n0 + 56)) := At.fr (m := 22) b550 bl0 r241 (bq (by decide)) (Or.inr (bq (by decide)))
  have b552 : At h243 (n0 + 56) (bk0 (n0 + 56)) := At.fr (m := 22) b551 bl0 r248 (bq (by decide)) (Or.inr (bq (by decide)))
  have b553 : At h252 (n0 + 56) (bk0 (n0 + 56)) := At.fr (m := 22) b552 bl0 r256 (bq (by decide)) (Or.inl (Nat.add_lt_add_left (by decide) n0))
  have f554 := (r168 (n0 + 78) (Nat.add_lt_add_left (by decide) n0) (Nat.ne_of_gt (Nat.lt_of_lt_of_le hol (Nat.le_add_right _ _)))).trans f158
  have f555 := (r173 (n0 + 78) (Nat.add_lt_add_left (by decide) n0) (fun q => absurd (Nat.add_left_cancel q) (by decide))).trans f554
  have f556 := (r180 (n0 + 78) (Nat.add_lt_add_left (by decide) n0) (fun q => absurd (Nat.add_left_cancel q) (by decide))).trans f555
  have f557 := (r210 (n0 + 78) (Nat.add_lt_add_left (by decide) n0) (fun q => absurd (Nat.add_left_cancel q) (by decide))).trans f556
  have f558 := (r218 (n0 + 78) (Nat.add_lt_add_left (by decide) n0) (fun q => absurd (Nat.add_left_cancel q) (by decide))).trans f557
  have f559 := (r225 (n0 + 78) (Nat.add_lt_add_left (by decide) n0) (fun q => absurd (Nat.add_left_cancel q) (by decide))).trans f558
  have f560 := (r233 (n0 + 78) (Nat.add_lt_add_left (by decide) n0) (fun q => absurd (Nat.add_left_cancel q) (by decide))).trans f559
  have f561 := (r241 (n0 + 78) (Nat.add_lt_add_left (by decide) n0) (fun q => absurd (Nat.add_left_cancel q) (by decide))).trans f560
  have f562 := (r248 (n0 + 78) (Nat.add_lt_add_left (by decide) n0) (fun q => absurd (Nat.add_left_cancel q) (by decide))).trans f561
  have f563 := (r256 (n0 + 78) (Nat.add_lt_add_left (by decide) n0) (fun q => absurd (Nat.add_left_cancel q) (by decide))).trans f562
  have b564 : At h164 (n0 + 79) (bk1 (n0 + 79)) := At.fr (m := 4) b159 bl1 r168 (bq (by decide)) (Or.inl (Nat.lt_of_lt_of_le hol (Nat.le_add_right _ _)))
  have b565 : At h169 (n0 + 79) (bk1 (n0 + 79)) := At.fr (m := 4) b564 bl1 r173 (bq (by decide)) (Or.inr (bq (by decide)))
  have b566 : At h175 (n0 + 79) (bk1 (n0 + 79)) := At.fr (m := 4) b565 bl1 r180 (bq (by decide)) (Or.inr (bq (by decide)))
  have b567 : At h206 (n0 + 79) (bk1 (n0 + 79)) := At.fr (m := 4) b566 bl1 r210 (bq (by decide)) (Or.inl (Nat.add_lt_add_left (by decide) n0))
  have b568 : At h214 (n0 + 79) (bk1 (n0 + 79)) := At.fr (m := 4) b567 bl1 r218 (bq (by decide)) (Or.inr (bq (by decide)))
  have b569 : At h220 (n0 + 79) (bk1 (n0 + 79)) := At.fr (m := 4) b568 bl1 r225 (bq (by decide)) (Or.inr (bq (by decide)))
  have b570 : At h229 (n0 + 79) (bk1 (n0 + 79)) := At.fr (m := 4) b569 bl1 r233 (bq (by decide)) (Or.inl (Nat.add_lt_add_left (by decide) n0))
  have b571 : At h237 (n0 + 79) (bk1 (n0 + 79)) := At.fr (m := 4) b570 bl1 r241 (bq (by decide)) (Or.inr (bq (by decide)))
  have b572 : At h243 (n0 + 79) (bk1 (n0 + 79)) := At.fr (m := 4) b571 bl1 r248 (bq (by decide)) (Or.inr (bq (by decide)))
  have b573 : At h252 (n0 + 79) (bk1 (n0 + 79)) := At.fr (m := 4) b572 bl1 r256 (bq (by decide)) (Or.inl (Nat.add_lt_add_left (by decide) n0))
  have f574 := (r210 (n0 + 83) (Nat.add_lt_add_left (by decide) n0) (fun q => absurd (Nat.add_left_cancel q) (by decide))).trans f178
  have f575 := (r218 (n0 + 83) (Nat.add_lt_add_left (by decide) n0) (fun q => absurd (Nat.add_left_cancel q) (by decide))).trans f574
  have f576 := (r225 (n0 + 83) (Nat.add_lt_add_left (by decide) n0) (fun q => absurd (Nat.add_left_cancel q) (by decide))).trans f575
  have f577 := (r233 (n0 + 83) (Nat.add_lt_add_left (by decide) n0) (fun q => absurd (Nat.add_left_cancel q) (by decide))).trans f576
  have f578 := (r241 (n0 + 83) (Nat.add_lt_add_left (by decide) n0) (fun q => absurd (Nat.add_left_cancel q) (by decide))).trans f577
  have f579 := (r248 (n0 + 83) (Nat.add_lt_add_left (by decide) n0) (fun q => absurd (Nat.add_left_cancel q) (by decide))).trans f578
  have f580 := (r256 (n0 + 83) (Nat.add_lt_add_left (by decide) n0) (fun q => absurd (Nat.add_left_cancel q) (by decide))).trans f579
  have b581 : At h206 (n0 + 84) (bk7 (n0 + 84)) := At.fr (m := 25) b179 bl7 r210 (bq (by decide)) (Or.inl (Nat.add_lt_add_left (by decide) n0))
  have b582 : At h214 (n0 + 84) (bk7 (n0 + 84)) := At.fr (m := 25) b581 bl7 r218 (bq (by decide)) (Or.inr (bq (by decide)))
  have b583 : At h220 (n0 + 84) (bk7 (n0 + 84)) := At.fr (m := 25) b582 bl7 r225 (bq (by decide)) (Or.inr (bq (by decide)))
  have b584 : At h229 (n0 + 84) (bk7 (n0 + 84)) := At.fr (m := 25) b583 bl7 r233 (bq (by decide)) (Or.inl (Nat.add_lt_add_left (by decide) n0))
  have b585 : At h237 (n0 + 84) (bk7 (n0 + 84)) := At.fr (m := 25) b584 bl7 r241 (bq (by decide)) (Or.inr (bq (by decide)))
  have b586 : At h243 (n0 + 84) (bk7 (n0 + 84)) := At.fr (m := 25) b585 bl7 r248 (bq (by decide)) (Or.inr (bq (by decide)))
  have b587 : At h252 (n0 + 84) (bk7 (n0 + 84)) := At.fr (m := 25) b586 bl7 r256 (bq (by decide)) (Or.inl (Nat.add_lt_add_left (by decide) n0))
  have f588 := (r233 (n0 + 109) (Nat.add_lt_add_left (by decide) n0) (fun q => absurd (Nat.add_left_cancel q) (by decide))).trans f223
  have f589 := (r241 (n0 + 109) (Nat.add_lt_add_left (by decide) n0) (fun q => absurd (Nat.add_left_cancel q) (by decide))).trans f588
  have f590 := (r248 (n0 + 109) (Nat.add_lt_add_left (by decide) n0) (fun q => absurd (Nat.add_left_cancel q) (by decide))).trans f589
  have f591 := (r256 (n0 + 109) (Nat.add_lt_add_left (by decide) n0) (fun q => absurd (Nat.add_left_cancel q) (by decide))).trans f590
  have b592 : At h229 (n0 + 110) (bk7 (n0 + 110)) := At.fr (m := 25) b224 bl7 r233 (bq (by decide)) (Or.inl (Nat.add_lt_add_left (by decide) n0))
  have b593 : At h237 (n0 + 110) (bk7 (n0 + 110)) := At.fr (m := 25) b592 bl7 r241 (bq (by decide)) (Or.inr (bq (by decide)))
  have b594 : At h243 (n0 + 110) (bk7 (n0 + 110)) := At.fr (m := 25) b593 bl7 r248 (bq (by decide)) (Or.inr (bq (by decide)))
  have b595 : At h252 (n0 + 110) (bk7 (n0 + 110)) := At.fr (m := 25) b594 bl7 r256 (bq (by decide)) (Or.inl (Nat.add_lt_add_left (by decide) n0))
  have f596 := (r256 (n0 + 135) (Nat.add_lt_add_left (by decide) n0) (fun q => absurd (Nat.add_left_cancel q) (by decide))).trans f246
  have b597 : At h252 (n0 + 136) (bk7 (n0 + 136)) := At.fr (m := 25) b247 bl7 r256 (bq (by decide)) (Or.inl (Nat.add_lt_add_left (by decide) n0))
  have hfr : ∀ j, j < n0 → j ≠ o → h252[j]? = h[j]? := by
    intro j hj hjo
    rw [r256 j (Nat.lt_of_lt_of_le hj (Nat.le_add_right _ _)) (Nat.ne_of_lt (Nat.lt_of_lt_of_le hj (Nat.le_add_right _ _))), r248 j (Nat.lt_of_lt_of_le hj (Nat.le_add_right _ _)) (Nat.ne_of_lt (Nat.lt_of_lt_of_le hj (Nat.le_add_right _ _))), r241 j (Nat.lt_of_lt_of_le hj (Nat.le_add_right _ _)) (Nat.ne_of_lt (Nat.lt_of_lt_of_le hj (Nat.le_add_right _ _))), r233 j (Nat.lt_of_lt_of_le hj (Nat.le_add_right _ _)) (Nat.ne_of_lt (Nat.lt_of_lt_of_le hj (Nat.le_add_right _ _))), r225 j (Nat.lt_of_lt_of_le hj (Nat.le_add_right _ _)) (Nat.ne_of_lt (Nat.lt_of_lt_of_le hj (Nat.le_add_right _ _))), r218 j (Nat.lt_of_lt_of_le hj (Nat.le_add_right _ _)) (Nat.ne_of_lt (Nat.lt_of_lt_of_le hj (Nat.le_add_right _ _))), r210 j (Nat.lt_of_lt_of_le hj (Nat.le_add_right _ _)) (Nat.ne_of_lt (Nat.lt_of_lt_of_le hj (Nat.le_add_right _ _))), r180 j (Nat.lt_of_lt_of_le hj (Nat.le_add_right _ _)) (Nat.ne_of_lt (Nat.lt_of_lt_of_le hj (Nat.le_add_right _ _))), r173 j (Nat.lt_of_lt_of_le hj (Nat.le_add_right _ _)) (Nat.ne_of_lt (Nat.lt_of_lt_of_le hj (Nat.le_add_right _ _))), r168 j (Nat.lt_of_lt_of_le hj (Nat.le_add_right _ _)) hjo, r160 j (Nat.lt_of_lt_of_le hj (Nat.le_add_right _ _)) (Nat.ne_of_lt (Nat.lt_of_lt_of_le hj (Nat.le_add_right _ _))), r153 j (Nat.lt_of_lt_of_le hj (Nat.le_add_right _ _)) (Nat.ne_of_lt (Nat.lt_of_lt_of_le hj (Nat.le_add_right _ _))), r148 j (Nat.lt_of_lt_of_le hj (Nat.le_add_right _ _)) hjo, r142 j (Nat.lt_of_lt_of_le hj (Nat.le_add_right _ _)) hjo, r134 j (Nat.lt_of_lt_of_le hj (Nat.le_add_right _ _)) (Nat.ne_of_lt (Nat.lt_of_lt_of_le hj (Nat.le_add_right _ _))), r127 j (Nat.lt_of_lt_of_le hj (Nat.le_add_right _ _)) (Nat.ne_of_lt (Nat.lt_of_lt_of_le hj (Nat.le_add_right _ _))), r122 j (Nat.lt_of_lt_of_le hj (Nat.le_add_right _ _)) hjo, r114 j (Nat.lt_of_lt_of_le hj (Nat.le_add_right _ _)) (Nat.ne_of_lt (Nat.lt_of_lt_of_le hj (Nat.le_add_right _ _))), r107 j (Nat.lt_of_lt_of_le hj (Nat.le_add_right _ _)) (Nat.ne_of_lt (Nat.lt_of_lt_of_le hj (Nat.le_add_right _ _))), r102 j (Nat.lt_of_lt_of_le hj (Nat.le_add_right _ _)) hjo, r94 j (Nat.lt_of_lt_of_le hj (Nat.le_add_right _ _)) (Nat.ne_of_lt (Nat.lt_of_lt_of_le hj (Nat.le_add_right _ _))), r87 j (Nat.lt_of_lt_of_le hj (Nat.le_add_right _ _)) (Nat.ne_of_lt (Nat.lt_of_lt_of_le hj (Nat.le_add_right _ _))), r82 j (Nat.lt_of_lt_of_le hj (Nat.le_add_right _ _)) hjo, r74 j (Nat.lt_of_lt_of_le hj (Nat.le_add_right _ _)) (Nat.ne_of_lt (Nat.lt_of_lt_of_le hj (Nat.le_add_right _ _))), r67 j (Nat.lt_of_lt_of_le hj (Nat.le_add_right _ _)) (Nat.ne_of_lt (Nat.lt_of_lt_of_le hj (Nat.le_add_right _ _))), r62 j (Nat.lt_of_lt_of_le hj (Nat.le_add_right _ _)) hjo, r54 j (Nat.lt_of_lt_of_le hj (Nat.le_add_right _ _)) (Nat.ne_of_lt (Nat.lt_of_lt_of_le hj (Nat.le_add_right _ _))), r47 j (Nat.lt_of_lt_of_le hj (Nat.le_add_right _ _)) (Nat.ne_of_lt (Nat.lt_of_lt_of_le hj (Nat.le_add_right _ _))), r42 j (Nat.lt_of_lt_of_le hj (Nat.le_add_right _ _)) hjo, r36 j (Nat.lt_of_lt_of_le hj (Nat.le_add_right _ _)) (Nat.ne_of_lt (Nat.lt_of_lt_of_le hj (Nat.le_add_right _ _))), r31 j (Nat.lt_of_lt_of_le hj (Nat.le_add_right _ _)) hjo, r25 j (Nat.lt_of_lt_of_le hj (Nat.le_add_right _ _)) (Nat.ne_of_lt (Nat.lt_of_lt_of_le hj (Nat.le_add_right _ _))), r20 j (Nat.lt_of_lt_of_le hj (Nat.le_add_right _ _)) hjo, r12 j (Nat.lt_of_lt_of_le hj (Nat.le_add_right _ _)) (Nat.ne_of_lt (Nat.lt_of_lt_of_le hj (Nat.le_add_right _ _))), r5 j (Nat.lt_of_lt_of_le hj (Nat.le_add_right _ _)) (Nat.ne_of_lt (Nat.lt_of_lt_of_le hj (Nat.le_add_right _ _)))]
  exact J_vret hq dX10_init_133 rfl (hk1 hn l255) (by decide) (by decide) ⟨rfl, l255, f259, (At_cons f292 (At_app bl7 b325 (At_cons f254 (At_cons f354 (At_cons f380 (At_app bl3 b406 (At_cons f429 (At_app bl4 b452 (At_cons f472 (At_app bl8 b492 (At_cons f509 (At_app bl5 b526 (At_cons f539 (At_app bl0 b553 (At_cons f563 (At_app bl1 b573 (At_cons f580 (At_app bl7 b587 (At_cons f591 (At_app bl7 b595 (At_cons f596 (At_app bl7 b597 At_nil)))))))))))))))))))))), hfr⟩
def ob11 (n : Nat) : MC := (.inr (11, [.int 0, .ref (n + 0), .ref (n + 1), .ref (n + 2), .ref (n + 3), .ref (n + 4), .ref (n + 5), .ref (n + 6), .int 0, .int 0, .int 0, .int 0, .int 0, .long 0, .int 0, .int 0, .int 0, .int 0, .int 0, .ref (n + 7), .ref (n + 8), .ref (n + 9), .int 0, .int 0, .int 0, .int 0, .int 0, .int 0, .ref (n + 10), .ref (n + 11), .ref (n + 12), .int 0, .int 0, .int 0, .ref (n + 13), .ref (n + 14), .ref (n + 15), .ref (n + 16), .ref (n + 17), .int 0, .long 0, .int 0, .ref (n + 18)]))
def bk11 (n : Nat) : List MC := (.inl (0, 2400, .inl (fun _ => 0))) :: ((.inl (1, 4, .inl (fun _ => 0))) :: ((.inl (1, 4, .inl (fun _ => 0))) :: ((.inl (1, 4, .inl (upd (fun _ => 0) ((0 : Int32).toNatClampNeg) (-1)))) :: ((.inl (1, 8, .inl (fun _ => 0))) :: ((.inl (1, 1256, .inl (fun _ => 0))) :: ((.inl (1, 444, .inl (fun _ => 0))) :: ((.inl (1, 157, .inl (fun _ => 0))) :: ((.inl (1, 3, .inl (fun _ => 0))) :: ((.inl (1, 157, .inl (fun _ => 0))) :: ((.inl (1, 9, .inl (fun _ => 0))) :: ((.inl (1, 9, .inl (fun _ => 0))) :: ((.inl (1, 9, .inl (fun _ => 0))) :: ((.inl (2, 512, .inr (.inl (fun _ => 0)))) :: ((.inl (1, 9, .inl (fun _ => 0))) :: ((.inl (1, 9, .inl (fun _ => 0))) :: ((.inl (1, 4, .inl (fun _ => 0))) :: ((.inl (1, 4, .inl (fun _ => 0))) :: ((.inl (3, 3, .inl (fun _ => 0))) :: ([])))))))))))))))))))
set_option maxRecDepth 100000 in
theorem bl11 {n : Nat} : (bk11 n).length = 19 := rfl
set_option maxHeartbeats 4000000 in
set_option maxRecDepth 100000 in
theorem c_X11_init {d : Nat} {h : List MC} {o n0 : Nat} (hd : 1 ≤ d) (hn : h.length = n0) (ho : h[o]? = some (.inr (11, [.int 0, .null, .null, .null, .null, .null, .null, .null, .int 0, .int 0, .int 0, .int 0, .int 0, .long 0, .int 0, .int 0, .int 0, .int 0, .int 0, .null, .null, .null, .int 0, .int 0, .int 0, .int 0, .int 0, .int 0, .null, .null, .null, .int 0, .int 0, .int 0, .null, .null, .null, .null, .null, .int 0, .long 0, .int 0, .null]))) : CT con0 d 19 5005 yX11_init cX11_init 1 none [.ref o] h (fun r h2 => r = none ∧ h2.length = n0 + 19 ∧ h2[o]? = some (ob11 n0) ∧ At h2 n0 (bk11 n0) ∧ ∀ j, j < n0 → j ≠ o → h2[j]? = h[j]?) := by
  have hol : o < n0 := by rw [← hn]; exact (List.getElem?_eq_some_iff.mp ho).1
  have hn0 : h.length = n0 + 0 := hn
  refine CT_of (by decide) (Nat.le_of_ble_eq_true rfl) (fun x hq => ?_)
  show J x yX11_init cX11_init 1 none d 19 5005 h.length 0 [(0, .ref o)] [] h 0 0
  refine J_aload_n (i := 0) (j := 0) dX11_init_0 rfl rfl ?_
  refine J_obj dX11_init_1 k1263 k113 k114 (Nat.le_trans (by decide) hd) (Nat.le_of_ble_eq_true rfl) ?_
  refine J_aload_n (i := 0) (j := 0) dX11_init_4 rfl rfl ?_
  refine J_sipush (v := 2400) dX11_init_5 (by decide) ?_
  refine J_newa0 (Z := 2400) dX11_init_8 ka0 (by decide) (by decide) (by decide) (hk1 hn hn0) (by decide) (by decide) ?_
  obtain ⟨h1, e2⟩ : ∃ z, z = h ++ [(.inl (0, 2400, .inl (fun _ => 0)))] := ⟨_, rfl⟩
  refine J_w e2.symm ?_
  refine J_cr (v := n0 + 0) hn0 ?_
  have f3 := a_push e2 hn0
  have l4 : h1.length = n0 + 1 := l_push e2 hn0 rfl
  have r5 := r_push (a := n0 + 0) e2 hn0
  have f6 := (r5 (o) (Nat.lt_of_lt_of_le hol (Nat.le_add_right _ _)) (Nat.ne_of_lt (Nat.lt_of_lt_of_le hol (Nat.le_add_right _ _)))).trans ho
  obtain ⟨h7, e8⟩ : ∃ z, z = h1.set (o) (.inr (11, [.int 0, .ref (n0 + 0), .null, .null, .null, .null, .null, .null, .int 0, .int 0, .int 0, .int 0, .int 0, .long 0, .int 0, .int 0, .int 0, .int 0, .int 0, .null, .null, .null, .int 0, .int 0, .int 0, .int 0, .int 0, .int 0, .null, .null, .null, .int 0, .int 0, .int 0, .null, .null, .null, .null, .null, .int 0, .long 0, .int 0, .null])) := ⟨_, rfl⟩
  refine J_putF (C := RX11) (T := TX11) (Z := 43) (ci := 11) (f := 1) (ty0 := tyX11) dX11_init_10 inG11 rfl tyX11_ok nmX11 (by decide) k1265 rfl rfl rfl rfl f6 (Nat.le_of_ble_eq_true rfl) (fun _ _ => ⟨rfl, rfl⟩) e8.symm ?_
  have f9 := a_set e8 f6
  have l10 : h7.length = n0 + 1 := l_set e8 l4
  have r11 := r_set (N := n0 + 1) e8
  refine J_aload_n (i := 0) (j := 0) dX11_init_13 rfl rfl ?_
  refine J_iconst (v := 4) dX11_init_14 (by decide) ?_
  refine J_newa1 (Z := 4) dX11_init_15 ka1 (by decide) (by decide) (by decide) (hk1 hn l10) (by decide) (by decide) ?_
  obtain ⟨h12, e13⟩ : ∃ z, z = h7 ++ [(.inl (1, 4, .inl (fun _ => 0)))] := ⟨_, rfl⟩
  refine J_w e13.symm ?_
  refine J_cr (v := n0 + 1) l10 ?_
  have f14 := a_push e13 l10
  have l15 : h12.length = n0 + 2 := l_push e13 l10 rfl
  have r16 := r_push (a := n0 + 1) e13 l10
  have f17 := (r16 (o) (Nat.lt_of_lt_of_le hol (Nat.le_add_right _ _)) (Nat.ne_of_lt (Nat.lt_of_lt_of_le hol (Nat.le_add_right _ _)))).trans f9
  obtain ⟨h18, e19⟩ : ∃ z, z = h12.set (o) (.inr (11, [.int 0, .ref (n0 + 0), .ref (n0 + 1), .null, .null, .null, .null, .null, .int 0, .int 0, .int 0, .int 0, .int 0, .long 0, .int 0, .int 0, .int 0, .int 0, .int 0, .null, .null, .null, .int 0, .int 0, .int 0, .int 0, .int 0, .int 0, .null, .null, .null, .int 0, .int 0, .int 0, .null, .null, .null, .null, .null, .int 0, .long 0, .int 0, .null])) := ⟨_, rfl⟩
  refine J_putF (C := RX11) (T := TX11) (Z := 43) (ci := 11) (f := 2) (ty0 := tyX11) dX11_init_17 inG11 rfl tyX11_ok nmX11 (by decide) k1266 rfl rfl rfl rfl f17 (Nat.le_of_ble_eq_true rfl) (fun _ _ => ⟨rfl, rfl⟩) e19.symm ?_
  have f20 := a_set e19 f17
  have l21 : h18.length = n0 + 2 := l_set e19 l15
  have r22 := r_set (N := n0 + 2) e19
  refine J_aload_n (i := 0) (j := 0) dX11_init_20 rfl rfl ?_
  refine J_iconst (v := 4) dX11_init_21 (by decide) ?_
  refine J_newa1 (Z := 4) dX11_init_22 ka1 (by decide) (by decide) (by decide) (hk1 hn l21) (by decide) (by decide) ?_
  obtain ⟨h23, e24⟩ : ∃ z, z = h18 ++ [(.inl (1, 4, .inl (fun _ => 0)))] := ⟨_, rfl⟩
  refine J_w e24.symm ?_
  refine J_cr (v := n0 + 2) l21 ?_
  have f25 := a_push e24 l21
  have l26 : h23.length = n0 + 3 := l_push e24 l21 rfl
  have r27 := r_push (a := n0 + 2) e24 l21
  have f28 := (r27 (o) (Nat.lt_of_lt_of_le hol (Nat.le_add_right _ _)) (Nat.ne_of_lt (Nat.lt_of_lt_of_le hol (Nat.le_add_right _ _)))).trans f20
  obtain ⟨h29, e30⟩ : ∃ z, z = h23.set (o) (.inr (11, [.int 0, .ref (n0 + 0), .ref (n0 + 1), .ref (n0 + 2), .null, .null, .null, .null, .int 0, .int 0, .int 0, .int 0, .int 0, .long 0, .int 0, .int 0, .int 0, .int 0, .int 0, .null, .null, .null, .int 0, .int 0, .int 0, .int 0, .int 0, .int 0, .null, .null, .null, .int 0, .int 0, .int 0, .null, .null, .null, .null, .null, .int 0, .long 0, .int 0, .null])) := ⟨_, rfl⟩
  refine J_putF (C := RX11) (T := TX11) (Z := 43) (ci := 11) (f := 3) (ty0 := tyX11) dX11_init_24 inG11 rfl tyX11_ok nmX11 (by decide) k1267 rfl rfl rfl rfl f28 (Nat.le_of_ble_eq_true rfl) (fun _ _ => ⟨rfl, rfl⟩) e30.symm ?_
  have f31 := a_set e30 f28
  have l32 : h29.length = n0 + 3 := l_set e30 l26
  have r33 := r_set (N := n0 + 3) e30
  refine J_aload_n (i := 0) (j := 0) dX11_init_27 rfl rfl ?_
  refine J_iconst (v := 4) dX11_init_28 (by decide) ?_
  refine J_newa1 (Z := 4) dX11_init_29 ka1 (by decide) (by decide) (by decide) (hk1 hn l32) (by decide) (by decide) ?_
  obtain ⟨h34, e35⟩ : ∃ z, z = h29 ++ [(.inl (1, 4, .inl (fun _ => 0)))] := ⟨_, rfl⟩
  refine J_w e35.symm ?_
  refine J_cr (v := n0 + 3) l32 ?_
  have f36 := a_push e35 l32
  have l37 : h34.length = n0 + 4 := l_push e35 l32 rfl
  have r38 := r_push (a := n0 + 3) e35 l32
  have f39 := (r38 (o) (Nat.lt_of_lt_of_le hol (Nat.le_add_right _ _)) (Nat.ne_of_lt (Nat.lt_of_lt_of_le hol (Nat.le_add_right _ _)))).trans f31
  obtain ⟨h40, e41⟩ : ∃ z, z = h34.set (o) (.inr (11, [.int 0, .ref (n0 + 0), .ref (n0 + 1), .ref (n0 + 2), .ref (n0 + 3), .null, .null, .null, .int 0, .int 0, .int 0, .int 0, .int 0, .long 0, .int 0, .int 0, .int 0, .int 0, .int 0, .null, .null, .null, .int 0, .int 0, .int 0, .int 0, .int 0, .int 0, .null, .null, .null, .int 0, .int 0, .int 0, .null, .null, .null, .null, .null, .int 0, .long 0, .int 0, .null])) := ⟨_, rfl⟩
  refine J_putF (C := RX11) (T := TX11) (Z := 43) (ci := 11) (f := 4) (ty0 := tyX11) dX11_init_31 inG11 rfl tyX11_ok nmX11 (by decide) k1268 rfl rfl rfl rfl f39 (Nat.le_of_ble_eq_true rfl) (fun _ _ => ⟨rfl, rfl⟩) e41.symm ?_
  have f42 := a_set e41 f39
  have l43 : h40.length = n0 + 4 := l_set e41 l37
  have r44 := r_set (N := n0 + 4) e41
  refine J_aload_n (i := 0) (j := 0) dX11_init_34 rfl rfl ?_
  refine J_bipush (v := 8) dX11_init_35 (by decide) ?_
  refine J_newa1 (Z := 8) dX11_init_37 ka1 (by decide) (by decide) (by decide) (hk1 hn l43) (by decide) (by decide) ?_
  obtain ⟨h45, e46⟩ : ∃ z, z = h40 ++ [(.inl (1, 8, .inl (fun _ => 0)))] := ⟨_, rfl⟩
  refine J_w e46.symm ?_
  refine J_cr (v := n0 + 4) l43 ?_
  have f47 := a_push e46 l43
  have l48 : h45.length = n0 + 5 := l_push e46 l43 rfl
  have r49 := r_push (a := n0 + 4) e46 l43
  have f50 := (r49 (o) (Nat.lt_of_lt_of_le hol (Nat.le_add_right _ _)) (Nat.ne_of_lt (Nat.lt_of_lt_of_le hol (Nat.le_add_right _ _)))).trans f42
  obtain ⟨h51, e52⟩ : ∃ z, z = h45.set (o) (.inr (11, [.int 0, .ref (n0 + 0), .ref (n0 + 1), .ref (n0 + 2), .ref (n0 + 3), .ref (n0 + 4), .null, .null, .int 0, .int 0, .int 0, .int 0, .int 0, .long 0, .int 0, .int 0, .int 0, .int 0, .int 0, .null, .null, .null, .int 0, .int 0, .int 0, .int 0, .int 0, .int 0, .null, .null, .null, .int 0, .int 0, .int 0, .null, .null, .null, .null, .null, .int 0, .long 0, .int 0, .null])) := ⟨_, rfl⟩
  refine J_putF (C := RX11) (T := TX11) (Z := 43) (ci := 11) (f := 5) (ty0 := tyX11) dX11_init_39 inG11 rfl tyX11_ok nmX11 (by decide) k1269 rfl rfl rfl rfl f50 (Nat.le_of_ble_eq_true rfl) (fun _ _ => ⟨rfl, rfl⟩) e52.symm ?_
  have f53 := a_set e52 f50
  have l54 : h51.length = n0 + 5 := l_set e52 l48
  have r55 := r_set (N := n0 + 5) e52
  refine J_aload_n (i := 0) (j := 0) dX11_init_42 rfl rfl ?_
  refine J_sipush (v := 1256) dX11_init_43 (by decide) ?_
  refine J_newa1 (Z := 1256) dX11_init_46 ka1 (by decide) (by decide) (by decide) (hk1 hn l54) (by decide) (by decide) ?_
  obtain ⟨h56, e57⟩ : ∃ z, z = h51 ++ [(.inl (1, 1256, .inl (fun _ => 0)))] := ⟨_, rfl⟩
  refine J_w e57.symm ?_
  refine J_cr (v := n0 + 5) l54 ?_
  have f58 := a_push e57 l54
  have l59 : h56.length = n0 + 6 := l_push e57 l54 rfl
  have r60 := r_push (a := n0 + 5) e57 l54
  have f61 := (r60 (o) (Nat.lt_of_lt_of_le hol (Nat.le_add_right _ _)) (Nat.ne_of_lt (Nat.lt_of_lt_of_le hol (Nat.le_add_right _ _)))).trans f53
  obtain ⟨h62, e63⟩ : ∃ z, z = h56.set (o) (.inr (11, [.int 0, .ref (n0 + 0), .ref (n0 + 1), .ref (n0 + 2), .ref (n0 + 3), .ref (n0 + 4), .ref (n0 + 5), .null, .int 0, .int 0, .int 0, .int 0, .int 0, .long 0, .int 0, .int 0, .int 0, .int 0, .int 0, .null, .null, .null, .int 0, .int 0, .int 0, .int 0, .int 0, .int 0, .null, .null, .null, .int 0, .int 0, .int 0, .null, .null, .null, .null, .null, .int 0, .long 0, .int 0, .null])) := ⟨_, rfl⟩
  refine J_putF (C := RX11) (T := TX11) (Z := 43) (ci := 11) (f := 6) (ty0 := tyX11) dX11_init_48 inG11 rfl tyX11_ok nmX11 (by decide) k1270 rfl rfl rfl rfl f61 (Nat.le_of_ble_eq_true rfl) (fun _ _ => ⟨rfl, rfl⟩) e63.symm ?_
  have f64 := a_set e63 f61
  have l65 : h62.length = n0 + 6 := l_set e63 l59
  have r66 := r_set (N := n0 + 6) e63
  refine J_aload_n (i := 0) (j := 0) dX11_init_51 rfl rfl ?_
  refine J_sipush (v := 444) dX11_init_52 (by decide) ?_
  refine J_newa1 (Z := 444) dX11_init_55 ka1 (by decide) (by decide) (by decide) (hk1 hn l65) (by decide) (by decide) ?_
  obtain ⟨h67, e68⟩ : ∃ z, z = h62 ++ [(.inl (1, 444, .inl (fun _ => 0)))] := ⟨_, rfl⟩
  refine J_w e68.symm ?_
  refine J_cr (v := n0 + 6) l65 ?_
  have f69 := a_push e68 l65
  have l70 : h67.length = n0 + 7 := l_push e68 l65 rfl
  have r71 := r_push (a := n0 + 6) e68 l65
  have f72 := (r71 (o) (Nat.lt_of_lt_of_le hol (Nat.le_add_right _ _)) (Nat.ne_of_lt (Nat.lt_of_lt_of_le hol (Nat.le_add_right _ _)))).trans f64
  obtain ⟨h73, e74⟩ : ∃ z, z = h67.set (o) (.inr (11, [.int 0, .ref (n0 + 0), .ref (n0 + 1), .ref (n0 + 2), .ref (n0 + 3), .ref (n0 + 4), .ref (n0 + 5), .ref (n0 + 6), .int 0, .int 0, .int 0, .int 0, .int 0, .long 0, .int 0, .int 0, .int 0, .int 0, .int 0, .null, .null, .null, .int 0, .int 0, .int 0, .int 0, .int 0, .int 0, .null, .null, .null, .int 0, .int 0, .int 0, .null, .null, .null, .null, .null, .int 0, .long 0, .int 0, .null])) := ⟨_, rfl⟩
  refine J_putF (C := RX11) (T := TX11) (Z := 43) (ci := 11) (f := 7) (ty0 := tyX11) dX11_init_57 inG11 rfl tyX11_ok nmX11 (by decide) k1271 rfl rfl rfl rfl f72 (Nat.le_of_ble_eq_true rfl) (fun _ _ => ⟨rfl, rfl⟩) e74.symm ?_
  have f75 := a_set e74 f72
  have l76 : h73.length = n0 + 7 := l_set e74 l70
  have r77 := r_set (N := n0 + 7) e74
  refine J_aload_n (i := 0) (j := 0) dX11_init_60 rfl rfl ?_
  refine J_sipush (v := 157) dX11_init_61 (by decide) ?_
  refine J_newa1 (Z := 157) dX11_init_64 ka1 (by decide) (by decide) (by decide) (hk1 hn l76) (by decide) (by decide) ?_
  obtain ⟨h78, e79⟩ : ∃ z, z = h73 ++ [(.inl (1, 157, .inl (fun _ => 0)))] := ⟨_, rfl⟩
  refine J_w e79.symm ?_
  refine J_cr (v := n0 + 7) l76 ?_
  have f80 := a_push e79 l76
  have l81 : h78.length = n0 + 8 := l_push e79 l76 rfl
  have r82 := r_push (a := n0 + 7) e79 l76
  have f83 := (r82 (o) (Nat.lt_of_lt_of_le hol (Nat.le_add_right _ _)) (Nat.ne_of_lt (Nat.lt_of_lt_of_le hol (Nat.le_add_right _ _)))).trans f75
  obtain ⟨h84, e85⟩ : ∃ z, z = h78.set (o) (.inr (11, [.int 0, .ref (n0 + 0), .ref (n0 + 1), .ref (n0 + 2), .ref (n0 + 3), .ref (n0 + 4), .ref (n0 + 5), .ref (n0 + 6), .int 0, .int 0, .int 0, .int 0, .int 0, .long 0, .int 0, .int 0, .int 0, .int 0, .int 0, .ref (n0 + 7), .null, .null, .int 0, .int 0, .int 0, .int 0, .int 0, .int 0, .null, .null, .null, .int 0, .int 0, .int 0, .null, .null, .null, .null, .null, .int 0, .long 0, .int 0, .null])) := ⟨_, rfl⟩
  refine J_putF (C := RX11) (T := TX11) (Z := 43) (ci := 11) (f := 19) (ty0 := tyX11) dX11_init_66 inG11 rfl tyX11_ok nmX11 (by decide) k1283 rfl rfl rfl rfl f83 (Nat.le_of_ble_eq_true rfl) (fun _ _ => ⟨rfl, rfl⟩) e85.symm ?_
  have f86 := a_set e85 f83
  have l87 : h84.length = n0 + 8 := l_set e85 l81
  have r88 := r_set (N := n0 + 8) e85
  refine J_aload_n (i := 0) (j := 0) dX11_init_69 rfl rfl ?_
  refine J_iconst (v := 3) dX11_init_70 (by decide) ?_
  refine J_newa1 (Z := 3) dX11_init_71 ka1 (by decide) (by decide) (by decide) (hk1 hn l87) (by decide) (by decide) ?_
  obtain ⟨h89, e90⟩ : ∃ z, z = h84 ++ [(.inl (1, 3, .inl (fun _ => 0)))] := ⟨_, rfl⟩
  refine J_w e90.symm ?_
  refine J_cr (v := n0 + 8) l87 ?_
  have f91 := a_push e90 l87
  have l92 : h89.length = n0 + 9 := l_push e90 l87 rfl
  have r93 := r_push (a := n0 + 8) e90 l87
  have f94 := (r93 (o) (Nat.lt_of_lt_of_le hol (Nat.le_add_right _ _)) (Nat.ne_of_lt (Nat.lt_of_lt_of_le hol (Nat.le_add_right _ _)))).trans f86
  obtain ⟨h95, e96⟩ : ∃ z, z = h89.set (o) (.inr (11, [.int 0, .ref (n0 + 0), .ref (n0 + 1), .ref (n0 + 2), .ref (n0 + 3), .ref (n0 + 4), .ref (n0 + 5), .ref (n0 + 6), .int 0, .int 0, .int 0, .int 0, .int 0, .long 0, .int 0, .int 0, .int 0, .int 0, .int 0, .ref (n0 + 7), .ref (n0 + 8), .null, .int 0, .int 0, .int 0, .int 0, .int 0, .int 0, .null, .null, .null, .int 0, .int 0, .int 0, .null, .null, .null, .null, .null, .int 0, .long 0, .int 0, .null])) := ⟨_, rfl⟩
  refine J_putF (C := RX11) (T := TX11) (Z := 43) (ci := 11) (f := 20) (ty0 := tyX11) dX11_init_73 inG11 rfl tyX11_ok nmX11 (by decide) k1284 rfl rfl rfl rfl f94 (Nat.le_of_ble_eq_true rfl) (fun _ _ => ⟨rfl, rfl⟩) e96.symm ?_
  have f97 := a_set e96 f94
  have l98 : h95.length = n0 + 9 := l_set e96 l92
  have r99 := r_set (N := n0 + 9) e96
  refine J_aload_n (i := 0) (j := 0) dX11_init_76 rfl rfl ?_
  refine J_sipush (v := 157) dX11_init_77 (by decide) ?_
  refine J_newa1 (Z := 157) dX11_init_80 ka1 (by decide) (by decide) (by decide) (hk1 hn l98) (by decide) (by decide) ?_
  obtain ⟨h100, e101⟩ : ∃ z, z = h95 ++ [(.inl (1, 157, .inl (fun _ => 0)))] := ⟨_, rfl⟩
  refine J_w e101.symm ?_
  refine J_cr (v := n0 + 9) l98 ?_
  have f102 := a_push e101 l98
  have l103 : h100.length = n0 + 10 := l_push e101 l98 rfl
  have r104 := r_push (a := n0 + 9) e101 l98
  have f105 := (r104 (o) (Nat.lt_of_lt_of_le hol (Nat.le_add_right _ _)) (Nat.ne_of_lt (Nat.lt_of_lt_of_le hol (Nat.le_add_right _ _)))).trans f97
  obtain ⟨h106, e107⟩ : ∃ z, z = h100.set (o) (.inr (11, [.int 0, .ref (n0 + 0), .ref (n0 + 1), .ref (n0 + 2), .ref (n0 + 3), .ref (n0 + 4), .ref (n0 + 5), .ref (n0 + 6), .int 0, .int 0, .int 0, .int 0, .int 0, .long 0, .int 0, .int 0, .int 0, .int 0, .int 0, .ref (n0 + 7), .ref (n0 + 8), .ref (n0 + 9), .int 0, .int 0, .int 0, .int 0, .int 0, .int 0, .null, .null, .null, .int 0, .int 0, .int 0, .null, .null, .null, .null, .null, .int 0, .long 0, .int 0, .null])) := ⟨_, rfl⟩
  refine J_putF (C := RX11) (T := TX11) (Z := 43) (ci := 11) (f := 21) (ty0 := tyX11) dX11_init_82 inG11 rfl tyX11_ok nmX11 (by decide) k1285 rfl rfl rfl rfl f105 (Nat.le_of_ble_eq_true rfl) (fun _ _ => ⟨rfl, rfl⟩) e107.symm ?_
  have f108 := a_set e107 f105
  have l109 : h106.length = n0 + 10 := l_set e107 l103
  have r110 := r_set (N := n0 + 10) e107
  refine J_aload_n (i := 0) (j := 0) dX11_init_85 rfl rfl ?_
  refine J_bipush (v := 9) dX11_init_86 (by decide) ?_
  refine J_newa1 (Z := 9) dX11_init_88 ka1 (by decide) (by decide) (by decide) (hk1 hn l109) (by decide) (by decide) ?_
  obtain ⟨h111, e112⟩ : ∃ z, z = h106 ++ [(.inl (1, 9, .inl (fun _ => 0)))] := ⟨_, rfl⟩
  refine J_w e112.symm ?_
  refine J_cr (v := n0 + 10) l109 ?_
  have f113 := a_push e112 l109
  have l114 : h111.length = n0 + 11 := l_push e112 l109 rfl
  have r115 := r_push (a := n0 + 10) e112 l109
  have f116 := (r115 (o) (Nat.lt_of_lt_of_le hol (Nat.le_add_right _ _)) (Nat.ne_of_lt (Nat.lt_of_lt_of_le hol (Nat.le_add_right _ _)))).trans f108
  obtain ⟨h117, e118⟩ : ∃ z, z = h111.set (o) (.inr (11, [.int 0, .ref (n0 + 0), .ref (n0 + 1), .ref (n0 + 2), .ref (n0 + 3), .ref (n0 + 4), .ref (n0 + 5), .ref (n0 + 6), .int 0, .int 0, .int 0, .int 0, .int 0, .long 0, .int 0, .int 0, .int 0, .int 0, .int 0, .ref (n0 + 7), .ref (n0 + 8), .ref (n0 + 9), .int 0, .int 0, .int 0, .int 0, .int 0, .int 0, .ref (n0 + 10), .null, .null, .int 0, .int 0, .int 0, .null, .null, .null, .null, .null, .int 0, .long 0, .int 0, .null])) := ⟨_, rfl⟩
  refine J_putF (C := RX11) (T := TX11) (Z := 43) (ci := 11) (f := 28) (ty0 := tyX11) dX11_init_90 inG11 rfl tyX11_ok nmX11 (by decide) k1292 rfl rfl rfl rfl f116 (Nat.le_of_ble_eq_true rfl) (fun _ _ => ⟨rfl, rfl⟩) e118.symm ?_
  have f119 := a_set e118 f116
  have l120 : h117.length = n0 + 11 := l_set e118 l114
  have r121 := r_set (N := n0 + 11) e118
  refine J_aload_n (i := 0) (j := 0) dX11_init_93 rfl rfl ?_
  refine J_bipush (v := 9) dX11_init_94 (by decide) ?_
  refine J_newa1 (Z := 9) dX11_init_96 ka1 (by decide) (by decide) (by decide) (hk1 hn l120) (by decide) (by decide) ?_
  obtain ⟨h122, e123⟩ : ∃ z, z = h117 ++ [(.inl (1, 9, .inl (fun _ => 0)))] := ⟨_, rfl⟩
  refine J_w e123.symm ?_
  refine J_cr (v := n0 + 11) l120 ?_
  have f124 := a_push e123 l120
  have l125 : h122.length = n0 + 12 := l_push e123 l120 rfl
  have r126 := r_push (a := n0 + 11) e123 l120
  have f127 := (r126 (o) (Nat.lt_of_lt_of_le hol (Nat.le_add_right _ _)) (Nat.ne_of_lt (Nat.lt_of_lt_of_le hol (Nat.le_add_right _ _)))).trans f119
  obtain ⟨h128, e129⟩ : ∃ z, z = h122.set (o) (.inr (11, [.int 0, .ref (n0 + 0), .ref (n0 + 1), .ref (n0 + 2), .ref (n0 + 3), .ref (n0 + 4), .ref (n0 + 5), .ref (n0 + 6), .int 0, .int 0, .int 0, .int 0, .int 0, .long 0, .int 0, .int 0, .int 0, .int 0, .int 0, .ref (n0 + 7), .ref (n0 + 8), .ref (n0 + 9), .int 0, .int 0, .int 0, .int 0, .int 0, .int 0, .ref (n0 + 10), .ref (n0 + 11), .null, .int 0, .int 0, .int 0, .null, .null, .null, .null, .null, .int 0, .long 0, .int 0, .null])) := ⟨_, rfl⟩
  refine J_putF (C := RX11) (T := TX11) (Z := 43) (ci := 11) (f := 29) (ty0 := tyX11) dX11_init_98 inG11 rfl tyX11_ok nmX11 (by decide) k1293 rfl rfl rfl rfl f127 (Nat.le_of_ble_eq_true rfl) (fun _ _ => ⟨rfl, rfl⟩) e129.symm ?_
  have f130 := a_set e129 f127
  have l131 : h128.length = n0 + 12 := l_set e129 l125
  have r132 := r_set (N := n0 + 12) e129
  refine J_aload_n (i := 0) (j := 0) dX11_init_101 rfl rfl ?_
  refine J_bipush (v := 9) dX11_init_102 (by decide) ?_
  refine J_newa1 (Z := 9) dX11_init_104 ka1 (by decide) (by decide) (by decide) (hk1 hn l131) (by decide) (by decide) ?_
  obtain ⟨h133, e134⟩ : ∃ z, z = h128 ++ [(.inl (1, 9, .inl (fun _ => 0)))] := ⟨_, rfl⟩
  refine J_w e134.symm ?_
  refine J_cr (v := n0 + 12) l131 ?_
  have f135 := a_push e134 l131
  have l136 : h133.length = n0 + 13 := l_push e134 l131 rfl
  have r137 := r_push (a := n0 + 12) e134 l131
  have f138 := (r137 (o) (Nat.lt_of_lt_of_le hol (Nat.le_add_right _ _)) (Nat.ne_of_lt (Nat.lt_of_lt_of_le hol (Nat.le_add_right _ _)))).trans f130
  obtain ⟨h139, e140⟩ : ∃ z, z = h133.set (o) (.inr (11, [.int 0, .ref (n0 + 0), .ref (n0 + 1), .ref (n0 + 2), .ref (n0 + 3), .ref (n0 + 4), .ref (n0 + 5), .ref (n0 + 6), .int 0, .int 0, .int 0, .int 0, .int 0, .long 0, .int 0, .int 0, .int 0, .int 0, .int 0, .ref (n0 + 7), .ref (n0 + 8), .ref (n0 + 9), .int 0, .int 0, .int 0, .int 0, .int 0, .int 0, .ref (n0 + 10), .ref (n0 + 11), .ref (n0 + 12), .int 0, .int 0, .int 0, .null, .null, .null, .null, .null, .int 0, .long 0, .int 0, .null])) := ⟨_, rfl⟩
  refine J_putF (C := RX11) (T := TX11) (Z := 43) (ci := 11) (f := 30) (ty0 := tyX11) dX11_init_106 inG11 rfl tyX11_ok nmX11 (by decide) k1294 rfl rfl rfl rfl f138 (Nat.le_of_ble_eq_true rfl) (fun _ _ => ⟨rfl, rfl⟩) e140.symm ?_
  have f141 := a_set e140 f138
  have l142 : h139.length = n0 + 13 := l_set e140 l136
  have r143 := r_set (N := n0 + 13) e140
  refine J_aload_n (i := 0) (j := 0) dX11_init_109 rfl rfl ?_
  refine J_sipush (v := 512) dX11_init_110 (by decide) ?_
  refine J_newa2 (Z := 512) dX11_init_113 ka2 (by decide) (by decide) (by decide) (hk1 hn l142) (by decide) (by decide) ?_
  obtain ⟨h144, e145⟩ : ∃ z, z = h139 ++ [(.inl (2, 512, .inr (.inl (fun _ => 0))))] := ⟨_, rfl⟩
  refine J_w e145.symm ?_
  refine J_cr (v := n0 + 13) l142 ?_
  have f146 := a_push e145 l142
  have l147 : h144.length = n0 + 14 := l_push e145 l142 rfl
  have r148 := r_push (a := n0 + 13) e145 l142
  have f149 := (r148 (o) (Nat.lt_of_lt_of_le hol (Nat.le_add_right _ _)) (Nat.ne_of_lt (Nat.lt_of_lt_of_le hol (Nat.le_add_right _ _)))).trans f141
  obtain ⟨h150, e151⟩ : ∃ z, z = h144.set (o) (.inr (11, [.int 0, .ref (n0 + 0), .ref (n0 + 1), .ref (n0 + 2), .ref (n0 + 3), .ref (n0 + 4), .ref (n0 + 5), .ref (n0 + 6), .int 0, .int 0, .int 0, .int 0, .int 0, .long 0, .int 0, .int 0, .int 0, .int 0, .int 0, .ref (n0 + 7), .ref (n0 + 8), .ref (n0 + 9), .int 0, .int 0, .int 0, .int 0, .int 0, .int 0, .ref (n0 + 10), .ref (n0 + 11), .ref (n0 + 12), .int 0, .int 0, .int 0, .ref (n0 + 13), .null, .null, .null, .null, .int 0, .long 0, .int 0, .null])) := ⟨_, rfl⟩
  refine J_putF (C := RX11) (T := TX11) (Z := 43) (ci := 11) (f := 34) (ty0 := tyX11) dX11_init_115 inG11 rfl tyX11_ok nmX11 (by decide) k1298 rfl rfl rfl rfl f149 (Nat.le_of_ble_eq_true rfl) (fun _ _ => ⟨rfl, rfl⟩) e151.symm ?_
  have f152 := a_set e151 f149
  have l153 : h150.length = n0 + 14 := l_set e151 l147
  have r154 := r_set (N := n0 + 14) e151
  refine J_aload_n (i := 0) (j := 0) dX11_init_118 rfl rfl ?_
  refine J_bipush (v := 9) dX11_init_119 (by decide) ?_
  refine J_newa1 (Z := 9) dX11_init_121 ka1 (by decide) (by decide) (by decide) (hk1 hn l153) (by decide) (by decide) ?_
  obtain ⟨h155, e156⟩ : ∃ z, z = h150 ++ [(.inl (1, 9, .inl (fun _ => 0)))] := ⟨_, rfl⟩
  refine J_w e156.symm ?_
  refine J_cr (v := n0 + 14) l153 ?_
  have f157 := a_push e156 l153
  have l158 : h155.length = n0 + 15 := l_push e156 l153 rfl
  have r159 := r_push (a := n0 + 14) e156 l153
  have f160 := (r159 (o) (Nat.lt_of_lt_of_le hol (Nat.le_add_right _ _)) (Nat.ne_of_lt (Nat.lt_of_lt_of_le hol (Nat.le_add_right _ _)))).trans f152
  obtain ⟨h161, e162⟩ : ∃ z, z = h155.set (o) (.inr (11, [.int 0, .ref (n0 + 0), .ref (n0 + 1), .ref (n0 + 2), .ref (n0 + 3), .ref (n0 + 4), .ref (n0 + 5), .ref (n0 + 6), .int 0, .int 0, .int 0, .int 0, .int 0, .long 0, .int 0, .int 0, .int 0, .int 0, .int 0, .ref (n0 + 7), .ref (n0 + 8), .ref (n0 + 9), .int 0, .int 0, .int 0, .int 0, .int 0, .int 0, .ref (n0 + 10), .ref (n0 + 11), .ref (n0 + 12), .int 0, .int 0, .int 0, .ref (n0 + 13), .ref (n0 + 14), .null, .null, .null, .int 0, .long 0, .int 0, .null])) := ⟨_, rfl⟩
  refine J_putF (C := RX11) (T := TX11) (Z := 43) (ci := 11) (f := 35) (ty0 := tyX11) dX11_init_123 inG11 rfl tyX11_ok nmX11 (by decide) k1299 rfl rfl rfl rfl f160 (Nat.le_of_ble_eq_true rfl) (fun _ _ => ⟨rfl, rfl⟩) e162.symm ?_
  have f163 := a_set e162 f160
  have l164 : h161.length = n0 + 15 := l_set e162 l158
  have r165 := r_set (N := n0 + 15) e162
  refine J_aload_n (i := 0) (j := 0) dX11_init_126 rfl rfl ?_
  refine J_bipush (v := 9) dX11_init_127 (by decide) ?_
  refine J_newa1 (Z := 9) dX11_init_129 ka1 (by decide) (by decide) (by decide) (hk1 hn l164) (by decide) (by decide) ?_
  obtain ⟨h166, e167⟩ : ∃ z, z = h161 ++ [(.inl (1, 9, .inl (fun _ => 0)))] := ⟨_, rfl⟩
  refine J_w e167.symm ?_
  refine J_cr (v := n0 + 15) l164 ?_
  have f168 := a_push e167 l164
  have l169 : h166.length = n0 + 16 := l_push e167 l164 rfl
  have r170 := r_push (a := n0 + 15) e167 l164
  have f171 := (r170 (o) (Nat.lt_of_lt_of_le hol (Nat.le_add_right _ _)) (Nat.ne_of_lt (Nat.lt_of_lt_of_le hol (Nat.le_add_right _ _)))).trans f163
  obtain ⟨h172, e173⟩ : ∃ z, z = h166.set (o) (.inr (11, [.int 0, .ref (n0 + 0), .ref (n0 + 1), .ref (n0 + 2), .ref (n0 + 3), .ref (n0 + 4), .ref (n0 + 5), .ref (n0 + 6), .int 0, .int 0, .int 0, .int 0, .int 0, .long 0, .int 0, .int 0, .int 0, .int 0, .int 0, .ref (n0 + 7), .ref (n0 + 8), .ref (n0 + 9), .int 0, .int 0, .int 0, .int 0, .int 0, .int 0, .ref (n0 + 10), .ref (n0 + 11), .ref (n0 + 12), .int 0, .int 0, .int 0, .ref (n0 + 13), .ref (n0 + 14), .ref (n0 + 15), .null, .null, .int 0, .long 0, .int 0, .null])) := ⟨_, rfl⟩
  refine J_putF (C := RX11) (T := TX11) (Z := 43) (ci := 11) (f := 36) (ty0 := tyX11) dX11_init_131 inG11 rfl tyX11_ok nmX11 (by decide) k1300 rfl rfl rfl rfl f171 (Nat.le_of_ble_eq_true rfl) (fun _ _ => ⟨rfl, rfl⟩) e173.symm ?_
  have f174 := a_set e173 f171
  have l175 : h172.length = n0 + 16 := l_set e173 l169
  have r176 := r_set (N := n0 + 16) e173
  refine J_aload_n (i := 0) (j := 0) dX11_init_134 rfl rfl ?_
  refine J_iconst (v := 4) dX11_init_135 (by decide) ?_
  refine J_newa1 (Z := 4) dX11_init_136 ka1 (by decide) (by decide) (by decide) (hk1 hn l175) (by decide) (by decide) ?_
  obtain ⟨h177, e178⟩ : ∃ z, z = h172 ++ [(.inl (1, 4, .inl (fun _ => 0)))] := ⟨_, rfl⟩
  refine J_w e178.symm ?_
  refine J_cr (v := n0 + 16) l175 ?_
  have f179 := a_push e178 l175
  have l180 : h177.length = n0 + 17 := l_push e178 l175 rfl
  have r181 := r_push (a := n0 + 16) e178 l175
  have f182 := (r181 (o) (Nat.lt_of_lt_of_le hol (Nat.le_add_right _ _)) (Nat.ne_of_lt (Nat.lt_of_lt_of_le hol (Nat.le_add_right _ _)))).trans f174
  obtain ⟨h183, e184⟩ : ∃ z, z = h177.set (o) (.inr (11, [.int 0, .ref (n0 + 0), .ref (n0 + 1), .ref (n0 + 2), .ref (n0 + 3), .ref (n0 + 4), .ref (n0 + 5), .ref (n0 + 6), .int 0, .int 0, .int 0, .int 0, .int 0, .long 0, .int 0, .int 0, .int 0, .int 0, .int 0, .ref (n0 + 7), .ref (n0 + 8), .ref (n0 + 9), .int 0, .int 0, .int 0, .int 0, .int 0, .int 0, .ref (n0 + 10), .ref (n0 + 11), .ref (n0 + 12), .int 0, .int 0, .int 0, .ref (n0 + 13), .ref (n0 + 14), .ref (n0 + 15), .ref (n0 + 16), .null, .int 0, .long 0, .int 0, .null])) := ⟨_, rfl⟩
  refine J_putF (C := RX11) (T := TX11) (Z := 43) (ci := 11) (f := 37) (ty0 := tyX11) dX11_init_138 inG11 rfl tyX11_ok nmX11 (by decide) k1301 rfl rfl rfl rfl f182 (Nat.le_of_ble_eq_true rfl) (fun _ _ => ⟨rfl, rfl⟩) e184.symm ?_
  have f185 := a_set e184 f182
  have l186 : h183.length = n0 + 17 := l_set e184 l180
  have r187 := r_set (N := n0 + 17) e184
  refine J_aload_n (i := 0) (j := 0) dX11_init_141 rfl rfl ?_
  refine J_iconst (v := 4) dX11_init_142 (by decide) ?_
  refine J_newa1 (Z := 4) dX11_init_143 ka1 (by decide) (by decide) (by decide) (hk1 hn l186) (by decide) (by decide) ?_
  obtain ⟨h188, e189⟩ : ∃ z, z = h183 ++ [(.inl (1, 4, .inl (fun _ => 0)))] := ⟨_, rfl⟩
  refine J_w e189.symm ?_
  refine J_cr (v := n0 + 17) l186 ?_
  have f190 := a_push e189 l186
  have l191 : h188.length = n0 + 18 := l_push e189 l186 rfl
  have r192 := r_push (a := n0 + 17) e189 l186
  have f193 := (r192 (o) (Nat.lt_of_lt_of_le hol (Nat.le_add_right _ _)) (Nat.ne_of_lt (Nat.lt_of_lt_of_le hol (Nat.le_add_right _ _)))).trans f185
  obtain ⟨h194, e195⟩ : ∃ z, z = h188.set (o) (.inr (11, [.int 0, .ref (n0 + 0), .ref (n0 + 1), .ref (n0 + 2), .ref (n0 + 3), .ref (n0 + 4), .ref (n0 + 5), .ref (n0 + 6), .int 0, .int 0, .int 0, .int 0, .int 0, .long 0, .int 0, .int 0, .int 0, .int 0, .int 0, .ref (n0 + 7), .ref (n0 + 8), .ref (n0 + 9), .int 0, .int 0, .int 0, .int 0, .int 0, .int 0, .ref (n0 + 10), .ref (n0 + 11), .ref (n0 + 12), .int 0, .int 0, .int 0, .ref (n0 + 13), .ref (n0 + 14), .ref (n0 + 15), .ref (n0 + 16), .ref (n0 + 17), .int 0, .long 0, .int 0, .null])) := ⟨_, rfl⟩
  refine J_putF (C := RX11) (T := TX11) (Z := 43) (ci := 11) (f := 38) (ty0 := tyX11) dX11_init_145 inG11 rfl tyX11_ok nmX11 (by decide) k1302 rfl rfl rfl rfl f193 (Nat.le_of_ble_eq_true rfl) (fun _ _ => ⟨rfl, rfl⟩) e195.symm ?_
  have f196 := a_set e195 f193
  have l197 : h194.length = n0 + 18 := l_set e195 l191
  have r198 := r_set (N := n0 + 18) e195
  refine J_aload_n (i := 0) (j := 0) dX11_init_148 rfl rfl ?_
  refine J_iconst (v := 3) dX11_init_149 (by decide) ?_
  refine J_newa3 (Z := 3) dX11_init_150 ka3 (by decide) (by decide) (by decide) (hk1 hn l197) (by decide) (by decide) ?_
  obtain ⟨h199, e200⟩ : ∃ z, z = h194 ++ [(.inl (3, 3, .inl (fun _ => 0)))] := ⟨_, rfl⟩
  refine J_w e200.symm ?_
  refine J_cr (v := n0 + 18) l197 ?_
  have f201 := a_push e200 l197
  have l202 : h199.length = n0 + 19 := l_push e200 l197 rfl
  have r203 := r_push (a := n0 + 18) e200 l197
  have f204 := (r203 (o) (Nat.lt_of_lt_of_le hol (Nat.le_add_right _ _)) (Nat.ne_of_lt (Nat.lt_of_lt_of_le hol (Nat.le_add_right _ _)))).trans f196
  obtain ⟨h205, e206⟩ : ∃ z, z = h199.set (o) (.inr (11, [.int 0, .ref (n0 + 0), .ref (n0 + 1), .ref (n0 + 2), .ref (n0 + 3), .ref (n0 + 4), .ref (n0 + 5), .ref (n0 + 6), .int 0, .int 0, .int 0, .int 0, .int 0, .long 0, .int 0, .int 0, .int 0, .int 0, .int 0, .ref (n0 + 7), .ref (n0 + 8), .ref (n0 + 9), .int 0, .int 0, .int 0, .int 0, .int 0, .int 0, .ref (n0 + 10), .ref (n0 + 11), .ref (n0 + 12), .int 0, .int 0, .int 0, .ref (n0 + 13), .ref (n0 + 14), .ref (n0 + 15), .ref (n0 + 16), .ref (n0 + 17), .int 0, .long 0, .int 0, .ref (n0 + 18)])) := ⟨_, rfl⟩
  refine J_putF (C := RX11) (T := TX11) (Z := 43) (ci := 11) (f := 42) (ty0 := tyX11) dX11_init_152 inG11 rfl tyX11_ok nmX11 (by decide) k1306 rfl rfl rfl rfl f204 (Nat.le_of_ble_eq_true rfl) (fun _ _ => ⟨rfl, rfl⟩) e206.symm ?_
  have f207 := a_set e206 f204
  have l208 : h205.length = n0 + 19 := l_set e206 l202
  have r209 := r_set (N := n0 + 19) e206
  refine J_aload_n (i := 0) (j := 0) dX11_init_155 rfl rfl ?_
  refine J_get (C := RX11) (T := TX11) (Z := 43) (ci := 11) (f := 4) dX11_init_156 inG11 rfl (by decide) k1268 f207 rfl ?_
  refine J_iconst (v := 0) dX11_init_159 (by decide) ?_
  refine J_iconst (v := (-1)) dX11_init_160 (by decide) ?_
  have f210 := (r44 (n0 + 3) (Nat.add_lt_add_left (by decide) n0) (Nat.ne_of_gt (Nat.lt_of_lt_of_le hol (Nat.le_add_right _ _)))).trans f36
  have f211 := (r49 (n0 + 3) (Nat.add_lt_add_left (by decide) n0) (fun q => absurd (Nat.add_left_cancel q) (by decide))).trans f210
  have f212 := (r55 (n0 + 3) (Nat.add_lt_add_left (by decide) n0) (Nat.ne_of_gt (Nat.lt_of_lt_of_le hol (Nat.le_add_right _ _)))).trans f211
  have f213 := (r60 (n0 + 3) (Nat.add_lt_add_left (by decide) n0) (fun q => absurd (Nat.add_left_cancel q) (by decide))).trans f212
  have f214 := (r66 (n0 + 3) (Nat.add_lt_add_left (by decide) n0) (Nat.ne_of_gt (Nat.lt_of_lt_of_le hol (Nat.le_add_right _ _)))).trans f213
  have f215 := (r71 (n0 + 3) (Nat.add_lt_add_left (by decide) n0) (fun q => absurd (Nat.add_left_cancel q) (by decide))).trans f214
  have f216 := (r77 (n0 + 3) (Nat.add_lt_add_left (by decide) n0) (Nat.ne_of_gt (Nat.lt_of_lt_of_le hol (Nat.le_add_right _ _)))).trans f215
  have f217 := (r82 (n0 + 3) (Nat.add_lt_add_left (by decide) n0) (fun q => absurd (Nat.add_left_cancel q) (by decide))).trans f216
  have f218 := (r88 (n0 + 3) (Nat.add_lt_add_left (by decide) n0) (Nat.ne_of_gt (Nat.lt_of_lt_of_le hol (Nat.le_add_right _ _)))).trans f217
  have f219 := (r93 (n0 + 3) (Nat.add_lt_add_left (by decide) n0) (fun q => absurd (Nat.add_left_cancel q) (by decide))).trans f218
  have f220 := (r99 (n0 + 3) (Nat.add_lt_add_left (by decide) n0) (Nat.ne_of_gt (Nat.lt_of_lt_of_le hol (Nat.le_add_right _ _)))).trans f219
  have f221 := (r104 (n0 + 3) (Nat.add_lt_add_left (by decide) n0) (fun q => absurd (Nat.add_left_cancel q) (by decide))).trans f220
  have f222 := (r110 (n0 + 3) (Nat.add_lt_add_left (by decide) n0) (Nat.ne_of_gt (Nat.lt_of_lt_of_le hol (Nat.le_add_right _ _)))).trans f221
  have f223 := (r115 (n0 + 3) (Nat.add_lt_add_left (by decide) n0) (fun q => absurd (Nat.add_left_cancel q) (by decide))).trans f222
  have f224 := (r121 (n0 + 3) (Nat.add_lt_add_left (by decide) n0) (Nat.ne_of_gt (Nat.lt_of_lt_of_le hol (Nat.le_add_right _ _)))).trans f223
  have f225 := (r126 (n0 + 3) (Nat.add_lt_add_left (by decide) n0) (fun q => absurd (Nat.add_left_cancel q) (by decide))).trans f224
  have f226 := (r132 (n0 + 3) (Nat.add_lt_add_left (by decide) n0) (Nat.ne_of_gt (Nat.lt_of_lt_of_le hol (Nat.le_add_right _ _)))).trans f225
  have f227 := (r137 (n0 + 3) (Nat.add_lt_add_left (by decide) n0) (fun q => absurd (Nat.add_left_cancel q) (by decide))).trans f226
  have f228 := (r143 (n0 + 3) (Nat.add_lt_add_left (by decide) n0) (Nat.ne_of_gt (Nat.lt_of_lt_of_le hol (Nat.le_add_right _ _)))).trans f227
  have f229 := (r148 (n0 + 3) (Nat.add_lt_add_left (by decide) n0) (fun q => absurd (Nat.add_left_cancel q) (by decide))).trans f228
  have f230 := (r154 (n0 + 3) (Nat.add_lt_add_left (by decide) n0) (Nat.ne_of_gt (Nat.lt_of_lt_of_le hol (Nat.le_add_right _ _)))).trans f229
  have f231 := (r159 (n0 + 3) (Nat.add_lt_add_left (by decide) n0) (fun q => absurd (Nat.add_left_cancel q) (by decide))).trans f230
  have f232 := (r165 (n0 + 3) (Nat.add_lt_add_left (by decide) n0) (Nat.ne_of_gt (Nat.lt_of_lt_of_le hol (Nat.le_add_right _ _)))).trans f231
  have f233 := (r170 (n0 + 3) (Nat.add_lt_add_left (by decide) n0) (fun q => absurd (Nat.add_left_cancel q) (by decide))).trans f232
  have f234 := (r176 (n0 + 3) (Nat.add_lt_add_left (by decide) n0) (Nat.ne_of_gt (Nat.lt_of_lt_of_le hol (Nat.le_add_right _ _)))).trans f233
  have f235 := (r181 (n0 + 3) (Nat.add_lt_add_left (by decide) n0) (fun q => absurd (Nat.add_left_cancel q) (by decide))).trans f234
  have f236 := (r187 (n0 + 3) (Nat.add_lt_add_left (by decide) n0) (Nat.ne_of_gt (Nat.lt_of_lt_of_le hol (Nat.le_add_right _ _)))).trans f235
  have f237 := (r192 (n0 + 3) (Nat.add_lt_add_left (by decide) n0) (fun q => absurd (Nat.add_left_cancel q) (by decide))).trans f236
  have f238 := (r198 (n0 + 3) (Nat.add_lt_add_left (by decide) n0) (Nat.ne_of_gt (Nat.lt_of_lt_of_le hol (Nat.le_add_right _ _)))).trans f237
  have f239 := (r203 (n0 + 3) (Nat.add_lt_add_left (by decide) n0) (fun q => absurd (Nat.add_left_cancel q) (by decide))).trans f238
  have f240 := (r209 (n0 + 3) (Nat.add_lt_add_left (by decide) n0) (Nat.ne_of_gt (Nat.lt_of_lt_of_le hol (Nat.le_add_right _ _)))).trans f239
  obtain ⟨h241, e242⟩ : ∃ z, z = h205.set (n0 + 3) (.inl (1, 4, .inl (upd (fun _ => 0) ((0 : Int32).toNatClampNeg) (-1)))) := ⟨_, rfl⟩
  refine J_iast dX11_init_161 f240 (vp_c (by decide)) e242.symm ?_
  have f243 := a_set e242 f240
  have l244 : h241.length = n0 + 19 := l_set e242 l208
  have r245 := r_set (N := n0 + 19) e242
  have f246 := (r245 (o) (Nat.lt_of_lt_of_le hol (Nat.le_add_right _ _)) (Nat.ne_of_lt (Nat.lt_of_lt_of_le hol (Nat.le_add_right _ _)))).trans f207
  have f247 := (r11 (n0 + 0) (Nat.add_lt_add_left (by decide) n0) (Nat.ne_of_gt (Nat.lt_of_lt_of_le hol (Nat.le_add_right _ _)))).trans f3
  have f248 := (r16 (n0 + 0) (Nat.add_lt_add_left (by decide) n0) (fun q => absurd (Nat.add_left_cancel q) (by decide))).trans f247
  have f249 := (r22 (n0 + 0) (Nat.add_lt_add_left (by decide) n0) (Nat.ne_of_gt (Nat.lt_of_lt_of_le hol (Nat.le_add_right _ _)))).trans f248
  have f250 := (r27 (n0 + 0) (Nat.add_lt_add_left (by decide) n0) (fun q => absurd (Nat.add_left_cancel q) (by decide))).trans f249
  have f251 := (r33 (n0 + 0) (Nat.add_lt_add_left (by decide) n0) (Nat.ne_of_gt (Nat.lt_of_lt_of_le hol (Nat.le_add_right _ _)))).trans f250
  have f252 := (r38 (n0 + 0) (Nat.add_lt_add_left (by decide) n0) (fun q => absurd (Nat.add_left_cancel q) (by decide))).trans f251
  have f253 := (r44 (n0 + 0) (Nat.add_lt_add_left (by decide) n0) (Nat.ne_of_gt (Nat.lt_of_lt_of_le hol (Nat.le_add_right _ _)))).trans f252
  have f254 := (r49 (n0 + 0) (Nat.add_lt_add_left (by decide) n0) (fun q => absurd (Nat.add_left_cancel q) (by decide))).trans f253
  have f255 := (r55 (n0 + 0) (Nat.add_lt_add_left (by decide) n0) (Nat.ne_of_gt (Nat.lt_of_lt_of_le hol (Nat.le_add_right _ _)))).trans f254
  have f256 := (r60 (n0 + 0) (Nat.add_lt_add_left (by decide) n0) (fun q => absurd (Nat.add_left_cancel q) (by decide))).trans f255
  have f257 := (r66 (n0 + 0) (Nat.add_lt_add_left (by decide) n0) (Nat.ne_of_gt (Nat.lt_of_lt_of_le hol (Nat.le_add_right _ _)))).trans f256
  have f258 := (r71 (n0 + 0) (Nat.add_lt_add_left (by decide) n0) (fun q => absurd (Nat.add_left_cancel q) (by decide))).trans f257
  have f259 := (r77 (n0 + 0) (Nat.add_lt_add_left (by decide) n0) (Nat.ne_of_gt (Nat.lt_of_lt_of_le hol (Nat.le_add_right _ _)))).trans f258
  have f260 := (r82 (n0 + 0) (Nat.add_lt_add_left (by decide) n0) (fun q => absurd (Nat.add_left_cancel q) (by decide))).trans f259
  have f261 := (r88 (n0 + 0) (Nat.add_lt_add_left (by decide) n0) (Nat.ne_of_gt (Nat.lt_of_lt_of_le hol (Nat.le_add_right _ _)))).trans f260
  have f262 := (r93 (n0 + 0) (Nat.add_lt_add_left (by decide) n0) (fun q => absurd (Nat.add_left_cancel q) (by decide))).trans f261
  have f263 := (r99 (n0 + 0) (Nat.add_lt_add_left (by decide) n0) (Nat.ne_of_gt (Nat.lt_of_lt_of_le hol (Nat.le_add_right _ _)))).trans f262
  have f264 := (r104 (n0 + 0) (Nat.add_lt_add_left (by decide) n0) (fun q => absurd (Nat.add_left_cancel q) (by decide))).trans f263
  have f265 := (r110 (n0 + 0) (Nat.add_lt_add_left (by decide) n0) (Nat.ne_of_gt (Nat.lt_of_lt_of_le hol (Nat.le_add_right _ _)))).trans f264
  have f266 := (r115 (n0 + 0) (Nat.add_lt_add_left (by decide) n0) (fun q => absurd (Nat.add_left_cancel q) (by decide))).trans f265
  have f267 := (r121 (n0 + 0) (Nat.add_lt_add_left (by decide) n0) (Nat.ne_of_gt (Nat.lt_of_lt_of_le hol (Nat.le_add_right _ _)))).trans f266
  have f268 := (r126 (n0 + 0) (Nat.add_lt_add_left (by decide) n0) (fun q => absurd (Nat.add_left_cancel q) (by decide))).trans f267
  have f269 := (r132 (n0 + 0) (Nat.add_lt_add_left (by decide) n0) (Nat.ne_of_gt (Nat.lt_of_lt_of_le hol (Nat.le_add_right _ _)))).trans f268
  have f270 := (r137 (n0 + 0) (Nat.add_lt_add_left (by decide) n0) (fun q => absurd (Nat.add_left_cancel q) (by decide))).trans f269
  have f271 := (r143 (n0 + 0) (Nat.add_lt_add_left (by decide) n0) (Nat.ne_of_gt (Nat.lt_of_lt_of_le hol (Nat.le_add_right _ _)))).trans f270
  have f272 := (r148 (n0 + 0) (Nat.add_lt_add_left (by decide) n0) (fun q => absurd (Nat.add_left_cancel q) (by decide))).trans f271
  have f273 := (r154 (n0 + 0) (Nat.add_lt_add_left (by decide) n0) (Nat.ne_of_gt (Nat.lt_of_lt_of_le hol (Nat.le_add_right _ _)))).trans f272
  have f274 := (r159 (n0 + 0) (Nat.add_lt_add_left (by decide) n0) (fun q => absurd (Nat.add_left_cancel q) (by decide))).trans f273
  have f275 := (r165 (n0 + 0) (Nat.add_lt_add_left (by decide) n0) (Nat.ne_of_gt (Nat.lt_of_lt_of_le hol (Nat.le_add_right _ _)))).trans f274
  have f276 := (r170 (n0 + 0) (Nat.add_lt_add_left (by decide) n0) (fun q => absurd (Nat.add_left_cancel q) (by decide))).trans f275
  have f277 := (r176 (n0 + 0) (Nat.add_lt_add_left (by decide) n0) (Nat.ne_of_gt (Nat.lt_of_lt_of_le hol (Nat.le_add_right _ _)))).trans f276
  have f278 := (r181 (n0 + 0) (Nat.add_lt_add_left (by decide) n0) (fun q => absurd (Nat.add_left_cancel q) (by decide))).trans f277
  have f279 := (r187 (n0 + 0) (Nat.add_lt_add_left (by decide) n0) (Nat.ne_of_gt (Nat.lt_of_lt_of_le hol (Nat.le_add_right _ _)))).trans f278
  have f280 := (r192 (n0 + 0) (Nat.add_lt_add_left (by decide) n0) (fun q => absurd (Nat.add_left_cancel q) (by decide))).trans f279
  have f281 := (r198 (n0 + 0) (Nat.add_lt_add_left (by decide) n0) (Nat.ne_of_gt (Nat.lt_of_lt_of_le hol (Nat.le_add_right _ _)))).trans f280
  have f282 := (r203 (n0 + 0) (Nat.add_lt_add_left (by decide) n0) (fun q => absurd (Nat.add_left_cancel q) (by decide))).trans f281
  have f283 := (r209 (n0 + 0) (Nat.add_lt_add_left (by decide) n0) (Nat.ne_of_gt (Nat.lt_of_lt_of_le hol (Nat.le_add_right _ _)))).trans f282
  have f284 := (r245 (n0 + 0) (Nat.add_lt_add_left (by decide) n0) (fun q => absurd (Nat.add_left_cancel q) (by decide))).trans f283
  have f285 := (r22 (n0 + 1) (Nat.add_lt_add_left (by decide) n0) (Nat.ne_of_gt (Nat.lt_of_lt_of_le hol (Nat.le_add_right _ _)))).trans f14
  have f286 := (r27 (n0 + 1) (Nat.add_lt_add_left (by decide) n0) (fun q => absurd (Nat.add_left_cancel q) (by decide))).trans f285
  have f287 := (r33 (n0 + 1) (Nat.add_lt_add_left (by decide) n0) (Nat.ne_of_gt (Nat.lt_of_lt_of_le hol (Nat.le_add_right _ _)))).trans f286
  have f288 := (r38 (n0 + 1) (Nat.add_lt_add_left (by decide) n0) (fun q => absurd (Nat.add_left_cancel q) (by decide))).trans f287
  have f289 := (r44 (n0 + 1) (Nat.add_lt_add_left (by decide) n0) (Nat.ne_of_gt (Nat.lt_of_lt_of_le hol (Nat.le_add_right _ _)))).trans f288
  have f290 := (r49 (n0 + 1) (Nat.add_lt_add_left (by decide) n0) (fun q => absurd (Nat.add_left_cancel q) (by decide))).trans f289
  have f291 := (r55 (n0 + 1) (Nat.add_lt_add_left (by decide) n0) (Nat.ne_of_gt (Nat.lt_of_lt_of_le hol (Nat.le_add_right _ _)))).trans f290
  have f292 := (r60 (n0 + 1) (Nat.add_lt_add_left (by decide) n0) (fun q => absurd (Nat.add_left_cancel q) (by decide))).trans f291
  have f293 := (r66 (n0 + 1) (Nat.add_lt_add_left (by decide) n0) (Nat.ne_of_gt (Nat.lt_of_lt_of_le hol (Nat.le_add_right _ _)))).trans f292
  have f294 := (r71 (n0 + 1) (Nat.add_lt_add_left (by decide) n0) (fun q => absurd (Nat.add_left_cancel q) (by decide))).trans f293
  have f295 := (r77 (n0 + 1) (Nat.add_lt_add_left (by decide) n0) (Nat.ne_of_gt (Nat.lt_of_lt_of_le hol (Nat.le_add_right _ _)))).trans f294
  have f296 := (r82 (n0 + 1) (Nat.add_lt_add_left (by decide) n0) (fun q => absurd (Nat.add_left_cancel q) (by decide))).trans f295
  have f297 := (r88 (n0 + 1) (Nat.add_lt_add_left (by decide) n0) (Nat.ne_of_gt (Nat.lt_of_lt_of_le hol (Nat.le_add_right _ _)))).trans f296
  have f298 := (r93 (n0 + 1) (Nat.add_lt_add_left (by decide) n0) (fun q => absurd (Nat.add_left_cancel q) (by decide))).trans f297
  have f299 := (r99 (n0 + 1) (Nat.add_lt_add_left (by decide) n0) (Nat.ne_of_gt (Nat.lt_of_lt_of_le hol (Nat.le_add_right _ _)))).trans f298
  have f300 := (r104 (n0 + 1) (Nat.add_lt_add_left (by decide) n0) (fun q => absurd (Nat.add_left_cancel q) (by decide))).trans f299
  have f301 := (r110 (n0 + 1) (Nat.add_lt_add_left (by decide) n0) (Nat.ne_of_gt (Nat.lt_of_lt_of_le hol (Nat.le_add_right _ _)))).trans f300
  have f302 := (r115 (n0 + 1) (Nat.add_lt_add_left (by decide) n0) (fun q => absurd (Nat.add_left_cancel q) (by decide))).trans f301
  have f303 := (r121 (n0 + 1) (Nat.add_lt_add_left (by decide) n0) (Nat.ne_of_gt (Nat.lt_of_lt_of_le hol (Nat.le_add_right _ _)))).trans f302
  have f304 := (r126 (n0 + 1) (Nat.add_lt_add_left (by decide) n0) (fun q => absurd (Nat.add_left_cancel q) (by decide))).trans f303
  have f305 := (r132 (n0 + 1) (Nat.add_lt_add_left (by decide) n0) (Nat.ne_of_gt (Nat.lt_of_lt_of_le hol (Nat.le_add_right _ _)))).trans f304
  have f306 := (r137 (n0 + 1) (Nat.add_lt_add_left (by decide) n0) (fun q => absurd (Nat.add_left_cancel q) (by decide))).trans f305
  have f307 := (r143 (n0 + 1) (Nat.add_lt_add_left (by decide) n0) (Nat.ne_of_gt (Nat.lt_of_lt_of_le hol (Nat.le_add_right _ _)))).trans f306
  have f308 := (r148 (n0 + 1) (Nat.add_lt_add_left (by decide) n0) (fun q => absurd (Nat.add_left_cancel q) (by decide))).trans f307
  have f309 := (r154 (n0 + 1) (Nat.add_lt_add_left (by decide) n0) (Nat.ne_of_gt (Nat.lt_of_lt_of_le hol (Nat.le_add_right _ _)))).trans f308
  have f310 := (r159 (n0 + 1) (Nat.add_lt_add_left (by decide) n0) (fun q => absurd (Nat.add_left_cancel q) (by decide))).trans f309
  have f311 := (r165 (n0 + 1) (Nat.add_lt_add_left (by decide) n0) (Nat.ne_of_gt (Nat.lt_of_lt_of_le hol (Nat.le_add_right _ _)))).trans f310
  have f312 := (r170 (n0 + 1) (Nat.add_lt_add_left (by decide) n0) (fun q => absurd (Nat.add_left_cancel q) (by decide))).trans f311
  have f313 := (r176 (n0 + 1) (Nat.add_lt_add_left (by decide) n0) (Nat.ne_of_gt (Nat.lt_of_lt_of_le hol (Nat.le_add_right _ _)))).trans f312
  have f314 := (r181 (n0 + 1) (Nat.add_lt_add_left (by decide) n0) (fun q => absurd (Nat.add_left_cancel q) (by decide))).trans f313
  have f315 := (r187 (n0 + 1) (Nat.add_lt_add_left (by decide) n0) (Nat.ne_of_gt (Nat.lt_of_lt_of_le hol (Nat.le_add_right _ _)))).trans f314
  have f316 := (r192 (n0 + 1) (Nat.add_lt_add_left (by decide) n0) (fun q => absurd (Nat.add_left_cancel q) (by decide))).trans f315
  have f317 := (r198 (n0 + 1) (Nat.add_lt_add_left (by decide) n0) (Nat.ne_of_gt (Nat.lt_of_lt_of_le hol (Nat.le_add_right _ _)))).trans f316
  have f318 := (r203 (n0 + 1) (Nat.add_lt_add_left (by decide) n0) (fun q => absurd (Nat.add_left_cancel q) (by decide))).trans f317
  have f319 := (r209 (n0 + 1) (Nat.add_lt_add_left (by decide) n0) (Nat.ne_of_gt (Nat.lt_of_lt_of_le hol (Nat.le_add_right _ _)))).trans f318
  have f320 := (r245 (n0 + 1) (Nat.add_lt_add_left (by decide) n0) (fun q => absurd (Nat.add_left_cancel q) (by decide))).trans f319
  have f321 := (r33 (n0 + 2) (Nat.add_lt_add_left (by decide) n0) (Nat.ne_of_gt (Nat.lt_of_lt_of_le hol (Nat.le_add_right _ _)))).trans f25
  have f322 := (r38 (n0 + 2) (Nat.add_lt_add_left (by decide) n0) (fun q => absurd (Nat.add_left_cancel q) (by decide))).trans f321
  have f323 := (r44 (n0 + 2) (Nat.add_lt_add_left (by decide) n0) (Nat.ne_of_gt (Nat.lt_of_lt_of_le hol (Nat.le_add_right _ _)))).trans f322
  have f324 := (r49 (n0 + 2) (Nat.add_lt_add_left (by decide) n0) (fun q => absurd (Nat.add_left_cancel q) (by decide))).trans f323
  have f325 := (r55 (n0 + 2) (Nat.add_lt_add_left (by decide) n0) (Nat.ne_of_gt (Nat.lt_of_lt_of_le hol (Nat.le_add_right _ _)))).trans f324
  have f326 := (r60 (n0 + 2) (Nat.add_lt_add_left (by decide) n0) (fun q => absurd (Nat.add_left_cancel q) (by decide))).trans f325
  have f327 := (r66 (n0 + 2) (Nat.add_lt_add_left (by decide) n0) (Nat.ne_of_gt (Nat.lt_of_lt_of_le hol (Nat.le_add_right _ _)))).trans f326
  have f328 := (r71 (n0 + 2) (Nat.add_lt_add_left (by decide) n0) (fun q => absurd (Nat.add_left_cancel q) (by decide))).trans f327
  have f329 := (r77 (n0 + 2) (Nat.add_lt_add_left (by decide) n0) (Nat.ne_of_gt (Nat.lt_of_lt_of_le hol (Nat.le_add_right _ _)))).trans f328
  have f330 := (r82 (n0 + 2) (Nat.add_lt_add_left (by decide) n0) (fun q => absurd (Nat.add_left_cancel q) (by decide))).trans f329
  have f331 := (r88 (n0 + 2) (Nat.add_lt_add_left (by decide) n0) (Nat.ne_of_gt (Nat.lt_of_lt_of_le hol (Nat.le_add_right _ _)))).trans f330
  have f332 := (r93 (n0 + 2) (Nat.add_lt_add_left (by decide) n0) (fun q => absurd (Nat.add_left_cancel q) (by decide))).trans f331
  have f333 := (r99 (n0 + 2) (Nat.add_lt_add_left (by decide) n0) (Nat.ne_of_gt (Nat.lt_of_lt_of_le hol (Nat.le_add_right _ _)))).trans f332
  have f334 := (r104 (n0 + 2) (Nat.add_lt_add_left (by decide) n0) (fun q => absurd (Nat.add_left_cancel q) (by decide))).trans f333
  have f335 := (r110 (n0 + 2) (Nat.add_lt_add_left (by decide) n0) (Nat.ne_of_gt (Nat.lt_of_lt_of_le hol (Nat.le_add_right _ _)))).trans f334
  have f336 := (r115 (n0 + 2) (Nat.add_lt_add_left (by decide) n0) (fun q => absurd (Nat.add_left_cancel q) (by decide))).trans f335
  have f337 := (r121 (n0 + 2) (Nat.add_lt_add_left (by decide) n0) (Nat.ne_of_gt (Nat.lt_of_lt_of_le hol (Nat.le_add_right _ _)))).trans f336
  have f338 := (r126 (n0 + 2) (Nat.add_lt_add_left (by decide) n0) (fun q => absurd (Nat.add_left_cancel q) (by decide))).trans f337
  have f339 := (r132 (n0 + 2) (Nat.add_lt_add_left (by decide) n0) (Nat.ne_of_gt (Nat.lt_of_lt_of_le hol (Nat.le_add_right _ _)))).trans f338
  have f340 := (r137 (n0 + 2) (Nat.add_lt_add_left (by decide) n0) (fun q => absurd (Nat.add_left_cancel q) (by decide))).trans f339
  have f341 := (r143 (n0 + 2) (Nat.add_lt_add_left (by decide) n0) (Nat.ne_of_gt (Nat.lt_of_lt_of_le hol (Nat.le_add_right _ _)))).trans f340
  have f342 := (r148 (n0 + 2) (Nat.add_lt_add_left (by decide) n0) (fun q => absurd (Nat.add_left_cancel q) (by decide))).trans f341
  have f343 := (r154 (n0 + 2) (Nat.add_lt_add_left (by decide) n0) (Nat.ne_of_gt (Nat.lt_of_lt_of_le hol (Nat.le_add_right _ _)))).trans f342
  have f344 := (r159 (n0 + 2) (Nat.add_lt_add_left (by decide) n0) (fun q => absurd (Nat.add_left_cancel q) (by decide))).trans f343
  have f345 := (r165 (n0 + 2) (Nat.add_lt_add_left (by decide) n0) (Nat.ne_of_gt (Nat.lt_of_lt_of_le hol (Nat.le_add_right _ _)))).trans f344
  have f346 := (r170 (n0 + 2) (Nat.add_lt_add_left (by decide) n0) (fun q => absurd (Nat.add_left_cancel q) (by decide))).trans f345
  have f347 := (r176 (n0 + 2) (Nat.add_lt_add_left (by decide) n0) (Nat.ne_of_gt (Nat.lt_of_lt_of_le hol (Nat.le_add_right _ _)))).trans f346
  have f348 := (r181 (n0 + 2) (Nat.add_lt_add_left (by decide) n0) (fun q => absurd (Nat.add_left_cancel q) (by decide))).trans f347
  have f349 := (r187 (n0 + 2) (Nat.add_lt_add_left (by decide) n0) (Nat.ne_of_gt (Nat.lt_of_lt_of_le hol (Nat.le_add_right _ _)))).trans f348
  have f350 := (r192 (n0 + 2) (Nat.add_lt_add_left (by decide) n0) (fun q => absurd (Nat.add_left_cancel q) (by decide))).trans f349
  have f351 := (r198 (n0 + 2) (Nat.add_lt_add_left (by decide) n0) (Nat.ne_of_gt (Nat.lt_of_lt_of_le hol (Nat.le_add_right _ _)))).trans f350
  have f352 := (r203 (n0 + 2) (Nat.add_lt_add_left (by decide) n0) (fun q => absurd (Nat.add_left_cancel q) (by decide))).trans f351
  have f353 := (r209 (n0 + 2) (Nat.add_lt_add_left (by decide) n0) (Nat.ne_of_gt (Nat.lt_of_lt_of_le hol (Nat.le_add_right _ _)))).trans f352
  have f354 := (r245 (n0 + 2) (Nat.add_lt_add_left (by decide) n0) (fun q => absurd (Nat.add_left_cancel q) (by decide))).trans f353
  have f355 := (r55 (n0 + 4) (Nat.add_lt_add_left (by decide) n0) (Nat.ne_of_gt (Nat.lt_of_lt_of_le hol (Nat.le_add_right _ _)))).trans f47
  have f356 := (r60 (n0 + 4) (Nat.add_lt_add_left (by decide) n0) (fun q => absurd (Nat.add_left_cancel q) (by decide))).trans f355
  have f357 := (r66 (n0 + 4) (Nat.add_lt_add_left (by decide) n0) (Nat.ne_of_gt (Nat.lt_of_lt_of_le hol (Nat.le_add_right _ _)))).trans f356
  have f358 := (r71 (n0 + 4) (Nat.add_lt_add_left (by decide) n0) (fun q => absurd (Nat.add_left_cancel q) (by decide))).trans f357
  have f359 := (r77 (n0 + 4) (Nat.add_lt_add_left (by decide) n0) (Nat.ne_of_gt (Nat.lt_of_lt_of_le hol (Nat.le_add_right _ _)))).trans f358
  have f360 := (r82 (n0 + 4) (Nat.add_lt_add_left (by decide) n0) (fun q => absurd (Nat.add_left_cancel q) (by decide))).trans f359
  have f361 := (r88 (n0 + 4) (Nat.add_lt_add_left (by decide) n0) (Nat.ne_of_gt (Nat.lt_of_lt_of_le hol (Nat.le_add_right _ _)))).trans f360
  have f362 := (r93 (n0 + 4) (Nat.add_lt_add_left (by decide) n0) (fun q => absurd (Nat.add_left_cancel q) (by decide))).trans f361
  have f363 := (r99 (n0 + 4) (Nat.add_lt_add_left (by decide) n0) (Nat.ne_of_gt (Nat.lt_of_lt_of_le hol (Nat.le_add_right _ _)))).trans f362
  have f364 := (r104 (n0 + 4) (Nat.add_lt_add_left (by decide) n0) (fun q => absurd (Nat.add_left_cancel q) (by decide))).trans f363
  have f365 := (r110 (n0 + 4) (Nat.add_lt_add_left (by decide) n0) (Nat.ne_of_gt (Nat.lt_of_lt_of_le hol (Nat.le_add_right _ _)))).trans f364
  have f366 := (r115 (n0 + 4) (Nat.add_lt_add_left (by decide) n0) (fun q => absurd (Nat.add_left_cancel q) (by decide))).trans f365
  have f367 := (r121 (n0 + 4) (Nat.add_lt_add_left (by decide) n0) (Nat.ne_of_gt (Nat.lt_of_lt_of_le hol (Nat.le_add_right _ _)))).trans f366
  have f368 := (r126 (n0 + 4) (Nat.add_lt_add_left (by decide) n0) (fun q => absurd (Nat.add_left_cancel q) (by decide))).trans f367
  have f369 := (r132 (n0 + 4) (Nat.add_lt_add_left (by decide) n0) (Nat.ne_of_gt (Nat.lt_of_lt_of_le hol (Nat.le_add_right _ _)))).trans f368
  have f370 := (r137 (n0 + 4) (Nat.add_lt_add_left (by decide) n0) (fun q => absurd (Nat.add_left_cancel q) (by decide))).trans f369
  have f371 := (r143 (n0 + 4) (Nat.add_lt_add_left (by decide) n0) (Nat.ne_of_gt (Nat.lt_of_lt_of_le hol (Nat.le_add_right _ _)))).trans f370
  have f372 := (r148 (n0 + 4) (Nat.add_lt_add_left (by decide) n0) (fun q => absurd (Nat.add_left_cancel q) (by decide))).trans f371
  have f373 := (r154 (n0 + 4) (Nat.add_lt_add_left (by decide) n0) (Nat.ne_of_gt (Nat.lt_of_lt_of_le hol (Nat.le_add_right _ _)))).trans f372
  have f374 := (r159 (n0 + 4) (Nat.add_lt_add_left (by decide) n0) (fun q => absurd (Nat.add_left_cancel q) (by decide))).trans f373
  have f375 := (r165 (n0 + 4) (Nat.add_lt_add_left (by decide) n0) (Nat.ne_of_gt (Nat.lt_of_lt_of_le hol (Nat.le_add_right _ _)))).trans f374
  have f376 := (r170 (n0 + 4) (Nat.add_lt_add_left (by decide) n0) (fun q => absurd (Nat.add_left_cancel q) (by decide))).trans f375
  have f377 := (r176 (n0 + 4) (Nat.add_lt_add_left (by decide) n0) (Nat.ne_of_gt (Nat.lt_of_lt_of_le hol (Nat.le_add_right _ _)))).trans f376
  have f378 := (r181 (n0 + 4) (Nat.add_lt_add_left (by decide) n0) (fun q => absurd (Nat.add_left_cancel q) (by decide))).trans f377
  have f379 := (r187 (n0 + 4) (Nat.add_lt_add_left (by decide) n0) (Nat.ne_of_gt (Nat.lt_of_lt_of_le hol (Nat.le_add_right _ _)))).trans f378
  have f380 := (r192 (n0 + 4) (Nat.add_lt_add_left (by decide) n0) (fun q => absurd (Nat.add_left_cancel q) (by decide))).trans f379
  have f381 := (r198 (n0 + 4) (Nat.add_lt_add_left (by decide) n0) (Nat.ne_of_gt (Nat.lt_of_lt_of_le hol (Nat.le_add_right _ _)))).trans f380
  have f382 := (r203 (n0 + 4) (Nat.add_lt_add_left (by decide) n0) (fun q => absurd (Nat.add_left_cancel q) (by decide))).trans f381
  have f383 := (r209 (n0 + 4) (Nat.add_lt_add_left (by decide) n0) (Nat.ne_of_gt (Nat.lt_of_lt_of_le hol (Nat.le_add_right _ _)))).trans f382
  have f384 := (r245 (n0 + 4) (Nat.add_lt_add_left (by decide) n0) (fun q => absurd (Nat.add_left_cancel q) (by decide))).trans f383
  have f385 := (r66 (n0 + 5) (Nat.add_lt_add_left (by decide) n0) (Nat.ne_of_gt (Nat.lt_of_lt_of_le hol (Nat.le_add_right _ _)))).trans f58
  have f386 := (r71 (n0 + 5) (Nat.add_lt_add_left (by decide) n0) (fun q => absurd (Nat.add_left_cancel q) (by decide))).trans f385
  have f387 := (r77 (n0 + 5) (Nat.add_lt_add_left (by decide) n0) (Nat.ne_of_gt (Nat.lt_of_lt_of_le hol (Nat.le_add_right _ _)))).trans f386
  have f388 := (r82 (n0 + 5) (Nat.add_lt_add_left (by decide) n0) (fun q => absurd (Nat.add_left_cancel q) (by decide))).trans f387
  have f389 := (r88 (n0 + 5) (Nat.add_lt_add_left (by decide) n0) (Nat.ne_of_gt (Nat.lt_of_lt_of_le hol (Nat.le_add_right _ _)))).trans f388
  have f390 := (r93 (n0 + 5) (Nat.add_lt_add_left (by decide) n0) (fun q => absurd (Nat.add_left_cancel q) (by decide))).trans f389
  have f391 := (r99 (n0 + 5) (Nat.add_lt_add_left (by decide) n0) (Nat.ne_of_gt (Nat.lt_of_lt_of_le hol (Nat.le_add_right _ _)))).trans f390
  have f392 := (r104 (n0 + 5) (Nat.add_lt_add_left (by decide) n0) (fun q => absurd (Nat.add_left_cancel q) (by decide))).trans f391
  have f393 := (r110 (n0 + 5) (Nat.add_lt_add_left (by decide) n0) (Nat.ne_of_gt (Nat.lt_of_lt_of_le hol (Nat.le_add_right _ _)))).trans f392
  have f394 := (r115 (n0 + 5) (Nat.add_lt_add_left (by decide) n0) (fun q => absurd (Nat.add_left_cancel q) (by decide))).trans f393
  have f395 := (r121 (n0 + 5) (Nat.add_lt_add_left (by decide) n0) (Nat.ne_of_gt (Nat.lt_of_lt_of_le hol (Nat.le_add_right _ _)))).trans f394
  have f396 := (r126 (n0 + 5) (Nat.add_lt_add_left (by decide) n0) (fun q => absurd (Nat.add_left_cancel q) (by decide))).trans f395
  have f397 := (r132 (n0 + 5) (Nat.add_lt_add_left (by decide) n0) (Nat.ne_of_gt (Nat.lt_of_lt_of_le hol (Nat.le_add_right _ _)))).trans f396
  have f398 := (r137 (n0 + 5) (Nat.add_lt_add_left (by decide) n0) (fun q => absurd (Nat.add_left_cancel q) (by decide))).trans f397
  have f399 := (r143 (n0 + 5) (Nat.add_lt_add_left (by decide) n0) (Nat.ne_of_gt (Nat.lt_of_lt_of_le hol (Nat.le_add_right _ _)))).trans f398
  have f400 := (r148 (n0 + 5) (Nat.add_lt_add_left (by decide) n0) (fun q => absurd (Nat.add_left_cancel q) (by decide))).trans f399
  have f401 := (r154 (n0 + 5) (Nat.add_lt_add_left (by decide) n0) (Nat.ne_of_gt (Nat.lt_of_lt_of_le hol (Nat.le_add_right _ _)))).trans f400
  have f402 := (r159 (n0 + 5) (Nat.add_lt_add_left (by decide) n0) (fun q => absurd (Nat.add_left_cancel q) (by decide))).trans f401
  have f403 := (r165 (n0 + 5) (Nat.add_lt_add_left (by decide) n0) (Nat.ne_of_gt (Nat.lt_of_lt_of_le hol (Nat.le_add_right _ _)))).trans f402
  have f404 := (r170 (n0 + 5) (Nat.add_lt_add_left (by decide) n0) (fun q => absurd (Nat.add_left_cancel q) (by decide))).trans f403
  have f405 := (r176 (n0 + 5) (Nat.add_lt_add_left (by decide) n0) (Nat.ne_of_gt (Nat.lt_of_lt_of_le hol (Nat.le_add_right _ _)))).trans f404
  have f406 := (r181 (n0 + 5) (Nat.add_lt_add_left (by decide) n0) (fun q => absurd (Nat.add_left_cancel q) (by decide))).trans f405
  have f407 := (r187 (n0 + 5) (Nat.add_lt_add_left (by decide) n0) (Nat.ne_of_gt (Nat.lt_of_lt_of_le hol (Nat.le_add_right _ _)))).trans f406
  have f408 := (r192 (n0 + 5) (Nat.add_lt_add_left (by decide) n0) (fun q => absurd (Nat.add_left_cancel q) (by decide))).trans f407
  have f409 := (r198 (n0 + 5) (Nat.add_lt_add_left (by decide) n0) (Nat.ne_of_gt (Nat.lt_of_lt_of_le hol (Nat.le_add_right _ _)))).trans f408
  have f410 := (r203 (n0 + 5) (Nat.add_lt_add_left (by decide) n0) (fun q => absurd (Nat.add_left_cancel q) (by decide))).trans f409
  have f411 := (r209 (n0 + 5) (Nat.add_lt_add_left (by decide) n0) (Nat.ne_of_gt (Nat.lt_of_lt_of_le hol (Nat.le_add_right _ _)))).trans f410
  have f412 := (r245 (n0 + 5) (Nat.add_lt_add_left (by decide) n0) (fun q => absurd (Nat.add_left_cancel q) (by decide))).trans f411
  have f413 := (r77 (n0 + 6) (Nat.add_lt_add_left (by decide) n0) (Nat.ne_of_gt (Nat.lt_of_lt_of_le hol (Nat.le_add_right _ _)))).trans f69
  have f414 := (r82 (n0 + 6) (Nat.add_lt_add_left (by decide) n0) (fun q => absurd (Nat.add_left_cancel q) (by decide))).trans f413
  have f415 := (r88 (n0 + 6) (Nat.add_lt_add_left (by decide) n0) (Nat.ne_of_gt (Nat.lt_of_lt_of_le hol (Nat.le_add_right _ _)))).trans f414
  have f416 := (r93 (n0 + 6) (Nat.add_lt_add_left (by decide) n0) (fun q => absurd (Nat.add_left_cancel q) (by decide))).trans f415
  have f417 := (r99 (n0 + 6) (Nat.add_lt_add_left (by decide) n0) (Nat.ne_of_gt (Nat.lt_of_lt_of_le hol (Nat.le_add_right _ _)))).trans f416
  have f418 := (r104 (n0 + 6) (Nat.add_lt_add_left (by decide) n0) (fun q => absurd (Nat.add_left_cancel q) (by decide))).trans f417
  have f419 := (r110 (n0 + 6) (Nat.add_lt_add_left (by decide) n0) (Nat.ne_of_gt (Nat.lt_of_lt_of_le hol (Nat.le_add_right _ _)))).trans f418
  have f420 := (r115 (n0 + 6) (Nat.add_lt_add_left (by decide) n0) (fun q => absurd (Nat.add_left_cancel q) (by decide))).trans f419
  have f421 := (r121 (n0 + 6) (Nat.add_lt_add_left (by decide) n0) (Nat.ne_of_gt (Nat.lt_of_lt_of_le hol (Nat.le_add_right _ _)))).trans f420
  have f422 := (r126 (n0 + 6) (Nat.add_lt_add_left (by decide) n0) (fun q => absurd (Nat.add_left_cancel q) (by decide))).trans f421
  have f423 := (r132 (n0 + 6) (Nat.add_lt_add_left (by decide) n0) (Nat.ne_of_gt (Nat.lt_of_lt_of_le hol (Nat.le_add_right _ _)))).trans f422
  have f424 := (r137 (n0 + 6) (Nat.add_lt_add_left (by decide) n0) (fun q => absurd (Nat.add_left_cancel q) (by decide))).trans f423
  have f425 := (r143 (n0 + 6) (Nat.add_lt_add_left (by decide) n0) (Nat.ne_of_gt (Nat.lt_of_lt_of_le hol (Nat.le_add_right _ _)))).trans f424
  have f426 := (r148 (n0 + 6) (Nat.add_lt_add_left (by decide) n0) (fun q => absurd (Nat.add_left_cancel q) (by decide))).trans f425
  have f427 := (r154 (n0 + 6) (Nat.add_lt_add_left (by decide) n0) (Nat.ne_of_gt (Nat.lt_of_lt_of_le hol (Nat.le_add_right _ _)))).trans f426
  have f428 := (r159 (n0 + 6) (Nat.add_lt_add_left (by decide) n0) (fun q => absurd (Nat.add_left_cancel q) (by decide))).trans f427
  have f429 := (r165 (n0 + 6) (Nat.add_lt_add_left (by decide) n0) (Nat.ne_of_gt (Nat.lt_of_lt_of_le hol (Nat.le_add_right _ _)))).trans f428
  have f430 := (r170 (n0 + 6) (Nat.add_lt_add_left (by decide) n0) (fun q => absurd (Nat.add_left_cancel q) (by decide))).trans f429
  have f431 := (r176 (n0 + 6) (Nat.add_lt_add_left (by decide) n0) (Nat.ne_of_gt (Nat.lt_of_lt_of_le hol (Nat.le_add_right _ _)))).trans f430
  have f432 := (r181 (n0 + 6) (Nat.add_lt_add_left (by decide) n0) (fun q => absurd (Nat.add_left_cancel q) (by decide))).trans f431
  have f433 := (r187 (n0 + 6) (Nat.add_lt_add_left (by decide) n0) (Nat.ne_of_gt (Nat.lt_of_lt_of_le hol (Nat.le_add_right _ _)))).trans f432
  have f434 := (r192 (n0 + 6) (Nat.add_lt_add_left (by decide) n0) (fun q => absurd (Nat.add_left_cancel q) (by decide))).trans f433
  have f435 := (r198 (n0 + 6) (Nat.add_lt_add_left (by decide) n0) (Nat.ne_of_gt (Nat.lt_of_lt_of_le hol (Nat.le_add_right _ _)))).trans f434
  have f436 := (r203 (n0 + 6) (Nat.add_lt_add_left (by decide) n0) (fun q => absurd (Nat.add_left_cancel q) (by decide))).trans f435
  have f437 := (r209 (n0 + 6) (Nat.add_lt_add_left (by decide) n0) (Nat.ne_of_gt (Nat.lt_of_lt_of_le hol (Nat.le_add_right _ _)))).trans f436
  have f438 := (r245 (n0 + 6) (Nat.add_lt_add_left (by decide) n0) (fun q => absurd (Nat.add_left_cancel q) (by decide))).trans f437
  have f439 := (r88 (n0 + 7) (Nat.add_lt_add_left (by decide) n0) (Nat.ne_of_gt (Nat.lt_of_lt_of_le hol (Nat.le_add_right _ _)))).trans f80
  have f440 := (r93 (n0 + 7) (Nat.add_lt_add_left (by decide) n0) (fun q => absurd (Nat.add_left_cancel q) (by decide))).trans f439
  have f441 := (r99 (n0 + 7) (Nat.add_lt_add_left (by decide) n0) (Nat.ne_of_gt (Nat.lt_of_lt_of_le hol (Nat.le_add_right _ _)))).trans f440
  have f442 := (r104 (n0 + 7) (Nat.add_lt_add_left (by decide) n0) (fun q => absurd (Nat.add_left_cancel q) (by decide))).trans f441
  have f443 := (r110 (n0 + 7) (Nat.add_lt_add_left (by decide) n0) (Nat.ne_of_gt (Nat.lt_of_lt_of_le hol (Nat.le_add_right _ _)))).trans f442
  have f444 := (r115 (n0 + 7) (Nat.add_lt_add_left (by decide) n0) (fun q => absurd (Nat.add_left_cancel q) (by decide))).trans f443
  have f445 := (r121 (n0 + 7) (Nat.add_lt_add_left (by decide) n0) (Nat.ne_of_gt (Nat.lt_of_lt_of_le hol (Nat.le_add_right _ _)))).trans f444
  have f446 := (r126 (n0 + 7) (Nat.add_lt_add_left (by decide) n0) (fun q => absurd (Nat.add_left_cancel q) (by decide))).trans f445
  have f447 := (r132 (n0 + 7) (Nat.add_lt_add_left (by decide) n0) (Nat.ne_of_gt (Nat.lt_of_lt_of_le hol (Nat.le_add_right _ _)))).trans f446
  have f448 := (r137 (n0 + 7) (Nat.add_lt_add_left (by decide) n0) (fun q => absurd (Nat.add_left_cancel q) (by decide))).trans f447
  have f449 := (r143 (n0 + 7) (Nat.add_lt_add_left (by decide) n0) (Nat.ne_of_gt (Nat.lt_of_lt_of_le hol (Nat.le_add_right _ _)))).trans f448
  have f450 := (r148 (n0 + 7) (Nat.add_lt_add_left (by decide) n0) (fun q => absurd (Nat.add_left_cancel q) (by decide))).trans f449
  have f451 := (r154 (n0 + 7) (Nat.add_lt_add_left (by decide) n0) (Nat.ne_of_gt (Nat.lt_of_lt_of_le hol (Nat.le_add_right _ _)))).trans f450
  have f452 := (r159 (n0 + 7) (Nat.add_lt_add_left (by decide) n0) (fun q => absurd (Nat.add_left_cancel q) (by decide))).trans f451
  have f453 := (r165 (n0 + 7) (Nat.add_lt_add_left (by decide) n0) (Nat.ne_of_gt (Nat.lt_of_lt_of_le hol (Nat.le_add_right _ _)))).trans f452
  have f454 := (r170 (n0 + 7) (Nat.add_lt_add_left (by decide) n0) (fun q => absurd (Nat.add_left_cancel q) (by decide))).trans f453
  have f455 := (r176 (n0 + 7) (Nat.add_lt_add_left (by decide) n0) (Nat.ne_of_gt (Nat.lt_of_lt_of_le hol (Nat.le_add_right _ _)))).trans f454
  have f456 := (r181 (n0 + 7) (Nat.add_lt_add_left (by decide) n0) (fun q => absurd (Nat.add_left_cancel q) (by decide))).trans f455
  have f457 := (r187 (n0 + 7) (Nat.add_lt_add_left (by decide) n0) (Nat.ne_of_gt (Nat.lt_of_lt_of_le hol (Nat.le_add_right _ _)))).trans f456
  have f458 := (r192 (n0 + 7) (Nat.add_lt_add_left (by decide) n0) (fun q => absurd (Nat.add_left_cancel q) (by decide))).trans f457
  have f459 := (r198 (n0 + 7) (Nat.add_lt_add_left (by decide) n0) (Nat.ne_of_gt (Nat.lt_of_lt_of_le hol (Nat.le_add_right _ _)))).trans f458
  have f460 := (r203 (n0 + 7) (Nat.add_lt_add_left (by decide) n0) (fun q => absurd (Nat.add_left_cancel q) (by decide))).trans f459
  have f461 := (r209 (n0 + 7) (Nat.add_lt_add_left (by decide) n0) (Nat.ne_of_gt (Nat.lt_of_lt_of_le hol (Nat.le_add_right _ _)))).trans f460
  have f462 := (r245 (n0 + 7) (Nat.add_lt_add_left (by decide) n0) (fun q => absurd (Nat.add_left_cancel q) (by decide))).trans f461
  have f463 := (r99 (n0 + 8) (Nat.add_lt_add_left (by decide) n0) (Nat.ne_of_gt (Nat.lt_of_lt_of_le hol (Nat.le_add_right _ _)))).trans f91
  have f464 := (r104 (n0 + 8) (Nat.add_lt_add_left (by decide) n0) (fun q => absurd (Nat.add_left_cancel q) (by decide))).trans f463
  have f465 := (r110 (n0 + 8) (Nat.add_lt_add_left (by decide) n0) (Nat.ne_of_gt (Nat.lt_of_lt_of_le hol (Nat.le_add_right _ _)))).trans f464
  have f466 := (r115 (n0 + 8) (Nat.add_lt_add_left (by decide) n0) (fun q => absurd (Nat.add_left_cancel q) (by decide))).trans f465
  have f467 := (r121 (n0 + 8) (Nat.add_lt_add_left (by decide) n0) (Nat.ne_of_gt (Nat.lt_of_lt_of_le hol (Nat.le_add_right _ _)))).trans f466
  have f468 := (r126 (n0 + 8) (Nat.add_lt_add_left (by decide) n0) (fun q => absurd (Nat.add_left_cancel q) (by decide))).trans f467
  have f469 := (r132 (n0 + 8) (Nat.add_lt_add_left (by decide) n0) (Nat.ne_of_gt (Nat.lt_of_lt_of_le hol (Nat.le_add_right _ _)))).trans f468
  have f470 := (r137 (n0 + 8) (Nat.add_lt_add_left (by decide) n0) (fun q => absurd (Nat.add_left_cancel q) (by decide))).trans f469
  have f471 := (r143 (n0 + 8) (Nat.add_lt_add_left (by decide) n0) (Nat.ne_of_gt (Nat.lt_of_lt_of_le hol (Nat.le_add_right _ _)))).trans f470
  have f472 := (r148 (n0 + 8) (Nat.add_lt_add_left (by decide) n0) (fun q => absurd (Nat.add_left_cancel q) (by decide))).trans f471
  have f473 := (r154 (n0 + 8) (Nat.add_lt_add_left (by decide) n0) (Nat.ne_of_gt (Nat.lt_of_lt_of_le hol (Nat.le_add_right _ _)))).trans f472
  have f474 := (r159 (n0 + 8) (Nat.add_lt_add_left (by decide) n0) (fun q => absurd (Nat.add_left_cancel q) (by decide))).trans f473
  have f475 := (r165 (n0 + 8) (Nat.add_lt_add_left (by decide) n0) (Nat.ne_of_gt (Nat.lt_of_lt_of_le hol (Nat.le_add_right _ _)))).trans f474
  have f476 := (r170 (n0 + 8) (Nat.add_lt_add_left (by decide) n0) (fun q => absurd (Nat.add_left_cancel q) (by decide))).trans f475
  have f477 := (r176 (n0 + 8) (Nat.add_lt_add_left (by decide) n0) (Nat.ne_of_gt (Nat.lt_of_lt_of_le hol (Nat.le_add_right _ _)))).trans f476
  have f478 := (r181 (n0 + 8) (Nat.add_lt_add_left (by decide) n0) (fun q => absurd (Nat.add_left_cancel q) (by decide))).trans f477
  have f479 := (r187 (n0 + 8) (Nat.add_lt_add_left (by decide) n0) (Nat.ne_of_gt (Nat.lt_of_lt_of_le hol (Nat.le_add_right _ _)))).trans f478
  have f480 := (r192 (n0 + 8) (Nat.add_lt_add_left (by decide) n0) (fun q => absurd (Nat.add_left_cancel q) (by decide))).trans f479
  have f481 := (r198 (n0 + 8) (Nat.add_lt_add_left (by decide) n0) (Nat.ne_of_gt (Nat.lt_of_lt_of_le hol (Nat.le_add_right _ _)))).trans f480
  have f482 := (r203 (n0 + 8) (Nat.add_lt_add_left (by decide) n0) (fun q => absurd (Nat.add_left_cancel q) (by decide))).trans f481
  have f483 := (r209 (n0 + 8) (Nat.add_lt_add_left (by decide) n0) (Nat.ne_of_gt (Nat.lt_of_lt_of_le hol (Nat.le_add_right _ _)))).trans f482
  have f484 := (r245 (n0 + 8) (Nat.add_lt_add_left (by decide) n0) (fun q => absurd (Nat.add_left_cancel q) (by decide))).trans f483
  have f485 := (r110 (n0 + 9) (Nat.add_lt_add_left (by decide) n0) (Nat.ne_of_gt (Nat.lt_of_lt_of_le hol (Nat.le_add_right _ _)))).trans f102
  have f486 := (r115 (n0 + 9) (Nat.add_lt_add_left (by decide) n0) (fun q => absurd (Nat.add_left_cancel q) (by decide))).trans f485
  have f487 := (r121 (n0 + 9) (Nat.add_lt_add_left (by decide) n0) (Nat.ne_of_gt (Nat.lt_of_lt_of_le hol (Nat.le_add_right _ _)))).trans f486
  have f488 := (r126 (n0 + 9) (Nat.add_lt_add_left (by decide) n0) (fun q => absurd (Nat.add_left_cancel q) (by decide))).trans f487
  have f489 := (r132 (n0 + 9) (Nat.add_lt_add_left (by decide) n0) (Nat.ne_of_gt (Nat.lt_of_lt_of_le hol (Nat.le_add_right _ _)))).trans f488
  have f490 := (r137 (n0 + 9) (Nat.add_lt_add_left (by decide) n0) (fun q => absurd (Nat.add_left_cancel q) (by decide))).trans f489
  have f491 := (r143 (n0 + 9) (Nat.add_lt_add_left (by decide) n0) (Nat.ne_of_gt (Nat.lt_of_lt_of_le hol (Nat.le_add_right _ _)))).trans f490
  have f492 := (r148 (n0 + 9) (Nat.add_lt_add_left (by decide) n0) (fun q => absurd (Nat.add_left_cancel q) (by decide))).trans f491
  have f493 := (r154 (n0 + 9) (Nat.add_lt_add_left (by decide) n0) (Nat.ne_of_gt (Nat.lt_of_lt_of_le hol (Nat.le_add_right _ _)))).trans f492
  have f494 := (r159 (n0 + 9) (Nat.add_lt_add_left (by decide) n0) (fun q => absurd (Nat.add_left_cancel q) (by decide))).trans f493
  have f495 := (r165 (n0 + 9) (Nat.add_lt_add_left (by decide) n0) (Nat.ne_of_gt (Nat.lt_of_lt_of_le hol (Nat.le_add_right _ _)))).trans f494
  have f496 := (r170 (n0 + 9) (Nat.add_lt_add_left (by decide) n0) (fun q => absurd (Nat.add_left_cancel q) (by decide))).trans f495
  have f497 := (r176 (n0 + 9) (Nat.add_lt_add_left (by decide) n0) (Nat.ne_of_gt (Nat.lt_of_lt_of_le hol (Nat.le_add_right _ _)))).trans f496
  have f498 := (r181 (n0 + 9) (Nat.add_lt_add_left (by decide) n0) (fun q => absurd (Nat.add_left_cancel q) (by decide))).trans f497
  have f499 := (r187 (n0 + 9) (Nat.add_lt_add_left (by decide) n0) (Nat.ne_of_gt (Nat.lt_of_lt_of_le hol (Nat.le_add_right _ _)))).trans f498
  have f500 := (r192 (n0 + 9) (Nat.add_lt_add_left (by decide) n0) (fun q => absurd (Nat.add_left_cancel q) (by decide))).trans f499
  have f501 := (r198 (n0 + 9) (Nat.add_lt_add_left (by decide) n0) (Nat.ne_of_gt (Nat.lt_of_lt_of_le hol (Nat.le_add_right _ _)))).trans f500
  have f502 := (r203 (n0 + 9) (Nat.add_lt_add_left (by decide) n0) (fun q => absurd (Nat.add_left_cancel q) (by decide))).trans f501
  have f503 := (r209 (n0 + 9) (Nat.add_lt_add_left (by decide) n0) (Nat.ne_of_gt (Nat.lt_of_lt_of_le hol (Nat.le_add_right _ _)))).trans f502
  have f504 := (r245 (n0 + 9) (Nat.add_lt_add_left (by decide) n0) (fun q => absurd (Nat.add_left_cancel q) (by decide))).trans f503
  have f505 := (r121 (n0 + 10) (Nat.add_lt_add_left (by decide) n0) (Nat.ne_of_gt (Nat.lt_of_lt_of_le hol (Nat.le_add_right _ _)))).trans f113
  have f506 := (r126 (n0 + 10) (Nat.add_lt_add_left (by decide) n0) (fun q => absurd (Nat.add_left_cancel q) (by decide))).trans f505
  have f507 := (r132 (n0 + 10) (Nat.add_lt_add_left (by decide) n0) (Nat.ne_of_gt (Nat.lt_of_lt_of_le hol (Nat.le_add_right _ _)))).trans f506
  have f508 := (r137 (n0 + 10) (Nat.add_lt_add_left (by decide) n0) (fun q => absurd (Nat.add_left_cancel q) (by decide))).trans f507
  have f509 := (r143 (n0 + 10) (Nat.add_lt_add_left (by decide) n0) (Nat.ne_of_gt (Nat.lt_of_lt_of_le hol (Nat.le_add_right _ _)))).trans f508
  have f510 := (r148 (n0 + 10) (Nat.add_lt_add_left (by decide) n0) (fun q => absurd (Nat.add_left_cancel q) (by decide))).trans f509
  have f511 := (r154 (n0 + 10) (Nat.add_lt_add_left (by decide) n0) (Nat.ne_of_gt (Nat.lt_of_lt_of_le hol (Nat.le_add_right _ _)))).trans f510
  have f512 := (r159 (n0 + 10) (Nat.add_lt_add_left (by decide) n0) (fun q => absurd (Nat.add_left_cancel q) (by decide))).trans f511
  have f513 := (r165 (n0 + 10) (Nat.add_lt_add_left (by decide) n0) (Nat.ne_of_gt (Nat.lt_of_lt_of_le hol (Nat.le_add_right _ _)))).trans f512
  have f514 := (r170 (n0 + 10) (Nat.add_lt_add_left (by decide) n0) (fun q => absurd (Nat.add_left_cancel q) (by decide))).trans f513
  have f515 := (r176 (n0 + 10) (Nat.add_lt_add_left (by decide) n0) (Nat.ne_of_gt (Nat.lt_of_lt_of_le hol (Nat.le_add_right _ _)))).trans f514
  have f516 := (r181 (n0 + 10) (Nat.add_lt_add_left (by decide) n0) (fun q => absurd (Nat.add_left_cancel q) (by decide))).trans f515
  have f517 := (r187 (n0 + 10) (Nat.add_lt_add_left (by decide) n0) (Nat.ne_of_gt (Nat.lt_of_lt_of_le hol (Nat.le_add_right _ _)))).trans f516
  have f518 := (r192 (n0 + 10) (Nat.add_lt_add_left (by decide) n0) (fun q => absurd (Nat.add_left_cancel q) (by decide))).trans f517
  have f519 := (r198 (n0 + 10) (Nat.add_lt_add_left (by decide) n0) (Nat.ne_of_gt (Nat.lt_of_lt_of_le hol (Nat.le_add_right _ _)))).trans f518
  have f520 := (r203 (n0 + 10) (Nat.add_lt_add_left (by decide) n0) (fun q => absurd (Nat.add_left_cancel q) (by decide))).trans f519
  have f521 := (r209 (n0 + 10) (Nat.add_lt_add_left (by decide) n0) (Nat.ne_of_gt (Nat.lt_of_lt_of_le hol (Nat.le_add_right _ _)))).trans f520
  have f522 := (r245 (n0 + 10) (Nat.add_lt_add_left (by decide) n0) (fun q => absurd (Nat.add_left_cancel q) (by decide))).trans f521
  have f523 := (r132 (n0 + 11) (Nat.add_lt_add_left (by decide) n0) (Nat.ne_of_gt (Nat.lt_of_lt_of_le hol (Nat.le_add_right _ _)))).trans f124
  have f524 := (r137 (n0 + 11) (Nat.add_lt_add_left (by decide) n0) (fun q => absurd (Nat.add_left_cancel q) (by decide))).trans f523
  have f525 := (r143 (n0 + 11) (Nat.add_lt_add_left (by decide) n0) (Nat.ne_of_gt (Nat.lt_of_lt_of_le hol (Nat.le_add_right _ _)))).trans f524
  have f526 := (r148 (n0 + 11) (Nat.add_lt_add_left (by decide) n0) (fun q => absurd (Nat.add_left_cancel q) (by decide))).trans f525
  have f527 := (r154 (n0 + 11) (Nat.add_lt_add_left (by decide) n0) (Nat.ne_of_gt (Nat.lt_of_lt_of_le hol (Nat.le_add_right _ _)))).trans f526
  have f528 := (r159 (n0 + 11) (Nat.add_lt_add_left (by decide) n0) (fun q => absurd (Nat.add_left_cancel q) (by decide))).trans f527
  have f529 := (r165 (n0 + 11) (Nat.add_lt_add_left (by decide) n0) (Nat.ne_of_gt (Nat.lt_of_lt_of_le hol (Nat.le_add_right _ _)))).trans f528
  have f530 := (r170 (n0 + 11) (Nat.add_lt_add_left (by decide) n0) (fun q => absurd (Nat.add_left_cancel q) (by decide))).trans f529
  have f531 := (r176 (n0 + 11) (Nat.add_lt_add_left (by decide) n0) (Nat.ne_of_gt (Nat.lt_of_lt_of_le hol (Nat.le_add_right _ _)))).trans f530
  have f532 := (r181 (n0 + 11) (Nat.add_lt_add_left (by decide) n0) (fun q => absurd (Nat.add_left_cancel q) (by decide))).trans f531
  have f533 := (r187 (n0 + 11) (Nat.add_lt_add_left (by decide) n0) (Nat.ne_of_gt (Nat.lt_of_lt_of_le hol (Nat.le_add_right _ _)))).trans f532
  have f534 := (r192 (n0 + 11) (Nat.add_lt_add_left (by decide) n0) (fun q => absurd (Nat.add_left_cancel q) (by decide))).trans f533
  have f535 := (r198 (n0 + 11) (Nat.add_lt_add_left (by decide) n0) (Nat.ne_of_gt (Nat.lt_of_lt_of_le hol (Nat.le_add_right _ _)))).trans f534
  have f536 := (r203 (n0 + 11) (Nat.add_lt_add_left (by decide) n0) (fun q => absurd (Nat.add_left_cancel q) (by decide))).trans f535
  have f537 := (r209 (n0 + 11) (Nat.add_lt_add_left (by decide) n0) (Nat.ne_of_gt (Nat.lt_of_lt_of_le hol (Nat.le_add_right _ _)))).trans f536
  have f538 := (r245 (n0 + 11) (Nat.add_lt_add_left (by decide) n0) (fun q => absurd (Nat.add_left_cancel q) (by decide))).trans f537
  have f539 := (r143 (n0 + 12) (Nat.add_lt_add_left (by decide) n0) (Nat.ne_of_gt (Nat.lt_of_lt_of_le hol (Nat.le_add_right _ _)))).trans f135
  have f540 := (r148 (n0 + 12) (Nat.add_lt_add_left (by decide) n0) (fun q => absurd (Nat.add_left_cancel q) (by decide))).trans f539
  have f541 := (r154 (n0 + 12) (Nat.add_lt_add_left (by decide) n0) (Nat.ne_of_gt (Nat.lt_of_lt_of_le hol (Nat.le_add_right _ _)))).trans f540
  have f542 := (r159 (n0 + 12) (Nat.add_lt_add_left (by decide) n0) (fun q => absurd (Nat.add_left_cancel q) (by decide))).trans f541
  have f543 := (r165 (n0 + 12) (Nat.add_lt_add_left (by decide) n0) (Nat.ne_of_gt (Nat.lt_of_lt_of_le hol (Nat.le_add_right _ _)))).trans f542
  have f544 := (r170 (n0 + 12) (Nat.add_lt_add_left (by decide) n0) (fun q => absurd (Nat.add_left_cancel q) (by decide))).trans f543
  have f545 := (r176 (n0 + 12) (Nat.add_lt_add_left (by decide) n0) (Nat.ne_of_gt (Nat.lt_of_lt_of_le hol (Nat.le_add_right _ _)))).trans f544
  have f546 := (r181 (n0 + 12) (Nat.add_lt_add_left (by decide) n0) (fun q => absurd (Nat.add_left_cancel q) (by decide))).trans f545
  have f547 := (r187 (n0 + 12) (Nat.add_lt_add_left (by decide) n0) (Nat.ne_of_gt (Nat.lt_of_lt_of_le hol (Nat.le_add_right _ _)))).trans f546
  have f548 := (r192 (n0 + 12) (Nat.add_lt_add_left (by decide) n0) (fun q => absurd (Nat.add_left_cancel q) (by decide))).trans f547
  have f549 := (r198 (n0 + 12) (Nat.add_lt_add_left (by decide) n0) (Nat.ne_of_gt (Nat.lt_of_lt_of_le hol (Nat.le_add_right _ _)))).trans f548
  have f550 := (r203 (n0 + 12) (Nat.add_lt_add_left (by decide) n0) (fun q => absurd (Nat.add_left_cancel q) (by decide))).trans f549
  have f551 := (r209 (n0 + 12) (Nat.add_lt_add_left (by decide) n0) (Nat.ne_of_gt (Nat.lt_of_lt_of_le hol (Nat.le_add_right _ _)))).trans f550
  have f552 := (r245 (n0 + 12) (Nat.add_lt_add_left (by decide) n0) (fun q => absurd (Nat.add_left_cancel q) (by decide))).trans f551
  have f553 := (r154 (n0 + 13) (Nat.add_lt_add_left (by decide) n0) (Nat.ne_of_gt (Nat.lt_of_lt_of_le hol (Nat.le_add_right _ _)))).trans f146
  have f554 := (r159 (n0 + 13) (Nat.add_lt_add_left (by decide) n0) (fun q => absurd (Nat.add_left_cancel q) (by decide))).trans f553
  have f555 := (r165 (n0 + 13) (Nat.add_lt_add_left (by decide) n0) (Nat.ne_of_gt (Nat.lt_of_lt_of_le hol (Nat.le_add_right _ _)))).trans f554
  have f556 := (r170 (n0 + 13) (Nat.add_lt_add_left (by decide) n0) (fun q => absurd (Nat.add_left_cancel q) (by decide))).trans f555
  have f557 := (r176 (n0 + 13) (Nat.add_lt_add_left (by decide) n0) (Nat.ne_of_gt (Nat.lt_of_lt_of_le hol (Nat.le_add_right _ _)))).trans f556
  have f558 := (r181 (n0 + 13) (Nat.add_lt_add_left (by decide) n0) (fun q => absurd (Nat.add_left_cancel q) (by decide))).trans f557
  have f559 := (r187 (n0 + 13) (Nat.add_lt_add_left (by decide) n0) (Nat.ne_of_gt (Nat.lt_of_lt_of_le hol (Nat.le_add_right _ _)))).trans f558
  have f560 := (r192 (n0 + 13) (Nat.add_lt_add_left (by decide) n0) (fun q => absurd (Nat.add_left_cancel q) (by decide))).trans f559
  have f561 := (r198 (n0 + 13) (Nat.add_lt_add_left (by decide) n0) (Nat.ne_of_gt (Nat.lt_of_lt_of_le hol (Nat.le_add_right _ _)))).trans f560
  have f562 := (r203 (n0 + 13) (Nat.add_lt_add_left (by decide) n0) (fun q => absurd (Nat.add_left_cancel q) (by decide))).trans f561
  have f563 := (r209 (n0 + 13) (Nat.add_lt_add_left (by decide) n0) (Nat.ne_of_gt (Nat.lt_of_lt_of_le hol (Nat.le_add_right _ _)))).trans f562
  have f564 := (r245 (n0 + 13) (Nat.add_lt_add_left (by decide) n0) (fun q => absurd (Nat.add_left_cancel q) (by decide))).trans f563
  have f565 := (r165 (n0 + 14) (Nat.add_lt_add_left (by decide) n0) (Nat.ne_of_gt (Nat.lt_of_lt_of_le hol (Nat.le_add_right _ _)))).trans f157
  have f566 := (r170 (n0 + 14) (Nat.add_lt_add_left (by decide) n0) (fun q => absurd (Nat.add_left_cancel q) (by decide))).trans f565
  have f567 := (r176 (n0 + 14) (Nat.add_lt_add_left (by decide) n0) (Nat.ne_of_gt (Nat.lt_of_lt_of_le hol (Nat.le_add_right _ _)))).trans f566
  have f568 := (r181 (n0 + 14) (Nat.add_lt_add_left (by decide) n0) (fun q => absurd (Nat.add_left_cancel q) (by decide))).trans f567
  have f569 := (r187 (n0 + 14) (Nat.add_lt_add_left (by decide) n0) (Nat.ne_of_gt (Nat.lt_of_lt_of_le hol (Nat.le_add_right _ _)))).trans f568
  have f570 := (r192 (n0 + 14) (Nat.add_lt_add_left (by decide) n0) (fun q => absurd (Nat.add_left_cancel q) (by decide))).trans f569
  have f571 := (r198 (n0 + 14) (Nat.add_lt_add_left (by decide) n0) (Nat.ne_of_gt (Nat.lt_of_lt_of_le hol (Nat.le_add_right _ _)))).trans f570
  have f572 := (r203 (n0 + 14) (Nat.add_lt_add_left (by decide) n0) (fun q => absurd (Nat.add_left_cancel q) (by decide))).trans f571
  have f573 := (r209 (n0 + 14) (Nat.add_lt_add_left (by decide) n0) (Nat.ne_of_gt (Nat.lt_of_lt_of_le hol (Nat.le_add_right _ _)))).trans f572
  have f574 := (r245 (n0 + 14) (Nat.add_lt_add_left (by decide) n0) (fun q => absurd (Nat.add_left_cancel q) (by decide))).trans f573
  have f575 := (r176 (n0 + 15) (Nat.add_lt_add_left (by decide) n0) (Nat.ne_of_gt (Nat.lt_of_lt_of_le hol (Nat.le_add_right _ _)))).trans f168
  have f576 := (r181 (n0 + 15) (Nat.add_lt_add_left (by decide) n0) (fun q => absurd (Nat.add_left_cancel q) (by decide))).trans f575
  have f577 := (r187 (n0 + 15) (Nat.add_lt_add_left (by decide) n0) (Nat.ne_of_gt (Nat.lt_of_lt_of_le hol (Nat.le_add_right _ _)))).trans f576
  have f578 := (r192 (n0 + 15) (Nat.add_lt_add_left (by decide) n0) (fun q => absurd (Nat.add_left_cancel q) (by decide))).trans f577
  have f579 := (r198 (n0 + 15) (Nat.add_lt_add_left (by decide) n0) (Nat.ne_of_gt (Nat.lt_of_lt_of_le hol (Nat.le_add_right _ _)))).trans f578
  have f580 := (r203 (n0 + 15) (Nat.add_lt_add_left (by decide) n0) (fun q => absurd (Nat.add_left_cancel q) (by decide))).trans f579
  have f581 := (r209 (n0 + 15) (Nat.add_lt_add_left (by decide) n0) (Nat.ne_of_gt (Nat.lt_of_lt_of_le hol (Nat.le_add_right _ _)))).trans f580
  have f582 := (r245 (n0 + 15) (Nat.add_lt_add_left (by decide) n0) (fun q => absurd (Nat.add_left_cancel q) (by decide))).trans f581
  have f583 := (r187 (n0 + 16) (Nat.add_lt_add_left (by decide) n0) (Nat.ne_of_gt (Nat.lt_of_lt_of_le hol (Nat.le_add_right _ _)))).trans f179
  have f584 := (r192 (n0 + 16) (Nat.add_lt_add_left (by decide) n0) (fun q => absurd (Nat.add_left_cancel q) (by decide))).trans f583
  have f585 := (r198 (n0 + 16) (Nat.add_lt_add_left (by decide) n0) (Nat.ne_of_gt (Nat.lt_of_lt_of_le hol (Nat.le_add_right _ _)))).trans f584
  have f586 := (r203 (n0 + 16) (Nat.add_lt_add_left (by decide) n0) (fun q => absurd (Nat.add_left_cancel q) (by decide))).trans f585
  have f587 := (r209 (n0 + 16) (Nat.add_lt_add_left (by decide) n0) (Nat.ne_of_gt (Nat.lt_of_lt_of_le hol (Nat.le_add_right _ _)))).trans f586
  have f588 := (r245 (n0 + 16) (Nat.add_lt_add_left (by decide) n0) (fun q => absurd (Nat.add_left_cancel q) (by decide))).trans f587
  have f589 := (r198 (n0 + 17) (Nat.add_lt_add_left (by decide) n0) (Nat.ne_of_gt (Nat.lt_of_lt_of_le hol (Nat.le_add_right _ _)))).trans f190
  have f590 := (r203 (n0 + 17) (Nat.add_lt_add_left (by decide) n0) (fun q => absurd (Nat.add_left_cancel q) (by decide))).trans f589
  have f591 := (r209 (n0 + 17) (Nat.add_lt_add_left (by decide) n0) (Nat.ne_of_gt (Nat.lt_of_lt_of_le hol (Nat.le_add_right _ _)))).trans f590
  have f592 := (r245 (n0 + 17) (Nat.add_lt_add_left (by decide) n0) (fun q => absurd (Nat.add_left_cancel q) (by decide))).trans f591
  have f593 := (r209 (n0 + 18) (Nat.add_lt_add_left (by decide) n0) (Nat.ne_of_gt (Nat.lt_of_lt_of_le hol (Nat.le_add_right _ _)))).trans f201
  have f594 := (r245 (n0 + 18) (Nat.add_lt_add_left (by decide) n0) (fun q => absurd (Nat.add_left_cancel q) (by decide))).trans f593
  have hfr : ∀ j, j < n0 → j ≠ o → h241[j]? = h[j]? := by
    intro j hj hjo
    rw [r245 j (Nat.lt_of_lt_of_le hj (Nat.le_add_right _ _)) (Nat.ne_of_lt (Nat.lt_of_lt_of_le hj (Nat.le_add_right _ _))), r209 j (Nat.lt_of_lt_of_le hj (Nat.le_add_right _ _)) hjo, r203 j (Nat.lt_of_lt_of_le hj (Nat.le_add_right _ _)) (Nat.ne_of_lt (Nat.lt_of_lt_of_le hj (Nat.le_add_right _ _))), r198 j (Nat.lt_of_lt_of_le hj (Nat.le_add_right _ _)) hjo, r192 j (Nat.lt_of_lt_of_le hj (Nat.le_add_right _ _)) (Nat.ne_of_lt (Nat.lt_of_lt_of_le hj (Nat.le_add_right _ _))), r187 j (Nat.lt_of_lt_of_le hj (Nat.le_add_right _ _)) hjo, r181 j (Nat.lt_of_lt_of_le hj (Nat.le_add_right _ _)) (Nat.ne_of_lt (Nat.lt_of_lt_of_le hj (Nat.le_add_right _ _))), r176 j (Nat.lt_of_lt_of_le hj (Nat.le_add_right _ _)) hjo, r170 j (Nat.lt_of_lt_of_le hj (Nat.le_add_right _ _)) (Nat.ne_of_lt (Nat.lt_of_lt_of_le hj (Nat.le_add_right _ _))), r165 j (Nat.lt_of_lt_of_le hj (Nat.le_add_right _ _)) hjo, r159 j (Nat.lt_of_lt_of_le hj (Nat.le_add_right _ _)) (Nat.ne_of_lt (Nat.lt_of_lt_of_le hj (Nat.le_add_right _ _))), r154 j (Nat.lt_of_lt_of_le hj (Nat.le_add_right _ _)) hjo, r148 j (Nat.lt_of_lt_of_le hj (Nat.le_add_right _ _)) (Nat.ne_of_lt (Nat.lt_of_lt_of_le hj (Nat.le_add_right _ _))), r143 j (Nat.lt_of_lt_of_le hj (Nat.le_add_right _ _)) hjo, r137 j (Nat.lt_of_lt_of_le hj (Nat.le_add_right _ _)) (Nat.ne_of_lt (Nat.lt_of_lt_of_le hj (Nat.le_add_right _ _))), r132 j (Nat.lt_of_lt_of_le hj (Nat.le_add_right _ _)) hjo, r126 j (Nat.lt_of_lt_of_le hj (Nat.le_add_right _ _)) (Nat.ne_of_lt (Nat.lt_of_lt_of_le hj (Nat.le_add_right _ _))), r121 j (Nat.lt_of_lt_of_le hj (Nat.le_add_right _ _)) hjo, r115 j (Nat.lt_of_lt_of_le hj (Nat.le_add_right _ _)) (Nat.ne_of_lt (Nat.lt_of_lt_of_le hj (Nat.le_add_right _ _))), r110 j (Nat.lt_of_lt_of_le hj (Nat.le_add_right _ _)) hjo, r104 j (Nat.lt_of_lt_of_le hj (Nat.le_add_right _ _)) (Nat.ne_of_lt (Nat.lt_of_lt_of_le hj (Nat.le_add_right _ _))), r99 j (Nat.lt_of_lt_of_le hj (Nat.le_add_right _ _)) hjo, r93 j (Nat.lt_of_lt_of_le hj (Nat.le_add_right _ _)) (Nat.ne_of_lt (Nat.lt_of_lt_of_le hj (Nat.le_add_right _ _))), r88 j (Nat.lt_of_lt_of_le hj (Nat.le_add_right _ _)) hjo, r82 j (Nat.lt_of_lt_of_le hj (Nat.le_add_right _ _)) (Nat.ne_of_lt (Nat.lt_of_lt_of_le hj (Nat.le_add_right _ _))), r77 j (Nat.lt_of_lt_of_le hj (Nat.le_add_right _ _)) hjo, r71 j (Nat.lt_of_lt_of_le hj (Nat.le_add_right _ _)) (Nat.ne_of_lt (Nat.lt_of_lt_of_le hj (Nat.le_add_right _ _))), r66 j (Nat.lt_of_lt_of_le hj (Nat.le_add_right _ _)) hjo, r60 j (Nat.lt_of_lt_of_le hj (Nat.le_add_right _ _)) (Nat.ne_of_lt (Nat.lt_of_lt_of_le hj (Nat.le_add_right _ _))), r55 j (Nat.lt_of_lt_of_le hj (Nat.le_add_right _ _)) hjo, r49 j (Nat.lt_of_lt_of_le hj (Nat.le_add_right _ _)) (Nat.ne_of_lt (Nat.lt_of_lt_of_le hj (Nat.le_add_right _ _))), r44 j (Nat.lt_of_lt_of_le hj (Nat.le_add_right _ _)) hjo, r38 j (Nat.lt_of_lt_of_le hj (Nat.le_add_right _ _)) (Nat.ne_of_lt (Nat.lt_of_lt_of_le hj (Nat.le_add_right _ _))), r33 j (Nat.lt_of_lt_of_le hj (Nat.le_add_right _ _)) hjo, r27 j (Nat.lt_of_lt_of_le hj (Nat.le_add_right _ _)) (Nat.ne_of_lt (Nat.lt_of_lt_of_le hj (Nat.le_add_right _ _))), r22 j (Nat.lt_of_lt_of_le hj (Nat.le_add_right _ _)) hjo, r16 j (Nat.lt_of_lt_of_le hj (Nat.le_add_right _ _)) (Nat.ne_of_lt (Nat.lt_of_lt_of_le hj (Nat.le_add_right _ _))), r11 j (Nat.lt_of_lt_of_le hj (Nat.le_add_right _ _)) hjo, r5 j (Nat.lt_of_lt_of_le hj (Nat.le_add_right _ _)) (Nat.ne_of_lt (Nat.lt_of_lt_of_le hj (Nat.le_add_right _ _)))]
  exact J_vret hq dX11_init_162 rfl (hk1 hn l244) (by decide) (by decide) ⟨rfl, l244, f246, (At_cons f284 (At_cons f320 (At_cons f354 (At_cons f243 (At_cons f384 (At_cons f412 (At_cons f438 (At_cons f462 (At_cons f484 (At_cons f504 (At_cons f522 (At_cons f538 (At_cons f552 (At_cons f564 (At_cons f574 (At_cons f582 (At_cons f588 (At_cons f592 (At_cons f594 At_nil))))))))))))))))))), hfr⟩
end
section
/-! small facts -/
theorem hkz {w : List MC} {L : Nat} (h : w.length = L) : 0 + L = w.length := by omega
theorem s_ne {h h2 : List MC} {a j : Nat} {c : MC} (e : h2 = h.set a c) (hj : j ≠ a) : h2[j]? = h[j]? := by rw [e, List.getElem?_set_ne (Ne.symm hj)]
theorem i_nlt {a b : Int32} (h : ¬ a < b) : b ≤ a := by rw [Int32.lt_iff_toInt_lt] at h; rw [Int32.le_iff_toInt_le]; omega
theorem i_nle {a b : Int32} (h : ¬ a ≤ b) : b < a := by rw [Int32.le_iff_toInt_le] at h; rw [Int32.lt_iff_toInt_lt]; omega
theorem nb0 (i : Int32) : (!decide (i < 0) && !decide ((0 : Int32) ≤ i)) = false := by
  by_cases h : i < 0
  · simp [h]
  · simp [i_nlt h]
theorem nb1 (i : Int32) : (!decide (i < 0) && !decide ((-1 : Int32) < i)) = false := by
  by_cases h : i < 0
  · simp [h]
  · have h2 : (-1 : Int32) < i := by
      have := i_nlt h
      rw [Int32.le_iff_toInt_le] at this
      rw [Int32.lt_iff_toInt_lt]
      have e : (-1 : Int32).toInt = -1 := by decide
      have e0 : (0 : Int32).toInt = 0 := by decide
      omega
    simp [h2]
theorem k703 : Cond.methodLink RX10 103 yX7_hasHill ∈ gt := gt_in 703 (by decide +kernel) (by decide +kernel)
theorem k704 : Cond.instanceMethod yX7_hasHill ∈ gt := gt_in 704 (by decide +kernel) (by decide +kernel)
theorem k705 : Cond.selects RX7 yX7_hasHill yX7_hasHill ∈ gt := gt_in 705 (by decide +kernel) (by decide +kernel)
theorem k706 : Cond.code yX7_hasHill cX7_hasHill 2 (some .boolean) ∈ gt := gt_in 706 (by decide +kernel) (by decide +kernel)
theorem np_X7_hasHill : yX7_hasHill.cls ≠ "java/lang/invoke/MethodHandle" ∧ yX7_hasHill.cls ≠ "java/lang/invoke/VarHandle" ∧ (parseMethodDescriptor yX7_hasHill.desc).map (fun d => d.parameters.length) = some 1 := by decide +kernel
theorem k723 : Cond.methodLink RX10 114 yX10_lays ∈ gt := gt_in 723 (by decide +kernel) (by decide +kernel)
theorem k725 : Cond.instanceMethod yX10_lays ∈ gt := gt_in 725 (by decide +kernel) (by decide +kernel)
theorem k12 : Cond.selects RX10 yX10_lays yX10_lays ∈ gt := gt_in 12 (by decide +kernel) (by decide +kernel)
theorem k87 : Cond.initialized RX10 ∈ gt := gt_in 87 (by decide +kernel) (by decide +kernel)
theorem k726 : Cond.code yX10_lays cX10_lays 3 (some .boolean) ∈ gt := gt_in 726 (by decide +kernel) (by decide +kernel)
theorem np_X10_lays : yX10_lays.cls ≠ "java/lang/invoke/MethodHandle" ∧ yX10_lays.cls ≠ "java/lang/invoke/VarHandle" ∧ (parseMethodDescriptor yX10_lays.desc).map (fun d => d.parameters.length) = some 2 := by decide +kernel
theorem k727 : Cond.methodLink RX10 127 yX7_hasPlan ∈ gt := gt_in 727 (by decide +kernel) (by decide +kernel)
theorem k728 : Cond.instanceMethod yX7_hasPlan ∈ gt := gt_in 728 (by decide +kernel) (by decide +kernel)
theorem k729 : Cond.selects RX7 yX7_hasPlan yX7_hasPlan ∈ gt := gt_in 729 (by decide +kernel) (by decide +kernel)
theorem k730 : Cond.code yX7_hasPlan cX7_hasPlan 2 (some .boolean) ∈ gt := gt_in 730 (by decide +kernel) (by decide +kernel)
theorem np_X7_hasPlan : yX7_hasPlan.cls ≠ "java/lang/invoke/MethodHandle" ∧ yX7_hasPlan.cls ≠ "java/lang/invoke/VarHandle" ∧ (parseMethodDescriptor yX7_hasPlan.desc).map (fun d => d.parameters.length) = some 1 := by decide +kernel
theorem k852 : Cond.methodLink RX10 156 yX10_looks ∈ gt := gt_in 852 (by decide +kernel) (by decide +kernel)
theorem k854 : Cond.instanceMethod yX10_looks ∈ gt := gt_in 854 (by decide +kernel) (by decide +kernel)
theorem k23 : Cond.selects RX10 yX10_looks yX10_looks ∈ gt := gt_in 23 (by decide +kernel) (by decide +kernel)
theorem k855 : Cond.code yX10_looks cX10_looks 3 (some .boolean) ∈ gt := gt_in 855 (by decide +kernel) (by decide +kernel)
theorem np_X10_looks : yX10_looks.cls ≠ "java/lang/invoke/MethodHandle" ∧ yX10_looks.cls ≠ "java/lang/invoke/VarHandle" ∧ (parseMethodDescriptor yX10_looks.desc).map (fun d => d.parameters.length) = some 2 := by decide +kernel
theorem k877 : Cond.constantLong RX10 159 (-1) ∈ gt := gt_in 877 (by decide +kernel) (by decide +kernel)
theorem k938 : Cond.methodLink RX10 204 yX10_canMend ∈ gt := gt_in 938 (by decide +kernel) (by decide +kernel)
theorem k940 : Cond.instanceMethod yX10_canMend ∈ gt := gt_in 940 (by decide +kernel) (by decide +kernel)
theorem k26 : Cond.selects RX10 yX10_canMend yX10_canMend ∈ gt := gt_in 26 (by decide +kernel) (by decide +kernel)
theorem k941 : Cond.code yX10_canMend cX10_canMend 6 (some .boolean) ∈ gt := gt_in 941 (by decide +kernel) (by decide +kernel)
theorem np_X10_canMend : yX10_canMend.cls ≠ "java/lang/invoke/MethodHandle" ∧ yX10_canMend.cls ≠ "java/lang/invoke/VarHandle" ∧ (parseMethodDescriptor yX10_canMend.desc).map (fun d => d.parameters.length) = some 5 := by decide +kernel
theorem k1005 : Cond.methodLink RX10 236 yX10_hasPond ∈ gt := gt_in 1005 (by decide +kernel) (by decide +kernel)
theorem k1007 : Cond.instanceMethod yX10_hasPond ∈ gt := gt_in 1007 (by decide +kernel) (by decide +kernel)
theorem k29 : Cond.selects RX10 yX10_hasPond yX10_hasPond ∈ gt := gt_in 29 (by decide +kernel) (by decide +kernel)
theorem k1008 : Cond.code yX10_hasPond cX10_hasPond 4 (some .boolean) ∈ gt := gt_in 1008 (by decide +kernel) (by decide +kernel)
theorem np_X10_hasPond : yX10_hasPond.cls ≠ "java/lang/invoke/MethodHandle" ∧ yX10_hasPond.cls ≠ "java/lang/invoke/VarHandle" ∧ (parseMethodDescriptor yX10_hasPond.desc).map (fun d => d.parameters.length) = some 3 := by decide +kernel
theorem k1028 : Cond.constantLong RX10 246 (-9223372036854775808) ∈ gt := gt_in 1028 (by decide +kernel) (by decide +kernel)
theorem k1036 : Cond.methodLink RX10 259 yX10_canFill ∈ gt := gt_in 1036 (by decide +kernel) (by decide +kernel)
theorem k1038 : Cond.instanceMethod yX10_canFill ∈ gt := gt_in 1038 (by decide +kernel) (by decide +kernel)
theorem k30 : Cond.selects RX10 yX10_canFill yX10_canFill ∈ gt := gt_in 30 (by decide +kernel) (by decide +kernel)
theorem k1039 : Cond.code yX10_canFill cX10_canFill 4 (some .boolean) ∈ gt := gt_in 1039 (by decide +kernel) (by decide +kernel)
theorem np_X10_canFill : yX10_canFill.cls ≠ "java/lang/invoke/MethodHandle" ∧ yX10_canFill.cls ≠ "java/lang/invoke/VarHandle" ∧ (parseMethodDescriptor yX10_canFill.desc).map (fun d => d.parameters.length) = some 3 := by decide +kernel
theorem dX10_alone_0 : decode cX10_alone 0 = .ok (.aload_n 0, 1) := by decide +kernel
theorem dX10_alone_1 : decode cX10_alone 1 = .ok (.iload_n 1, 1) := by decide +kernel
theorem dX10_alone_2 : decode cX10_alone 2 = .ok (.iload_n 2, 1) := by decide +kernel
theorem dX10_alone_3 : decode cX10_alone 3 = .ok (.invokevirtual 156, 3) := by decide +kernel
theorem dX10_alone_6 : decode cX10_alone 6 = .ok (.ifCond .eq 10, 3) := by decide +kernel
theorem dX10_alone_16 : decode cX10_alone 16 = .ok (.ldc2_w 159, 3) := by decide +kernel
theorem dX10_alone_19 : decode cX10_alone 19 = .ok (.lreturn, 1) := by decide +kernel
theorem dX10_around_0 : decode cX10_around 0 = .ok (.aload_n 0, 1) := by decide +kernel
theorem dX10_around_1 : decode cX10_around 1 = .ok (.iload_n 1, 1) := by decide +kernel
theorem dX10_around_2 : decode cX10_around 2 = .ok (.iload_n 2, 1) := by decide +kernel
theorem dX10_around_3 : decode cX10_around 3 = .ok (.invokevirtual 114, 3) := by decide +kernel
theorem dX10_around_6 : decode cX10_around 6 = .ok (.ifCond .ne 5, 3) := by decide +kernel
theorem dX10_around_9 : decode cX10_around 9 = .ok (.iconst (-1), 1) := by decide +kernel
theorem dX10_around_10 : decode cX10_around 10 = .ok (.ireturn, 1) := by decide +kernel
theorem dX10_best_0 : decode cX10_best 0 = .ok (.aload_n 0, 1) := by decide +kernel
theorem dX10_best_1 : decode cX10_best 1 = .ok (.iload_n 1, 1) := by decide +kernel
theorem dX10_best_2 : decode cX10_best 2 = .ok (.iload_n 2, 1) := by decide +kernel
theorem dX10_best_3 : decode cX10_best 3 = .ok (.iload_n 3, 1) := by decide +kernel
theorem dX10_best_4 : decode cX10_best 4 = .ok (.iload 4, 2) := by decide +kernel
theorem dX10_best_6 : decode cX10_best 6 = .ok (.sipush 9999, 3) := by decide +kernel
theorem dX10_best_9 : decode cX10_best 9 = .ok (.invokevirtual 204, 3) := by decide +kernel
theorem dX10_best_12 : decode cX10_best 12 = .ok (.ifCond .eq 23, 3) := by decide +kernel
theorem dX10_best_35 : decode cX10_best 35 = .ok (.iconst (-1), 1) := by decide +kernel
theorem dX10_best_36 : decode cX10_best 36 = .ok (.ireturn, 1) := by decide +kernel
theorem dX10_better_0 : decode cX10_better 0 = .ok (.aload_n 0, 1) := by decide +kernel
theorem dX10_better_1 : decode cX10_better 1 = .ok (.iload_n 1, 1) := by decide +kernel
theorem dX10_better_2 : decode cX10_better 2 = .ok (.iload_n 2, 1) := by decide +kernel
theorem dX10_better_3 : decode cX10_better 3 = .ok (.invokevirtual 114, 3) := by decide +kernel
theorem dX10_better_6 : decode cX10_better 6 = .ok (.ifCond .ne 5, 3) := by decide +kernel
theorem dX10_better_9 : decode cX10_better 9 = .ok (.iconst (-1), 1) := by decide +kernel
theorem dX10_better_10 : decode cX10_better 10 = .ok (.ireturn, 1) := by decide +kernel
theorem dX10_brings_0 : decode cX10_brings 0 = .ok (.aload_n 0, 1) := by decide +kernel
theorem dX10_brings_1 : decode cX10_brings 1 = .ok (.iload_n 1, 1) := by decide +kernel
theorem dX10_brings_2 : decode cX10_brings 2 = .ok (.iload_n 2, 1) := by decide +kernel
theorem dX10_brings_3 : decode cX10_brings 3 = .ok (.invokevirtual 114, 3) := by decide +kernel
theorem dX10_brings_6 : decode cX10_brings 6 = .ok (.ifCond .eq 32, 3) := by decide +kernel
theorem dX10_brings_38 : decode cX10_brings 38 = .ok (.iconst (-1), 1) := by decide +kernel
theorem dX10_brings_39 : decode cX10_brings 39 = .ok (.ireturn, 1) := by decide +kernel
theorem dX10_canFill_0 : decode cX10_canFill 0 = .ok (.aload_n 0, 1) := by decide +kernel
theorem dX10_canFill_1 : decode cX10_canFill 1 = .ok (.iload_n 1, 1) := by decide +kernel
theorem dX10_canFill_2 : decode cX10_canFill 2 = .ok (.iload_n 2, 1) := by decide +kernel
theorem dX10_canFill_3 : decode cX10_canFill 3 = .ok (.invokevirtual 114, 3) := by decide +kernel
theorem dX10_canFill_6 : decode cX10_canFill 6 = .ok (.ifCond .eq 33, 3) := by decide +kernel
theorem dX10_canFill_39 : decode cX10_canFill 39 = .ok (.iconst 0, 1) := by decide +kernel
theorem dX10_canFill_40 : decode cX10_canFill 40 = .ok (.ireturn, 1) := by decide +kernel
theorem dX10_canMend_0 : decode cX10_canMend 0 = .ok (.aload_n 0, 1) := by decide +kernel
theorem dX10_canMend_1 : decode cX10_canMend 1 = .ok (.iload_n 1, 1) := by decide +kernel
theorem dX10_canMend_2 : decode cX10_canMend 2 = .ok (.iload_n 2, 1) := by decide +kernel
theorem dX10_canMend_3 : decode cX10_canMend 3 = .ok (.invokevirtual 114, 3) := by decide +kernel
theorem dX10_canMend_6 : decode cX10_canMend 6 = .ok (.ifCond .eq 41, 3) := by decide +kernel
theorem dX10_canMend_47 : decode cX10_canMend 47 = .ok (.iconst 0, 1) := by decide +kernel
theorem dX10_canMend_48 : decode cX10_canMend 48 = .ok (.ireturn, 1) := by decide +kernel
theorem dX10_deep_0 : decode cX10_deep 0 = .ok (.aload_n 0, 1) := by decide +kernel
theorem dX10_deep_1 : decode cX10_deep 1 = .ok (.iload_n 1, 1) := by decide +kernel
theorem dX10_deep_2 : decode cX10_deep 2 = .ok (.iload_n 2, 1) := by decide +kernel
theorem dX10_deep_3 : decode cX10_deep 3 = .ok (.invokevirtual 156, 3) := by decide +kernel
theorem dX10_deep_6 : decode cX10_deep 6 = .ok (.ifCond .eq 13, 3) := by decide +kernel
theorem dX10_deep_19 : decode cX10_deep 19 = .ok (.iconst (-1), 1) := by decide +kernel
theorem dX10_deep_20 : decode cX10_deep 20 = .ok (.ireturn, 1) := by decide +kernel
theorem dX10_flood_0 : decode cX10_flood 0 = .ok (.aload_n 0, 1) := by decide +kernel
theorem dX10_flood_1 : decode cX10_flood 1 = .ok (.iload_n 1, 1) := by decide +kernel
theorem dX10_flood_2 : decode cX10_flood 2 = .ok (.iload_n 2, 1) := by decide +kernel
theorem dX10_flood_3 : decode cX10_flood 3 = .ok (.invokevirtual 156, 3) := by decide +kernel
theorem dX10_flood_6 : decode cX10_flood 6 = .ok (.ifCond .eq 13, 3) := by decide +kernel
theorem dX10_flood_19 : decode cX10_flood 19 = .ok (.iconst (-1), 1) := by decide +kernel
theorem dX10_flood_20 : decode cX10_flood 20 = .ok (.ireturn, 1) := by decide +kernel
theorem dX10_given_0 : decode cX10_given 0 = .ok (.aload_n 0, 1) := by decide +kernel
theorem dX10_given_1 : decode cX10_given 1 = .ok (.iload_n 1, 1) := by decide +kernel
theorem dX10_given_2 : decode cX10_given 2 = .ok (.iload_n 2, 1) := by decide +kernel
theorem dX10_given_3 : decode cX10_given 3 = .ok (.invokevirtual 156, 3) := by decide +kernel
theorem dX10_given_6 : decode cX10_given 6 = .ok (.ifCond .eq 32, 3) := by decide +kernel
theorem dX10_given_38 : decode cX10_given 38 = .ok (.ldc2_w 159, 3) := by decide +kernel
theorem dX10_given_41 : decode cX10_given 41 = .ok (.lreturn, 1) := by decide +kernel
theorem dX10_hasPond_0 : decode cX10_hasPond 0 = .ok (.aload_n 0, 1) := by decide +kernel
theorem dX10_hasPond_1 : decode cX10_hasPond 1 = .ok (.iload_n 1, 1) := by decide +kernel
theorem dX10_hasPond_2 : decode cX10_hasPond 2 = .ok (.iload_n 2, 1) := by decide +kernel
theorem dX10_hasPond_3 : decode cX10_hasPond 3 = .ok (.invokevirtual 114, 3) := by decide +kernel
theorem dX10_hasPond_6 : decode cX10_hasPond 6 = .ok (.ifCond .eq 21, 3) := by decide +kernel
theorem dX10_hasPond_27 : decode cX10_hasPond 27 = .ok (.iconst 0, 1) := by decide +kernel
theorem dX10_hasPond_28 : decode cX10_hasPond 28 = .ok (.ireturn, 1) := by decide +kernel
theorem dX10_hear_0 : decode cX10_hear 0 = .ok (.aload_n 0, 1) := by decide +kernel
theorem dX10_hear_1 : decode cX10_hear 1 = .ok (.iload_n 1, 1) := by decide +kernel
theorem dX10_hear_2 : decode cX10_hear 2 = .ok (.iload_n 2, 1) := by decide +kernel
theorem dX10_hear_3 : decode cX10_hear 3 = .ok (.iload_n 3, 1) := by decide +kernel
theorem dX10_hear_4 : decode cX10_hear 4 = .ok (.invokevirtual 236, 3) := by decide +kernel
theorem dX10_hear_7 : decode cX10_hear 7 = .ok (.ifCond .eq 15, 3) := by decide +kernel
theorem dX10_hear_22 : decode cX10_hear 22 = .ok (.ldc2_w 246, 3) := by decide +kernel
theorem dX10_hear_25 : decode cX10_hear 25 = .ok (.lreturn, 1) := by decide +kernel
theorem dX10_helps_0 : decode cX10_helps 0 = .ok (.aload_n 0, 1) := by decide +kernel
theorem dX10_helps_1 : decode cX10_helps 1 = .ok (.iload_n 1, 1) := by decide +kernel
theorem dX10_helps_2 : decode cX10_helps 2 = .ok (.iload_n 2, 1) := by decide +kernel
theorem dX10_helps_3 : decode cX10_helps 3 = .ok (.invokevirtual 156, 3) := by decide +kernel
theorem dX10_helps_6 : decode cX10_helps 6 = .ok (.ifCond .eq 18, 3) := by decide +kernel
theorem dX10_helps_24 : decode cX10_helps 24 = .ok (.ldc2_w 159, 3) := by decide +kernel
theorem dX10_helps_27 : decode cX10_helps 27 = .ok (.lreturn, 1) := by decide +kernel
theorem dX10_hill_0 : decode cX10_hill 0 = .ok (.aload_n 0, 1) := by decide +kernel
theorem dX10_hill_1 : decode cX10_hill 1 = .ok (.getfield 10, 3) := by decide +kernel
theorem dX10_hill_4 : decode cX10_hill 4 = .ok (.iload_n 1, 1) := by decide +kernel
theorem dX10_hill_5 : decode cX10_hill 5 = .ok (.invokevirtual 103, 3) := by decide +kernel
theorem dX10_hill_8 : decode cX10_hill 8 = .ok (.ifCond .eq 19, 3) := by decide +kernel
theorem dX10_hill_27 : decode cX10_hill 27 = .ok (.iconst (-1), 1) := by decide +kernel
theorem dX10_hill_28 : decode cX10_hill 28 = .ok (.ireturn, 1) := by decide +kernel
theorem dX10_joint_0 : decode cX10_joint 0 = .ok (.aload_n 0, 1) := by decide +kernel
theorem dX10_joint_1 : decode cX10_joint 1 = .ok (.iload_n 1, 1) := by decide +kernel
theorem dX10_joint_2 : decode cX10_joint 2 = .ok (.iload_n 2, 1) := by decide +kernel
theorem dX10_joint_3 : decode cX10_joint 3 = .ok (.invokevirtual 156, 3) := by decide +kernel
theorem dX10_joint_6 : decode cX10_joint 6 = .ok (.ifCond .eq 32, 3) := by decide +kernel
theorem dX10_joint_38 : decode cX10_joint 38 = .ok (.ldc2_w 159, 3) := by decide +kernel
theorem dX10_joint_41 : decode cX10_joint 41 = .ok (.lreturn, 1) := by decide +kernel
theorem dX10_lays_0 : decode cX10_lays 0 = .ok (.aload_n 0, 1) := by decide +kernel
theorem dX10_lays_1 : decode cX10_lays 1 = .ok (.getfield 10, 3) := by decide +kernel
theorem dX10_lays_4 : decode cX10_lays 4 = .ok (.iload_n 1, 1) := by decide +kernel
theorem dX10_lays_5 : decode cX10_lays 5 = .ok (.invokevirtual 103, 3) := by decide +kernel
theorem dX10_lays_8 : decode cX10_lays 8 = .ok (.ifCond .eq 19, 3) := by decide +kernel
theorem dX10_lays_27 : decode cX10_lays 27 = .ok (.iconst 0, 1) := by decide +kernel
theorem dX10_lays_28 : decode cX10_lays 28 = .ok (.ireturn, 1) := by decide +kernel
theorem dX10_likely_0 : decode cX10_likely 0 = .ok (.aload_n 0, 1) := by decide +kernel
theorem dX10_likely_1 : decode cX10_likely 1 = .ok (.iload_n 1, 1) := by decide +kernel
theorem dX10_likely_2 : decode cX10_likely 2 = .ok (.iload_n 2, 1) := by decide +kernel
theorem dX10_likely_3 : decode cX10_likely 3 = .ok (.invokevirtual 156, 3) := by decide +kernel
theorem dX10_likely_6 : decode cX10_likely 6 = .ok (.ifCond .eq 22, 3) := by decide +kernel
theorem dX10_likely_28 : decode cX10_likely 28 = .ok (.ldc2_w 159, 3) := by decide +kernel
theorem dX10_likely_31 : decode cX10_likely 31 = .ok (.lreturn, 1) := by decide +kernel
theorem dX10_looks_0 : decode cX10_looks 0 = .ok (.aload_n 0, 1) := by decide +kernel
theorem dX10_looks_1 : decode cX10_looks 1 = .ok (.iload_n 1, 1) := by decide +kernel
theorem dX10_looks_2 : decode cX10_looks 2 = .ok (.iload_n 2, 1) := by decide +kernel
theorem dX10_looks_3 : decode cX10_looks 3 = .ok (.invokevirtual 114, 3) := by decide +kernel
theorem dX10_looks_6 : decode cX10_looks 6 = .ok (.ifCond .ne 5, 3) := by decide +kernel
theorem dX10_looks_9 : decode cX10_looks 9 = .ok (.iconst 0, 1) := by decide +kernel
theorem dX10_looks_10 : decode cX10_looks 10 = .ok (.ireturn, 1) := by decide +kernel
theorem dX10_low_0 : decode cX10_low 0 = .ok (.aload_n 0, 1) := by decide +kernel
theorem dX10_low_1 : decode cX10_low 1 = .ok (.iload_n 1, 1) := by decide +kernel
theorem dX10_low_2 : decode cX10_low 2 = .ok (.iload_n 2, 1) := by decide +kernel
theorem dX10_low_3 : decode cX10_low 3 = .ok (.iload_n 3, 1) := by decide +kernel
theorem dX10_low_4 : decode cX10_low 4 = .ok (.invokevirtual 236, 3) := by decide +kernel
theorem dX10_low_7 : decode cX10_low 7 = .ok (.ifCond .eq 21, 3) := by decide +kernel
theorem dX10_low_28 : decode cX10_low 28 = .ok (.iconst (-1), 1) := by decide +kernel
theorem dX10_low_29 : decode cX10_low 29 = .ok (.ireturn, 1) := by decide +kernel
theorem dX10_may_0 : decode cX10_may 0 = .ok (.aload_n 0, 1) := by decide +kernel
theorem dX10_may_1 : decode cX10_may 1 = .ok (.iload_n 1, 1) := by decide +kernel
theorem dX10_may_2 : decode cX10_may 2 = .ok (.iload_n 2, 1) := by decide +kernel
theorem dX10_may_3 : decode cX10_may 3 = .ok (.iload_n 3, 1) := by decide +kernel
theorem dX10_may_4 : decode cX10_may 4 = .ok (.invokevirtual 259, 3) := by decide +kernel
theorem dX10_may_7 : decode cX10_may 7 = .ok (.ifCond .ne 7, 3) := by decide +kernel
theorem dX10_may_10 : decode cX10_may 10 = .ok (.ldc2_w 159, 3) := by decide +kernel
theorem dX10_may_13 : decode cX10_may 13 = .ok (.lreturn, 1) := by decide +kernel
theorem dX10_mean_0 : decode cX10_mean 0 = .ok (.aload_n 0, 1) := by decide +kernel
theorem dX10_mean_1 : decode cX10_mean 1 = .ok (.iload_n 1, 1) := by decide +kernel
theorem dX10_mean_2 : decode cX10_mean 2 = .ok (.iload_n 2, 1) := by decide +kernel
theorem dX10_mean_3 : decode cX10_mean 3 = .ok (.invokevirtual 156, 3) := by decide +kernel
theorem dX10_mean_6 : decode cX10_mean 6 = .ok (.ifCond .eq 15, 3) := by decide +kernel
theorem dX10_mean_21 : decode cX10_mean 21 = .ok (.ldc2_w 159, 3) := by decide +kernel
theorem dX10_mean_24 : decode cX10_mean 24 = .ok (.lreturn, 1) := by decide +kernel
theorem dX10_mended_0 : decode cX10_mended 0 = .ok (.aload_n 0, 1) := by decide +kernel
theorem dX10_mended_1 : decode cX10_mended 1 = .ok (.iload_n 1, 1) := by decide +kernel
theorem dX10_mended_2 : decode cX10_mended 2 = .ok (.iload_n 2, 1) := by decide +kernel
theorem dX10_mended_3 : decode cX10_mended 3 = .ok (.invokevirtual 156, 3) := by decide +kernel
theorem dX10_mended_6 : decode cX10_mended 6 = .ok (.ifCond .eq 17, 3) := by decide +kernel
theorem dX10_mended_23 : decode cX10_mended 23 = .ok (.ldc2_w 159, 3) := by decide +kernel
theorem dX10_mended_26 : decode cX10_mended 26 = .ok (.lreturn, 1) := by decide +kernel
theorem dX10_now_0 : decode cX10_now 0 = .ok (.aload_n 0, 1) := by decide +kernel
theorem dX10_now_1 : decode cX10_now 1 = .ok (.iload_n 1, 1) := by decide +kernel
theorem dX10_now_2 : decode cX10_now 2 = .ok (.iload_n 2, 1) := by decide +kernel
theorem dX10_now_3 : decode cX10_now 3 = .ok (.invokevirtual 114, 3) := by decide +kernel
theorem dX10_now_6 : decode cX10_now 6 = .ok (.ifCond .eq 20, 3) := by decide +kernel
theorem dX10_now_26 : decode cX10_now 26 = .ok (.iconst (-1), 1) := by decide +kernel
theorem dX10_now_27 : decode cX10_now 27 = .ok (.ireturn, 1) := by decide +kernel
theorem dX10_one_0 : decode cX10_one 0 = .ok (.aload_n 0, 1) := by decide +kernel
theorem dX10_one_1 : decode cX10_one 1 = .ok (.iload_n 1, 1) := by decide +kernel
theorem dX10_one_2 : decode cX10_one 2 = .ok (.iload_n 2, 1) := by decide +kernel
theorem dX10_one_3 : decode cX10_one 3 = .ok (.invokevirtual 114, 3) := by decide +kernel
theorem dX10_one_6 : decode cX10_one 6 = .ok (.ifCond .eq 16, 3) := by decide +kernel
theorem dX10_one_22 : decode cX10_one 22 = .ok (.ldc2_w 159, 3) := by decide +kernel
theorem dX10_one_25 : decode cX10_one 25 = .ok (.lreturn, 1) := by decide +kernel
theorem dX10_order_0 : decode cX10_order 0 = .ok (.aload_n 0, 1) := by decide +kernel
theorem dX10_order_1 : decode cX10_order 1 = .ok (.iload_n 1, 1) := by decide +kernel
theorem dX10_order_2 : decode cX10_order 2 = .ok (.iload_n 2, 1) := by decide +kernel
theorem dX10_order_3 : decode cX10_order 3 = .ok (.iload_n 3, 1) := by decide +kernel
theorem dX10_order_4 : decode cX10_order 4 = .ok (.invokevirtual 259, 3) := by decide +kernel
theorem dX10_order_7 : decode cX10_order 7 = .ok (.ifCond .eq 17, 3) := by decide +kernel
theorem dX10_order_24 : decode cX10_order 24 = .ok (.iconst (-1), 1) := by decide +kernel
theorem dX10_order_25 : decode cX10_order 25 = .ok (.ireturn, 1) := by decide +kernel
theorem dX10_plan_0 : decode cX10_plan 0 = .ok (.aload_n 0, 1) := by decide +kernel
theorem dX10_plan_1 : decode cX10_plan 1 = .ok (.iload_n 1, 1) := by decide +kernel
theorem dX10_plan_2 : decode cX10_plan 2 = .ok (.iload_n 2, 1) := by decide +kernel
theorem dX10_plan_3 : decode cX10_plan 3 = .ok (.invokevirtual 114, 3) := by decide +kernel
theorem dX10_plan_6 : decode cX10_plan 6 = .ok (.ifCond .ne 5, 3) := by decide +kernel
theorem dX10_plan_9 : decode cX10_plan 9 = .ok (.iconst (-1), 1) := by decide +kernel
theorem dX10_plan_10 : decode cX10_plan 10 = .ok (.ireturn, 1) := by decide +kernel
theorem dX10_pond_0 : decode cX10_pond 0 = .ok (.aload_n 0, 1) := by decide +kernel
theorem dX10_pond_1 : decode cX10_pond 1 = .ok (.iload_n 1, 1) := by decide +kernel
theorem dX10_pond_2 : decode cX10_pond 2 = .ok (.iload_n 2, 1) := by decide +kernel
theorem dX10_pond_3 : decode cX10_pond 3 = .ok (.invokevirtual 114, 3) := by decide +kernel
theorem dX10_pond_6 : decode cX10_pond 6 = .ok (.ifCond .eq 29, 3) := by decide +kernel
theorem dX10_pond_35 : decode cX10_pond 35 = .ok (.bipush (-2), 2) := by decide +kernel
theorem dX10_pond_37 : decode cX10_pond 37 = .ok (.ireturn, 1) := by decide +kernel
theorem dX10_rows_0 : decode cX10_rows 0 = .ok (.aload_n 0, 1) := by decide +kernel
theorem dX10_rows_1 : decode cX10_rows 1 = .ok (.iload_n 1, 1) := by decide +kernel
theorem dX10_rows_2 : decode cX10_rows 2 = .ok (.iload_n 2, 1) := by decide +kernel
theorem dX10_rows_3 : decode cX10_rows 3 = .ok (.invokevirtual 156, 3) := by decide +kernel
theorem dX10_rows_6 : decode cX10_rows 6 = .ok (.ifCond .ne 7, 3) := by decide +kernel
theorem dX10_rows_9 : decode cX10_rows 9 = .ok (.ldc2_w 159, 3) := by decide +kernel
theorem dX10_rows_12 : decode cX10_rows 12 = .ok (.lreturn, 1) := by decide +kernel
theorem dX10_runs_0 : decode cX10_runs 0 = .ok (.aload_n 0, 1) := by decide +kernel
theorem dX10_runs_1 : decode cX10_runs 1 = .ok (.iload_n 1, 1) := by decide +kernel
theorem dX10_runs_2 : decode cX10_runs 2 = .ok (.iload_n 2, 1) := by decide +kernel
theorem dX10_runs_3 : decode cX10_runs 3 = .ok (.iload_n 3, 1) := by decide +kernel
theorem dX10_runs_4 : decode cX10_runs 4 = .ok (.invokevirtual 236, 3) := by decide +kernel
theorem dX10_runs_7 : decode cX10_runs 7 = .ok (.ifCond .ne 5, 3) := by decide +kernel
theorem dX10_runs_10 : decode cX10_runs 10 = .ok (.iconst (-1), 1) := by decide +kernel
theorem dX10_runs_11 : decode cX10_runs 11 = .ok (.ireturn, 1) := by decide +kernel
theorem dX10_safe_0 : decode cX10_safe 0 = .ok (.aload_n 0, 1) := by decide +kernel
theorem dX10_safe_1 : decode cX10_safe 1 = .ok (.iload_n 1, 1) := by decide +kernel
theorem dX10_safe_2 : decode cX10_safe 2 = .ok (.iload_n 2, 1) := by decide +kernel
theorem dX10_safe_3 : decode cX10_safe 3 = .ok (.invokevirtual 114, 3) := by decide +kernel
theorem dX10_safe_6 : decode cX10_safe 6 = .ok (.ifCond .ne 5, 3) := by decide +kernel
theorem dX10_safe_9 : decode cX10_safe 9 = .ok (.iconst (-1), 1) := by decide +kernel
theorem dX10_safe_10 : decode cX10_safe 10 = .ok (.ireturn, 1) := by decide +kernel
theorem dX10_spared_0 : decode cX10_spared 0 = .ok (.aload_n 0, 1) := by decide +kernel
theorem dX10_spared_1 : decode cX10_spared 1 = .ok (.iload_n 1, 1) := by decide +kernel
theorem dX10_spared_2 : decode cX10_spared 2 = .ok (.iload_n 2, 1) := by decide +kernel
theorem dX10_spared_3 : decode cX10_spared 3 = .ok (.invokevirtual 114, 3) := by decide +kernel
theorem dX10_spared_6 : decode cX10_spared 6 = .ok (.ifCond .eq 17, 3) := by decide +kernel
theorem dX10_spared_23 : decode cX10_spared 23 = .ok (.iconst (-1), 1) := by decide +kernel
theorem dX10_spared_24 : decode cX10_spared 24 = .ok (.ireturn, 1) := by decide +kernel
theorem dX10_spend_0 : decode cX10_spend 0 = .ok (.aload_n 0, 1) := by decide +kernel
theorem dX10_spend_1 : decode cX10_spend 1 = .ok (.iload_n 1, 1) := by decide +kernel
theorem dX10_spend_2 : decode cX10_spend 2 = .ok (.iload_n 2, 1) := by decide +kernel
theorem dX10_spend_3 : decode cX10_spend 3 = .ok (.iload_n 3, 1) := by decide +kernel
theorem dX10_spend_4 : decode cX10_spend 4 = .ok (.iload 4, 2) := by decide +kernel
theorem dX10_spend_6 : decode cX10_spend 6 = .ok (.bipush 100, 2) := by decide +kernel
theorem dX10_spend_8 : decode cX10_spend 8 = .ok (.invokevirtual 204, 3) := by decide +kernel
theorem dX10_spend_11 : decode cX10_spend 11 = .ok (.ifCond .eq 23, 3) := by decide +kernel
theorem dX10_spend_34 : decode cX10_spend 34 = .ok (.iconst (-1), 1) := by decide +kernel
theorem dX10_spend_35 : decode cX10_spend 35 = .ok (.ireturn, 1) := by decide +kernel
theorem dX10_steps_0 : decode cX10_steps 0 = .ok (.aload_n 0, 1) := by decide +kernel
theorem dX10_steps_1 : decode cX10_steps 1 = .ok (.iload_n 1, 1) := by decide +kernel
theorem dX10_steps_2 : decode cX10_steps 2 = .ok (.iload_n 2, 1) := by decide +kernel
theorem dX10_steps_3 : decode cX10_steps 3 = .ok (.iload_n 3, 1) := by decide +kernel
theorem dX10_steps_4 : decode cX10_steps 4 = .ok (.iload 4, 2) := by decide +kernel
theorem dX10_steps_6 : decode cX10_steps 6 = .ok (.sipush 9999, 3) := by decide +kernel
theorem dX10_steps_9 : decode cX10_steps 9 = .ok (.invokevirtual 204, 3) := by decide +kernel
theorem dX10_steps_12 : decode cX10_steps 12 = .ok (.ifCond .eq 23, 3) := by decide +kernel
theorem dX10_steps_35 : decode cX10_steps 35 = .ok (.iconst (-1), 1) := by decide +kernel
theorem dX10_steps_36 : decode cX10_steps 36 = .ok (.ireturn, 1) := by decide +kernel
theorem dX10_storm_0 : decode cX10_storm 0 = .ok (.aload_n 0, 1) := by decide +kernel
theorem dX10_storm_1 : decode cX10_storm 1 = .ok (.iload_n 1, 1) := by decide +kernel
theorem dX10_storm_2 : decode cX10_storm 2 = .ok (.iload_n 2, 1) := by decide +kernel
theorem dX10_storm_3 : decode cX10_storm 3 = .ok (.invokevirtual 114, 3) := by decide +kernel
theorem dX10_storm_6 : decode cX10_storm 6 = .ok (.ifCond .eq 19, 3) := by decide +kernel
theorem dX10_storm_25 : decode cX10_storm 25 = .ok (.iconst (-1), 1) := by decide +kernel
theorem dX10_storm_26 : decode cX10_storm 26 = .ok (.ireturn, 1) := by decide +kernel
theorem dX10_think_0 : decode cX10_think 0 = .ok (.aload_n 0, 1) := by decide +kernel
theorem dX10_think_1 : decode cX10_think 1 = .ok (.iload_n 1, 1) := by decide +kernel
theorem dX10_think_2 : decode cX10_think 2 = .ok (.iload_n 2, 1) := by decide +kernel
theorem dX10_think_3 : decode cX10_think 3 = .ok (.iload_n 3, 1) := by decide +kernel
theorem dX10_think_4 : decode cX10_think 4 = .ok (.invokevirtual 236, 3) := by decide +kernel
theorem dX10_think_7 : decode cX10_think 7 = .ok (.ifCond .ne 5, 3) := by decide +kernel
theorem dX10_think_10 : decode cX10_think 10 = .ok (.iconst (-1), 1) := by decide +kernel
theorem dX10_think_11 : decode cX10_think 11 = .ok (.ireturn, 1) := by decide +kernel
theorem dX10_twice_0 : decode cX10_twice 0 = .ok (.aload_n 0, 1) := by decide +kernel
theorem dX10_twice_1 : decode cX10_twice 1 = .ok (.iload_n 1, 1) := by decide +kernel
theorem dX10_twice_2 : decode cX10_twice 2 = .ok (.iload_n 2, 1) := by decide +kernel
theorem dX10_twice_3 : decode cX10_twice 3 = .ok (.invokevirtual 114, 3) := by decide +kernel
theorem dX10_twice_6 : decode cX10_twice 6 = .ok (.ifCond .eq 36, 3) := by decide +kernel
theorem dX10_twice_42 : decode cX10_twice 42 = .ok (.iconst (-1), 1) := by decide +kernel
theorem dX10_twice_43 : decode cX10_twice 43 = .ok (.ireturn, 1) := by decide +kernel
theorem dX10_upon_0 : decode cX10_upon 0 = .ok (.aload_n 0, 1) := by decide +kernel
theorem dX10_upon_1 : decode cX10_upon 1 = .ok (.iload_n 1, 1) := by decide +kernel
theorem dX10_upon_2 : decode cX10_upon 2 = .ok (.iload_n 2, 1) := by decide +kernel
theorem dX10_upon_3 : decode cX10_upon 3 = .ok (.iload_n 3, 1) := by decide +kernel
theorem dX10_upon_4 : decode cX10_upon 4 = .ok (.invokevirtual 236, 3) := by decide +kernel
theorem dX10_upon_7 : decode cX10_upon 7 = .ok (.ifCond .ne 5, 3) := by decide +kernel
theorem dX10_upon_10 : decode cX10_upon 10 = .ok (.iconst (-1), 1) := by decide +kernel
theorem dX10_upon_11 : decode cX10_upon 11 = .ok (.ireturn, 1) := by decide +kernel
theorem dX10_weighs_0 : decode cX10_weighs 0 = .ok (.aload_n 0, 1) := by decide +kernel
theorem dX10_weighs_1 : decode cX10_weighs 1 = .ok (.iload_n 1, 1) := by decide +kernel
theorem dX10_weighs_2 : decode cX10_weighs 2 = .ok (.iload_n 2, 1) := by decide +kernel
theorem dX10_weighs_3 : decode cX10_weighs 3 = .ok (.invokevirtual 114, 3) := by decide +kernel
theorem dX10_weighs_6 : decode cX10_weighs 6 = .ok (.ifCond .eq 20, 3) := by decide +kernel
theorem dX10_weighs_26 : decode cX10_weighs 26 = .ok (.iconst (-1), 1) := by decide +kernel
theorem dX10_weighs_27 : decode cX10_weighs 27 = .ok (.ireturn, 1) := by decide +kernel
theorem dX10_work_0 : decode cX10_work 0 = .ok (.aload_n 0, 1) := by decide +kernel
theorem dX10_work_1 : decode cX10_work 1 = .ok (.getfield 10, 3) := by decide +kernel
theorem dX10_work_4 : decode cX10_work 4 = .ok (.iload_n 1, 1) := by decide +kernel
theorem dX10_work_5 : decode cX10_work 5 = .ok (.invokevirtual 127, 3) := by decide +kernel
theorem dX10_work_8 : decode cX10_work 8 = .ok (.ifCond .eq 20, 3) := by decide +kernel
theorem dX10_work_28 : decode cX10_work 28 = .ok (.bipush (-2), 2) := by decide +kernel
theorem dX10_work_30 : decode cX10_work 30 = .ok (.ireturn, 1) := by decide +kernel
theorem dX10_worst_0 : decode cX10_worst 0 = .ok (.aload_n 0, 1) := by decide +kernel
theorem dX10_worst_1 : decode cX10_worst 1 = .ok (.iload_n 1, 1) := by decide +kernel
theorem dX10_worst_2 : decode cX10_worst 2 = .ok (.iload_n 2, 1) := by decide +kernel
theorem dX10_worst_3 : decode cX10_worst 3 = .ok (.invokevirtual 156, 3) := by decide +kernel
theorem dX10_worst_6 : decode cX10_worst 6 = .ok (.ifCond .eq 14, 3) := by decide +kernel
theorem dX10_worst_20 : decode cX10_worst 20 = .ok (.ldc2_w 159, 3) := by decide +kernel
theorem dX10_worst_23 : decode cX10_worst 23 = .ok (.lreturn, 1) := by decide +kernel
theorem dX10_years_0 : decode cX10_years 0 = .ok (.aload_n 0, 1) := by decide +kernel
theorem dX10_years_1 : decode cX10_years 1 = .ok (.iload_n 1, 1) := by decide +kernel
theorem dX10_years_2 : decode cX10_years 2 = .ok (.iload_n 2, 1) := by decide +kernel
theorem dX10_years_3 : decode cX10_years 3 = .ok (.invokevirtual 114, 3) := by decide +kernel
theorem dX10_years_6 : decode cX10_years 6 = .ok (.ifCond .eq 16, 3) := by decide +kernel
theorem dX10_years_22 : decode cX10_years 22 = .ok (.ldc2_w 159, 3) := by decide +kernel
theorem dX10_years_25 : decode cX10_years 25 = .ok (.lreturn, 1) := by decide +kernel
theorem dX7_hasHill_0 : decode cX7_hasHill 0 = .ok (.iload_n 1, 1) := by decide +kernel
theorem dX7_hasHill_1 : decode cX7_hasHill 1 = .ok (.ifCond .lt 15, 3) := by decide +kernel
theorem dX7_hasHill_4 : decode cX7_hasHill 4 = .ok (.iload_n 1, 1) := by decide +kernel
theorem dX7_hasHill_5 : decode cX7_hasHill 5 = .ok (.aload_n 0, 1) := by decide +kernel
theorem dX7_hasHill_6 : decode cX7_hasHill 6 = .ok (.getfield 31, 3) := by decide +kernel
theorem dX7_hasHill_9 : decode cX7_hasHill 9 = .ok (.if_icmp .ge 7, 3) := by decide +kernel
theorem dX7_hasHill_16 : decode cX7_hasHill 16 = .ok (.iconst 0, 1) := by decide +kernel
theorem dX7_hasHill_17 : decode cX7_hasHill 17 = .ok (.ireturn, 1) := by decide +kernel
theorem dX7_hasPlan_0 : decode cX7_hasPlan 0 = .ok (.iload_n 1, 1) := by decide +kernel
theorem dX7_hasPlan_1 : decode cX7_hasPlan 1 = .ok (.ifCond .lt 15, 3) := by decide +kernel
theorem dX7_hasPlan_4 : decode cX7_hasPlan 4 = .ok (.iload_n 1, 1) := by decide +kernel
theorem dX7_hasPlan_5 : decode cX7_hasPlan 5 = .ok (.aload_n 0, 1) := by decide +kernel
theorem dX7_hasPlan_6 : decode cX7_hasPlan 6 = .ok (.getfield 40, 3) := by decide +kernel
theorem dX7_hasPlan_9 : decode cX7_hasPlan 9 = .ok (.if_icmp .ge 7, 3) := by decide +kernel
theorem dX7_hasPlan_16 : decode cX7_hasPlan 16 = .ok (.iconst 0, 1) := by decide +kernel
theorem dX7_hasPlan_17 : decode cX7_hasPlan 17 = .ok (.ireturn, 1) := by decide +kernel
set_option maxHeartbeats 4000000 in
set_option maxRecDepth 100000 in
theorem c_X7_hasHill0 {d : Nat} {h : List MC} {i : Int32} (hd : 0 ≤ d) (h1 : h[1]? = some (.inr (7, [.ref 2, .int 0, .int 0, .int (-1), .ref 3, .int 0, .ref 4, .int 0])))  : CT con0 d 0 0 yX7_hasHill cX7_hasHill 2 (some .boolean) [.ref 1, .int i] h (fun r h2 => r = some (.int 0) ∧ h2 = h) := by
  refine CT_of (by decide) (Nat.le_of_ble_eq_true rfl) (fun x hq => ?_)
  show J x yX7_hasHill cX7_hasHill 2 (some .boolean) d 0 0 h.length 0 [(0, .ref 1), (1, .int i)] [] h 0 0
  refine J_iload_n (i := 1) (j := 1) dX7_hasHill_0 rfl rfl ?_
  refine J_if_lt (tgt := 16) dX7_hasHill_1 (by decide) (fun c1 => ?_) (fun c1 => ?_)
  · refine J_iconst (v := 0) dX7_hasHill_16 (by decide) ?_
    exact J_zret hq dX7_hasHill_17 rfl rfl (hkz rfl) (Nat.le_refl _) (Nat.le_refl _) ⟨rfl, rfl⟩
  · refine J_iload_n (i := 1) (j := 1) dX7_hasHill_4 rfl rfl ?_
    refine J_aload_n (i := 0) (j := 0) dX7_hasHill_5 rfl rfl ?_
    refine J_get (C := RX7) (T := TX7) (Z := 8) (ci := 7) (f := 5) dX7_hasHill_6 inG7 rfl (by decide) k196 h1 rfl ?_
    refine J_icmp_ge (tgt := 16) dX7_hasHill_9 (by decide) (fun c2 => ?_) (fun c2 => ?_)
    · refine J_iconst (v := 0) dX7_hasHill_16 (by decide) ?_
      exact J_zret hq dX7_hasHill_17 rfl rfl (hkz rfl) (Nat.le_refl _) (Nat.le_refl _) ⟨rfl, rfl⟩
    · exact absurd (i_nlt c1) c2
set_option maxHeartbeats 4000000 in
set_option maxRecDepth 100000 in
theorem c_X7_hasPlan0 {d : Nat} {h : List MC} {i : Int32} (hd : 0 ≤ d) (h1 : h[1]? = some (.inr (7, [.ref 2, .int 0, .int 0, .int (-1), .ref 3, .int 0, .ref 4, .int 0])))  : CT con0 d 0 0 yX7_hasPlan cX7_hasPlan 2 (some .boolean) [.ref 1, .int i] h (fun r h2 => r = some (.int 0) ∧ h2 = h) := by
  refine CT_of (by decide) (Nat.le_of_ble_eq_true rfl) (fun x hq => ?_)
  show J x yX7_hasPlan cX7_hasPlan 2 (some .boolean) d 0 0 h.length 0 [(0, .ref 1), (1, .int i)] [] h 0 0
  refine J_iload_n (i := 1) (j := 1) dX7_hasPlan_0 rfl rfl ?_
  refine J_if_lt (tgt := 16) dX7_hasPlan_1 (by decide) (fun c1 => ?_) (fun c1 => ?_)
  · refine J_iconst (v := 0) dX7_hasPlan_16 (by decide) ?_
    exact J_zret hq dX7_hasPlan_17 rfl rfl (hkz rfl) (Nat.le_refl _) (Nat.le_refl _) ⟨rfl, rfl⟩
  · refine J_iload_n (i := 1) (j := 1) dX7_hasPlan_4 rfl rfl ?_
    refine J_aload_n (i := 0) (j := 0) dX7_hasPlan_5 rfl rfl ?_
    refine J_get (C := RX7) (T := TX7) (Z := 8) (ci := 7) (f := 7) dX7_hasPlan_6 inG7 rfl (by decide) k200 h1 rfl ?_
    refine J_icmp_ge (tgt := 16) dX7_hasPlan_9 (by decide) (fun c2 => ?_) (fun c2 => ?_)
    · refine J_iconst (v := 0) dX7_hasPlan_16 (by decide) ?_
      exact J_zret hq dX7_hasPlan_17 rfl rfl (hkz rfl) (Nat.le_refl _) (Nat.le_refl _) ⟨rfl, rfl⟩
    · exact absurd (i_nlt c1) c2
set_option maxHeartbeats 4000000 in
set_option maxRecDepth 100000 in
theorem c_X10_lays0 {d : Nat} {h : List MC} {i j : Int32} (hd : 1 ≤ d) (h0 : h[0]? = some (.inr (10, [.ref 1, .ref 27, .ref 28, .ref 29, .ref 43, .ref 49, .ref 53, .ref 56, .ref 57, .ref 79]))) (h1 : h[1]? = some (.inr (7, [.ref 2, .int 0, .int 0, .int (-1), .ref 3, .int 0, .ref 4, .int 0])))  : CT con0 d 0 0 yX10_lays cX10_lays 3 (some .boolean) [.ref 0, .int i, .int j] h (fun r h2 => r = some (.int 0) ∧ h2 = h) := by
  refine CT_of (by decide) (Nat.le_of_ble_eq_true rfl) (fun x hq => ?_)
  show J x yX10_lays cX10_lays 3 (some .boolean) d 0 0 h.length 0 [(0, .ref 0), (1, .int i), (2, .int j)] [] h 0 0
  refine J_aload_n (i := 0) (j := 0) dX10_lays_0 rfl rfl ?_
  refine J_get (C := RX10) (T := TX10) (Z := 10) (ci := 10) (f := 0) dX10_lays_1 inG10 rfl (by decide) k423 h0 rfl ?_
  refine J_iload_n (i := 1) (j := 1) dX10_lays_4 rfl rfl ?_
  refine J_callV (As := [.int i]) (rest := []) dX10_lays_5 (c_X7_hasHill0 (d := 0) (h := h)  (by decide) h1 ) hq.n k703 k704 k705 h1 rfl rfl k88 k706 np_X7_hasHill (Nat.le_trans (by decide) hd) (by decide) (Nat.le_refl _) (Nat.le_refl _) (hkz rfl) rfl (Nat.le_of_ble_eq_true rfl) (fun r1 h2 p3 => ?_)
  obtain ⟨rfl, w4⟩ := p3
  refine J_w w4 ?_
  refine J_if_eq (tgt := 27) dX10_lays_8 (by decide) (fun _ => ?_) (fun q => absurd (by decide) q)
  refine J_iconst (v := 0) dX10_lays_27 (by decide) ?_
  exact J_zret hq dX10_lays_28 rfl rfl (hkz rfl) (Nat.le_refl _) (Nat.le_refl _) ⟨rfl, rfl⟩
set_option maxHeartbeats 4000000 in
set_option maxRecDepth 100000 in
theorem c_X10_looks0 {d : Nat} {h : List MC} {a0 a1 : Int32} (hd : 2 ≤ d) (h0 : h[0]? = some (.inr (10, [.ref 1, .ref 27, .ref 28, .ref 29, .ref 43, .ref 49, .ref 53, .ref 56, .ref 57, .ref 79]))) (h1 : h[1]? = some (.inr (7, [.ref 2, .int 0, .int 0, .int (-1), .ref 3, .int 0, .ref 4, .int 0])))  : CT con0 d 0 0 yX10_looks cX10_looks 3 (some .boolean) [.ref 0, .int a0, .int a1] h (fun r h2 => r = some (.int 0) ∧ h2 = h) := by
  refine CT_of (by decide) (Nat.le_of_ble_eq_true rfl) (fun x hq => ?_)
  show J x yX10_looks cX10_looks 3 (some .boolean) d 0 0 h.length 0 [(0, .ref 0), (1, .int a0), (2, .int a1)] [] h 0 0
  refine J_aload_n (i := 0) (j := 0) dX10_looks_0 rfl rfl ?_
  refine J_iload_n (i := 1) (j := 1) dX10_looks_1 rfl rfl ?_
  refine J_iload_n (i := 2) (j := 2) dX10_looks_2 rfl rfl ?_
  refine J_callV (As := [.int a0, .int a1]) (rest := []) dX10_looks_3 (c_X10_lays0 (d := 1) (h := h)  (by decide) h0 h1 ) hq.n k723 k725 k12 h0 rfl rfl k87 k726 np_X10_lays (Nat.le_trans (by decide) hd) (by decide) (Nat.le_refl _) (Nat.le_refl _) (hkz rfl) rfl (Nat.le_of_ble_eq_true rfl) (fun r1 h2 p3 => ?_)
  obtain ⟨rfl, w4⟩ := p3
  refine J_w w4 ?_
  refine J_if_ne (tgt := 11) dX10_looks_6 (by decide) (fun q => absurd (by decide) q) (fun _ => ?_)
  refine J_iconst (v := 0) dX10_looks_9 (by decide) ?_
  exact J_zret hq dX10_looks_10 rfl rfl (hkz rfl) (Nat.le_refl _) (Nat.le_refl _) ⟨rfl, rfl⟩
set_option maxHeartbeats 4000000 in
set_option maxRecDepth 100000 in
theorem c_X10_hasPond0 {d : Nat} {h : List MC} {a0 a1 a2 : Int32} (hd : 2 ≤ d) (h0 : h[0]? = some (.inr (10, [.ref 1, .ref 27, .ref 28, .ref 29, .ref 43, .ref 49, .ref 53, .ref 56, .ref 57, .ref 79]))) (h1 : h[1]? = some (.inr (7, [.ref 2, .int 0, .int 0, .int (-1), .ref 3, .int 0, .ref 4, .int 0])))  : CT con0 d 0 0 yX10_hasPond cX10_hasPond 4 (some .boolean) [.ref 0, .int a0, .int a1, .int a2] h (fun r h2 => r = some (.int 0) ∧ h2 = h) := by
  refine CT_of (by decide) (Nat.le_of_ble_eq_true rfl) (fun x hq => ?_)
  show J x yX10_hasPond cX10_hasPond 4 (some .boolean) d 0 0 h.length 0 [(0, .ref 0), (1, .int a0), (2, .int a1), (3, .int a2)] [] h 0 0
  refine J_aload_n (i := 0) (j := 0) dX10_hasPond_0 rfl rfl ?_
  refine J_iload_n (i := 1) (j := 1) dX10_hasPond_1 rfl rfl ?_
  refine J_iload_n (i := 2) (j := 2) dX10_hasPond_2 rfl rfl ?_
  refine J_callV (As := [.int a0, .int a1]) (rest := []) dX10_hasPond_3 (c_X10_lays0 (d := 1) (h := h)  (by decide) h0 h1 ) hq.n k723 k725 k12 h0 rfl rfl k87 k726 np_X10_lays (Nat.le_trans (by decide) hd) (by decide) (Nat.le_refl _) (Nat.le_refl _) (hkz rfl) rfl (Nat.le_of_ble_eq_true rfl) (fun r1 h2 p3 => ?_)
  obtain ⟨rfl, w4⟩ := p3
  refine J_w w4 ?_
  refine J_if_eq (tgt := 27) dX10_hasPond_6 (by decide) (fun _ => ?_) (fun q => absurd (by decide) q)
  refine J_iconst (v := 0) dX10_hasPond_27 (by decide) ?_
  exact J_zret hq dX10_hasPond_28 rfl rfl (hkz rfl) (Nat.le_refl _) (Nat.le_refl _) ⟨rfl, rfl⟩
set_option maxHeartbeats 4000000 in
set_option maxRecDepth 100000 in
theorem c_X10_canMend0 {d : Nat} {h : List MC} {a0 a1 a2 a3 a4 : Int32} (hd : 2 ≤ d) (h0 : h[0]? = some (.inr (10, [.ref 1, .ref 27, .ref 28, .ref 29, .ref 43, .ref 49, .ref 53, .ref 56, .ref 57, .ref 79]))) (h1 : h[1]? = some (.inr (7, [.ref 2, .int 0, .int 0, .int (-1), .ref 3, .int 0, .ref 4, .int 0])))  : CT con0 d 0 0 yX10_canMend cX10_canMend 6 (some .boolean) [.ref 0, .int a0, .int a1, .int a2, .int a3, .int a4] h (fun r h2 => r = some (.int 0) ∧ h2 = h) := by
  refine CT_of (by decide) (Nat.le_of_ble_eq_true rfl) (fun x hq => ?_)
  show J x yX10_canMend cX10_canMend 6 (some .boolean) d 0 0 h.length 0 [(0, .ref 0), (1, .int a0), (2, .int a1), (3, .int a2), (4, .int a3), (5, .int a4)] [] h 0 0
  refine J_aload_n (i := 0) (j := 0) dX10_canMend_0 rfl rfl ?_
  refine J_iload_n (i := 1) (j := 1) dX10_canMend_1 rfl rfl ?_
  refine J_iload_n (i := 2) (j := 2) dX10_canMend_2 rfl rfl ?_
  refine J_callV (As := [.int a0, .int a1]) (rest := []) dX10_canMend_3 (c_X10_lays0 (d := 1) (h := h)  (by decide) h0 h1 ) hq.n k723 k725 k12 h0 rfl rfl k87 k726 np_X10_lays (Nat.le_trans (by decide) hd) (by decide) (Nat.le_refl _) (Nat.le_refl _) (hkz rfl) rfl (Nat.le_of_ble_eq_true rfl) (fun r1 h2 p3 => ?_)
  obtain ⟨rfl, w4⟩ := p3
  refine J_w w4 ?_
  refine J_if_eq (tgt := 47) dX10_canMend_6 (by decide) (fun _ => ?_) (fun q => absurd (by decide) q)
  refine J_iconst (v := 0) dX10_canMend_47 (by decide) ?_
  exact J_zret hq dX10_canMend_48 rfl rfl (hkz rfl) (Nat.le_refl _) (Nat.le_refl _) ⟨rfl, rfl⟩
set_option maxHeartbeats 4000000 in
set_option maxRecDepth 100000 in
theorem c_X10_canFill0 {d : Nat} {h : List MC} {a0 a1 a2 : Int32} (hd : 2 ≤ d) (h0 : h[0]? = some (.inr (10, [.ref 1, .ref 27, .ref 28, .ref 29, .ref 43, .ref 49, .ref 53, .ref 56, .ref 57, .ref 79]))) (h1 : h[1]? = some (.inr (7, [.ref 2, .int 0, .int 0, .int (-1), .ref 3, .int 0, .ref 4, .int 0])))  : CT con0 d 0 0 yX10_canFill cX10_canFill 4 (some .boolean) [.ref 0, .int a0, .int a1, .int a2] h (fun r h2 => r = some (.int 0) ∧ h2 = h) := by
  refine CT_of (by decide) (Nat.le_of_ble_eq_true rfl) (fun x hq => ?_)
  show J x yX10_canFill cX10_canFill 4 (some .boolean) d 0 0 h.length 0 [(0, .ref 0), (1, .int a0), (2, .int a1), (3, .int a2)] [] h 0 0
  refine J_aload_n (i := 0) (j := 0) dX10_canFill_0 rfl rfl ?_
  refine J_iload_n (i := 1) (j := 1) dX10_canFill_1 rfl rfl ?_
  refine J_iload_n (i := 2) (j := 2) dX10_canFill_2 rfl rfl ?_
  refine J_callV (As := [.int a0, .int a1]) (rest := []) dX10_canFill_3 (c_X10_lays0 (d := 1) (h := h)  (by decide) h0 h1 ) hq.n k723 k725 k12 h0 rfl rfl k87 k726 np_X10_lays (Nat.le_trans (by decide) hd) (by decide) (Nat.le_refl _) (Nat.le_refl _) (hkz rfl) rfl (Nat.le_of_ble_eq_true rfl) (fun r1 h2 p3 => ?_)
  obtain ⟨rfl, w4⟩ := p3
  refine J_w w4 ?_
  refine J_if_eq (tgt := 39) dX10_canFill_6 (by decide) (fun _ => ?_) (fun q => absurd (by decide) q)
  refine J_iconst (v := 0) dX10_canFill_39 (by decide) ?_
  exact J_zret hq dX10_canFill_40 rfl rfl (hkz rfl) (Nat.le_refl _) (Nat.le_refl _) ⟨rfl, rfl⟩
set_option maxHeartbeats 4000000 in
set_option maxRecDepth 100000 in
theorem c_X10_hill0 {d : Nat} {h : List MC} {a0 a1 : Int32} (hd : 3 ≤ d) (h0 : h[0]? = some (.inr (10, [.ref 1, .ref 27, .ref 28, .ref 29, .ref 43, .ref 49, .ref 53, .ref 56, .ref 57, .ref 79]))) (h1 : h[1]? = some (.inr (7, [.ref 2, .int 0, .int 0, .int (-1), .ref 3, .int 0, .ref 4, .int 0])))  : CT con0 d 0 0 yX10_hill cX10_hill 3 (some .int) [.ref 0, .int a0, .int a1] h (fun r h2 => r = some (.int (-1)) ∧ h2 = h) := by
  refine CT_of (by decide) (Nat.le_of_ble_eq_true rfl) (fun x hq => ?_)
  show J x yX10_hill cX10_hill 3 (some .int) d 0 0 h.length 0 [(0, .ref 0), (1, .int a0), (2, .int a1)] [] h 0 0
  refine J_aload_n (i := 0) (j := 0) dX10_hill_0 rfl rfl ?_
  refine J_get (C := RX10) (T := TX10) (Z := 10) (ci := 10) (f := 0) dX10_hill_1 inG10 rfl (by decide) k423 h0 rfl ?_
  refine J_iload_n (i := 1) (j := 1) dX10_hill_4 rfl rfl ?_
  refine J_callV (As := [.int a0]) (rest := []) dX10_hill_5 (c_X7_hasHill0 (d := 0) (h := h)  (by decide) h1 ) hq.n k703 k704 k705 h1 rfl rfl k88 k706 np_X7_hasHill (Nat.le_trans (by decide) hd) (by decide) (Nat.le_refl _) (Nat.le_refl _) (hkz rfl) rfl (Nat.le_of_ble_eq_true rfl) (fun r1 h2 p3 => ?_)
  obtain ⟨rfl, w4⟩ := p3
  refine J_w w4 ?_
  refine J_if_eq (tgt := 27) dX10_hill_8 (by decide) (fun _ => ?_) (fun q => absurd (by decide) q)
  refine J_iconst (v := (-1)) dX10_hill_27 (by decide) ?_
  exact J_iret hq dX10_hill_28 rfl (hkz rfl) (Nat.le_refl _) (Nat.le_refl _) ⟨rfl, rfl⟩
set_option maxHeartbeats 4000000 in
set_option maxRecDepth 100000 in
theorem c_X10_pond0 {d : Nat} {h : List MC} {a0 a1 a2 a3 : Int32} (hd : 3 ≤ d) (h0 : h[0]? = some (.inr (10, [.ref 1, .ref 27, .ref 28, .ref 29, .ref 43, .ref 49, .ref 53, .ref 56, .ref 57, .ref 79]))) (h1 : h[1]? = some (.inr (7, [.ref 2, .int 0, .int 0, .int (-1), .ref 3, .int 0, .ref 4, .int 0])))  : CT con0 d 0 0 yX10_pond cX10_pond 5 (some .int) [.ref 0, .int a0, .int a1, .int a2, .int a3] h (fun r h2 => r = some (.int (-2)) ∧ h2 = h) := by
  refine CT_of (by decide) (Nat.le_of_ble_eq_true rfl) (fun x hq => ?_)
  show J x yX10_pond cX10_pond 5 (some .int) d 0 0 h.length 0 [(0, .ref 0), (1, .int a0), (2, .int a1), (3, .int a2), (4, .int a3)] [] h 0 0
  refine J_aload_n (i := 0) (j := 0) dX10_pond_0 rfl rfl ?_
  refine J_iload_n (i := 1) (j := 1) dX10_pond_1 rfl rfl ?_
  refine J_iload_n (i := 2) (j := 2) dX10_pond_2 rfl rfl ?_
  refine J_callV (As := [.int a0, .int a1]) (rest := []) dX10_pond_3 (c_X10_lays0 (d := 1) (h := h)  (by decide) h0 h1 ) hq.n k723 k725 k12 h0 rfl rfl k87 k726 np_X10_lays (Nat.le_trans (by decide) hd) (by decide) (Nat.le_refl _) (Nat.le_refl _) (hkz rfl) rfl (Nat.le_of_ble_eq_true rfl) (fun r1 h2 p3 => ?_)
  obtain ⟨rfl, w4⟩ := p3
  refine J_w w4 ?_
  refine J_if_eq (tgt := 35) dX10_pond_6 (by decide) (fun _ => ?_) (fun q => absurd (by decide) q)
  refine J_bipush (v := (-2)) dX10_pond_35 (by decide) ?_
  exact J_iret hq dX10_pond_37 rfl (hkz rfl) (Nat.le_refl _) (Nat.le_refl _) ⟨rfl, rfl⟩
set_option maxHeartbeats 4000000 in
set_option maxRecDepth 100000 in
theorem c_X10_work0 {d : Nat} {h : List MC} {a0 a1 a2 : Int32} (hd : 3 ≤ d) (h0 : h[0]? = some (.inr (10, [.ref 1, .ref 27, .ref 28, .ref 29, .ref 43, .ref 49, .ref 53, .ref 56, .ref 57, .ref 79]))) (h1 : h[1]? = some (.inr (7, [.ref 2, .int 0, .int 0, .int (-1), .ref 3, .int 0, .ref 4, .int 0])))  : CT con0 d 0 0 yX10_work cX10_work 4 (some .int) [.ref 0, .int a0, .int a1, .int a2] h (fun r h2 => r = some (.int (-2)) ∧ h2 = h) := by
  refine CT_of (by decide) (Nat.le_of_ble_eq_true rfl) (fun x hq => ?_)
  show J x yX10_work cX10_work 4 (some .int) d 0 0 h.length 0 [(0, .ref 0), (1, .int a0), (2, .int a1), (3, .int a2)] [] h 0 0
  refine J_aload_n (i := 0) (j := 0) dX10_work_0 rfl rfl ?_
  refine J_get (C := RX10) (T := TX10) (Z := 10) (ci := 10) (f := 0) dX10_work_1 inG10 rfl (by decide) k423 h0 rfl ?_
  refine J_iload_n (i := 1) (j := 1) dX10_work_4 rfl rfl ?_
  refine J_callV (As := [.int a0]) (rest := []) dX10_work_5 (c_X7_hasPlan0 (d := 0) (h := h)  (by decide) h1 ) hq.n k727 k728 k729 h1 rfl rfl k88 k730 np_X7_hasPlan (Nat.le_trans (by decide) hd) (by decide) (Nat.le_refl _) (Nat.le_refl _) (hkz rfl) rfl (Nat.le_of_ble_eq_true rfl) (fun r1 h2 p3 => ?_)
  obtain ⟨rfl, w4⟩ := p3
  refine J_w w4 ?_
  refine J_if_eq (tgt := 28) dX10_work_8 (by decide) (fun _ => ?_) (fun q => absurd (by decide) q)
  refine J_bipush (v := (-2)) dX10_work_28 (by decide) ?_
  exact J_iret hq dX10_work_30 rfl (hkz rfl) (Nat.le_refl _) (Nat.le_refl _) ⟨rfl, rfl⟩
set_option maxHeartbeats 4000000 in
set_option maxRecDepth 100000 in
theorem c_X10_plan0 {d : Nat} {h : List MC} {a0 a1 a2 : Int32} (hd : 3 ≤ d) (h0 : h[0]? = some (.inr (10, [.ref 1, .ref 27, .ref 28, .ref 29, .ref 43, .ref 49, .ref 53, .ref 56, .ref 57, .ref 79]))) (h1 : h[1]? = some (.inr (7, [.ref 2, .int 0, .int 0, .int (-1), .ref 3, .int 0, .ref 4, .int 0])))  : CT con0 d 0 0 yX10_plan cX10_plan 4 (some .int) [.ref 0, .int a0, .int a1, .int a2] h (fun r h2 => r = some (.int (-1)) ∧ h2 = h) := by
  refine CT_of (by decide) (Nat.le_of_ble_eq_true rfl) (fun x hq => ?_)
  show J x yX10_plan cX10_plan 4 (some .int) d 0 0 h.length 0 [(0, .ref 0), (1, .int a0), (2, .int a1), (3, .int a2)] [] h 0 0
  refine J_aload_n (i := 0) (j := 0) dX10_plan_0 rfl rfl ?_
  refine J_iload_n (i := 1) (j := 1) dX10_plan_1 rfl rfl ?_
  refine J_iload_n (i := 2) (j := 2) dX10_plan_2 rfl rfl ?_
  refine J_callV (As := [.int a0, .int a1]) (rest := []) dX10_plan_3 (c_X10_lays0 (d := 1) (h := h)  (by decide) h0 h1 ) hq.n k723 k725 k12 h0 rfl rfl k87 k726 np_X10_lays (Nat.le_trans (by decide) hd) (by decide) (Nat.le_refl _) (Nat.le_refl _) (hkz rfl) rfl (Nat.le_of_ble_eq_true rfl) (fun r1 h2 p3 => ?_)
  obtain ⟨rfl, w4⟩ := p3
  refine J_w w4 ?_
  refine J_if_ne (tgt := 11) dX10_plan_6 (by decide) (fun q => absurd (by decide) q) (fun _ => ?_)
  refine J_iconst (v := (-1)) dX10_plan_9 (by decide) ?_
  exact J_iret hq dX10_plan_10 rfl (hkz rfl) (Nat.le_refl _) (Nat.le_refl _) ⟨rfl, rfl⟩
set_option maxHeartbeats 4000000 in
set_option maxRecDepth 100000 in
theorem c_X10_storm0 {d : Nat} {h : List MC} {a0 a1 a2 a3 a4 : Int32} (hd : 3 ≤ d) (h0 : h[0]? = some (.inr (10, [.ref 1, .ref 27, .ref 28, .ref 29, .ref 43, .ref 49, .ref 53, .ref 56, .ref 57, .ref 79]))) (h1 : h[1]? = some (.inr (7, [.ref 2, .int 0, .int 0, .int (-1), .ref 3, .int 0, .ref 4, .int 0])))  : CT con0 d 0 0 yX10_storm cX10_storm 6 (some .int) [.ref 0, .int a0, .int a1, .int a2, .int a3, .int a4] h (fun r h2 => r = some (.int (-1)) ∧ h2 = h) := by
  refine CT_of (by decide) (Nat.le_of_ble_eq_true rfl) (fun x hq => ?_)
  show J x yX10_storm cX10_storm 6 (some .int) d 0 0 h.length 0 [(0, .ref 0), (1, .int a0), (2, .int a1), (3, .int a2), (4, .int a3), (5, .int a4)] [] h 0 0
  refine J_aload_n (i := 0) (j := 0) dX10_storm_0 rfl rfl ?_
  refine J_iload_n (i := 1) (j := 1) dX10_storm_1 rfl rfl ?_
  refine J_iload_n (i := 2) (j := 2) dX10_storm_2 rfl rfl ?_
  refine J_callV (As := [.int a0, .int a1]) (rest := []) dX10_storm_3 (c_X10_lays0 (d := 1) (h := h)  (by decide) h0 h1 ) hq.n k723 k725 k12 h0 rfl rfl k87 k726 np_X10_lays (Nat.le_trans (by decide) hd) (by decide) (Nat.le_refl _) (Nat.le_refl _) (hkz rfl) rfl (Nat.le_of_ble_eq_true rfl) (fun r1 h2 p3 => ?_)
  obtain ⟨rfl, w4⟩ := p3
  refine J_w w4 ?_
  refine J_if_eq (tgt := 25) dX10_storm_6 (by decide) (fun _ => ?_) (fun q => absurd (by decide) q)
  refine J_iconst (v := (-1)) dX10_storm_25 (by decide) ?_
  exact J_iret hq dX10_storm_26 rfl (hkz rfl) (Nat.le_refl _) (Nat.le_refl _) ⟨rfl, rfl⟩
set_option maxHeartbeats 4000000 in
set_option maxRecDepth 100000 in
theorem c_X10_likely0 {d : Nat} {h : List MC} {a0 a1 a2 : Int32} (hd : 3 ≤ d) (h0 : h[0]? = some (.inr (10, [.ref 1, .ref 27, .ref 28, .ref 29, .ref 43, .ref 49, .ref 53, .ref 56, .ref 57, .ref 79]))) (h1 : h[1]? = some (.inr (7, [.ref 2, .int 0, .int 0, .int (-1), .ref 3, .int 0, .ref 4, .int 0])))  : CT con0 d 0 0 yX10_likely cX10_likely 4 (some .long) [.ref 0, .int a0, .int a1, .int a2] h (fun r h2 => r = some (.long (-1)) ∧ h2 = h) := by
  refine CT_of (by decide) (Nat.le_of_ble_eq_true rfl) (fun x hq => ?_)
  show J x yX10_likely cX10_likely 4 (some .long) d 0 0 h.length 0 [(0, .ref 0), (1, .int a0), (2, .int a1), (3, .int a2)] [] h 0 0
  refine J_aload_n (i := 0) (j := 0) dX10_likely_0 rfl rfl ?_
  refine J_iload_n (i := 1) (j := 1) dX10_likely_1 rfl rfl ?_
  refine J_iload_n (i := 2) (j := 2) dX10_likely_2 rfl rfl ?_
  refine J_callV (As := [.int a0, .int a1]) (rest := []) dX10_likely_3 (c_X10_looks0 (d := 2) (h := h)  (by decide) h0 h1 ) hq.n k852 k854 k23 h0 rfl rfl k87 k855 np_X10_looks (Nat.le_trans (by decide) hd) (by decide) (Nat.le_refl _) (Nat.le_refl _) (hkz rfl) rfl (Nat.le_of_ble_eq_true rfl) (fun r1 h2 p3 => ?_)
  obtain ⟨rfl, w4⟩ := p3
  refine J_w w4 ?_
  refine J_if_eq (tgt := 28) dX10_likely_6 (by decide) (fun _ => ?_) (fun q => absurd (by decide) q)
  refine J_ldc2 (v := (-1)) dX10_likely_28 k877 ?_
  exact J_lret hq dX10_likely_31 rfl (hkz rfl) (Nat.le_refl _) (Nat.le_refl _) ⟨rfl, rfl⟩
set_option maxHeartbeats 4000000 in
set_option maxRecDepth 100000 in
theorem c_X10_mean0 {d : Nat} {h : List MC} {a0 a1 a2 : Int32} (hd : 3 ≤ d) (h0 : h[0]? = some (.inr (10, [.ref 1, .ref 27, .ref 28, .ref 29, .ref 43, .ref 49, .ref 53, .ref 56, .ref 57, .ref 79]))) (h1 : h[1]? = some (.inr (7, [.ref 2, .int 0, .int 0, .int (-1), .ref 3, .int 0, .ref 4, .int 0])))  : CT con0 d 0 0 yX10_mean cX10_mean 4 (some .long) [.ref 0, .int a0, .int a1, .int a2] h (fun r h2 => r = some (.long (-1)) ∧ h2 = h) := by
  refine CT_of (by decide) (Nat.le_of_ble_eq_true rfl) (fun x hq => ?_)
  show J x yX10_mean cX10_mean 4 (some .long) d 0 0 h.length 0 [(0, .ref 0), (1, .int a0), (2, .int a1), (3, .int a2)] [] h 0 0
  refine J_aload_n (i := 0) (j := 0) dX10_mean_0 rfl rfl ?_
  refine J_iload_n (i := 1) (j := 1) dX10_mean_1 rfl rfl ?_
  refine J_iload_n (i := 2) (j := 2) dX10_mean_2 rfl rfl ?_
  refine J_callV (As := [.int a0, .int a1]) (rest := []) dX10_mean_3 (c_X10_looks0 (d := 2) (h := h)  (by decide) h0 h1 ) hq.n k852 k854 k23 h0 rfl rfl k87 k855 np_X10_looks (Nat.le_trans (by decide) hd) (by decide) (Nat.le_refl _) (Nat.le_refl _) (hkz rfl) rfl (Nat.le_of_ble_eq_true rfl) (fun r1 h2 p3 => ?_)
  obtain ⟨rfl, w4⟩ := p3
  refine J_w w4 ?_
  refine J_if_eq (tgt := 21) dX10_mean_6 (by decide) (fun _ => ?_) (fun q => absurd (by decide) q)
  refine J_ldc2 (v := (-1)) dX10_mean_21 k877 ?_
  exact J_lret hq dX10_mean_24 rfl (hkz rfl) (Nat.le_refl _) (Nat.le_refl _) ⟨rfl, rfl⟩
set_option maxHeartbeats 4000000 in
set_option maxRecDepth 100000 in
theorem c_X10_rows0 {d : Nat} {h : List MC} {a0 a1 a2 : Int32} (hd : 3 ≤ d) (h0 : h[0]? = some (.inr (10, [.ref 1, .ref 27, .ref 28, .ref 29, .ref 43, .ref 49, .ref 53, .ref 56, .ref 57, .ref 79]))) (h1 : h[1]? = some (.inr (7, [.ref 2, .int 0, .int 0, .int (-1), .ref 3, .int 0, .ref 4, .int 0])))  : CT con0 d 0 0 yX10_rows cX10_rows 5 (some .long) [.ref 0, .int a0, .int a1, .int a2] h (fun r h2 => r = some (.long (-1)) ∧ h2 = h) := by
  refine CT_of (by decide) (Nat.le_of_ble_eq_true rfl) (fun x hq => ?_)
  show J x yX10_rows cX10_rows 5 (some .long) d 0 0 h.length 0 [(0, .ref 0), (1, .int a0), (2, .int a1), (3, .int a2)] [] h 0 0
  refine J_aload_n (i := 0) (j := 0) dX10_rows_0 rfl rfl ?_
  refine J_iload_n (i := 1) (j := 1) dX10_rows_1 rfl rfl ?_
  refine J_iload_n (i := 2) (j := 2) dX10_rows_2 rfl rfl ?_
  refine J_callV (As := [.int a0, .int a1]) (rest := []) dX10_rows_3 (c_X10_looks0 (d := 2) (h := h)  (by decide) h0 h1 ) hq.n k852 k854 k23 h0 rfl rfl k87 k855 np_X10_looks (Nat.le_trans (by decide) hd) (by decide) (Nat.le_refl _) (Nat.le_refl _) (hkz rfl) rfl (Nat.le_of_ble_eq_true rfl) (fun r1 h2 p3 => ?_)
  obtain ⟨rfl, w4⟩ := p3
  refine J_w w4 ?_
  refine J_if_ne (tgt := 13) dX10_rows_6 (by decide) (fun q => absurd (by decide) q) (fun _ => ?_)
  refine J_ldc2 (v := (-1)) dX10_rows_9 k877 ?_
  exact J_lret hq dX10_rows_12 rfl (hkz rfl) (Nat.le_refl _) (Nat.le_refl _) ⟨rfl, rfl⟩
set_option maxHeartbeats 4000000 in
set_option maxRecDepth 100000 in
theorem c_X10_brings0 {d : Nat} {h : List MC} {a0 a1 a2 a3 : Int32} (hd : 3 ≤ d) (h0 : h[0]? = some (.inr (10, [.ref 1, .ref 27, .ref 28, .ref 29, .ref 43, .ref 49, .ref 53, .ref 56, .ref 57, .ref 79]))) (h1 : h[1]? = some (.inr (7, [.ref 2, .int 0, .int 0, .int (-1), .ref 3, .int 0, .ref 4, .int 0])))  : CT con0 d 0 0 yX10_brings cX10_brings 7 (some .int) [.ref 0, .int a0, .int a1, .int a2, .int a3] h (fun r h2 => r = some (.int (-1)) ∧ h2 = h) := by
  refine CT_of (by decide) (Nat.le_of_ble_eq_true rfl) (fun x hq => ?_)
  show J x yX10_brings cX10_brings 7 (some .int) d 0 0 h.length 0 [(0, .ref 0), (1, .int a0), (2, .int a1), (3, .int a2), (4, .int a3)] [] h 0 0
  refine J_aload_n (i := 0) (j := 0) dX10_brings_0 rfl rfl ?_
  refine J_iload_n (i := 1) (j := 1) dX10_brings_1 rfl rfl ?_
  refine J_iload_n (i := 2) (j := 2) dX10_brings_2 rfl rfl ?_
  refine J_callV (As := [.int a0, .int a1]) (rest := []) dX10_brings_3 (c_X10_lays0 (d := 1) (h := h)  (by decide) h0 h1 ) hq.n k723 k725 k12 h0 rfl rfl k87 k726 np_X10_lays (Nat.le_trans (by decide) hd) (by decide) (Nat.le_refl _) (Nat.le_refl _) (hkz rfl) rfl (Nat.le_of_ble_eq_true rfl) (fun r1 h2 p3 => ?_)
  obtain ⟨rfl, w4⟩ := p3
  refine J_w w4 ?_
  refine J_if_eq (tgt := 38) dX10_brings_6 (by decide) (fun _ => ?_) (fun q => absurd (by decide) q)
  refine J_iconst (v := (-1)) dX10_brings_38 (by decide) ?_
  exact J_iret hq dX10_brings_39 rfl (hkz rfl) (Nat.le_refl _) (Nat.le_refl _) ⟨rfl, rfl⟩
set_option maxHeartbeats 4000000 in
set_option maxRecDepth 100000 in
theorem c_X10_best0 {d : Nat} {h : List MC} {a0 a1 a2 a3 : Int32} (hd : 3 ≤ d) (h0 : h[0]? = some (.inr (10, [.ref 1, .ref 27, .ref 28, .ref 29, .ref 43, .ref 49, .ref 53, .ref 56, .ref 57, .ref 79]))) (h1 : h[1]? = some (.inr (7, [.ref 2, .int 0, .int 0, .int (-1), .ref 3, .int 0, .ref 4, .int 0])))  : CT con0 d 0 0 yX10_best cX10_best 5 (some .int) [.ref 0, .int a0, .int a1, .int a2, .int a3] h (fun r h2 => r = some (.int (-1)) ∧ h2 = h) := by
  refine CT_of (by decide) (Nat.le_of_ble_eq_true rfl) (fun x hq => ?_)
  show J x yX10_best cX10_best 5 (some .int) d 0 0 h.length 0 [(0, .ref 0), (1, .int a0), (2, .int a1), (3, .int a2), (4, .int a3)] [] h 0 0
  refine J_aload_n (i := 0) (j := 0) dX10_best_0 rfl rfl ?_
  refine J_iload_n (i := 1) (j := 1) dX10_best_1 rfl rfl ?_
  refine J_iload_n (i := 2) (j := 2) dX10_best_2 rfl rfl ?_
  refine J_iload_n (i := 3) (j := 3) dX10_best_3 rfl rfl ?_
  refine J_iload (i := 4) (j := 4) dX10_best_4 rfl ?_
  refine J_sipush (v := 9999) dX10_best_6 (by decide) ?_
  refine J_callV (As := [.int a0, .int a1, .int a2, .int a3, .int 9999]) (rest := []) dX10_best_9 (c_X10_canMend0 (d := 2) (h := h)  (by decide) h0 h1 ) hq.n k938 k940 k26 h0 rfl rfl k87 k941 np_X10_canMend (Nat.le_trans (by decide) hd) (by decide) (Nat.le_refl _) (Nat.le_refl _) (hkz rfl) rfl (Nat.le_of_ble_eq_true rfl) (fun r1 h2 p3 => ?_)
  obtain ⟨rfl, w4⟩ := p3
  refine J_w w4 ?_
  refine J_if_eq (tgt := 35) dX10_best_12 (by decide) (fun _ => ?_) (fun q => absurd (by decide) q)
  refine J_iconst (v := (-1)) dX10_best_35 (by decide) ?_
  exact J_iret hq dX10_best_36 rfl (hkz rfl) (Nat.le_refl _) (Nat.le_refl _) ⟨rfl, rfl⟩
set_option maxHeartbeats 4000000 in
set_option maxRecDepth 100000 in
theorem c_X10_steps0 {d : Nat} {h : List MC} {a0 a1 a2 a3 : Int32} (hd : 3 ≤ d) (h0 : h[0]? = some (.inr (10, [.ref 1, .ref 27, .ref 28, .ref 29, .ref 43, .ref 49, .ref 53, .ref 56, .ref 57, .ref 79]))) (h1 : h[1]? = some (.inr (7, [.ref 2, .int 0, .int 0, .int (-1), .ref 3, .int 0, .ref 4, .int 0])))  : CT con0 d 0 0 yX10_steps cX10_steps 5 (some .int) [.ref 0, .int a0, .int a1, .int a2, .int a3] h (fun r h2 => r = some (.int (-1)) ∧ h2 = h) := by
  refine CT_of (by decide) (Nat.le_of_ble_eq_true rfl) (fun x hq => ?_)
  show J x yX10_steps cX10_steps 5 (some .int) d 0 0 h.length 0 [(0, .ref 0), (1, .int a0), (2, .int a1), (3, .int a2), (4, .int a3)] [] h 0 0
  refine J_aload_n (i := 0) (j := 0) dX10_steps_0 rfl rfl ?_
  refine J_iload_n (i := 1) (j := 1) dX10_steps_1 rfl rfl ?_
  refine J_iload_n (i := 2) (j := 2) dX10_steps_2 rfl rfl ?_
  refine J_iload_n (i := 3) (j := 3) dX10_steps_3 rfl rfl ?_
  refine J_iload (i := 4) (j := 4) dX10_steps_4 rfl ?_
  refine J_sipush (v := 9999) dX10_steps_6 (by decide) ?_
  refine J_callV (As := [.int a0, .int a1, .int a2, .int a3, .int 9999]) (rest := []) dX10_steps_9 (c_X10_canMend0 (d := 2) (h := h)  (by decide) h0 h1 ) hq.n k938 k940 k26 h0 rfl rfl k87 k941 np_X10_canMend (Nat.le_trans (by decide) hd) (by decide) (Nat.le_refl _) (Nat.le_refl _) (hkz rfl) rfl (Nat.le_of_ble_eq_true rfl) (fun r1 h2 p3 => ?_)
  obtain ⟨rfl, w4⟩ := p3
  refine J_w w4 ?_
  refine J_if_eq (tgt := 35) dX10_steps_12 (by decide) (fun _ => ?_) (fun q => absurd (by decide) q)
  refine J_iconst (v := (-1)) dX10_steps_35 (by decide) ?_
  exact J_iret hq dX10_steps_36 rfl (hkz rfl) (Nat.le_refl _) (Nat.le_refl _) ⟨rfl, rfl⟩
set_option maxHeartbeats 4000000 in
set_option maxRecDepth 100000 in
theorem c_X10_mended0 {d : Nat} {h : List MC} {a0 a1 a2 : Int32} (hd : 3 ≤ d) (h0 : h[0]? = some (.inr (10, [.ref 1, .ref 27, .ref 28, .ref 29, .ref 43, .ref 49, .ref 53, .ref 56, .ref 57, .ref 79]))) (h1 : h[1]? = some (.inr (7, [.ref 2, .int 0, .int 0, .int (-1), .ref 3, .int 0, .ref 4, .int 0])))  : CT con0 d 0 0 yX10_mended cX10_mended 4 (some .long) [.ref 0, .int a0, .int a1, .int a2] h (fun r h2 => r = some (.long (-1)) ∧ h2 = h) := by
  refine CT_of (by decide) (Nat.le_of_ble_eq_true rfl) (fun x hq => ?_)
  show J x yX10_mended cX10_mended 4 (some .long) d 0 0 h.length 0 [(0, .ref 0), (1, .int a0), (2, .int a1), (3, .int a2)] [] h 0 0
  refine J_aload_n (i := 0) (j := 0) dX10_mended_0 rfl rfl ?_
  refine J_iload_n (i := 1) (j := 1) dX10_mended_1 rfl rfl ?_
  refine J_iload_n (i := 2) (j := 2) dX10_mended_2 rfl rfl ?_
  refine J_callV (As := [.int a0, .int a1]) (rest := []) dX10_mended_3 (c_X10_looks0 (d := 2) (h := h)  (by decide) h0 h1 ) hq.n k852 k854 k23 h0 rfl rfl k87 k855 np_X10_looks (Nat.le_trans (by decide) hd) (by decide) (Nat.le_refl _) (Nat.le_refl _) (hkz rfl) rfl (Nat.le_of_ble_eq_true rfl) (fun r1 h2 p3 => ?_)
  obtain ⟨rfl, w4⟩ := p3
  refine J_w w4 ?_
  refine J_if_eq (tgt := 23) dX10_mended_6 (by decide) (fun _ => ?_) (fun q => absurd (by decide) q)
  refine J_ldc2 (v := (-1)) dX10_mended_23 k877 ?_
  exact J_lret hq dX10_mended_26 rfl (hkz rfl) (Nat.le_refl _) (Nat.le_refl _) ⟨rfl, rfl⟩
set_option maxHeartbeats 4000000 in
set_option maxRecDepth 100000 in
theorem c_X10_one0 {d : Nat} {h : List MC} {a0 a1 a2 : Int32} (hd : 3 ≤ d) (h0 : h[0]? = some (.inr (10, [.ref 1, .ref 27, .ref 28, .ref 29, .ref 43, .ref 49, .ref 53, .ref 56, .ref 57, .ref 79]))) (h1 : h[1]? = some (.inr (7, [.ref 2, .int 0, .int 0, .int (-1), .ref 3, .int 0, .ref 4, .int 0])))  : CT con0 d 0 0 yX10_one cX10_one 4 (some .long) [.ref 0, .int a0, .int a1, .int a2] h (fun r h2 => r = some (.long (-1)) ∧ h2 = h) := by
  refine CT_of (by decide) (Nat.le_of_ble_eq_true rfl) (fun x hq => ?_)
  show J x yX10_one cX10_one 4 (some .long) d 0 0 h.length 0 [(0, .ref 0), (1, .int a0), (2, .int a1), (3, .int a2)] [] h 0 0
  refine J_aload_n (i := 0) (j := 0) dX10_one_0 rfl rfl ?_
  refine J_iload_n (i := 1) (j := 1) dX10_one_1 rfl rfl ?_
  refine J_iload_n (i := 2) (j := 2) dX10_one_2 rfl rfl ?_
  refine J_callV (As := [.int a0, .int a1]) (rest := []) dX10_one_3 (c_X10_lays0 (d := 1) (h := h)  (by decide) h0 h1 ) hq.n k723 k725 k12 h0 rfl rfl k87 k726 np_X10_lays (Nat.le_trans (by decide) hd) (by decide) (Nat.le_refl _) (Nat.le_refl _) (hkz rfl) rfl (Nat.le_of_ble_eq_true rfl) (fun r1 h2 p3 => ?_)
  obtain ⟨rfl, w4⟩ := p3
  refine J_w w4 ?_
  refine J_if_eq (tgt := 22) dX10_one_6 (by decide) (fun _ => ?_) (fun q => absurd (by decide) q)
  refine J_ldc2 (v := (-1)) dX10_one_22 k877 ?_
  exact J_lret hq dX10_one_25 rfl (hkz rfl) (Nat.le_refl _) (Nat.le_refl _) ⟨rfl, rfl⟩
set_option maxHeartbeats 4000000 in
set_option maxRecDepth 100000 in
theorem c_X10_low0 {d : Nat} {h : List MC} {a0 a1 a2 : Int32} (hd : 3 ≤ d) (h0 : h[0]? = some (.inr (10, [.ref 1, .ref 27, .ref 28, .ref 29, .ref 43, .ref 49, .ref 53, .ref 56, .ref 57, .ref 79]))) (h1 : h[1]? = some (.inr (7, [.ref 2, .int 0, .int 0, .int (-1), .ref 3, .int 0, .ref 4, .int 0])))  : CT con0 d 0 0 yX10_low cX10_low 4 (some .int) [.ref 0, .int a0, .int a1, .int a2] h (fun r h2 => r = some (.int (-1)) ∧ h2 = h) := by
  refine CT_of (by decide) (Nat.le_of_ble_eq_true rfl) (fun x hq => ?_)
  show J x yX10_low cX10_low 4 (some .int) d 0 0 h.length 0 [(0, .ref 0), (1, .int a0), (2, .int a1), (3, .int a2)] [] h 0 0
  refine J_aload_n (i := 0) (j := 0) dX10_low_0 rfl rfl ?_
  refine J_iload_n (i := 1) (j := 1) dX10_low_1 rfl rfl ?_
  refine J_iload_n (i := 2) (j := 2) dX10_low_2 rfl rfl ?_
  refine J_iload_n (i := 3) (j := 3) dX10_low_3 rfl rfl ?_
  refine J_callV (As := [.int a0, .int a1, .int a2]) (rest := []) dX10_low_4 (c_X10_hasPond0 (d := 2) (h := h)  (by decide) h0 h1 ) hq.n k1005 k1007 k29 h0 rfl rfl k87 k1008 np_X10_hasPond (Nat.le_trans (by decide) hd) (by decide) (Nat.le_refl _) (Nat.le_refl _) (hkz rfl) rfl (Nat.le_of_ble_eq_true rfl) (fun r1 h2 p3 => ?_)
  obtain ⟨rfl, w4⟩ := p3
  refine J_w w4 ?_
  refine J_if_eq (tgt := 28) dX10_low_7 (by decide) (fun _ => ?_) (fun q => absurd (by decide) q)
  refine J_iconst (v := (-1)) dX10_low_28 (by decide) ?_
  exact J_iret hq dX10_low_29 rfl (hkz rfl) (Nat.le_refl _) (Nat.le_refl _) ⟨rfl, rfl⟩
set_option maxHeartbeats 4000000 in
set_option maxRecDepth 100000 in
theorem c_X10_helps0 {d : Nat} {h : List MC} {a0 a1 a2 a3 : Int32} (hd : 3 ≤ d) (h0 : h[0]? = some (.inr (10, [.ref 1, .ref 27, .ref 28, .ref 29, .ref 43, .ref 49, .ref 53, .ref 56, .ref 57, .ref 79]))) (h1 : h[1]? = some (.inr (7, [.ref 2, .int 0, .int 0, .int (-1), .ref 3, .int 0, .ref 4, .int 0])))  : CT con0 d 0 0 yX10_helps cX10_helps 8 (some .long) [.ref 0, .int a0, .int a1, .int a2, .int a3] h (fun r h2 => r = some (.long (-1)) ∧ h2 = h) := by
  refine CT_of (by decide) (Nat.le_of_ble_eq_true rfl) (fun x hq => ?_)
  show J x yX10_helps cX10_helps 8 (some .long) d 0 0 h.length 0 [(0, .ref 0), (1, .int a0), (2, .int a1), (3, .int a2), (4, .int a3)] [] h 0 0
  refine J_aload_n (i := 0) (j := 0) dX10_helps_0 rfl rfl ?_
  refine J_iload_n (i := 1) (j := 1) dX10_helps_1 rfl rfl ?_
  refine J_iload_n (i := 2) (j := 2) dX10_helps_2 rfl rfl ?_
  refine J_callV (As := [.int a0, .int a1]) (rest := []) dX10_helps_3 (c_X10_looks0 (d := 2) (h := h)  (by decide) h0 h1 ) hq.n k852 k854 k23 h0 rfl rfl k87 k855 np_X10_looks (Nat.le_trans (by decide) hd) (by decide) (Nat.le_refl _) (Nat.le_refl _) (hkz rfl) rfl (Nat.le_of_ble_eq_true rfl) (fun r1 h2 p3 => ?_)
  obtain ⟨rfl, w4⟩ := p3
  refine J_w w4 ?_
  refine J_if_eq (tgt := 24) dX10_helps_6 (by decide) (fun _ => ?_) (fun q => absurd (by decide) q)
  refine J_ldc2 (v := (-1)) dX10_helps_24 k877 ?_
  exact J_lret hq dX10_helps_27 rfl (hkz rfl) (Nat.le_refl _) (Nat.le_refl _) ⟨rfl, rfl⟩
set_option maxHeartbeats 4000000 in
set_option maxRecDepth 100000 in
theorem c_X10_alone0 {d : Nat} {h : List MC} {a0 a1 a2 : Int32} (hd : 3 ≤ d) (h0 : h[0]? = some (.inr (10, [.ref 1, .ref 27, .ref 28, .ref 29, .ref 43, .ref 49, .ref 53, .ref 56, .ref 57, .ref 79]))) (h1 : h[1]? = some (.inr (7, [.ref 2, .int 0, .int 0, .int (-1), .ref 3, .int 0, .ref 4, .int 0])))  : CT con0 d 0 0 yX10_alone cX10_alone 5 (some .long) [.ref 0, .int a0, .int a1, .int a2] h (fun r h2 => r = some (.long (-1)) ∧ h2 = h) := by
  refine CT_of (by decide) (Nat.le_of_ble_eq_true rfl) (fun x hq => ?_)
  show J x yX10_alone cX10_alone 5 (some .long) d 0 0 h.length 0 [(0, .ref 0), (1, .int a0), (2, .int a1), (3, .int a2)] [] h 0 0
  refine J_aload_n (i := 0) (j := 0) dX10_alone_0 rfl rfl ?_
  refine J_iload_n (i := 1) (j := 1) dX10_alone_1 rfl rfl ?_
  refine J_iload_n (i := 2) (j := 2) dX10_alone_2 rfl rfl ?_
  refine J_callV (As := [.int a0, .int a1]) (rest := []) dX10_alone_3 (c_X10_looks0 (d := 2) (h := h)  (by decide) h0 h1 ) hq.n k852 k854 k23 h0 rfl rfl k87 k855 np_X10_looks (Nat.le_trans (by decide) hd) (by decide) (Nat.le_refl _) (Nat.le_refl _) (hkz rfl) rfl (Nat.le_of_ble_eq_true rfl) (fun r1 h2 p3 => ?_)
  obtain ⟨rfl, w4⟩ := p3
  refine J_w w4 ?_
  refine J_if_eq (tgt := 16) dX10_alone_6 (by decide) (fun _ => ?_) (fun q => absurd (by decide) q)
  refine J_ldc2 (v := (-1)) dX10_alone_16 k877 ?_
  exact J_lret hq dX10_alone_19 rfl (hkz rfl) (Nat.le_refl _) (Nat.le_refl _) ⟨rfl, rfl⟩
set_option maxHeartbeats 4000000 in
set_option maxRecDepth 100000 in
theorem c_X10_hear0 {d : Nat} {h : List MC} {a0 a1 a2 a3 : Int32} (hd : 3 ≤ d) (h0 : h[0]? = some (.inr (10, [.ref 1, .ref 27, .ref 28, .ref 29, .ref 43, .ref 49, .ref 53, .ref 56, .ref 57, .ref 79]))) (h1 : h[1]? = some (.inr (7, [.ref 2, .int 0, .int 0, .int (-1), .ref 3, .int 0, .ref 4, .int 0])))  : CT con0 d 0 0 yX10_hear cX10_hear 7 (some .long) [.ref 0, .int a0, .int a1, .int a2, .int a3] h (fun r h2 => r = some (.long (-9223372036854775808)) ∧ h2 = h) := by
  refine CT_of (by decide) (Nat.le_of_ble_eq_true rfl) (fun x hq => ?_)
  show J x yX10_hear cX10_hear 7 (some .long) d 0 0 h.length 0 [(0, .ref 0), (1, .int a0), (2, .int a1), (3, .int a2), (4, .int a3)] [] h 0 0
  refine J_aload_n (i := 0) (j := 0) dX10_hear_0 rfl rfl ?_
  refine J_iload_n (i := 1) (j := 1) dX10_hear_1 rfl rfl ?_
  refine J_iload_n (i := 2) (j := 2) dX10_hear_2 rfl rfl ?_
  refine J_iload_n (i := 3) (j := 3) dX10_hear_3 rfl rfl ?_
  refine J_callV (As := [.int a0, .int a1, .int a2]) (rest := []) dX10_hear_4 (c_X10_hasPond0 (d := 2) (h := h)  (by decide) h0 h1 ) hq.n k1005 k1007 k29 h0 rfl rfl k87 k1008 np_X10_hasPond (Nat.le_trans (by decide) hd) (by decide) (Nat.le_refl _) (Nat.le_refl _) (hkz rfl) rfl (Nat.le_of_ble_eq_true rfl) (fun r1 h2 p3 => ?_)
  obtain ⟨rfl, w4⟩ := p3
  refine J_w w4 ?_
  refine J_if_eq (tgt := 22) dX10_hear_7 (by decide) (fun _ => ?_) (fun q => absurd (by decide) q)
  refine J_ldc2 (v := (-9223372036854775808)) dX10_hear_22 k1028 ?_
  exact J_lret hq dX10_hear_25 rfl (hkz rfl) (Nat.le_refl _) (Nat.le_refl _) ⟨rfl, rfl⟩
set_option maxHeartbeats 4000000 in
set_option maxRecDepth 100000 in
theorem c_X10_may0 {d : Nat} {h : List MC} {a0 a1 a2 a3 : Int32} (hd : 3 ≤ d) (h0 : h[0]? = some (.inr (10, [.ref 1, .ref 27, .ref 28, .ref 29, .ref 43, .ref 49, .ref 53, .ref 56, .ref 57, .ref 79]))) (h1 : h[1]? = some (.inr (7, [.ref 2, .int 0, .int 0, .int (-1), .ref 3, .int 0, .ref 4, .int 0])))  : CT con0 d 0 0 yX10_may cX10_may 5 (some .long) [.ref 0, .int a0, .int a1, .int a2, .int a3] h (fun r h2 => r = some (.long (-1)) ∧ h2 = h) := by
  refine CT_of (by decide) (Nat.le_of_ble_eq_true rfl) (fun x hq => ?_)
  show J x yX10_may cX10_may 5 (some .long) d 0 0 h.length 0 [(0, .ref 0), (1, .int a0), (2, .int a1), (3, .int a2), (4, .int a3)] [] h 0 0
  refine J_aload_n (i := 0) (j := 0) dX10_may_0 rfl rfl ?_
  refine J_iload_n (i := 1) (j := 1) dX10_may_1 rfl rfl ?_
  refine J_iload_n (i := 2) (j := 2) dX10_may_2 rfl rfl ?_
  refine J_iload_n (i := 3) (j := 3) dX10_may_3 rfl rfl ?_
  refine J_callV (As := [.int a0, .int a1, .int a2]) (rest := []) dX10_may_4 (c_X10_canFill0 (d := 2) (h := h)  (by decide) h0 h1 ) hq.n k1036 k1038 k30 h0 rfl rfl k87 k1039 np_X10_canFill (Nat.le_trans (by decide) hd) (by decide) (Nat.le_refl _) (Nat.le_refl _) (hkz rfl) rfl (Nat.le_of_ble_eq_true rfl) (fun r1 h2 p3 => ?_)
  obtain ⟨rfl, w4⟩ := p3
  refine J_w w4 ?_
  refine J_if_ne (tgt := 14) dX10_may_7 (by decide) (fun q => absurd (by decide) q) (fun _ => ?_)
  refine J_ldc2 (v := (-1)) dX10_may_10 k877 ?_
  exact J_lret hq dX10_may_13 rfl (hkz rfl) (Nat.le_refl _) (Nat.le_refl _) ⟨rfl, rfl⟩
set_option maxHeartbeats 4000000 in
set_option maxRecDepth 100000 in
theorem c_X10_order0 {d : Nat} {h : List MC} {a0 a1 a2 a3 : Int32} (hd : 3 ≤ d) (h0 : h[0]? = some (.inr (10, [.ref 1, .ref 27, .ref 28, .ref 29, .ref 43, .ref 49, .ref 53, .ref 56, .ref 57, .ref 79]))) (h1 : h[1]? = some (.inr (7, [.ref 2, .int 0, .int 0, .int (-1), .ref 3, .int 0, .ref 4, .int 0])))  : CT con0 d 0 0 yX10_order cX10_order 5 (some .int) [.ref 0, .int a0, .int a1, .int a2, .int a3] h (fun r h2 => r = some (.int (-1)) ∧ h2 = h) := by
  refine CT_of (by decide) (Nat.le_of_ble_eq_true rfl) (fun x hq => ?_)
  show J x yX10_order cX10_order 5 (some .int) d 0 0 h.length 0 [(0, .ref 0), (1, .int a0), (2, .int a1), (3, .int a2), (4, .int a3)] [] h 0 0
  refine J_aload_n (i := 0) (j := 0) dX10_order_0 rfl rfl ?_
  refine J_iload_n (i := 1) (j := 1) dX10_order_1 rfl rfl ?_
  refine J_iload_n (i := 2) (j := 2) dX10_order_2 rfl rfl ?_
  refine J_iload_n (i := 3) (j := 3) dX10_order_3 rfl rfl ?_
  refine J_callV (As := [.int a0, .int a1, .int a2]) (rest := []) dX10_order_4 (c_X10_canFill0 (d := 2) (h := h)  (by decide) h0 h1 ) hq.n k1036 k1038 k30 h0 rfl rfl k87 k1039 np_X10_canFill (Nat.le_trans (by decide) hd) (by decide) (Nat.le_refl _) (Nat.le_refl _) (hkz rfl) rfl (Nat.le_of_ble_eq_true rfl) (fun r1 h2 p3 => ?_)
  obtain ⟨rfl, w4⟩ := p3
  refine J_w w4 ?_
  refine J_if_eq (tgt := 24) dX10_order_7 (by decide) (fun _ => ?_) (fun q => absurd (by decide) q)
  refine J_iconst (v := (-1)) dX10_order_24 (by decide) ?_
  exact J_iret hq dX10_order_25 rfl (hkz rfl) (Nat.le_refl _) (Nat.le_refl _) ⟨rfl, rfl⟩
set_option maxHeartbeats 4000000 in
set_option maxRecDepth 100000 in
theorem c_X10_think0 {d : Nat} {h : List MC} {a0 a1 a2 a3 : Int32} (hd : 3 ≤ d) (h0 : h[0]? = some (.inr (10, [.ref 1, .ref 27, .ref 28, .ref 29, .ref 43, .ref 49, .ref 53, .ref 56, .ref 57, .ref 79]))) (h1 : h[1]? = some (.inr (7, [.ref 2, .int 0, .int 0, .int (-1), .ref 3, .int 0, .ref 4, .int 0])))  : CT con0 d 0 0 yX10_think cX10_think 7 (some .int) [.ref 0, .int a0, .int a1, .int a2, .int a3] h (fun r h2 => r = some (.int (-1)) ∧ h2 = h) := by
  refine CT_of (by decide) (Nat.le_of_ble_eq_true rfl) (fun x hq => ?_)
  show J x yX10_think cX10_think 7 (some .int) d 0 0 h.length 0 [(0, .ref 0), (1, .int a0), (2, .int a1), (3, .int a2), (4, .int a3)] [] h 0 0
  refine J_aload_n (i := 0) (j := 0) dX10_think_0 rfl rfl ?_
  refine J_iload_n (i := 1) (j := 1) dX10_think_1 rfl rfl ?_
  refine J_iload_n (i := 2) (j := 2) dX10_think_2 rfl rfl ?_
  refine J_iload_n (i := 3) (j := 3) dX10_think_3 rfl rfl ?_
  refine J_callV (As := [.int a0, .int a1, .int a2]) (rest := []) dX10_think_4 (c_X10_hasPond0 (d := 2) (h := h)  (by decide) h0 h1 ) hq.n k1005 k1007 k29 h0 rfl rfl k87 k1008 np_X10_hasPond (Nat.le_trans (by decide) hd) (by decide) (Nat.le_refl _) (Nat.le_refl _) (hkz rfl) rfl (Nat.le_of_ble_eq_true rfl) (fun r1 h2 p3 => ?_)
  obtain ⟨rfl, w4⟩ := p3
  refine J_w w4 ?_
  refine J_if_ne (tgt := 12) dX10_think_7 (by decide) (fun q => absurd (by decide) q) (fun _ => ?_)
  refine J_iconst (v := (-1)) dX10_think_10 (by decide) ?_
  exact J_iret hq dX10_think_11 rfl (hkz rfl) (Nat.le_refl _) (Nat.le_refl _) ⟨rfl, rfl⟩
set_option maxHeartbeats 4000000 in
set_option maxRecDepth 100000 in
theorem c_X10_now0 {d : Nat} {h : List MC} {a0 a1 : Int32} (hd : 3 ≤ d) (h0 : h[0]? = some (.inr (10, [.ref 1, .ref 27, .ref 28, .ref 29, .ref 43, .ref 49, .ref 53, .ref 56, .ref 57, .ref 79]))) (h1 : h[1]? = some (.inr (7, [.ref 2, .int 0, .int 0, .int (-1), .ref 3, .int 0, .ref 4, .int 0])))  : CT con0 d 0 0 yX10_now cX10_now 3 (some .int) [.ref 0, .int a0, .int a1] h (fun r h2 => r = some (.int (-1)) ∧ h2 = h) := by
  refine CT_of (by decide) (Nat.le_of_ble_eq_true rfl) (fun x hq => ?_)
  show J x yX10_now cX10_now 3 (some .int) d 0 0 h.length 0 [(0, .ref 0), (1, .int a0), (2, .int a1)] [] h 0 0
  refine J_aload_n (i := 0) (j := 0) dX10_now_0 rfl rfl ?_
  refine J_iload_n (i := 1) (j := 1) dX10_now_1 rfl rfl ?_
  refine J_iload_n (i := 2) (j := 2) dX10_now_2 rfl rfl ?_
  refine J_callV (As := [.int a0, .int a1]) (rest := []) dX10_now_3 (c_X10_lays0 (d := 1) (h := h)  (by decide) h0 h1 ) hq.n k723 k725 k12 h0 rfl rfl k87 k726 np_X10_lays (Nat.le_trans (by decide) hd) (by decide) (Nat.le_refl _) (Nat.le_refl _) (hkz rfl) rfl (Nat.le_of_ble_eq_true rfl) (fun r1 h2 p3 => ?_)
  obtain ⟨rfl, w4⟩ := p3
  refine J_w w4 ?_
  refine J_if_eq (tgt := 26) dX10_now_6 (by decide) (fun _ => ?_) (fun q => absurd (by decide) q)
  refine J_iconst (v := (-1)) dX10_now_26 (by decide) ?_
  exact J_iret hq dX10_now_27 rfl (hkz rfl) (Nat.le_refl _) (Nat.le_refl _) ⟨rfl, rfl⟩
set_option maxHeartbeats 4000000 in
set_option maxRecDepth 100000 in
theorem c_X10_years0 {d : Nat} {h : List MC} {a0 a1 a2 a3 a4 : Int32} (hd : 3 ≤ d) (h0 : h[0]? = some (.inr (10, [.ref 1, .ref 27, .ref 28, .ref 29, .ref 43, .ref 49, .ref 53, .ref 56, .ref 57, .ref 79]))) (h1 : h[1]? = some (.inr (7, [.ref 2, .int 0, .int 0, .int (-1), .ref 3, .int 0, .ref 4, .int 0])))  : CT con0 d 0 0 yX10_years cX10_years 6 (some .long) [.ref 0, .int a0, .int a1, .int a2, .int a3, .int a4] h (fun r h2 => r = some (.long (-1)) ∧ h2 = h) := by
  refine CT_of (by decide) (Nat.le_of_ble_eq_true rfl) (fun x hq => ?_)
  show J x yX10_years cX10_years 6 (some .long) d 0 0 h.length 0 [(0, .ref 0), (1, .int a0), (2, .int a1), (3, .int a2), (4, .int a3), (5, .int a4)] [] h 0 0
  refine J_aload_n (i := 0) (j := 0) dX10_years_0 rfl rfl ?_
  refine J_iload_n (i := 1) (j := 1) dX10_years_1 rfl rfl ?_
  refine J_iload_n (i := 2) (j := 2) dX10_years_2 rfl rfl ?_
  refine J_callV (As := [.int a0, .int a1]) (rest := []) dX10_years_3 (c_X10_lays0 (d := 1) (h := h)  (by decide) h0 h1 ) hq.n k723 k725 k12 h0 rfl rfl k87 k726 np_X10_lays (Nat.le_trans (by decide) hd) (by decide) (Nat.le_refl _) (Nat.le_refl _) (hkz rfl) rfl (Nat.le_of_ble_eq_true rfl) (fun r1 h2 p3 => ?_)
  obtain ⟨rfl, w4⟩ := p3
  refine J_w w4 ?_
  refine J_if_eq (tgt := 22) dX10_years_6 (by decide) (fun _ => ?_) (fun q => absurd (by decide) q)
  refine J_ldc2 (v := (-1)) dX10_years_22 k877 ?_
  exact J_lret hq dX10_years_25 rfl (hkz rfl) (Nat.le_refl _) (Nat.le_refl _) ⟨rfl, rfl⟩
set_option maxHeartbeats 4000000 in
set_option maxRecDepth 100000 in
theorem c_X10_spared0 {d : Nat} {h : List MC} {a0 a1 a2 : Int32} (hd : 3 ≤ d) (h0 : h[0]? = some (.inr (10, [.ref 1, .ref 27, .ref 28, .ref 29, .ref 43, .ref 49, .ref 53, .ref 56, .ref 57, .ref 79]))) (h1 : h[1]? = some (.inr (7, [.ref 2, .int 0, .int 0, .int (-1), .ref 3, .int 0, .ref 4, .int 0])))  : CT con0 d 0 0 yX10_spared cX10_spared 6 (some .int) [.ref 0, .int a0, .int a1, .int a2] h (fun r h2 => r = some (.int (-1)) ∧ h2 = h) := by
  refine CT_of (by decide) (Nat.le_of_ble_eq_true rfl) (fun x hq => ?_)
  show J x yX10_spared cX10_spared 6 (some .int) d 0 0 h.length 0 [(0, .ref 0), (1, .int a0), (2, .int a1), (3, .int a2)] [] h 0 0
  refine J_aload_n (i := 0) (j := 0) dX10_spared_0 rfl rfl ?_
  refine J_iload_n (i := 1) (j := 1) dX10_spared_1 rfl rfl ?_
  refine J_iload_n (i := 2) (j := 2) dX10_spared_2 rfl rfl ?_
  refine J_callV (As := [.int a0, .int a1]) (rest := []) dX10_spared_3 (c_X10_lays0 (d := 1) (h := h)  (by decide) h0 h1 ) hq.n k723 k725 k12 h0 rfl rfl k87 k726 np_X10_lays (Nat.le_trans (by decide) hd) (by decide) (Nat.le_refl _) (Nat.le_refl _) (hkz rfl) rfl (Nat.le_of_ble_eq_true rfl) (fun r1 h2 p3 => ?_)
  obtain ⟨rfl, w4⟩ := p3
  refine J_w w4 ?_
  refine J_if_eq (tgt := 23) dX10_spared_6 (by decide) (fun _ => ?_) (fun q => absurd (by decide) q)
  refine J_iconst (v := (-1)) dX10_spared_23 (by decide) ?_
  exact J_iret hq dX10_spared_24 rfl (hkz rfl) (Nat.le_refl _) (Nat.le_refl _) ⟨rfl, rfl⟩
set_option maxHeartbeats 4000000 in
set_option maxRecDepth 100000 in
theorem c_X10_deep0 {d : Nat} {h : List MC} {a0 a1 : Int32} (hd : 3 ≤ d) (h0 : h[0]? = some (.inr (10, [.ref 1, .ref 27, .ref 28, .ref 29, .ref 43, .ref 49, .ref 53, .ref 56, .ref 57, .ref 79]))) (h1 : h[1]? = some (.inr (7, [.ref 2, .int 0, .int 0, .int (-1), .ref 3, .int 0, .ref 4, .int 0])))  : CT con0 d 0 0 yX10_deep cX10_deep 3 (some .int) [.ref 0, .int a0, .int a1] h (fun r h2 => r = some (.int (-1)) ∧ h2 = h) := by
  refine CT_of (by decide) (Nat.le_of_ble_eq_true rfl) (fun x hq => ?_)
  show J x yX10_deep cX10_deep 3 (some .int) d 0 0 h.length 0 [(0, .ref 0), (1, .int a0), (2, .int a1)] [] h 0 0
  refine J_aload_n (i := 0) (j := 0) dX10_deep_0 rfl rfl ?_
  refine J_iload_n (i := 1) (j := 1) dX10_deep_1 rfl rfl ?_
  refine J_iload_n (i := 2) (j := 2) dX10_deep_2 rfl rfl ?_
  refine J_callV (As := [.int a0, .int a1]) (rest := []) dX10_deep_3 (c_X10_looks0 (d := 2) (h := h)  (by decide) h0 h1 ) hq.n k852 k854 k23 h0 rfl rfl k87 k855 np_X10_looks (Nat.le_trans (by decide) hd) (by decide) (Nat.le_refl _) (Nat.le_refl _) (hkz rfl) rfl (Nat.le_of_ble_eq_true rfl) (fun r1 h2 p3 => ?_)
  obtain ⟨rfl, w4⟩ := p3
  refine J_w w4 ?_
  refine J_if_eq (tgt := 19) dX10_deep_6 (by decide) (fun _ => ?_) (fun q => absurd (by decide) q)
  refine J_iconst (v := (-1)) dX10_deep_19 (by decide) ?_
  exact J_iret hq dX10_deep_20 rfl (hkz rfl) (Nat.le_refl _) (Nat.le_refl _) ⟨rfl, rfl⟩
set_option maxHeartbeats 4000000 in
set_option maxRecDepth 100000 in
theorem c_X10_safe0 {d : Nat} {h : List MC} {a0 a1 : Int32} (hd : 3 ≤ d) (h0 : h[0]? = some (.inr (10, [.ref 1, .ref 27, .ref 28, .ref 29, .ref 43, .ref 49, .ref 53, .ref 56, .ref 57, .ref 79]))) (h1 : h[1]? = some (.inr (7, [.ref 2, .int 0, .int 0, .int (-1), .ref 3, .int 0, .ref 4, .int 0])))  : CT con0 d 0 0 yX10_safe cX10_safe 4 (some .int) [.ref 0, .int a0, .int a1] h (fun r h2 => r = some (.int (-1)) ∧ h2 = h) := by
  refine CT_of (by decide) (Nat.le_of_ble_eq_true rfl) (fun x hq => ?_)
  show J x yX10_safe cX10_safe 4 (some .int) d 0 0 h.length 0 [(0, .ref 0), (1, .int a0), (2, .int a1)] [] h 0 0
  refine J_aload_n (i := 0) (j := 0) dX10_safe_0 rfl rfl ?_
  refine J_iload_n (i := 1) (j := 1) dX10_safe_1 rfl rfl ?_
  refine J_iload_n (i := 2) (j := 2) dX10_safe_2 rfl rfl ?_
  refine J_callV (As := [.int a0, .int a1]) (rest := []) dX10_safe_3 (c_X10_lays0 (d := 1) (h := h)  (by decide) h0 h1 ) hq.n k723 k725 k12 h0 rfl rfl k87 k726 np_X10_lays (Nat.le_trans (by decide) hd) (by decide) (Nat.le_refl _) (Nat.le_refl _) (hkz rfl) rfl (Nat.le_of_ble_eq_true rfl) (fun r1 h2 p3 => ?_)
  obtain ⟨rfl, w4⟩ := p3
  refine J_w w4 ?_
  refine J_if_ne (tgt := 11) dX10_safe_6 (by decide) (fun q => absurd (by decide) q) (fun _ => ?_)
  refine J_iconst (v := (-1)) dX10_safe_9 (by decide) ?_
  exact J_iret hq dX10_safe_10 rfl (hkz rfl) (Nat.le_refl _) (Nat.le_refl _) ⟨rfl, rfl⟩
set_option maxHeartbeats 4000000 in
set_option maxRecDepth 100000 in
theorem c_X10_weighs0 {d : Nat} {h : List MC} {a0 a1 : Int32} (hd : 3 ≤ d) (h0 : h[0]? = some (.inr (10, [.ref 1, .ref 27, .ref 28, .ref 29, .ref 43, .ref 49, .ref 53, .ref 56, .ref 57, .ref 79]))) (h1 : h[1]? = some (.inr (7, [.ref 2, .int 0, .int 0, .int (-1), .ref 3, .int 0, .ref 4, .int 0])))  : CT con0 d 0 0 yX10_weighs cX10_weighs 3 (some .int) [.ref 0, .int a0, .int a1] h (fun r h2 => r = some (.int (-1)) ∧ h2 = h) := by
  refine CT_of (by decide) (Nat.le_of_ble_eq_true rfl) (fun x hq => ?_)
  show J x yX10_weighs cX10_weighs 3 (some .int) d 0 0 h.length 0 [(0, .ref 0), (1, .int a0), (2, .int a1)] [] h 0 0
  refine J_aload_n (i := 0) (j := 0) dX10_weighs_0 rfl rfl ?_
  refine J_iload_n (i := 1) (j := 1) dX10_weighs_1 rfl rfl ?_
  refine J_iload_n (i := 2) (j := 2) dX10_weighs_2 rfl rfl ?_
  refine J_callV (As := [.int a0, .int a1]) (rest := []) dX10_weighs_3 (c_X10_lays0 (d := 1) (h := h)  (by decide) h0 h1 ) hq.n k723 k725 k12 h0 rfl rfl k87 k726 np_X10_lays (Nat.le_trans (by decide) hd) (by decide) (Nat.le_refl _) (Nat.le_refl _) (hkz rfl) rfl (Nat.le_of_ble_eq_true rfl) (fun r1 h2 p3 => ?_)
  obtain ⟨rfl, w4⟩ := p3
  refine J_w w4 ?_
  refine J_if_eq (tgt := 26) dX10_weighs_6 (by decide) (fun _ => ?_) (fun q => absurd (by decide) q)
  refine J_iconst (v := (-1)) dX10_weighs_26 (by decide) ?_
  exact J_iret hq dX10_weighs_27 rfl (hkz rfl) (Nat.le_refl _) (Nat.le_refl _) ⟨rfl, rfl⟩
set_option maxHeartbeats 4000000 in
set_option maxRecDepth 100000 in
theorem c_X10_upon0 {d : Nat} {h : List MC} {a0 a1 a2 a3 : Int32} (hd : 3 ≤ d) (h0 : h[0]? = some (.inr (10, [.ref 1, .ref 27, .ref 28, .ref 29, .ref 43, .ref 49, .ref 53, .ref 56, .ref 57, .ref 79]))) (h1 : h[1]? = some (.inr (7, [.ref 2, .int 0, .int 0, .int (-1), .ref 3, .int 0, .ref 4, .int 0])))  : CT con0 d 0 0 yX10_upon cX10_upon 5 (some .int) [.ref 0, .int a0, .int a1, .int a2, .int a3] h (fun r h2 => r = some (.int (-1)) ∧ h2 = h) := by
  refine CT_of (by decide) (Nat.le_of_ble_eq_true rfl) (fun x hq => ?_)
  show J x yX10_upon cX10_upon 5 (some .int) d 0 0 h.length 0 [(0, .ref 0), (1, .int a0), (2, .int a1), (3, .int a2), (4, .int a3)] [] h 0 0
  refine J_aload_n (i := 0) (j := 0) dX10_upon_0 rfl rfl ?_
  refine J_iload_n (i := 1) (j := 1) dX10_upon_1 rfl rfl ?_
  refine J_iload_n (i := 2) (j := 2) dX10_upon_2 rfl rfl ?_
  refine J_iload_n (i := 3) (j := 3) dX10_upon_3 rfl rfl ?_
  refine J_callV (As := [.int a0, .int a1, .int a2]) (rest := []) dX10_upon_4 (c_X10_hasPond0 (d := 2) (h := h)  (by decide) h0 h1 ) hq.n k1005 k1007 k29 h0 rfl rfl k87 k1008 np_X10_hasPond (Nat.le_trans (by decide) hd) (by decide) (Nat.le_refl _) (Nat.le_refl _) (hkz rfl) rfl (Nat.le_of_ble_eq_true rfl) (fun r1 h2 p3 => ?_)
  obtain ⟨rfl, w4⟩ := p3
  refine J_w w4 ?_
  refine J_if_ne (tgt := 12) dX10_upon_7 (by decide) (fun q => absurd (by decide) q) (fun _ => ?_)
  refine J_iconst (v := (-1)) dX10_upon_10 (by decide) ?_
  exact J_iret hq dX10_upon_11 rfl (hkz rfl) (Nat.le_refl _) (Nat.le_refl _) ⟨rfl, rfl⟩
set_option maxHeartbeats 4000000 in
set_option maxRecDepth 100000 in
theorem c_X10_runs0 {d : Nat} {h : List MC} {a0 a1 a2 : Int32} (hd : 3 ≤ d) (h0 : h[0]? = some (.inr (10, [.ref 1, .ref 27, .ref 28, .ref 29, .ref 43, .ref 49, .ref 53, .ref 56, .ref 57, .ref 79]))) (h1 : h[1]? = some (.inr (7, [.ref 2, .int 0, .int 0, .int (-1), .ref 3, .int 0, .ref 4, .int 0])))  : CT con0 d 0 0 yX10_runs cX10_runs 5 (some .int) [.ref 0, .int a0, .int a1, .int a2] h (fun r h2 => r = some (.int (-1)) ∧ h2 = h) := by
  refine CT_of (by decide) (Nat.le_of_ble_eq_true rfl) (fun x hq => ?_)
  show J x yX10_runs cX10_runs 5 (some .int) d 0 0 h.length 0 [(0, .ref 0), (1, .int a0), (2, .int a1), (3, .int a2)] [] h 0 0
  refine J_aload_n (i := 0) (j := 0) dX10_runs_0 rfl rfl ?_
  refine J_iload_n (i := 1) (j := 1) dX10_runs_1 rfl rfl ?_
  refine J_iload_n (i := 2) (j := 2) dX10_runs_2 rfl rfl ?_
  refine J_iload_n (i := 3) (j := 3) dX10_runs_3 rfl rfl ?_
  refine J_callV (As := [.int a0, .int a1, .int a2]) (rest := []) dX10_runs_4 (c_X10_hasPond0 (d := 2) (h := h)  (by decide) h0 h1 ) hq.n k1005 k1007 k29 h0 rfl rfl k87 k1008 np_X10_hasPond (Nat.le_trans (by decide) hd) (by decide) (Nat.le_refl _) (Nat.le_refl _) (hkz rfl) rfl (Nat.le_of_ble_eq_true rfl) (fun r1 h2 p3 => ?_)
  obtain ⟨rfl, w4⟩ := p3
  refine J_w w4 ?_
  refine J_if_ne (tgt := 12) dX10_runs_7 (by decide) (fun q => absurd (by decide) q) (fun _ => ?_)
  refine J_iconst (v := (-1)) dX10_runs_10 (by decide) ?_
  exact J_iret hq dX10_runs_11 rfl (hkz rfl) (Nat.le_refl _) (Nat.le_refl _) ⟨rfl, rfl⟩
set_option maxHeartbeats 4000000 in
set_option maxRecDepth 100000 in
theorem c_X10_joint0 {d : Nat} {h : List MC} {a0 a1 a2 a3 : Int32} (hd : 3 ≤ d) (h0 : h[0]? = some (.inr (10, [.ref 1, .ref 27, .ref 28, .ref 29, .ref 43, .ref 49, .ref 53, .ref 56, .ref 57, .ref 79]))) (h1 : h[1]? = some (.inr (7, [.ref 2, .int 0, .int 0, .int (-1), .ref 3, .int 0, .ref 4, .int 0])))  : CT con0 d 0 0 yX10_joint cX10_joint 5 (some .long) [.ref 0, .int a0, .int a1, .int a2, .int a3] h (fun r h2 => r = some (.long (-1)) ∧ h2 = h) := by
  refine CT_of (by decide) (Nat.le_of_ble_eq_true rfl) (fun x hq => ?_)
  show J x yX10_joint cX10_joint 5 (some .long) d 0 0 h.length 0 [(0, .ref 0), (1, .int a0), (2, .int a1), (3, .int a2), (4, .int a3)] [] h 0 0
  refine J_aload_n (i := 0) (j := 0) dX10_joint_0 rfl rfl ?_
  refine J_iload_n (i := 1) (j := 1) dX10_joint_1 rfl rfl ?_
  refine J_iload_n (i := 2) (j := 2) dX10_joint_2 rfl rfl ?_
  refine J_callV (As := [.int a0, .int a1]) (rest := []) dX10_joint_3 (c_X10_looks0 (d := 2) (h := h)  (by decide) h0 h1 ) hq.n k852 k854 k23 h0 rfl rfl k87 k855 np_X10_looks (Nat.le_trans (by decide) hd) (by decide) (Nat.le_refl _) (Nat.le_refl _) (hkz rfl) rfl (Nat.le_of_ble_eq_true rfl) (fun r1 h2 p3 => ?_)
  obtain ⟨rfl, w4⟩ := p3
  refine J_w w4 ?_
  refine J_if_eq (tgt := 38) dX10_joint_6 (by decide) (fun _ => ?_) (fun q => absurd (by decide) q)
  refine J_ldc2 (v := (-1)) dX10_joint_38 k877 ?_
  exact J_lret hq dX10_joint_41 rfl (hkz rfl) (Nat.le_refl _) (Nat.le_refl _) ⟨rfl, rfl⟩
set_option maxHeartbeats 4000000 in
set_option maxRecDepth 100000 in
theorem c_X10_given0 {d : Nat} {h : List MC} {a0 a1 a2 a3 a4 : Int32} (hd : 3 ≤ d) (h0 : h[0]? = some (.inr (10, [.ref 1, .ref 27, .ref 28, .ref 29, .ref 43, .ref 49, .ref 53, .ref 56, .ref 57, .ref 79]))) (h1 : h[1]? = some (.inr (7, [.ref 2, .int 0, .int 0, .int (-1), .ref 3, .int 0, .ref 4, .int 0])))  : CT con0 d 0 0 yX10_given cX10_given 8 (some .long) [.ref 0, .int a0, .int a1, .int a2, .int a3, .int a4] h (fun r h2 => r = some (.long (-1)) ∧ h2 = h) := by
  refine CT_of (by decide) (Nat.le_of_ble_eq_true rfl) (fun x hq => ?_)
  show J x yX10_given cX10_given 8 (some .long) d 0 0 h.length 0 [(0, .ref 0), (1, .int a0), (2, .int a1), (3, .int a2), (4, .int a3), (5, .int a4)] [] h 0 0
  refine J_aload_n (i := 0) (j := 0) dX10_given_0 rfl rfl ?_
  refine J_iload_n (i := 1) (j := 1) dX10_given_1 rfl rfl ?_
  refine J_iload_n (i := 2) (j := 2) dX10_given_2 rfl rfl ?_
  refine J_callV (As := [.int a0, .int a1]) (rest := []) dX10_given_3 (c_X10_looks0 (d := 2) (h := h)  (by decide) h0 h1 ) hq.n k852 k854 k23 h0 rfl rfl k87 k855 np_X10_looks (Nat.le_trans (by decide) hd) (by decide) (Nat.le_refl _) (Nat.le_refl _) (hkz rfl) rfl (Nat.le_of_ble_eq_true rfl) (fun r1 h2 p3 => ?_)
  obtain ⟨rfl, w4⟩ := p3
  refine J_w w4 ?_
  refine J_if_eq (tgt := 38) dX10_given_6 (by decide) (fun _ => ?_) (fun q => absurd (by decide) q)
  refine J_ldc2 (v := (-1)) dX10_given_38 k877 ?_
  exact J_lret hq dX10_given_41 rfl (hkz rfl) (Nat.le_refl _) (Nat.le_refl _) ⟨rfl, rfl⟩
set_option maxHeartbeats 4000000 in
set_option maxRecDepth 100000 in
theorem c_X10_worst0 {d : Nat} {h : List MC} {a0 a1 a2 : Int32} (hd : 3 ≤ d) (h0 : h[0]? = some (.inr (10, [.ref 1, .ref 27, .ref 28, .ref 29, .ref 43, .ref 49, .ref 53, .ref 56, .ref 57, .ref 79]))) (h1 : h[1]? = some (.inr (7, [.ref 2, .int 0, .int 0, .int (-1), .ref 3, .int 0, .ref 4, .int 0])))  : CT con0 d 0 0 yX10_worst cX10_worst 4 (some .long) [.ref 0, .int a0, .int a1, .int a2] h (fun r h2 => r = some (.long (-1)) ∧ h2 = h) := by
  refine CT_of (by decide) (Nat.le_of_ble_eq_true rfl) (fun x hq => ?_)
  show J x yX10_worst cX10_worst 4 (some .long) d 0 0 h.length 0 [(0, .ref 0), (1, .int a0), (2, .int a1), (3, .int a2)] [] h 0 0
  refine J_aload_n (i := 0) (j := 0) dX10_worst_0 rfl rfl ?_
  refine J_iload_n (i := 1) (j := 1) dX10_worst_1 rfl rfl ?_
  refine J_iload_n (i := 2) (j := 2) dX10_worst_2 rfl rfl ?_
  refine J_callV (As := [.int a0, .int a1]) (rest := []) dX10_worst_3 (c_X10_looks0 (d := 2) (h := h)  (by decide) h0 h1 ) hq.n k852 k854 k23 h0 rfl rfl k87 k855 np_X10_looks (Nat.le_trans (by decide) hd) (by decide) (Nat.le_refl _) (Nat.le_refl _) (hkz rfl) rfl (Nat.le_of_ble_eq_true rfl) (fun r1 h2 p3 => ?_)
  obtain ⟨rfl, w4⟩ := p3
  refine J_w w4 ?_
  refine J_if_eq (tgt := 20) dX10_worst_6 (by decide) (fun _ => ?_) (fun q => absurd (by decide) q)
  refine J_ldc2 (v := (-1)) dX10_worst_20 k877 ?_
  exact J_lret hq dX10_worst_23 rfl (hkz rfl) (Nat.le_refl _) (Nat.le_refl _) ⟨rfl, rfl⟩
set_option maxHeartbeats 4000000 in
set_option maxRecDepth 100000 in
theorem c_X10_flood0 {d : Nat} {h : List MC} {a0 a1 : Int32} (hd : 3 ≤ d) (h0 : h[0]? = some (.inr (10, [.ref 1, .ref 27, .ref 28, .ref 29, .ref 43, .ref 49, .ref 53, .ref 56, .ref 57, .ref 79]))) (h1 : h[1]? = some (.inr (7, [.ref 2, .int 0, .int 0, .int (-1), .ref 3, .int 0, .ref 4, .int 0])))  : CT con0 d 0 0 yX10_flood cX10_flood 3 (some .int) [.ref 0, .int a0, .int a1] h (fun r h2 => r = some (.int (-1)) ∧ h2 = h) := by
  refine CT_of (by decide) (Nat.le_of_ble_eq_true rfl) (fun x hq => ?_)
  show J x yX10_flood cX10_flood 3 (some .int) d 0 0 h.length 0 [(0, .ref 0), (1, .int a0), (2, .int a1)] [] h 0 0
  refine J_aload_n (i := 0) (j := 0) dX10_flood_0 rfl rfl ?_
  refine J_iload_n (i := 1) (j := 1) dX10_flood_1 rfl rfl ?_
  refine J_iload_n (i := 2) (j := 2) dX10_flood_2 rfl rfl ?_
  refine J_callV (As := [.int a0, .int a1]) (rest := []) dX10_flood_3 (c_X10_looks0 (d := 2) (h := h)  (by decide) h0 h1 ) hq.n k852 k854 k23 h0 rfl rfl k87 k855 np_X10_looks (Nat.le_trans (by decide) hd) (by decide) (Nat.le_refl _) (Nat.le_refl _) (hkz rfl) rfl (Nat.le_of_ble_eq_true rfl) (fun r1 h2 p3 => ?_)
  obtain ⟨rfl, w4⟩ := p3
  refine J_w w4 ?_
  refine J_if_eq (tgt := 19) dX10_flood_6 (by decide) (fun _ => ?_) (fun q => absurd (by decide) q)
  refine J_iconst (v := (-1)) dX10_flood_19 (by decide) ?_
  exact J_iret hq dX10_flood_20 rfl (hkz rfl) (Nat.le_refl _) (Nat.le_refl _) ⟨rfl, rfl⟩
set_option maxHeartbeats 4000000 in
set_option maxRecDepth 100000 in
theorem c_X10_around0 {d : Nat} {h : List MC} {a0 a1 a2 : Int32} (hd : 3 ≤ d) (h0 : h[0]? = some (.inr (10, [.ref 1, .ref 27, .ref 28, .ref 29, .ref 43, .ref 49, .ref 53, .ref 56, .ref 57, .ref 79]))) (h1 : h[1]? = some (.inr (7, [.ref 2, .int 0, .int 0, .int (-1), .ref 3, .int 0, .ref 4, .int 0])))  : CT con0 d 0 0 yX10_around cX10_around 4 (some .int) [.ref 0, .int a0, .int a1, .int a2] h (fun r h2 => r = some (.int (-1)) ∧ h2 = h) := by
  refine CT_of (by decide) (Nat.le_of_ble_eq_true rfl) (fun x hq => ?_)
  show J x yX10_around cX10_around 4 (some .int) d 0 0 h.length 0 [(0, .ref 0), (1, .int a0), (2, .int a1), (3, .int a2)] [] h 0 0
  refine J_aload_n (i := 0) (j := 0) dX10_around_0 rfl rfl ?_
  refine J_iload_n (i := 1) (j := 1) dX10_around_1 rfl rfl ?_
  refine J_iload_n (i := 2) (j := 2) dX10_around_2 rfl rfl ?_
  refine J_callV (As := [.int a0, .int a1]) (rest := []) dX10_around_3 (c_X10_lays0 (d := 1) (h := h)  (by decide) h0 h1 ) hq.n k723 k725 k12 h0 rfl rfl k87 k726 np_X10_lays (Nat.le_trans (by decide) hd) (by decide) (Nat.le_refl _) (Nat.le_refl _) (hkz rfl) rfl (Nat.le_of_ble_eq_true rfl) (fun r1 h2 p3 => ?_)
  obtain ⟨rfl, w4⟩ := p3
  refine J_w w4 ?_
  refine J_if_ne (tgt := 11) dX10_around_6 (by decide) (fun q => absurd (by decide) q) (fun _ => ?_)
  refine J_iconst (v := (-1)) dX10_around_9 (by decide) ?_
  exact J_iret hq dX10_around_10 rfl (hkz rfl) (Nat.le_refl _) (Nat.le_refl _) ⟨rfl, rfl⟩
set_option maxHeartbeats 4000000 in
set_option maxRecDepth 100000 in
theorem c_X10_twice0 {d : Nat} {h : List MC} {a0 a1 a2 a3 a4 a5 a6 : Int32} (hd : 3 ≤ d) (h0 : h[0]? = some (.inr (10, [.ref 1, .ref 27, .ref 28, .ref 29, .ref 43, .ref 49, .ref 53, .ref 56, .ref 57, .ref 79]))) (h1 : h[1]? = some (.inr (7, [.ref 2, .int 0, .int 0, .int (-1), .ref 3, .int 0, .ref 4, .int 0])))  : CT con0 d 0 0 yX10_twice cX10_twice 8 (some .int) [.ref 0, .int a0, .int a1, .int a2, .int a3, .int a4, .int a5, .int a6] h (fun r h2 => r = some (.int (-1)) ∧ h2 = h) := by
  refine CT_of (by decide) (Nat.le_of_ble_eq_true rfl) (fun x hq => ?_)
  show J x yX10_twice cX10_twice 8 (some .int) d 0 0 h.length 0 [(0, .ref 0), (1, .int a0), (2, .int a1), (3, .int a2), (4, .int a3), (5, .int a4), (6, .int a5), (7, .int a6)] [] h 0 0
  refine J_aload_n (i := 0) (j := 0) dX10_twice_0 rfl rfl ?_
  refine J_iload_n (i := 1) (j := 1) dX10_twice_1 rfl rfl ?_
  refine J_iload_n (i := 2) (j := 2) dX10_twice_2 rfl rfl ?_
  refine J_callV (As := [.int a0, .int a1]) (rest := []) dX10_twice_3 (c_X10_lays0 (d := 1) (h := h)  (by decide) h0 h1 ) hq.n k723 k725 k12 h0 rfl rfl k87 k726 np_X10_lays (Nat.le_trans (by decide) hd) (by decide) (Nat.le_refl _) (Nat.le_refl _) (hkz rfl) rfl (Nat.le_of_ble_eq_true rfl) (fun r1 h2 p3 => ?_)
  obtain ⟨rfl, w4⟩ := p3
  refine J_w w4 ?_
  refine J_if_eq (tgt := 42) dX10_twice_6 (by decide) (fun _ => ?_) (fun q => absurd (by decide) q)
  refine J_iconst (v := (-1)) dX10_twice_42 (by decide) ?_
  exact J_iret hq dX10_twice_43 rfl (hkz rfl) (Nat.le_refl _) (Nat.le_refl _) ⟨rfl, rfl⟩
set_option maxHeartbeats 4000000 in
set_option maxRecDepth 100000 in
theorem c_X10_better0 {d : Nat} {h : List MC} {a0 a1 a2 : Int32} (hd : 3 ≤ d) (h0 : h[0]? = some (.inr (10, [.ref 1, .ref 27, .ref 28, .ref 29, .ref 43, .ref 49, .ref 53, .ref 56, .ref 57, .ref 79]))) (h1 : h[1]? = some (.inr (7, [.ref 2, .int 0, .int 0, .int (-1), .ref 3, .int 0, .ref 4, .int 0])))  : CT con0 d 0 0 yX10_better cX10_better 8 (some .int) [.ref 0, .int a0, .int a1, .int a2] h (fun r h2 => r = some (.int (-1)) ∧ h2 = h) := by
  refine CT_of (by decide) (Nat.le_of_ble_eq_true rfl) (fun x hq => ?_)
  show J x yX10_better cX10_better 8 (some .int) d 0 0 h.length 0 [(0, .ref 0), (1, .int a0), (2, .int a1), (3, .int a2)] [] h 0 0
  refine J_aload_n (i := 0) (j := 0) dX10_better_0 rfl rfl ?_
  refine J_iload_n (i := 1) (j := 1) dX10_better_1 rfl rfl ?_
  refine J_iload_n (i := 2) (j := 2) dX10_better_2 rfl rfl ?_
  refine J_callV (As := [.int a0, .int a1]) (rest := []) dX10_better_3 (c_X10_lays0 (d := 1) (h := h)  (by decide) h0 h1 ) hq.n k723 k725 k12 h0 rfl rfl k87 k726 np_X10_lays (Nat.le_trans (by decide) hd) (by decide) (Nat.le_refl _) (Nat.le_refl _) (hkz rfl) rfl (Nat.le_of_ble_eq_true rfl) (fun r1 h2 p3 => ?_)
  obtain ⟨rfl, w4⟩ := p3
  refine J_w w4 ?_
  refine J_if_ne (tgt := 11) dX10_better_6 (by decide) (fun q => absurd (by decide) q) (fun _ => ?_)
  refine J_iconst (v := (-1)) dX10_better_9 (by decide) ?_
  exact J_iret hq dX10_better_10 rfl (hkz rfl) (Nat.le_refl _) (Nat.le_refl _) ⟨rfl, rfl⟩
set_option maxHeartbeats 4000000 in
set_option maxRecDepth 100000 in
theorem c_X10_spend0 {d : Nat} {h : List MC} {a0 a1 a2 a3 : Int32} (hd : 3 ≤ d) (h0 : h[0]? = some (.inr (10, [.ref 1, .ref 27, .ref 28, .ref 29, .ref 43, .ref 49, .ref 53, .ref 56, .ref 57, .ref 79]))) (h1 : h[1]? = some (.inr (7, [.ref 2, .int 0, .int 0, .int (-1), .ref 3, .int 0, .ref 4, .int 0])))  : CT con0 d 0 0 yX10_spend cX10_spend 5 (some .int) [.ref 0, .int a0, .int a1, .int a2, .int a3] h (fun r h2 => r = some (.int (-1)) ∧ h2 = h) := by
  refine CT_of (by decide) (Nat.le_of_ble_eq_true rfl) (fun x hq => ?_)
  show J x yX10_spend cX10_spend 5 (some .int) d 0 0 h.length 0 [(0, .ref 0), (1, .int a0), (2, .int a1), (3, .int a2), (4, .int a3)] [] h 0 0
  refine J_aload_n (i := 0) (j := 0) dX10_spend_0 rfl rfl ?_
  refine J_iload_n (i := 1) (j := 1) dX10_spend_1 rfl rfl ?_
  refine J_iload_n (i := 2) (j := 2) dX10_spend_2 rfl rfl ?_
  refine J_iload_n (i := 3) (j := 3) dX10_spend_3 rfl rfl ?_
  refine J_iload (i := 4) (j := 4) dX10_spend_4 rfl ?_
  refine J_bipush (v := 100) dX10_spend_6 (by decide) ?_
  refine J_callV (As := [.int a0, .int a1, .int a2, .int a3, .int 100]) (rest := []) dX10_spend_8 (c_X10_canMend0 (d := 2) (h := h)  (by decide) h0 h1 ) hq.n k938 k940 k26 h0 rfl rfl k87 k941 np_X10_canMend (Nat.le_trans (by decide) hd) (by decide) (Nat.le_refl _) (Nat.le_refl _) (hkz rfl) rfl (Nat.le_of_ble_eq_true rfl) (fun r1 h2 p3 => ?_)
  obtain ⟨rfl, w4⟩ := p3
  refine J_w w4 ?_
  refine J_if_eq (tgt := 34) dX10_spend_11 (by decide) (fun _ => ?_) (fun q => absurd (by decide) q)
  refine J_iconst (v := (-1)) dX10_spend_34 (by decide) ?_
  exact J_iret hq dX10_spend_35 rfl (hkz rfl) (Nat.le_refl _) (Nat.le_refl _) ⟨rfl, rfl⟩
end
section
theorem k1406 : Cond.methodLink RX11 78 yX11_in ∈ gt := gt_in 1406 (by decide +kernel) (by decide +kernel)
theorem k1407 : Cond.static yX11_in ∈ gt := gt_in 1407 (by decide +kernel) (by decide +kernel)
theorem k97 : Cond.initialized RX11 ∈ gt := gt_in 97 (by decide +kernel) (by decide +kernel)
theorem k1408 : Cond.code yX11_in cX11_in 3 (some .boolean) ∈ gt := gt_in 1408 (by decide +kernel) (by decide +kernel)
theorem np_X11_in : yX11_in.cls ≠ "java/lang/invoke/MethodHandle" ∧ yX11_in.cls ≠ "java/lang/invoke/VarHandle" ∧ (parseMethodDescriptor yX11_in.desc).map (fun d => d.parameters.length) = some 3 := by decide +kernel
theorem k1495 : Cond.methodLink RX11 205 yX11_isHill ∈ gt := gt_in 1495 (by decide +kernel) (by decide +kernel)
theorem k1497 : Cond.instanceMethod yX11_isHill ∈ gt := gt_in 1497 (by decide +kernel) (by decide +kernel)
theorem k51 : Cond.selects RX11 yX11_isHill yX11_isHill ∈ gt := gt_in 51 (by decide +kernel) (by decide +kernel)
theorem k1498 : Cond.code yX11_isHill cX11_isHill 2 (some .boolean) ∈ gt := gt_in 1498 (by decide +kernel) (by decide +kernel)
theorem np_X11_isHill : yX11_isHill.cls ≠ "java/lang/invoke/MethodHandle" ∧ yX11_isHill.cls ≠ "java/lang/invoke/VarHandle" ∧ (parseMethodDescriptor yX11_isHill.desc).map (fun d => d.parameters.length) = some 1 := by decide +kernel
theorem k1503 : Cond.methodLink RX11 240 yX11_lay ∈ gt := gt_in 1503 (by decide +kernel) (by decide +kernel)
theorem k1505 : Cond.instanceMethod yX11_lay ∈ gt := gt_in 1505 (by decide +kernel) (by decide +kernel)
theorem k52 : Cond.selects RX11 yX11_lay yX11_lay ∈ gt := gt_in 52 (by decide +kernel) (by decide +kernel)
theorem k1506 : Cond.code yX11_lay cX11_lay 5 (some .boolean) ∈ gt := gt_in 1506 (by decide +kernel) (by decide +kernel)
theorem np_X11_lay : yX11_lay.cls ≠ "java/lang/invoke/MethodHandle" ∧ yX11_lay.cls ≠ "java/lang/invoke/VarHandle" ∧ (parseMethodDescriptor yX11_lay.desc).map (fun d => d.parameters.length) = some 2 := by decide +kernel
theorem k1264 : Cond.fieldLink RX11 70 "PondStairModel" "code" "I" ∈ gt := gt_in 1264 (by decide +kernel) (by decide +kernel)
theorem k1507 : Cond.methodLink RX11 225 yX11_isPlan ∈ gt := gt_in 1507 (by decide +kernel) (by decide +kernel)
theorem k1509 : Cond.instanceMethod yX11_isPlan ∈ gt := gt_in 1509 (by decide +kernel) (by decide +kernel)
theorem k53 : Cond.selects RX11 yX11_isPlan yX11_isPlan ∈ gt := gt_in 53 (by decide +kernel) (by decide +kernel)
theorem k1510 : Cond.code yX11_isPlan cX11_isPlan 2 (some .boolean) ∈ gt := gt_in 1510 (by decide +kernel) (by decide +kernel)
theorem np_X11_isPlan : yX11_isPlan.cls ≠ "java/lang/invoke/MethodHandle" ∧ yX11_isPlan.cls ≠ "java/lang/invoke/VarHandle" ∧ (parseMethodDescriptor yX11_isPlan.desc).map (fun d => d.parameters.length) = some 1 := by decide +kernel
theorem k1578 : Cond.constantLong RX11 292 (-1) ∈ gt := gt_in 1578 (by decide +kernel) (by decide +kernel)
theorem k1615 : Cond.methodLink RX11 314 yX11_canMend ∈ gt := gt_in 1615 (by decide +kernel) (by decide +kernel)
theorem k1617 : Cond.instanceMethod yX11_canMend ∈ gt := gt_in 1617 (by decide +kernel) (by decide +kernel)
theorem k69 : Cond.selects RX11 yX11_canMend yX11_canMend ∈ gt := gt_in 69 (by decide +kernel) (by decide +kernel)
theorem k1618 : Cond.code yX11_canMend cX11_canMend 5 (some .boolean) ∈ gt := gt_in 1618 (by decide +kernel) (by decide +kernel)
theorem np_X11_canMend : yX11_canMend.cls ≠ "java/lang/invoke/MethodHandle" ∧ yX11_canMend.cls ≠ "java/lang/invoke/VarHandle" ∧ (parseMethodDescriptor yX11_canMend.desc).map (fun d => d.parameters.length) = some 4 := by decide +kernel
theorem k1674 : Cond.constantLong RX11 335 (-9223372036854775808) ∈ gt := gt_in 1674 (by decide +kernel) (by decide +kernel)
theorem k1679 : Cond.methodLink RX11 346 yX11_isFilled ∈ gt := gt_in 1679 (by decide +kernel) (by decide +kernel)
theorem k1681 : Cond.instanceMethod yX11_isFilled ∈ gt := gt_in 1681 (by decide +kernel) (by decide +kernel)
theorem k76 : Cond.selects RX11 yX11_isFilled yX11_isFilled ∈ gt := gt_in 76 (by decide +kernel) (by decide +kernel)
theorem k1682 : Cond.code yX11_isFilled cX11_isFilled 4 (some .boolean) ∈ gt := gt_in 1682 (by decide +kernel) (by decide +kernel)
theorem np_X11_isFilled : yX11_isFilled.cls ≠ "java/lang/invoke/MethodHandle" ∧ yX11_isFilled.cls ≠ "java/lang/invoke/VarHandle" ∧ (parseMethodDescriptor yX11_isFilled.desc).map (fun d => d.parameters.length) = some 3 := by decide +kernel
theorem dX11_alone_0 : decode cX11_alone 0 = .ok (.aload_n 0, 1) := by decide +kernel
theorem dX11_alone_1 : decode cX11_alone 1 = .ok (.iconst 0, 1) := by decide +kernel
theorem dX11_alone_2 : decode cX11_alone 2 = .ok (.putfield 70, 3) := by decide +kernel
theorem dX11_alone_5 : decode cX11_alone 5 = .ok (.aload_n 0, 1) := by decide +kernel
theorem dX11_alone_6 : decode cX11_alone 6 = .ok (.iload_n 1, 1) := by decide +kernel
theorem dX11_alone_7 : decode cX11_alone 7 = .ok (.iload_n 2, 1) := by decide +kernel
theorem dX11_alone_8 : decode cX11_alone 8 = .ok (.invokevirtual 240, 3) := by decide +kernel
theorem dX11_alone_11 : decode cX11_alone 11 = .ok (.ifCond .eq 10, 3) := by decide +kernel
theorem dX11_alone_21 : decode cX11_alone 21 = .ok (.ldc2_w 292, 3) := by decide +kernel
theorem dX11_alone_24 : decode cX11_alone 24 = .ok (.lreturn, 1) := by decide +kernel
theorem dX11_around_0 : decode cX11_around 0 = .ok (.aload_n 0, 1) := by decide +kernel
theorem dX11_around_1 : decode cX11_around 1 = .ok (.iconst 0, 1) := by decide +kernel
theorem dX11_around_2 : decode cX11_around 2 = .ok (.putfield 70, 3) := by decide +kernel
theorem dX11_around_5 : decode cX11_around 5 = .ok (.aload_n 0, 1) := by decide +kernel
theorem dX11_around_6 : decode cX11_around 6 = .ok (.iload_n 1, 1) := by decide +kernel
theorem dX11_around_7 : decode cX11_around 7 = .ok (.iload_n 2, 1) := by decide +kernel
theorem dX11_around_8 : decode cX11_around 8 = .ok (.invokevirtual 240, 3) := by decide +kernel
theorem dX11_around_11 : decode cX11_around 11 = .ok (.ifCond .ne 5, 3) := by decide +kernel
theorem dX11_around_14 : decode cX11_around 14 = .ok (.iconst (-1), 1) := by decide +kernel
theorem dX11_around_15 : decode cX11_around 15 = .ok (.ireturn, 1) := by decide +kernel
theorem dX11_best_0 : decode cX11_best 0 = .ok (.aload_n 0, 1) := by decide +kernel
theorem dX11_best_1 : decode cX11_best 1 = .ok (.iconst 0, 1) := by decide +kernel
theorem dX11_best_2 : decode cX11_best 2 = .ok (.putfield 70, 3) := by decide +kernel
theorem dX11_best_5 : decode cX11_best 5 = .ok (.aload_n 0, 1) := by decide +kernel
theorem dX11_best_6 : decode cX11_best 6 = .ok (.iload_n 1, 1) := by decide +kernel
theorem dX11_best_7 : decode cX11_best 7 = .ok (.iload_n 2, 1) := by decide +kernel
theorem dX11_best_8 : decode cX11_best 8 = .ok (.iload_n 3, 1) := by decide +kernel
theorem dX11_best_9 : decode cX11_best 9 = .ok (.iload 4, 2) := by decide +kernel
theorem dX11_best_11 : decode cX11_best 11 = .ok (.invokevirtual 314, 3) := by decide +kernel
theorem dX11_best_14 : decode cX11_best 14 = .ok (.ifCond .ne 5, 3) := by decide +kernel
theorem dX11_best_17 : decode cX11_best 17 = .ok (.iconst (-1), 1) := by decide +kernel
theorem dX11_best_18 : decode cX11_best 18 = .ok (.ireturn, 1) := by decide +kernel
theorem dX11_better_0 : decode cX11_better 0 = .ok (.aload_n 0, 1) := by decide +kernel
theorem dX11_better_1 : decode cX11_better 1 = .ok (.iconst 0, 1) := by decide +kernel
theorem dX11_better_2 : decode cX11_better 2 = .ok (.putfield 70, 3) := by decide +kernel
theorem dX11_better_5 : decode cX11_better 5 = .ok (.aload_n 0, 1) := by decide +kernel
theorem dX11_better_6 : decode cX11_better 6 = .ok (.iload_n 1, 1) := by decide +kernel
theorem dX11_better_7 : decode cX11_better 7 = .ok (.iload_n 2, 1) := by decide +kernel
theorem dX11_better_8 : decode cX11_better 8 = .ok (.invokevirtual 240, 3) := by decide +kernel
theorem dX11_better_11 : decode cX11_better 11 = .ok (.ifCond .ne 5, 3) := by decide +kernel
theorem dX11_better_14 : decode cX11_better 14 = .ok (.iconst (-1), 1) := by decide +kernel
theorem dX11_better_15 : decode cX11_better 15 = .ok (.ireturn, 1) := by decide +kernel
theorem dX11_brings_0 : decode cX11_brings 0 = .ok (.aload_n 0, 1) := by decide +kernel
theorem dX11_brings_1 : decode cX11_brings 1 = .ok (.iconst 0, 1) := by decide +kernel
theorem dX11_brings_2 : decode cX11_brings 2 = .ok (.putfield 70, 3) := by decide +kernel
theorem dX11_brings_5 : decode cX11_brings 5 = .ok (.aload_n 0, 1) := by decide +kernel
theorem dX11_brings_6 : decode cX11_brings 6 = .ok (.iload_n 1, 1) := by decide +kernel
theorem dX11_brings_7 : decode cX11_brings 7 = .ok (.iload_n 2, 1) := by decide +kernel
theorem dX11_brings_8 : decode cX11_brings 8 = .ok (.invokevirtual 240, 3) := by decide +kernel
theorem dX11_brings_11 : decode cX11_brings 11 = .ok (.ifCond .eq 20, 3) := by decide +kernel
theorem dX11_brings_31 : decode cX11_brings 31 = .ok (.iconst (-1), 1) := by decide +kernel
theorem dX11_brings_32 : decode cX11_brings 32 = .ok (.ireturn, 1) := by decide +kernel
theorem dX11_canMend_0 : decode cX11_canMend 0 = .ok (.aload_n 0, 1) := by decide +kernel
theorem dX11_canMend_1 : decode cX11_canMend 1 = .ok (.iload_n 1, 1) := by decide +kernel
theorem dX11_canMend_2 : decode cX11_canMend 2 = .ok (.iload_n 2, 1) := by decide +kernel
theorem dX11_canMend_3 : decode cX11_canMend 3 = .ok (.invokevirtual 240, 3) := by decide +kernel
theorem dX11_canMend_6 : decode cX11_canMend 6 = .ok (.ifCond .eq 31, 3) := by decide +kernel
theorem dX11_canMend_37 : decode cX11_canMend 37 = .ok (.iconst 0, 1) := by decide +kernel
theorem dX11_canMend_38 : decode cX11_canMend 38 = .ok (.ireturn, 1) := by decide +kernel
theorem dX11_deep_0 : decode cX11_deep 0 = .ok (.aload_n 0, 1) := by decide +kernel
theorem dX11_deep_1 : decode cX11_deep 1 = .ok (.iconst 0, 1) := by decide +kernel
theorem dX11_deep_2 : decode cX11_deep 2 = .ok (.putfield 70, 3) := by decide +kernel
theorem dX11_deep_5 : decode cX11_deep 5 = .ok (.aload_n 0, 1) := by decide +kernel
theorem dX11_deep_6 : decode cX11_deep 6 = .ok (.iload_n 1, 1) := by decide +kernel
theorem dX11_deep_7 : decode cX11_deep 7 = .ok (.iload_n 2, 1) := by decide +kernel
theorem dX11_deep_8 : decode cX11_deep 8 = .ok (.invokevirtual 240, 3) := by decide +kernel
theorem dX11_deep_11 : decode cX11_deep 11 = .ok (.ifCond .ne 5, 3) := by decide +kernel
theorem dX11_deep_14 : decode cX11_deep 14 = .ok (.iconst (-1), 1) := by decide +kernel
theorem dX11_deep_15 : decode cX11_deep 15 = .ok (.ireturn, 1) := by decide +kernel
theorem dX11_flood_0 : decode cX11_flood 0 = .ok (.aload_n 0, 1) := by decide +kernel
theorem dX11_flood_1 : decode cX11_flood 1 = .ok (.iconst 0, 1) := by decide +kernel
theorem dX11_flood_2 : decode cX11_flood 2 = .ok (.putfield 70, 3) := by decide +kernel
theorem dX11_flood_5 : decode cX11_flood 5 = .ok (.aload_n 0, 1) := by decide +kernel
theorem dX11_flood_6 : decode cX11_flood 6 = .ok (.iload_n 1, 1) := by decide +kernel
theorem dX11_flood_7 : decode cX11_flood 7 = .ok (.iload_n 2, 1) := by decide +kernel
theorem dX11_flood_8 : decode cX11_flood 8 = .ok (.invokevirtual 240, 3) := by decide +kernel
theorem dX11_flood_11 : decode cX11_flood 11 = .ok (.ifCond .ne 5, 3) := by decide +kernel
theorem dX11_flood_14 : decode cX11_flood 14 = .ok (.iconst (-1), 1) := by decide +kernel
theorem dX11_flood_15 : decode cX11_flood 15 = .ok (.ireturn, 1) := by decide +kernel
theorem dX11_given_0 : decode cX11_given 0 = .ok (.aload_n 0, 1) := by decide +kernel
theorem dX11_given_1 : decode cX11_given 1 = .ok (.iconst 0, 1) := by decide +kernel
theorem dX11_given_2 : decode cX11_given 2 = .ok (.putfield 70, 3) := by decide +kernel
theorem dX11_given_5 : decode cX11_given 5 = .ok (.aload_n 0, 1) := by decide +kernel
theorem dX11_given_6 : decode cX11_given 6 = .ok (.iload_n 1, 1) := by decide +kernel
theorem dX11_given_7 : decode cX11_given 7 = .ok (.iload_n 2, 1) := by decide +kernel
theorem dX11_given_8 : decode cX11_given 8 = .ok (.invokevirtual 240, 3) := by decide +kernel
theorem dX11_given_11 : decode cX11_given 11 = .ok (.ifCond .eq 20, 3) := by decide +kernel
theorem dX11_given_31 : decode cX11_given 31 = .ok (.ldc2_w 292, 3) := by decide +kernel
theorem dX11_given_34 : decode cX11_given 34 = .ok (.lreturn, 1) := by decide +kernel
theorem dX11_hear_0 : decode cX11_hear 0 = .ok (.aload_n 0, 1) := by decide +kernel
theorem dX11_hear_1 : decode cX11_hear 1 = .ok (.iconst 0, 1) := by decide +kernel
theorem dX11_hear_2 : decode cX11_hear 2 = .ok (.putfield 70, 3) := by decide +kernel
theorem dX11_hear_5 : decode cX11_hear 5 = .ok (.aload_n 0, 1) := by decide +kernel
theorem dX11_hear_6 : decode cX11_hear 6 = .ok (.iload_n 1, 1) := by decide +kernel
theorem dX11_hear_7 : decode cX11_hear 7 = .ok (.iload_n 2, 1) := by decide +kernel
theorem dX11_hear_8 : decode cX11_hear 8 = .ok (.invokevirtual 240, 3) := by decide +kernel
theorem dX11_hear_11 : decode cX11_hear 11 = .ok (.ifCond .eq 22, 3) := by decide +kernel
theorem dX11_hear_33 : decode cX11_hear 33 = .ok (.ldc2_w 335, 3) := by decide +kernel
theorem dX11_hear_36 : decode cX11_hear 36 = .ok (.lreturn, 1) := by decide +kernel
theorem dX11_helps_0 : decode cX11_helps 0 = .ok (.aload_n 0, 1) := by decide +kernel
theorem dX11_helps_1 : decode cX11_helps 1 = .ok (.iconst 0, 1) := by decide +kernel
theorem dX11_helps_2 : decode cX11_helps 2 = .ok (.putfield 70, 3) := by decide +kernel
theorem dX11_helps_5 : decode cX11_helps 5 = .ok (.aload_n 0, 1) := by decide +kernel
theorem dX11_helps_6 : decode cX11_helps 6 = .ok (.iload_n 1, 1) := by decide +kernel
theorem dX11_helps_7 : decode cX11_helps 7 = .ok (.iload_n 2, 1) := by decide +kernel
theorem dX11_helps_8 : decode cX11_helps 8 = .ok (.invokevirtual 240, 3) := by decide +kernel
theorem dX11_helps_11 : decode cX11_helps 11 = .ok (.ifCond .eq 18, 3) := by decide +kernel
theorem dX11_helps_29 : decode cX11_helps 29 = .ok (.ldc2_w 292, 3) := by decide +kernel
theorem dX11_helps_32 : decode cX11_helps 32 = .ok (.lreturn, 1) := by decide +kernel
theorem dX11_hill_0 : decode cX11_hill 0 = .ok (.aload_n 0, 1) := by decide +kernel
theorem dX11_hill_1 : decode cX11_hill 1 = .ok (.iconst 0, 1) := by decide +kernel
theorem dX11_hill_2 : decode cX11_hill 2 = .ok (.putfield 70, 3) := by decide +kernel
theorem dX11_hill_5 : decode cX11_hill 5 = .ok (.aload_n 0, 1) := by decide +kernel
theorem dX11_hill_6 : decode cX11_hill 6 = .ok (.iload_n 1, 1) := by decide +kernel
theorem dX11_hill_7 : decode cX11_hill 7 = .ok (.invokevirtual 205, 3) := by decide +kernel
theorem dX11_hill_10 : decode cX11_hill 10 = .ok (.ifCond .ne 5, 3) := by decide +kernel
theorem dX11_hill_13 : decode cX11_hill 13 = .ok (.iconst (-1), 1) := by decide +kernel
theorem dX11_hill_14 : decode cX11_hill 14 = .ok (.ireturn, 1) := by decide +kernel
theorem dX11_in_0 : decode cX11_in 0 = .ok (.iload_n 0, 1) := by decide +kernel
theorem dX11_in_1 : decode cX11_in 1 = .ok (.iload_n 1, 1) := by decide +kernel
theorem dX11_in_2 : decode cX11_in 2 = .ok (.if_icmp .lt 12, 3) := by decide +kernel
theorem dX11_in_5 : decode cX11_in 5 = .ok (.iload_n 0, 1) := by decide +kernel
theorem dX11_in_6 : decode cX11_in 6 = .ok (.iload_n 2, 1) := by decide +kernel
theorem dX11_in_7 : decode cX11_in 7 = .ok (.if_icmp .gt 7, 3) := by decide +kernel
theorem dX11_in_10 : decode cX11_in 10 = .ok (.iconst 1, 1) := by decide +kernel
theorem dX11_in_11 : decode cX11_in 11 = .ok (.goto 4, 3) := by decide +kernel
theorem dX11_in_14 : decode cX11_in 14 = .ok (.iconst 0, 1) := by decide +kernel
theorem dX11_in_15 : decode cX11_in 15 = .ok (.ireturn, 1) := by decide +kernel
theorem dX11_isFilled_0 : decode cX11_isFilled 0 = .ok (.aload_n 0, 1) := by decide +kernel
theorem dX11_isFilled_1 : decode cX11_isFilled 1 = .ok (.iload_n 1, 1) := by decide +kernel
theorem dX11_isFilled_2 : decode cX11_isFilled 2 = .ok (.iload_n 2, 1) := by decide +kernel
theorem dX11_isFilled_3 : decode cX11_isFilled 3 = .ok (.invokevirtual 240, 3) := by decide +kernel
theorem dX11_isFilled_6 : decode cX11_isFilled 6 = .ok (.ifCond .eq 27, 3) := by decide +kernel
theorem dX11_isFilled_33 : decode cX11_isFilled 33 = .ok (.iconst 0, 1) := by decide +kernel
theorem dX11_isFilled_34 : decode cX11_isFilled 34 = .ok (.ireturn, 1) := by decide +kernel
theorem dX11_isHill_0 : decode cX11_isHill 0 = .ok (.iload_n 1, 1) := by decide +kernel
theorem dX11_isHill_1 : decode cX11_isHill 1 = .ok (.iconst 0, 1) := by decide +kernel
theorem dX11_isHill_2 : decode cX11_isHill 2 = .ok (.aload_n 0, 1) := by decide +kernel
theorem dX11_isHill_3 : decode cX11_isHill 3 = .ok (.getfield 23, 3) := by decide +kernel
theorem dX11_isHill_6 : decode cX11_isHill 6 = .ok (.iconst 0, 1) := by decide +kernel
theorem dX11_isHill_7 : decode cX11_isHill 7 = .ok (.iaload, 1) := by decide +kernel
theorem dX11_isHill_8 : decode cX11_isHill 8 = .ok (.iconst 1, 1) := by decide +kernel
theorem dX11_isHill_9 : decode cX11_isHill 9 = .ok (.isub, 1) := by decide +kernel
theorem dX11_isHill_10 : decode cX11_isHill 10 = .ok (.invokestatic 78, 3) := by decide +kernel
theorem dX11_isHill_13 : decode cX11_isHill 13 = .ok (.ireturn, 1) := by decide +kernel
theorem dX11_isPlan_0 : decode cX11_isPlan 0 = .ok (.iload_n 1, 1) := by decide +kernel
theorem dX11_isPlan_1 : decode cX11_isPlan 1 = .ok (.iconst 0, 1) := by decide +kernel
theorem dX11_isPlan_2 : decode cX11_isPlan 2 = .ok (.aload_n 0, 1) := by decide +kernel
theorem dX11_isPlan_3 : decode cX11_isPlan 3 = .ok (.getfield 23, 3) := by decide +kernel
theorem dX11_isPlan_6 : decode cX11_isPlan 6 = .ok (.iconst 1, 1) := by decide +kernel
theorem dX11_isPlan_7 : decode cX11_isPlan 7 = .ok (.iaload, 1) := by decide +kernel
theorem dX11_isPlan_8 : decode cX11_isPlan 8 = .ok (.iconst 1, 1) := by decide +kernel
theorem dX11_isPlan_9 : decode cX11_isPlan 9 = .ok (.isub, 1) := by decide +kernel
theorem dX11_isPlan_10 : decode cX11_isPlan 10 = .ok (.invokestatic 78, 3) := by decide +kernel
theorem dX11_isPlan_13 : decode cX11_isPlan 13 = .ok (.ireturn, 1) := by decide +kernel
theorem dX11_joint_0 : decode cX11_joint 0 = .ok (.aload_n 0, 1) := by decide +kernel
theorem dX11_joint_1 : decode cX11_joint 1 = .ok (.iconst 0, 1) := by decide +kernel
theorem dX11_joint_2 : decode cX11_joint 2 = .ok (.putfield 70, 3) := by decide +kernel
theorem dX11_joint_5 : decode cX11_joint 5 = .ok (.aload_n 0, 1) := by decide +kernel
theorem dX11_joint_6 : decode cX11_joint 6 = .ok (.iload_n 1, 1) := by decide +kernel
theorem dX11_joint_7 : decode cX11_joint 7 = .ok (.iload_n 2, 1) := by decide +kernel
theorem dX11_joint_8 : decode cX11_joint 8 = .ok (.invokevirtual 240, 3) := by decide +kernel
theorem dX11_joint_11 : decode cX11_joint 11 = .ok (.ifCond .eq 35, 3) := by decide +kernel
theorem dX11_joint_46 : decode cX11_joint 46 = .ok (.ldc2_w 292, 3) := by decide +kernel
theorem dX11_joint_49 : decode cX11_joint 49 = .ok (.lreturn, 1) := by decide +kernel
theorem dX11_lay_0 : decode cX11_lay 0 = .ok (.aload_n 0, 1) := by decide +kernel
theorem dX11_lay_1 : decode cX11_lay 1 = .ok (.iload_n 1, 1) := by decide +kernel
theorem dX11_lay_2 : decode cX11_lay 2 = .ok (.invokevirtual 205, 3) := by decide +kernel
theorem dX11_lay_5 : decode cX11_lay 5 = .ok (.ifCond .eq 16, 3) := by decide +kernel
theorem dX11_lay_21 : decode cX11_lay 21 = .ok (.iconst 0, 1) := by decide +kernel
theorem dX11_lay_22 : decode cX11_lay 22 = .ok (.ireturn, 1) := by decide +kernel
theorem dX11_likely_0 : decode cX11_likely 0 = .ok (.aload_n 0, 1) := by decide +kernel
theorem dX11_likely_1 : decode cX11_likely 1 = .ok (.iconst 0, 1) := by decide +kernel
theorem dX11_likely_2 : decode cX11_likely 2 = .ok (.putfield 70, 3) := by decide +kernel
theorem dX11_likely_5 : decode cX11_likely 5 = .ok (.aload_n 0, 1) := by decide +kernel
theorem dX11_likely_6 : decode cX11_likely 6 = .ok (.iload_n 1, 1) := by decide +kernel
theorem dX11_likely_7 : decode cX11_likely 7 = .ok (.iload_n 2, 1) := by decide +kernel
theorem dX11_likely_8 : decode cX11_likely 8 = .ok (.invokevirtual 240, 3) := by decide +kernel
theorem dX11_likely_11 : decode cX11_likely 11 = .ok (.ifCond .eq 16, 3) := by decide +kernel
theorem dX11_likely_27 : decode cX11_likely 27 = .ok (.ldc2_w 292, 3) := by decide +kernel
theorem dX11_likely_30 : decode cX11_likely 30 = .ok (.lreturn, 1) := by decide +kernel
theorem dX11_low_0 : decode cX11_low 0 = .ok (.aload_n 0, 1) := by decide +kernel
theorem dX11_low_1 : decode cX11_low 1 = .ok (.iconst 0, 1) := by decide +kernel
theorem dX11_low_2 : decode cX11_low 2 = .ok (.putfield 70, 3) := by decide +kernel
theorem dX11_low_5 : decode cX11_low 5 = .ok (.aload_n 0, 1) := by decide +kernel
theorem dX11_low_6 : decode cX11_low 6 = .ok (.iload_n 1, 1) := by decide +kernel
theorem dX11_low_7 : decode cX11_low 7 = .ok (.iload_n 2, 1) := by decide +kernel
theorem dX11_low_8 : decode cX11_low 8 = .ok (.invokevirtual 240, 3) := by decide +kernel
theorem dX11_low_11 : decode cX11_low 11 = .ok (.ifCond .eq 11, 3) := by decide +kernel
theorem dX11_low_22 : decode cX11_low 22 = .ok (.iconst (-1), 1) := by decide +kernel
theorem dX11_low_23 : decode cX11_low 23 = .ok (.ireturn, 1) := by decide +kernel
theorem dX11_may_0 : decode cX11_may 0 = .ok (.aload_n 0, 1) := by decide +kernel
theorem dX11_may_1 : decode cX11_may 1 = .ok (.iconst 0, 1) := by decide +kernel
theorem dX11_may_2 : decode cX11_may 2 = .ok (.putfield 70, 3) := by decide +kernel
theorem dX11_may_5 : decode cX11_may 5 = .ok (.aload_n 0, 1) := by decide +kernel
theorem dX11_may_6 : decode cX11_may 6 = .ok (.iload_n 1, 1) := by decide +kernel
theorem dX11_may_7 : decode cX11_may 7 = .ok (.iload_n 2, 1) := by decide +kernel
theorem dX11_may_8 : decode cX11_may 8 = .ok (.iload_n 3, 1) := by decide +kernel
theorem dX11_may_9 : decode cX11_may 9 = .ok (.invokevirtual 346, 3) := by decide +kernel
theorem dX11_may_12 : decode cX11_may 12 = .ok (.ifCond .ne 7, 3) := by decide +kernel
theorem dX11_may_15 : decode cX11_may 15 = .ok (.ldc2_w 292, 3) := by decide +kernel
theorem dX11_may_18 : decode cX11_may 18 = .ok (.lreturn, 1) := by decide +kernel
theorem dX11_mean_0 : decode cX11_mean 0 = .ok (.aload_n 0, 1) := by decide +kernel
theorem dX11_mean_1 : decode cX11_mean 1 = .ok (.iconst 0, 1) := by decide +kernel
theorem dX11_mean_2 : decode cX11_mean 2 = .ok (.putfield 70, 3) := by decide +kernel
theorem dX11_mean_5 : decode cX11_mean 5 = .ok (.aload_n 0, 1) := by decide +kernel
theorem dX11_mean_6 : decode cX11_mean 6 = .ok (.iload_n 1, 1) := by decide +kernel
theorem dX11_mean_7 : decode cX11_mean 7 = .ok (.iload_n 2, 1) := by decide +kernel
theorem dX11_mean_8 : decode cX11_mean 8 = .ok (.invokevirtual 240, 3) := by decide +kernel
theorem dX11_mean_11 : decode cX11_mean 11 = .ok (.ifCond .eq 23, 3) := by decide +kernel
theorem dX11_mean_34 : decode cX11_mean 34 = .ok (.ldc2_w 292, 3) := by decide +kernel
theorem dX11_mean_37 : decode cX11_mean 37 = .ok (.lreturn, 1) := by decide +kernel
theorem dX11_mended_0 : decode cX11_mended 0 = .ok (.aload_n 0, 1) := by decide +kernel
theorem dX11_mended_1 : decode cX11_mended 1 = .ok (.iconst 0, 1) := by decide +kernel
theorem dX11_mended_2 : decode cX11_mended 2 = .ok (.putfield 70, 3) := by decide +kernel
theorem dX11_mended_5 : decode cX11_mended 5 = .ok (.aload_n 0, 1) := by decide +kernel
theorem dX11_mended_6 : decode cX11_mended 6 = .ok (.iload_n 1, 1) := by decide +kernel
theorem dX11_mended_7 : decode cX11_mended 7 = .ok (.iload_n 2, 1) := by decide +kernel
theorem dX11_mended_8 : decode cX11_mended 8 = .ok (.invokevirtual 240, 3) := by decide +kernel
theorem dX11_mended_11 : decode cX11_mended 11 = .ok (.ifCond .eq 11, 3) := by decide +kernel
theorem dX11_mended_22 : decode cX11_mended 22 = .ok (.ldc2_w 292, 3) := by decide +kernel
theorem dX11_mended_25 : decode cX11_mended 25 = .ok (.lreturn, 1) := by decide +kernel
theorem dX11_now_0 : decode cX11_now 0 = .ok (.aload_n 0, 1) := by decide +kernel
theorem dX11_now_1 : decode cX11_now 1 = .ok (.iconst 0, 1) := by decide +kernel
theorem dX11_now_2 : decode cX11_now 2 = .ok (.putfield 70, 3) := by decide +kernel
theorem dX11_now_5 : decode cX11_now 5 = .ok (.aload_n 0, 1) := by decide +kernel
theorem dX11_now_6 : decode cX11_now 6 = .ok (.iload_n 1, 1) := by decide +kernel
theorem dX11_now_7 : decode cX11_now 7 = .ok (.iload_n 2, 1) := by decide +kernel
theorem dX11_now_8 : decode cX11_now 8 = .ok (.invokevirtual 240, 3) := by decide +kernel
theorem dX11_now_11 : decode cX11_now 11 = .ok (.ifCond .ne 5, 3) := by decide +kernel
theorem dX11_now_14 : decode cX11_now 14 = .ok (.iconst (-1), 1) := by decide +kernel
theorem dX11_now_15 : decode cX11_now 15 = .ok (.ireturn, 1) := by decide +kernel
theorem dX11_one_0 : decode cX11_one 0 = .ok (.aload_n 0, 1) := by decide +kernel
theorem dX11_one_1 : decode cX11_one 1 = .ok (.iconst 0, 1) := by decide +kernel
theorem dX11_one_2 : decode cX11_one 2 = .ok (.putfield 70, 3) := by decide +kernel
theorem dX11_one_5 : decode cX11_one 5 = .ok (.aload_n 0, 1) := by decide +kernel
theorem dX11_one_6 : decode cX11_one 6 = .ok (.iload_n 1, 1) := by decide +kernel
theorem dX11_one_7 : decode cX11_one 7 = .ok (.iload_n 2, 1) := by decide +kernel
theorem dX11_one_8 : decode cX11_one 8 = .ok (.invokevirtual 240, 3) := by decide +kernel
theorem dX11_one_11 : decode cX11_one 11 = .ok (.ifCond .eq 10, 3) := by decide +kernel
theorem dX11_one_21 : decode cX11_one 21 = .ok (.ldc2_w 292, 3) := by decide +kernel
theorem dX11_one_24 : decode cX11_one 24 = .ok (.lreturn, 1) := by decide +kernel
theorem dX11_order_0 : decode cX11_order 0 = .ok (.aload_n 0, 1) := by decide +kernel
theorem dX11_order_1 : decode cX11_order 1 = .ok (.iconst 0, 1) := by decide +kernel
theorem dX11_order_2 : decode cX11_order 2 = .ok (.putfield 70, 3) := by decide +kernel
theorem dX11_order_5 : decode cX11_order 5 = .ok (.aload_n 0, 1) := by decide +kernel
theorem dX11_order_6 : decode cX11_order 6 = .ok (.iload_n 1, 1) := by decide +kernel
theorem dX11_order_7 : decode cX11_order 7 = .ok (.iload_n 2, 1) := by decide +kernel
theorem dX11_order_8 : decode cX11_order 8 = .ok (.iload_n 3, 1) := by decide +kernel
theorem dX11_order_9 : decode cX11_order 9 = .ok (.invokevirtual 346, 3) := by decide +kernel
theorem dX11_order_12 : decode cX11_order 12 = .ok (.ifCond .eq 18, 3) := by decide +kernel
theorem dX11_order_30 : decode cX11_order 30 = .ok (.iconst (-1), 1) := by decide +kernel
theorem dX11_order_31 : decode cX11_order 31 = .ok (.ireturn, 1) := by decide +kernel
theorem dX11_plan_0 : decode cX11_plan 0 = .ok (.aload_n 0, 1) := by decide +kernel
theorem dX11_plan_1 : decode cX11_plan 1 = .ok (.iconst 0, 1) := by decide +kernel
theorem dX11_plan_2 : decode cX11_plan 2 = .ok (.putfield 70, 3) := by decide +kernel
theorem dX11_plan_5 : decode cX11_plan 5 = .ok (.aload_n 0, 1) := by decide +kernel
theorem dX11_plan_6 : decode cX11_plan 6 = .ok (.iload_n 2, 1) := by decide +kernel
theorem dX11_plan_7 : decode cX11_plan 7 = .ok (.invokevirtual 225, 3) := by decide +kernel
theorem dX11_plan_10 : decode cX11_plan 10 = .ok (.ifCond .eq 12, 3) := by decide +kernel
theorem dX11_plan_22 : decode cX11_plan 22 = .ok (.iconst (-1), 1) := by decide +kernel
theorem dX11_plan_23 : decode cX11_plan 23 = .ok (.ireturn, 1) := by decide +kernel
theorem dX11_pond_0 : decode cX11_pond 0 = .ok (.aload_n 0, 1) := by decide +kernel
theorem dX11_pond_1 : decode cX11_pond 1 = .ok (.iconst 0, 1) := by decide +kernel
theorem dX11_pond_2 : decode cX11_pond 2 = .ok (.putfield 70, 3) := by decide +kernel
theorem dX11_pond_5 : decode cX11_pond 5 = .ok (.aload_n 0, 1) := by decide +kernel
theorem dX11_pond_6 : decode cX11_pond 6 = .ok (.iload_n 1, 1) := by decide +kernel
theorem dX11_pond_7 : decode cX11_pond 7 = .ok (.iload_n 2, 1) := by decide +kernel
theorem dX11_pond_8 : decode cX11_pond 8 = .ok (.invokevirtual 240, 3) := by decide +kernel
theorem dX11_pond_11 : decode cX11_pond 11 = .ok (.ifCond .eq 32, 3) := by decide +kernel
theorem dX11_pond_43 : decode cX11_pond 43 = .ok (.bipush (-2), 2) := by decide +kernel
theorem dX11_pond_45 : decode cX11_pond 45 = .ok (.ireturn, 1) := by decide +kernel
theorem dX11_rows_0 : decode cX11_rows 0 = .ok (.aload_n 0, 1) := by decide +kernel
theorem dX11_rows_1 : decode cX11_rows 1 = .ok (.iconst 0, 1) := by decide +kernel
theorem dX11_rows_2 : decode cX11_rows 2 = .ok (.putfield 70, 3) := by decide +kernel
theorem dX11_rows_5 : decode cX11_rows 5 = .ok (.aload_n 0, 1) := by decide +kernel
theorem dX11_rows_6 : decode cX11_rows 6 = .ok (.iload_n 1, 1) := by decide +kernel
theorem dX11_rows_7 : decode cX11_rows 7 = .ok (.iload_n 2, 1) := by decide +kernel
theorem dX11_rows_8 : decode cX11_rows 8 = .ok (.invokevirtual 240, 3) := by decide +kernel
theorem dX11_rows_11 : decode cX11_rows 11 = .ok (.ifCond .ne 7, 3) := by decide +kernel
theorem dX11_rows_14 : decode cX11_rows 14 = .ok (.ldc2_w 292, 3) := by decide +kernel
theorem dX11_rows_17 : decode cX11_rows 17 = .ok (.lreturn, 1) := by decide +kernel
theorem dX11_runs_0 : decode cX11_runs 0 = .ok (.aload_n 0, 1) := by decide +kernel
theorem dX11_runs_1 : decode cX11_runs 1 = .ok (.iconst 0, 1) := by decide +kernel
theorem dX11_runs_2 : decode cX11_runs 2 = .ok (.putfield 70, 3) := by decide +kernel
theorem dX11_runs_5 : decode cX11_runs 5 = .ok (.aload_n 0, 1) := by decide +kernel
theorem dX11_runs_6 : decode cX11_runs 6 = .ok (.iload_n 1, 1) := by decide +kernel
theorem dX11_runs_7 : decode cX11_runs 7 = .ok (.iload_n 2, 1) := by decide +kernel
theorem dX11_runs_8 : decode cX11_runs 8 = .ok (.invokevirtual 240, 3) := by decide +kernel
theorem dX11_runs_11 : decode cX11_runs 11 = .ok (.ifCond .eq 11, 3) := by decide +kernel
theorem dX11_runs_22 : decode cX11_runs 22 = .ok (.iconst (-1), 1) := by decide +kernel
theorem dX11_runs_23 : decode cX11_runs 23 = .ok (.ireturn, 1) := by decide +kernel
theorem dX11_safe_0 : decode cX11_safe 0 = .ok (.aload_n 0, 1) := by decide +kernel
theorem dX11_safe_1 : decode cX11_safe 1 = .ok (.iconst 0, 1) := by decide +kernel
theorem dX11_safe_2 : decode cX11_safe 2 = .ok (.putfield 70, 3) := by decide +kernel
theorem dX11_safe_5 : decode cX11_safe 5 = .ok (.aload_n 0, 1) := by decide +kernel
theorem dX11_safe_6 : decode cX11_safe 6 = .ok (.iload_n 1, 1) := by decide +kernel
theorem dX11_safe_7 : decode cX11_safe 7 = .ok (.iload_n 2, 1) := by decide +kernel
theorem dX11_safe_8 : decode cX11_safe 8 = .ok (.invokevirtual 240, 3) := by decide +kernel
theorem dX11_safe_11 : decode cX11_safe 11 = .ok (.ifCond .ne 5, 3) := by decide +kernel
theorem dX11_safe_14 : decode cX11_safe 14 = .ok (.iconst (-1), 1) := by decide +kernel
theorem dX11_safe_15 : decode cX11_safe 15 = .ok (.ireturn, 1) := by decide +kernel
theorem dX11_spared_0 : decode cX11_spared 0 = .ok (.aload_n 0, 1) := by decide +kernel
theorem dX11_spared_1 : decode cX11_spared 1 = .ok (.iconst 0, 1) := by decide +kernel
theorem dX11_spared_2 : decode cX11_spared 2 = .ok (.putfield 70, 3) := by decide +kernel
theorem dX11_spared_5 : decode cX11_spared 5 = .ok (.aload_n 0, 1) := by decide +kernel
theorem dX11_spared_6 : decode cX11_spared 6 = .ok (.iload_n 1, 1) := by decide +kernel
theorem dX11_spared_7 : decode cX11_spared 7 = .ok (.iload_n 2, 1) := by decide +kernel
theorem dX11_spared_8 : decode cX11_spared 8 = .ok (.invokevirtual 240, 3) := by decide +kernel
theorem dX11_spared_11 : decode cX11_spared 11 = .ok (.ifCond .eq 11, 3) := by decide +kernel
theorem dX11_spared_22 : decode cX11_spared 22 = .ok (.iconst (-1), 1) := by decide +kernel
theorem dX11_spared_23 : decode cX11_spared 23 = .ok (.ireturn, 1) := by decide +kernel
theorem dX11_spend_0 : decode cX11_spend 0 = .ok (.aload_n 0, 1) := by decide +kernel
theorem dX11_spend_1 : decode cX11_spend 1 = .ok (.iconst 0, 1) := by decide +kernel
theorem dX11_spend_2 : decode cX11_spend 2 = .ok (.putfield 70, 3) := by decide +kernel
theorem dX11_spend_5 : decode cX11_spend 5 = .ok (.aload_n 0, 1) := by decide +kernel
theorem dX11_spend_6 : decode cX11_spend 6 = .ok (.iload_n 1, 1) := by decide +kernel
theorem dX11_spend_7 : decode cX11_spend 7 = .ok (.iload_n 2, 1) := by decide +kernel
theorem dX11_spend_8 : decode cX11_spend 8 = .ok (.iload_n 3, 1) := by decide +kernel
theorem dX11_spend_9 : decode cX11_spend 9 = .ok (.iconst 0, 1) := by decide +kernel
theorem dX11_spend_10 : decode cX11_spend 10 = .ok (.invokevirtual 314, 3) := by decide +kernel
theorem dX11_spend_13 : decode cX11_spend 13 = .ok (.ifCond .eq 14, 3) := by decide +kernel
theorem dX11_spend_27 : decode cX11_spend 27 = .ok (.iconst (-1), 1) := by decide +kernel
theorem dX11_spend_28 : decode cX11_spend 28 = .ok (.ireturn, 1) := by decide +kernel
theorem dX11_steps_0 : decode cX11_steps 0 = .ok (.aload_n 0, 1) := by decide +kernel
theorem dX11_steps_1 : decode cX11_steps 1 = .ok (.iconst 0, 1) := by decide +kernel
theorem dX11_steps_2 : decode cX11_steps 2 = .ok (.putfield 70, 3) := by decide +kernel
theorem dX11_steps_5 : decode cX11_steps 5 = .ok (.aload_n 0, 1) := by decide +kernel
theorem dX11_steps_6 : decode cX11_steps 6 = .ok (.iload_n 1, 1) := by decide +kernel
theorem dX11_steps_7 : decode cX11_steps 7 = .ok (.iload_n 2, 1) := by decide +kernel
theorem dX11_steps_8 : decode cX11_steps 8 = .ok (.iload_n 3, 1) := by decide +kernel
theorem dX11_steps_9 : decode cX11_steps 9 = .ok (.iload 4, 2) := by decide +kernel
theorem dX11_steps_11 : decode cX11_steps 11 = .ok (.invokevirtual 314, 3) := by decide +kernel
theorem dX11_steps_14 : decode cX11_steps 14 = .ok (.ifCond .ne 5, 3) := by decide +kernel
theorem dX11_steps_17 : decode cX11_steps 17 = .ok (.iconst (-1), 1) := by decide +kernel
theorem dX11_steps_18 : decode cX11_steps 18 = .ok (.ireturn, 1) := by decide +kernel
theorem dX11_storm_0 : decode cX11_storm 0 = .ok (.aload_n 0, 1) := by decide +kernel
theorem dX11_storm_1 : decode cX11_storm 1 = .ok (.iconst 0, 1) := by decide +kernel
theorem dX11_storm_2 : decode cX11_storm 2 = .ok (.putfield 70, 3) := by decide +kernel
theorem dX11_storm_5 : decode cX11_storm 5 = .ok (.aload_n 0, 1) := by decide +kernel
theorem dX11_storm_6 : decode cX11_storm 6 = .ok (.iload_n 1, 1) := by decide +kernel
theorem dX11_storm_7 : decode cX11_storm 7 = .ok (.iload_n 2, 1) := by decide +kernel
theorem dX11_storm_8 : decode cX11_storm 8 = .ok (.invokevirtual 240, 3) := by decide +kernel
theorem dX11_storm_11 : decode cX11_storm 11 = .ok (.ifCond .eq 20, 3) := by decide +kernel
theorem dX11_storm_31 : decode cX11_storm 31 = .ok (.iconst (-1), 1) := by decide +kernel
theorem dX11_storm_32 : decode cX11_storm 32 = .ok (.ireturn, 1) := by decide +kernel
theorem dX11_think_0 : decode cX11_think 0 = .ok (.aload_n 0, 1) := by decide +kernel
theorem dX11_think_1 : decode cX11_think 1 = .ok (.iconst 0, 1) := by decide +kernel
theorem dX11_think_2 : decode cX11_think 2 = .ok (.putfield 70, 3) := by decide +kernel
theorem dX11_think_5 : decode cX11_think 5 = .ok (.aload_n 0, 1) := by decide +kernel
theorem dX11_think_6 : decode cX11_think 6 = .ok (.iload_n 1, 1) := by decide +kernel
theorem dX11_think_7 : decode cX11_think 7 = .ok (.iload_n 2, 1) := by decide +kernel
theorem dX11_think_8 : decode cX11_think 8 = .ok (.invokevirtual 240, 3) := by decide +kernel
theorem dX11_think_11 : decode cX11_think 11 = .ok (.ifCond .eq 11, 3) := by decide +kernel
theorem dX11_think_22 : decode cX11_think 22 = .ok (.iconst (-1), 1) := by decide +kernel
theorem dX11_think_23 : decode cX11_think 23 = .ok (.ireturn, 1) := by decide +kernel
theorem dX11_twice_0 : decode cX11_twice 0 = .ok (.aload_n 0, 1) := by decide +kernel
theorem dX11_twice_1 : decode cX11_twice 1 = .ok (.iconst 0, 1) := by decide +kernel
theorem dX11_twice_2 : decode cX11_twice 2 = .ok (.putfield 70, 3) := by decide +kernel
theorem dX11_twice_5 : decode cX11_twice 5 = .ok (.aload_n 0, 1) := by decide +kernel
theorem dX11_twice_6 : decode cX11_twice 6 = .ok (.iload_n 1, 1) := by decide +kernel
theorem dX11_twice_7 : decode cX11_twice 7 = .ok (.iload_n 2, 1) := by decide +kernel
theorem dX11_twice_8 : decode cX11_twice 8 = .ok (.invokevirtual 240, 3) := by decide +kernel
theorem dX11_twice_11 : decode cX11_twice 11 = .ok (.ifCond .eq 38, 3) := by decide +kernel
theorem dX11_twice_49 : decode cX11_twice 49 = .ok (.iconst (-1), 1) := by decide +kernel
theorem dX11_twice_50 : decode cX11_twice 50 = .ok (.ireturn, 1) := by decide +kernel
theorem dX11_upon_0 : decode cX11_upon 0 = .ok (.aload_n 0, 1) := by decide +kernel
theorem dX11_upon_1 : decode cX11_upon 1 = .ok (.iconst 0, 1) := by decide +kernel
theorem dX11_upon_2 : decode cX11_upon 2 = .ok (.putfield 70, 3) := by decide +kernel
theorem dX11_upon_5 : decode cX11_upon 5 = .ok (.aload_n 0, 1) := by decide +kernel
theorem dX11_upon_6 : decode cX11_upon 6 = .ok (.iload_n 1, 1) := by decide +kernel
theorem dX11_upon_7 : decode cX11_upon 7 = .ok (.iload_n 2, 1) := by decide +kernel
theorem dX11_upon_8 : decode cX11_upon 8 = .ok (.invokevirtual 240, 3) := by decide +kernel
theorem dX11_upon_11 : decode cX11_upon 11 = .ok (.ifCond .eq 11, 3) := by decide +kernel
theorem dX11_upon_22 : decode cX11_upon 22 = .ok (.iconst (-1), 1) := by decide +kernel
theorem dX11_upon_23 : decode cX11_upon 23 = .ok (.ireturn, 1) := by decide +kernel
theorem dX11_weighs_0 : decode cX11_weighs 0 = .ok (.aload_n 0, 1) := by decide +kernel
theorem dX11_weighs_1 : decode cX11_weighs 1 = .ok (.iconst 0, 1) := by decide +kernel
theorem dX11_weighs_2 : decode cX11_weighs 2 = .ok (.putfield 70, 3) := by decide +kernel
theorem dX11_weighs_5 : decode cX11_weighs 5 = .ok (.aload_n 0, 1) := by decide +kernel
theorem dX11_weighs_6 : decode cX11_weighs 6 = .ok (.iload_n 1, 1) := by decide +kernel
theorem dX11_weighs_7 : decode cX11_weighs 7 = .ok (.iload_n 2, 1) := by decide +kernel
theorem dX11_weighs_8 : decode cX11_weighs 8 = .ok (.invokevirtual 240, 3) := by decide +kernel
theorem dX11_weighs_11 : decode cX11_weighs 11 = .ok (.ifCond .ne 5, 3) := by decide +kernel
theorem dX11_weighs_14 : decode cX11_weighs 14 = .ok (.iconst (-1), 1) := by decide +kernel
theorem dX11_weighs_15 : decode cX11_weighs 15 = .ok (.ireturn, 1) := by decide +kernel
theorem dX11_work_0 : decode cX11_work 0 = .ok (.aload_n 0, 1) := by decide +kernel
theorem dX11_work_1 : decode cX11_work 1 = .ok (.iconst 0, 1) := by decide +kernel
theorem dX11_work_2 : decode cX11_work 2 = .ok (.putfield 70, 3) := by decide +kernel
theorem dX11_work_5 : decode cX11_work 5 = .ok (.aload_n 0, 1) := by decide +kernel
theorem dX11_work_6 : decode cX11_work 6 = .ok (.iload_n 1, 1) := by decide +kernel
theorem dX11_work_7 : decode cX11_work 7 = .ok (.invokevirtual 225, 3) := by decide +kernel
theorem dX11_work_10 : decode cX11_work 10 = .ok (.ifCond .eq 51, 3) := by decide +kernel
theorem dX11_work_61 : decode cX11_work 61 = .ok (.bipush (-2), 2) := by decide +kernel
theorem dX11_work_63 : decode cX11_work 63 = .ok (.ireturn, 1) := by decide +kernel
theorem dX11_worst_0 : decode cX11_worst 0 = .ok (.aload_n 0, 1) := by decide +kernel
theorem dX11_worst_1 : decode cX11_worst 1 = .ok (.iconst 0, 1) := by decide +kernel
theorem dX11_worst_2 : decode cX11_worst 2 = .ok (.putfield 70, 3) := by decide +kernel
theorem dX11_worst_5 : decode cX11_worst 5 = .ok (.aload_n 0, 1) := by decide +kernel
theorem dX11_worst_6 : decode cX11_worst 6 = .ok (.iload_n 1, 1) := by decide +kernel
theorem dX11_worst_7 : decode cX11_worst 7 = .ok (.iload_n 2, 1) := by decide +kernel
theorem dX11_worst_8 : decode cX11_worst 8 = .ok (.invokevirtual 240, 3) := by decide +kernel
theorem dX11_worst_11 : decode cX11_worst 11 = .ok (.ifCond .eq 12, 3) := by decide +kernel
theorem dX11_worst_23 : decode cX11_worst 23 = .ok (.ldc2_w 292, 3) := by decide +kernel
theorem dX11_worst_26 : decode cX11_worst 26 = .ok (.lreturn, 1) := by decide +kernel
theorem dX11_years_0 : decode cX11_years 0 = .ok (.aload_n 0, 1) := by decide +kernel
theorem dX11_years_1 : decode cX11_years 1 = .ok (.iconst 0, 1) := by decide +kernel
theorem dX11_years_2 : decode cX11_years 2 = .ok (.putfield 70, 3) := by decide +kernel
theorem dX11_years_5 : decode cX11_years 5 = .ok (.aload_n 0, 1) := by decide +kernel
theorem dX11_years_6 : decode cX11_years 6 = .ok (.iload_n 1, 1) := by decide +kernel
theorem dX11_years_7 : decode cX11_years 7 = .ok (.iload_n 2, 1) := by decide +kernel
theorem dX11_years_8 : decode cX11_years 8 = .ok (.invokevirtual 240, 3) := by decide +kernel
theorem dX11_years_11 : decode cX11_years 11 = .ok (.ifCond .eq 14, 3) := by decide +kernel
theorem dX11_years_25 : decode cX11_years 25 = .ok (.ldc2_w 292, 3) := by decide +kernel
theorem dX11_years_28 : decode cX11_years 28 = .ok (.lreturn, 1) := by decide +kernel
set_option maxHeartbeats 4000000 in
set_option maxRecDepth 100000 in
theorem c_X11_in {d : Nat} {h : List MC} {v lo hi : Int32} (hd : 0 ≤ d)   : CT con0 d 0 0 yX11_in cX11_in 3 (some .boolean) [.int v, .int lo, .int hi] h (fun r h2 => r = some (.int (bI (!decide (v < lo) && !decide (hi < v)))) ∧ h2 = h) := by
  refine CT_of (by decide) (Nat.le_of_ble_eq_true rfl) (fun x hq => ?_)
  show J x yX11_in cX11_in 3 (some .boolean) d 0 0 h.length 0 [(0, .int v), (1, .int lo), (2, .int hi)] [] h 0 0
  refine J_iload_n (i := 0) (j := 0) dX11_in_0 rfl rfl ?_
  refine J_iload_n (i := 1) (j := 1) dX11_in_1 rfl rfl ?_
  refine J_icmp_lt (tgt := 14) dX11_in_2 (by decide) (fun c1 => ?_) (fun c1 => ?_)
  · refine J_iconst (v := 0) dX11_in_14 (by decide) ?_
    exact J_zret hq dX11_in_15 rfl rfl (hkz rfl) (Nat.le_refl _) (Nat.le_refl _) ⟨by simp [bI, c1], rfl⟩
  · refine J_iload_n (i := 0) (j := 0) dX11_in_5 rfl rfl ?_
    refine J_iload_n (i := 2) (j := 2) dX11_in_6 rfl rfl ?_
    refine J_icmp_gt (tgt := 14) dX11_in_7 (by decide) (fun c2 => ?_) (fun c2 => ?_)
    · refine J_iconst (v := 0) dX11_in_14 (by decide) ?_
      exact J_zret hq dX11_in_15 rfl rfl (hkz rfl) (Nat.le_refl _) (Nat.le_refl _) ⟨by simp [bI, c1, c2], rfl⟩
    · refine J_iconst (v := 1) dX11_in_10 (by decide) ?_
      refine J_goto (tgt := 15) dX11_in_11 (by decide) ?_
      exact J_zret hq dX11_in_15 rfl rfl (hkz rfl) (Nat.le_refl _) (Nat.le_refl _) ⟨by simp [bI, c1, c2], rfl⟩
set_option maxHeartbeats 4000000 in
set_option maxRecDepth 100000 in
theorem c_X11_isHill0 {d : Nat} {h : List MC} {a0 : Int32} (hd : 1 ≤ d) (hm : h[162]? = some (.inr (11, [.int 0, .ref 163, .ref 164, .ref 165, .ref 166, .ref 167, .ref 168, .ref 169, .int 0, .int 0, .int 0, .int 0, .int 0, .long 0, .int 0, .int 0, .int 0, .int 0, .int 0, .ref 170, .ref 171, .ref 172, .int 0, .int 0, .int 0, .int 0, .int 0, .int 0, .ref 173, .ref 174, .ref 175, .int 0, .int 0, .int 0, .ref 176, .ref 177, .ref 178, .ref 179, .ref 180, .int 0, .long 0, .int 0, .ref 181]))) (hy : h[167]? = some (.inl (1, 8, .inl (fun _ => 0))))  : CT con0 d 0 0 yX11_isHill cX11_isHill 2 (some .boolean) [.ref 162, .int a0] h (fun r h2 => r = some (.int 0) ∧ h2 = h) := by
  refine CT_of (by decide) (Nat.le_of_ble_eq_true rfl) (fun x hq => ?_)
  show J x yX11_isHill cX11_isHill 2 (some .boolean) d 0 0 h.length 0 [(0, .ref 162), (1, .int a0)] [] h 0 0
  refine J_iload_n (i := 1) (j := 1) dX11_isHill_0 rfl rfl ?_
  refine J_iconst (v := 0) dX11_isHill_1 (by decide) ?_
  refine J_aload_n (i := 0) (j := 0) dX11_isHill_2 rfl rfl ?_
  refine J_get (C := RX11) (T := TX11) (Z := 43) (ci := 11) (f := 5) dX11_isHill_3 inG11 rfl (by decide) k1269 hm rfl ?_
  refine J_iconst (v := 0) dX11_isHill_6 (by decide) ?_
  refine J_iald dX11_isHill_7 hy (vp_c (by decide)) ?_
  refine J_ci (v := 0) rfl ?_
  refine J_iconst (v := 1) dX11_isHill_8 (by decide) ?_
  refine J_isub dX11_isHill_9 ?_
  refine J_ci (v := (-1)) (by decide) ?_
  refine J_callS (As := [.int a0, .int 0, .int (-1)]) (rest := []) dX11_isHill_10 (c_X11_in (d := 0) (h := h) (v := a0) (lo := 0) (hi := (-1)) (by decide)) hq.n k1406 k1407 k97 k1408 np_X11_in (Nat.le_trans (by decide) hd) (by decide) (Nat.le_refl _) (Nat.le_refl _) (hkz rfl) rfl (Nat.le_of_ble_eq_true rfl) (fun r1 h2 p3 => ?_)
  obtain ⟨rfl, w4⟩ := p3
  refine J_w w4 ?_
  refine J_ci (v := 0) (by rw [nb1]; rfl) ?_
  exact J_zret hq dX11_isHill_13 rfl rfl (hkz rfl) (Nat.le_refl _) (Nat.le_refl _) ⟨rfl, rfl⟩
set_option maxHeartbeats 4000000 in
set_option maxRecDepth 100000 in
theorem c_X11_isPlan0 {d : Nat} {h : List MC} {a0 : Int32} (hd : 1 ≤ d) (hm : h[162]? = some (.inr (11, [.int 0, .ref 163, .ref 164, .ref 165, .ref 166, .ref 167, .ref 168, .ref 169, .int 0, .int 0, .int 0, .int 0, .int 0, .long 0, .int 0, .int 0, .int 0, .int 0, .int 0, .ref 170, .ref 171, .ref 172, .int 0, .int 0, .int 0, .int 0, .int 0, .int 0, .ref 173, .ref 174, .ref 175, .int 0, .int 0, .int 0, .ref 176, .ref 177, .ref 178, .ref 179, .ref 180, .int 0, .long 0, .int 0, .ref 181]))) (hy : h[167]? = some (.inl (1, 8, .inl (fun _ => 0))))  : CT con0 d 0 0 yX11_isPlan cX11_isPlan 2 (some .boolean) [.ref 162, .int a0] h (fun r h2 => r = some (.int 0) ∧ h2 = h) := by
  refine CT_of (by decide) (Nat.le_of_ble_eq_true rfl) (fun x hq => ?_)
  show J x yX11_isPlan cX11_isPlan 2 (some .boolean) d 0 0 h.length 0 [(0, .ref 162), (1, .int a0)] [] h 0 0
  refine J_iload_n (i := 1) (j := 1) dX11_isPlan_0 rfl rfl ?_
  refine J_iconst (v := 0) dX11_isPlan_1 (by decide) ?_
  refine J_aload_n (i := 0) (j := 0) dX11_isPlan_2 rfl rfl ?_
  refine J_get (C := RX11) (T := TX11) (Z := 43) (ci := 11) (f := 5) dX11_isPlan_3 inG11 rfl (by decide) k1269 hm rfl ?_
  refine J_iconst (v := 1) dX11_isPlan_6 (by decide) ?_
  refine J_iald dX11_isPlan_7 hy (vp_c (by decide)) ?_
  refine J_ci (v := 0) rfl ?_
  refine J_iconst (v := 1) dX11_isPlan_8 (by decide) ?_
  refine J_isub dX11_isPlan_9 ?_
  refine J_ci (v := (-1)) (by decide) ?_
  refine J_callS (As := [.int a0, .int 0, .int (-1)]) (rest := []) dX11_isPlan_10 (c_X11_in (d := 0) (h := h) (v := a0) (lo := 0) (hi := (-1)) (by decide)) hq.n k1406 k1407 k97 k1408 np_X11_in (Nat.le_trans (by decide) hd) (by decide) (Nat.le_refl _) (Nat.le_refl _) (hkz rfl) rfl (Nat.le_of_ble_eq_true rfl) (fun r1 h2 p3 => ?_)
  obtain ⟨rfl, w4⟩ := p3
  refine J_w w4 ?_
  refine J_ci (v := 0) (by rw [nb1]; rfl) ?_
  exact J_zret hq dX11_isPlan_13 rfl rfl (hkz rfl) (Nat.le_refl _) (Nat.le_refl _) ⟨rfl, rfl⟩
set_option maxHeartbeats 4000000 in
set_option maxRecDepth 100000 in
theorem c_X11_lay0 {d : Nat} {h : List MC} {a0 a1 : Int32} (hd : 2 ≤ d) (hm : h[162]? = some (.inr (11, [.int 0, .ref 163, .ref 164, .ref 165, .ref 166, .ref 167, .ref 168, .ref 169, .int 0, .int 0, .int 0, .int 0, .int 0, .long 0, .int 0, .int 0, .int 0, .int 0, .int 0, .ref 170, .ref 171, .ref 172, .int 0, .int 0, .int 0, .int 0, .int 0, .int 0, .ref 173, .ref 174, .ref 175, .int 0, .int 0, .int 0, .ref 176, .ref 177, .ref 178, .ref 179, .ref 180, .int 0, .long 0, .int 0, .ref 181]))) (hy : h[167]? = some (.inl (1, 8, .inl (fun _ => 0))))  : CT con0 d 0 0 yX11_lay cX11_lay 5 (some .boolean) [.ref 162, .int a0, .int a1] h (fun r h2 => r = some (.int 0) ∧ h2 = h) := by
  refine CT_of (by decide) (Nat.le_of_ble_eq_true rfl) (fun x hq => ?_)
  show J x yX11_lay cX11_lay 5 (some .boolean) d 0 0 h.length 0 [(0, .ref 162), (1, .int a0), (2, .int a1)] [] h 0 0
  refine J_aload_n (i := 0) (j := 0) dX11_lay_0 rfl rfl ?_
  refine J_iload_n (i := 1) (j := 1) dX11_lay_1 rfl rfl ?_
  refine J_callV (As := [.int a0]) (rest := []) dX11_lay_2 (c_X11_isHill0 (d := 1) (h := h)  (by decide) hm hy ) hq.n k1495 k1497 k51 hm rfl rfl k97 k1498 np_X11_isHill (Nat.le_trans (by decide) hd) (by decide) (Nat.le_refl _) (Nat.le_refl _) (hkz rfl) rfl (Nat.le_of_ble_eq_true rfl) (fun r1 h2 p3 => ?_)
  obtain ⟨rfl, w4⟩ := p3
  refine J_w w4 ?_
  refine J_if_eq (tgt := 21) dX11_lay_5 (by decide) (fun _ => ?_) (fun q => absurd (by decide) q)
  refine J_iconst (v := 0) dX11_lay_21 (by decide) ?_
  exact J_zret hq dX11_lay_22 rfl rfl (hkz rfl) (Nat.le_refl _) (Nat.le_refl _) ⟨rfl, rfl⟩
set_option maxHeartbeats 4000000 in
set_option maxRecDepth 100000 in
theorem c_X11_canMend0 {d : Nat} {h : List MC} {a0 a1 a2 a3 : Int32} (hd : 3 ≤ d) (hm : h[162]? = some (.inr (11, [.int 0, .ref 163, .ref 164, .ref 165, .ref 166, .ref 167, .ref 168, .ref 169, .int 0, .int 0, .int 0, .int 0, .int 0, .long 0, .int 0, .int 0, .int 0, .int 0, .int 0, .ref 170, .ref 171, .ref 172, .int 0, .int 0, .int 0, .int 0, .int 0, .int 0, .ref 173, .ref 174, .ref 175, .int 0, .int 0, .int 0, .ref 176, .ref 177, .ref 178, .ref 179, .ref 180, .int 0, .long 0, .int 0, .ref 181]))) (hy : h[167]? = some (.inl (1, 8, .inl (fun _ => 0))))  : CT con0 d 0 0 yX11_canMend cX11_canMend 5 (some .boolean) [.ref 162, .int a0, .int a1, .int a2, .int a3] h (fun r h2 => r = some (.int 0) ∧ h2 = h) := by
  refine CT_of (by decide) (Nat.le_of_ble_eq_true rfl) (fun x hq => ?_)
  show J x yX11_canMend cX11_canMend 5 (some .boolean) d 0 0 h.length 0 [(0, .ref 162), (1, .int a0), (2, .int a1), (3, .int a2), (4, .int a3)] [] h 0 0
  refine J_aload_n (i := 0) (j := 0) dX11_canMend_0 rfl rfl ?_
  refine J_iload_n (i := 1) (j := 1) dX11_canMend_1 rfl rfl ?_
  refine J_iload_n (i := 2) (j := 2) dX11_canMend_2 rfl rfl ?_
  refine J_callV (As := [.int a0, .int a1]) (rest := []) dX11_canMend_3 (c_X11_lay0 (d := 2) (h := h)  (by decide) hm hy ) hq.n k1503 k1505 k52 hm rfl rfl k97 k1506 np_X11_lay (Nat.le_trans (by decide) hd) (by decide) (Nat.le_refl _) (Nat.le_refl _) (hkz rfl) rfl (Nat.le_of_ble_eq_true rfl) (fun r1 h2 p3 => ?_)
  obtain ⟨rfl, w4⟩ := p3
  refine J_w w4 ?_
  refine J_if_eq (tgt := 37) dX11_canMend_6 (by decide) (fun _ => ?_) (fun q => absurd (by decide) q)
  refine J_iconst (v := 0) dX11_canMend_37 (by decide) ?_
  exact J_zret hq dX11_canMend_38 rfl rfl (hkz rfl) (Nat.le_refl _) (Nat.le_refl _) ⟨rfl, rfl⟩
set_option maxHeartbeats 4000000 in
set_option maxRecDepth 100000 in
theorem c_X11_isFilled0 {d : Nat} {h : List MC} {a0 a1 a2 : Int32} (hd : 3 ≤ d) (hm : h[162]? = some (.inr (11, [.int 0, .ref 163, .ref 164, .ref 165, .ref 166, .ref 167, .ref 168, .ref 169, .int 0, .int 0, .int 0, .int 0, .int 0, .long 0, .int 0, .int 0, .int 0, .int 0, .int 0, .ref 170, .ref 171, .ref 172, .int 0, .int 0, .int 0, .int 0, .int 0, .int 0, .ref 173, .ref 174, .ref 175, .int 0, .int 0, .int 0, .ref 176, .ref 177, .ref 178, .ref 179, .ref 180, .int 0, .long 0, .int 0, .ref 181]))) (hy : h[167]? = some (.inl (1, 8, .inl (fun _ => 0))))  : CT con0 d 0 0 yX11_isFilled cX11_isFilled 4 (some .boolean) [.ref 162, .int a0, .int a1, .int a2] h (fun r h2 => r = some (.int 0) ∧ h2 = h) := by
  refine CT_of (by decide) (Nat.le_of_ble_eq_true rfl) (fun x hq => ?_)
  show J x yX11_isFilled cX11_isFilled 4 (some .boolean) d 0 0 h.length 0 [(0, .ref 162), (1, .int a0), (2, .int a1), (3, .int a2)] [] h 0 0
  refine J_aload_n (i := 0) (j := 0) dX11_isFilled_0 rfl rfl ?_
  refine J_iload_n (i := 1) (j := 1) dX11_isFilled_1 rfl rfl ?_
  refine J_iload_n (i := 2) (j := 2) dX11_isFilled_2 rfl rfl ?_
  refine J_callV (As := [.int a0, .int a1]) (rest := []) dX11_isFilled_3 (c_X11_lay0 (d := 2) (h := h)  (by decide) hm hy ) hq.n k1503 k1505 k52 hm rfl rfl k97 k1506 np_X11_lay (Nat.le_trans (by decide) hd) (by decide) (Nat.le_refl _) (Nat.le_refl _) (hkz rfl) rfl (Nat.le_of_ble_eq_true rfl) (fun r1 h2 p3 => ?_)
  obtain ⟨rfl, w4⟩ := p3
  refine J_w w4 ?_
  refine J_if_eq (tgt := 33) dX11_isFilled_6 (by decide) (fun _ => ?_) (fun q => absurd (by decide) q)
  refine J_iconst (v := 0) dX11_isFilled_33 (by decide) ?_
  exact J_zret hq dX11_isFilled_34 rfl rfl (hkz rfl) (Nat.le_refl _) (Nat.le_refl _) ⟨rfl, rfl⟩
set_option maxHeartbeats 4000000 in
set_option maxRecDepth 100000 in
theorem c_X11_hill0 {d : Nat} {h : List MC} {a0 a1 : Int32} (hd : 4 ≤ d) (hm : h[162]? = some (.inr (11, [.int 0, .ref 163, .ref 164, .ref 165, .ref 166, .ref 167, .ref 168, .ref 169, .int 0, .int 0, .int 0, .int 0, .int 0, .long 0, .int 0, .int 0, .int 0, .int 0, .int 0, .ref 170, .ref 171, .ref 172, .int 0, .int 0, .int 0, .int 0, .int 0, .int 0, .ref 173, .ref 174, .ref 175, .int 0, .int 0, .int 0, .ref 176, .ref 177, .ref 178, .ref 179, .ref 180, .int 0, .long 0, .int 0, .ref 181]))) (hy : h[167]? = some (.inl (1, 8, .inl (fun _ => 0))))  : CT con0 d 0 0 yX11_hill cX11_hill 4 (some .int) [.ref 162, .int a0, .int a1] h (fun r h2 => r = some (.int (-1))) := by
  refine CT_of (by decide) (Nat.le_of_ble_eq_true rfl) (fun x hq => ?_)
  show J x yX11_hill cX11_hill 4 (some .int) d 0 0 h.length 0 [(0, .ref 162), (1, .int a0), (2, .int a1)] [] h 0 0
  refine J_aload_n (i := 0) (j := 0) dX11_hill_0 rfl rfl ?_
  refine J_iconst (v := 0) dX11_hill_1 (by decide) ?_
  obtain ⟨h1, e2⟩ : ∃ z, z = h.set 162 (.inr (11, [.int 0, .ref 163, .ref 164, .ref 165, .ref 166, .ref 167, .ref 168, .ref 169, .int 0, .int 0, .int 0, .int 0, .int 0, .long 0, .int 0, .int 0, .int 0, .int 0, .int 0, .ref 170, .ref 171, .ref 172, .int 0, .int 0, .int 0, .int 0, .int 0, .int 0, .ref 173, .ref 174, .ref 175, .int 0, .int 0, .int 0, .ref 176, .ref 177, .ref 178, .ref 179, .ref 180, .int 0, .long 0, .int 0, .ref 181])) := ⟨_, rfl⟩
  refine J_put (C := RX11) (T := TX11) (Z := 43) (ci := 11) (f := 0) (ty0 := tyX11) dX11_hill_2 inG11 rfl tyX11_ok nmX11 (by decide) k1264 rfl rfl hm (Nat.le_of_ble_eq_true rfl) (fun _ _ => ⟨rfl, rfl⟩) e2.symm ?_
  have f3 := a_set e2 hm
  have l4 := l_set e2 rfl
  refine J_aload_n (i := 0) (j := 0) dX11_hill_5 rfl rfl ?_
  refine J_iload_n (i := 1) (j := 1) dX11_hill_6 rfl rfl ?_
  have f5 : h1[167]? = some (.inl (1, 8, .inl (fun _ => 0))) := (s_ne e2 (by decide)).trans hy
  refine J_callV (As := [.int a0]) (rest := []) dX11_hill_7 (c_X11_isHill0 (d := 1) (h := h1)  (by decide) f3 f5 ) hq.n k1495 k1497 k51 f3 rfl rfl k97 k1498 np_X11_isHill (Nat.le_trans (by decide) hd) (by decide) (Nat.le_refl _) (Nat.le_refl _) (hkz l4) rfl (Nat.le_of_ble_eq_true rfl) (fun r6 h7 p8 => ?_)
  obtain ⟨rfl, w9⟩ := p8
  refine J_w w9 ?_
  refine J_if_ne (tgt := 15) dX11_hill_10 (by decide) (fun q => absurd (by decide) q) (fun _ => ?_)
  refine J_iconst (v := (-1)) dX11_hill_13 (by decide) ?_
  exact J_iret hq dX11_hill_14 rfl (hkz l4) (Nat.le_refl _) (Nat.le_refl _) rfl
set_option maxHeartbeats 4000000 in
set_option maxRecDepth 100000 in
theorem c_X11_pond0 {d : Nat} {h : List MC} {a0 a1 a2 a3 : Int32} (hd : 4 ≤ d) (hm : h[162]? = some (.inr (11, [.int 0, .ref 163, .ref 164, .ref 165, .ref 166, .ref 167, .ref 168, .ref 169, .int 0, .int 0, .int 0, .int 0, .int 0, .long 0, .int 0, .int 0, .int 0, .int 0, .int 0, .ref 170, .ref 171, .ref 172, .int 0, .int 0, .int 0, .int 0, .int 0, .int 0, .ref 173, .ref 174, .ref 175, .int 0, .int 0, .int 0, .ref 176, .ref 177, .ref 178, .ref 179, .ref 180, .int 0, .long 0, .int 0, .ref 181]))) (hy : h[167]? = some (.inl (1, 8, .inl (fun _ => 0))))  : CT con0 d 0 0 yX11_pond cX11_pond 5 (some .int) [.ref 162, .int a0, .int a1, .int a2, .int a3] h (fun r h2 => r = some (.int (-2))) := by
  refine CT_of (by decide) (Nat.le_of_ble_eq_true rfl) (fun x hq => ?_)
  show J x yX11_pond cX11_pond 5 (some .int) d 0 0 h.length 0 [(0, .ref 162), (1, .int a0), (2, .int a1), (3, .int a2), (4, .int a3)] [] h 0 0
  refine J_aload_n (i := 0) (j := 0) dX11_pond_0 rfl rfl ?_
  refine J_iconst (v := 0) dX11_pond_1 (by decide) ?_
  obtain ⟨h1, e2⟩ : ∃ z, z = h.set 162 (.inr (11, [.int 0, .ref 163, .ref 164, .ref 165, .ref 166, .ref 167, .ref 168, .ref 169, .int 0, .int 0, .int 0, .int 0, .int 0, .long 0, .int 0, .int 0, .int 0, .int 0, .int 0, .ref 170, .ref 171, .ref 172, .int 0, .int 0, .int 0, .int 0, .int 0, .int 0, .ref 173, .ref 174, .ref 175, .int 0, .int 0, .int 0, .ref 176, .ref 177, .ref 178, .ref 179, .ref 180, .int 0, .long 0, .int 0, .ref 181])) := ⟨_, rfl⟩
  refine J_put (C := RX11) (T := TX11) (Z := 43) (ci := 11) (f := 0) (ty0 := tyX11) dX11_pond_2 inG11 rfl tyX11_ok nmX11 (by decide) k1264 rfl rfl hm (Nat.le_of_ble_eq_true rfl) (fun _ _ => ⟨rfl, rfl⟩) e2.symm ?_
  have f3 := a_set e2 hm
  have l4 := l_set e2 rfl
  refine J_aload_n (i := 0) (j := 0) dX11_pond_5 rfl rfl ?_
  refine J_iload_n (i := 1) (j := 1) dX11_pond_6 rfl rfl ?_
  refine J_iload_n (i := 2) (j := 2) dX11_pond_7 rfl rfl ?_
  have f5 : h1[167]? = some (.inl (1, 8, .inl (fun _ => 0))) := (s_ne e2 (by decide)).trans hy
  refine J_callV (As := [.int a0, .int a1]) (rest := []) dX11_pond_8 (c_X11_lay0 (d := 2) (h := h1)  (by decide) f3 f5 ) hq.n k1503 k1505 k52 f3 rfl rfl k97 k1506 np_X11_lay (Nat.le_trans (by decide) hd) (by decide) (Nat.le_refl _) (Nat.le_refl _) (hkz l4) rfl (Nat.le_of_ble_eq_true rfl) (fun r6 h7 p8 => ?_)
  obtain ⟨rfl, w9⟩ := p8
  refine J_w w9 ?_
  refine J_if_eq (tgt := 43) dX11_pond_11 (by decide) (fun _ => ?_) (fun q => absurd (by decide) q)
  refine J_bipush (v := (-2)) dX11_pond_43 (by decide) ?_
  exact J_iret hq dX11_pond_45 rfl (hkz l4) (Nat.le_refl _) (Nat.le_refl _) rfl
set_option maxHeartbeats 4000000 in
set_option maxRecDepth 100000 in
theorem c_X11_work0 {d : Nat} {h : List MC} {a0 a1 a2 : Int32} (hd : 4 ≤ d) (hm : h[162]? = some (.inr (11, [.int 0, .ref 163, .ref 164, .ref 165, .ref 166, .ref 167, .ref 168, .ref 169, .int 0, .int 0, .int 0, .int 0, .int 0, .long 0, .int 0, .int 0, .int 0, .int 0, .int 0, .ref 170, .ref 171, .ref 172, .int 0, .int 0, .int 0, .int 0, .int 0, .int 0, .ref 173, .ref 174, .ref 175, .int 0, .int 0, .int 0, .ref 176, .ref 177, .ref 178, .ref 179, .ref 180, .int 0, .long 0, .int 0, .ref 181]))) (hy : h[167]? = some (.inl (1, 8, .inl (fun _ => 0))))  : CT con0 d 0 0 yX11_work cX11_work 4 (some .int) [.ref 162, .int a0, .int a1, .int a2] h (fun r h2 => r = some (.int (-2))) := by
  refine CT_of (by decide) (Nat.le_of_ble_eq_true rfl) (fun x hq => ?_)
  show J x yX11_work cX11_work 4 (some .int) d 0 0 h.length 0 [(0, .ref 162), (1, .int a0), (2, .int a1), (3, .int a2)] [] h 0 0
  refine J_aload_n (i := 0) (j := 0) dX11_work_0 rfl rfl ?_
  refine J_iconst (v := 0) dX11_work_1 (by decide) ?_
  obtain ⟨h1, e2⟩ : ∃ z, z = h.set 162 (.inr (11, [.int 0, .ref 163, .ref 164, .ref 165, .ref 166, .ref 167, .ref 168, .ref 169, .int 0, .int 0, .int 0, .int 0, .int 0, .long 0, .int 0, .int 0, .int 0, .int 0, .int 0, .ref 170, .ref 171, .ref 172, .int 0, .int 0, .int 0, .int 0, .int 0, .int 0, .ref 173, .ref 174, .ref 175, .int 0, .int 0, .int 0, .ref 176, .ref 177, .ref 178, .ref 179, .ref 180, .int 0, .long 0, .int 0, .ref 181])) := ⟨_, rfl⟩
  refine J_put (C := RX11) (T := TX11) (Z := 43) (ci := 11) (f := 0) (ty0 := tyX11) dX11_work_2 inG11 rfl tyX11_ok nmX11 (by decide) k1264 rfl rfl hm (Nat.le_of_ble_eq_true rfl) (fun _ _ => ⟨rfl, rfl⟩) e2.symm ?_
  have f3 := a_set e2 hm
  have l4 := l_set e2 rfl
  refine J_aload_n (i := 0) (j := 0) dX11_work_5 rfl rfl ?_
  refine J_iload_n (i := 1) (j := 1) dX11_work_6 rfl rfl ?_
  have f5 : h1[167]? = some (.inl (1, 8, .inl (fun _ => 0))) := (s_ne e2 (by decide)).trans hy
  refine J_callV (As := [.int a0]) (rest := []) dX11_work_7 (c_X11_isPlan0 (d := 1) (h := h1)  (by decide) f3 f5 ) hq.n k1507 k1509 k53 f3 rfl rfl k97 k1510 np_X11_isPlan (Nat.le_trans (by decide) hd) (by decide) (Nat.le_refl _) (Nat.le_refl _) (hkz l4) rfl (Nat.le_of_ble_eq_true rfl) (fun r6 h7 p8 => ?_)
  obtain ⟨rfl, w9⟩ := p8
  refine J_w w9 ?_
  refine J_if_eq (tgt := 61) dX11_work_10 (by decide) (fun _ => ?_) (fun q => absurd (by decide) q)
  refine J_bipush (v := (-2)) dX11_work_61 (by decide) ?_
  exact J_iret hq dX11_work_63 rfl (hkz l4) (Nat.le_refl _) (Nat.le_refl _) rfl
set_option maxHeartbeats 4000000 in
set_option maxRecDepth 100000 in
theorem c_X11_plan0 {d : Nat} {h : List MC} {a0 a1 a2 : Int32} (hd : 4 ≤ d) (hm : h[162]? = some (.inr (11, [.int 0, .ref 163, .ref 164, .ref 165, .ref 166, .ref 167, .ref 168, .ref 169, .int 0, .int 0, .int 0, .int 0, .int 0, .long 0, .int 0, .int 0, .int 0, .int 0, .int 0, .ref 170, .ref 171, .ref 172, .int 0, .int 0, .int 0, .int 0, .int 0, .int 0, .ref 173, .ref 174, .ref 175, .int 0, .int 0, .int 0, .ref 176, .ref 177, .ref 178, .ref 179, .ref 180, .int 0, .long 0, .int 0, .ref 181]))) (hy : h[167]? = some (.inl (1, 8, .inl (fun _ => 0))))  : CT con0 d 0 0 yX11_plan cX11_plan 4 (some .int) [.ref 162, .int a0, .int a1, .int a2] h (fun r h2 => r = some (.int (-1))) := by
  refine CT_of (by decide) (Nat.le_of_ble_eq_true rfl) (fun x hq => ?_)
  show J x yX11_plan cX11_plan 4 (some .int) d 0 0 h.length 0 [(0, .ref 162), (1, .int a0), (2, .int a1), (3, .int a2)] [] h 0 0
  refine J_aload_n (i := 0) (j := 0) dX11_plan_0 rfl rfl ?_
  refine J_iconst (v := 0) dX11_plan_1 (by decide) ?_
  obtain ⟨h1, e2⟩ : ∃ z, z = h.set 162 (.inr (11, [.int 0, .ref 163, .ref 164, .ref 165, .ref 166, .ref 167, .ref 168, .ref 169, .int 0, .int 0, .int 0, .int 0, .int 0, .long 0, .int 0, .int 0, .int 0, .int 0, .int 0, .ref 170, .ref 171, .ref 172, .int 0, .int 0, .int 0, .int 0, .int 0, .int 0, .ref 173, .ref 174, .ref 175, .int 0, .int 0, .int 0, .ref 176, .ref 177, .ref 178, .ref 179, .ref 180, .int 0, .long 0, .int 0, .ref 181])) := ⟨_, rfl⟩
  refine J_put (C := RX11) (T := TX11) (Z := 43) (ci := 11) (f := 0) (ty0 := tyX11) dX11_plan_2 inG11 rfl tyX11_ok nmX11 (by decide) k1264 rfl rfl hm (Nat.le_of_ble_eq_true rfl) (fun _ _ => ⟨rfl, rfl⟩) e2.symm ?_
  have f3 := a_set e2 hm
  have l4 := l_set e2 rfl
  refine J_aload_n (i := 0) (j := 0) dX11_plan_5 rfl rfl ?_
  refine J_iload_n (i := 2) (j := 2) dX11_plan_6 rfl rfl ?_
  have f5 : h1[167]? = some (.inl (1, 8, .inl (fun _ => 0))) := (s_ne e2 (by decide)).trans hy
  refine J_callV (As := [.int a1]) (rest := []) dX11_plan_7 (c_X11_isPlan0 (d := 1) (h := h1)  (by decide) f3 f5 ) hq.n k1507 k1509 k53 f3 rfl rfl k97 k1510 np_X11_isPlan (Nat.le_trans (by decide) hd) (by decide) (Nat.le_refl _) (Nat.le_refl _) (hkz l4) rfl (Nat.le_of_ble_eq_true rfl) (fun r6 h7 p8 => ?_)
  obtain ⟨rfl, w9⟩ := p8
  refine J_w w9 ?_
  refine J_if_eq (tgt := 22) dX11_plan_10 (by decide) (fun _ => ?_) (fun q => absurd (by decide) q)
  refine J_iconst (v := (-1)) dX11_plan_22 (by decide) ?_
  exact J_iret hq dX11_plan_23 rfl (hkz l4) (Nat.le_refl _) (Nat.le_refl _) rfl
set_option maxHeartbeats 4000000 in
set_option maxRecDepth 100000 in
theorem c_X11_storm0 {d : Nat} {h : List MC} {a0 a1 a2 a3 a4 : Int32} (hd : 4 ≤ d) (hm : h[162]? = some (.inr (11, [.int 0, .ref 163, .ref 164, .ref 165, .ref 166, .ref 167, .ref 168, .ref 169, .int 0, .int 0, .int 0, .int 0, .int 0, .long 0, .int 0, .int 0, .int 0, .int 0, .int 0, .ref 170, .ref 171, .ref 172, .int 0, .int 0, .int 0, .int 0, .int 0, .int 0, .ref 173, .ref 174, .ref 175, .int 0, .int 0, .int 0, .ref 176, .ref 177, .ref 178, .ref 179, .ref 180, .int 0, .long 0, .int 0, .ref 181]))) (hy : h[167]? = some (.inl (1, 8, .inl (fun _ => 0))))  : CT con0 d 0 0 yX11_storm cX11_storm 6 (some .int) [.ref 162, .int a0, .int a1, .int a2, .int a3, .int a4] h (fun r h2 => r = some (.int (-1))) := by
  refine CT_of (by decide) (Nat.le_of_ble_eq_true rfl) (fun x hq => ?_)
  show J x yX11_storm cX11_storm 6 (some .int) d 0 0 h.length 0 [(0, .ref 162), (1, .int a0), (2, .int a1), (3, .int a2), (4, .int a3), (5, .int a4)] [] h 0 0
  refine J_aload_n (i := 0) (j := 0) dX11_storm_0 rfl rfl ?_
  refine J_iconst (v := 0) dX11_storm_1 (by decide) ?_
  obtain ⟨h1, e2⟩ : ∃ z, z = h.set 162 (.inr (11, [.int 0, .ref 163, .ref 164, .ref 165, .ref 166, .ref 167, .ref 168, .ref 169, .int 0, .int 0, .int 0, .int 0, .int 0, .long 0, .int 0, .int 0, .int 0, .int 0, .int 0, .ref 170, .ref 171, .ref 172, .int 0, .int 0, .int 0, .int 0, .int 0, .int 0, .ref 173, .ref 174, .ref 175, .int 0, .int 0, .int 0, .ref 176, .ref 177, .ref 178, .ref 179, .ref 180, .int 0, .long 0, .int 0, .ref 181])) := ⟨_, rfl⟩
  refine J_put (C := RX11) (T := TX11) (Z := 43) (ci := 11) (f := 0) (ty0 := tyX11) dX11_storm_2 inG11 rfl tyX11_ok nmX11 (by decide) k1264 rfl rfl hm (Nat.le_of_ble_eq_true rfl) (fun _ _ => ⟨rfl, rfl⟩) e2.symm ?_
  have f3 := a_set e2 hm
  have l4 := l_set e2 rfl
  refine J_aload_n (i := 0) (j := 0) dX11_storm_5 rfl rfl ?_
  refine J_iload_n (i := 1) (j := 1) dX11_storm_6 rfl rfl ?_
  refine J_iload_n (i := 2) (j := 2) dX11_storm_7 rfl rfl ?_
  have f5 : h1[167]? = some (.inl (1, 8, .inl (fun _ => 0))) := (s_ne e2 (by decide)).trans hy
  refine J_callV (As := [.int a0, .int a1]) (rest := []) dX11_storm_8 (c_X11_lay0 (d := 2) (h := h1)  (by decide) f3 f5 ) hq.n k1503 k1505 k52 f3 rfl rfl k97 k1506 np_X11_lay (Nat.le_trans (by decide) hd) (by decide) (Nat.le_refl _) (Nat.le_refl _) (hkz l4) rfl (Nat.le_of_ble_eq_true rfl) (fun r6 h7 p8 => ?_)
  obtain ⟨rfl, w9⟩ := p8
  refine J_w w9 ?_
  refine J_if_eq (tgt := 31) dX11_storm_11 (by decide) (fun _ => ?_) (fun q => absurd (by decide) q)
  refine J_iconst (v := (-1)) dX11_storm_31 (by decide) ?_
  exact J_iret hq dX11_storm_32 rfl (hkz l4) (Nat.le_refl _) (Nat.le_refl _) rfl
set_option maxHeartbeats 4000000 in
set_option maxRecDepth 100000 in
theorem c_X11_likely0 {d : Nat} {h : List MC} {a0 a1 a2 : Int32} (hd : 4 ≤ d) (hm : h[162]? = some (.inr (11, [.int 0, .ref 163, .ref 164, .ref 165, .ref 166, .ref 167, .ref 168, .ref 169, .int 0, .int 0, .int 0, .int 0, .int 0, .long 0, .int 0, .int 0, .int 0, .int 0, .int 0, .ref 170, .ref 171, .ref 172, .int 0, .int 0, .int 0, .int 0, .int 0, .int 0, .ref 173, .ref 174, .ref 175, .int 0, .int 0, .int 0, .ref 176, .ref 177, .ref 178, .ref 179, .ref 180, .int 0, .long 0, .int 0, .ref 181]))) (hy : h[167]? = some (.inl (1, 8, .inl (fun _ => 0))))  : CT con0 d 0 0 yX11_likely cX11_likely 10 (some .long) [.ref 162, .int a0, .int a1, .int a2] h (fun r h2 => r = some (.long (-1))) := by
  refine CT_of (by decide) (Nat.le_of_ble_eq_true rfl) (fun x hq => ?_)
  show J x yX11_likely cX11_likely 10 (some .long) d 0 0 h.length 0 [(0, .ref 162), (1, .int a0), (2, .int a1), (3, .int a2)] [] h 0 0
  refine J_aload_n (i := 0) (j := 0) dX11_likely_0 rfl rfl ?_
  refine J_iconst (v := 0) dX11_likely_1 (by decide) ?_
  obtain ⟨h1, e2⟩ : ∃ z, z = h.set 162 (.inr (11, [.int 0, .ref 163, .ref 164, .ref 165, .ref 166, .ref 167, .ref 168, .ref 169, .int 0, .int 0, .int 0, .int 0, .int 0, .long 0, .int 0, .int 0, .int 0, .int 0, .int 0, .ref 170, .ref 171, .ref 172, .int 0, .int 0, .int 0, .int 0, .int 0, .int 0, .ref 173, .ref 174, .ref 175, .int 0, .int 0, .int 0, .ref 176, .ref 177, .ref 178, .ref 179, .ref 180, .int 0, .long 0, .int 0, .ref 181])) := ⟨_, rfl⟩
  refine J_put (C := RX11) (T := TX11) (Z := 43) (ci := 11) (f := 0) (ty0 := tyX11) dX11_likely_2 inG11 rfl tyX11_ok nmX11 (by decide) k1264 rfl rfl hm (Nat.le_of_ble_eq_true rfl) (fun _ _ => ⟨rfl, rfl⟩) e2.symm ?_
  have f3 := a_set e2 hm
  have l4 := l_set e2 rfl
  refine J_aload_n (i := 0) (j := 0) dX11_likely_5 rfl rfl ?_
  refine J_iload_n (i := 1) (j := 1) dX11_likely_6 rfl rfl ?_
  refine J_iload_n (i := 2) (j := 2) dX11_likely_7 rfl rfl ?_
  have f5 : h1[167]? = some (.inl (1, 8, .inl (fun _ => 0))) := (s_ne e2 (by decide)).trans hy
  refine J_callV (As := [.int a0, .int a1]) (rest := []) dX11_likely_8 (c_X11_lay0 (d := 2) (h := h1)  (by decide) f3 f5 ) hq.n k1503 k1505 k52 f3 rfl rfl k97 k1506 np_X11_lay (Nat.le_trans (by decide) hd) (by decide) (Nat.le_refl _) (Nat.le_refl _) (hkz l4) rfl (Nat.le_of_ble_eq_true rfl) (fun r6 h7 p8 => ?_)
  obtain ⟨rfl, w9⟩ := p8
  refine J_w w9 ?_
  refine J_if_eq (tgt := 27) dX11_likely_11 (by decide) (fun _ => ?_) (fun q => absurd (by decide) q)
  refine J_ldc2 (v := (-1)) dX11_likely_27 k1578 ?_
  exact J_lret hq dX11_likely_30 rfl (hkz l4) (Nat.le_refl _) (Nat.le_refl _) rfl
set_option maxHeartbeats 4000000 in
set_option maxRecDepth 100000 in
theorem c_X11_mean0 {d : Nat} {h : List MC} {a0 a1 a2 : Int32} (hd : 4 ≤ d) (hm : h[162]? = some (.inr (11, [.int 0, .ref 163, .ref 164, .ref 165, .ref 166, .ref 167, .ref 168, .ref 169, .int 0, .int 0, .int 0, .int 0, .int 0, .long 0, .int 0, .int 0, .int 0, .int 0, .int 0, .ref 170, .ref 171, .ref 172, .int 0, .int 0, .int 0, .int 0, .int 0, .int 0, .ref 173, .ref 174, .ref 175, .int 0, .int 0, .int 0, .ref 176, .ref 177, .ref 178, .ref 179, .ref 180, .int 0, .long 0, .int 0, .ref 181]))) (hy : h[167]? = some (.inl (1, 8, .inl (fun _ => 0))))  : CT con0 d 0 0 yX11_mean cX11_mean 4 (some .long) [.ref 162, .int a0, .int a1, .int a2] h (fun r h2 => r = some (.long (-1))) := by
  refine CT_of (by decide) (Nat.le_of_ble_eq_true rfl) (fun x hq => ?_)
  show J x yX11_mean cX11_mean 4 (some .long) d 0 0 h.length 0 [(0, .ref 162), (1, .int a0), (2, .int a1), (3, .int a2)] [] h 0 0
  refine J_aload_n (i := 0) (j := 0) dX11_mean_0 rfl rfl ?_
  refine J_iconst (v := 0) dX11_mean_1 (by decide) ?_
  obtain ⟨h1, e2⟩ : ∃ z, z = h.set 162 (.inr (11, [.int 0, .ref 163, .ref 164, .ref 165, .ref 166, .ref 167, .ref 168, .ref 169, .int 0, .int 0, .int 0, .int 0, .int 0, .long 0, .int 0, .int 0, .int 0, .int 0, .int 0, .ref 170, .ref 171, .ref 172, .int 0, .int 0, .int 0, .int 0, .int 0, .int 0, .ref 173, .ref 174, .ref 175, .int 0, .int 0, .int 0, .ref 176, .ref 177, .ref 178, .ref 179, .ref 180, .int 0, .long 0, .int 0, .ref 181])) := ⟨_, rfl⟩
  refine J_put (C := RX11) (T := TX11) (Z := 43) (ci := 11) (f := 0) (ty0 := tyX11) dX11_mean_2 inG11 rfl tyX11_ok nmX11 (by decide) k1264 rfl rfl hm (Nat.le_of_ble_eq_true rfl) (fun _ _ => ⟨rfl, rfl⟩) e2.symm ?_
  have f3 := a_set e2 hm
  have l4 := l_set e2 rfl
  refine J_aload_n (i := 0) (j := 0) dX11_mean_5 rfl rfl ?_
  refine J_iload_n (i := 1) (j := 1) dX11_mean_6 rfl rfl ?_
  refine J_iload_n (i := 2) (j := 2) dX11_mean_7 rfl rfl ?_
  have f5 : h1[167]? = some (.inl (1, 8, .inl (fun _ => 0))) := (s_ne e2 (by decide)).trans hy
  refine J_callV (As := [.int a0, .int a1]) (rest := []) dX11_mean_8 (c_X11_lay0 (d := 2) (h := h1)  (by decide) f3 f5 ) hq.n k1503 k1505 k52 f3 rfl rfl k97 k1506 np_X11_lay (Nat.le_trans (by decide) hd) (by decide) (Nat.le_refl _) (Nat.le_refl _) (hkz l4) rfl (Nat.le_of_ble_eq_true rfl) (fun r6 h7 p8 => ?_)
  obtain ⟨rfl, w9⟩ := p8
  refine J_w w9 ?_
  refine J_if_eq (tgt := 34) dX11_mean_11 (by decide) (fun _ => ?_) (fun q => absurd (by decide) q)
  refine J_ldc2 (v := (-1)) dX11_mean_34 k1578 ?_
  exact J_lret hq dX11_mean_37 rfl (hkz l4) (Nat.le_refl _) (Nat.le_refl _) rfl
set_option maxHeartbeats 4000000 in
set_option maxRecDepth 100000 in
theorem c_X11_rows0 {d : Nat} {h : List MC} {a0 a1 a2 : Int32} (hd : 4 ≤ d) (hm : h[162]? = some (.inr (11, [.int 0, .ref 163, .ref 164, .ref 165, .ref 166, .ref 167, .ref 168, .ref 169, .int 0, .int 0, .int 0, .int 0, .int 0, .long 0, .int 0, .int 0, .int 0, .int 0, .int 0, .ref 170, .ref 171, .ref 172, .int 0, .int 0, .int 0, .int 0, .int 0, .int 0, .ref 173, .ref 174, .ref 175, .int 0, .int 0, .int 0, .ref 176, .ref 177, .ref 178, .ref 179, .ref 180, .int 0, .long 0, .int 0, .ref 181]))) (hy : h[167]? = some (.inl (1, 8, .inl (fun _ => 0))))  : CT con0 d 0 0 yX11_rows cX11_rows 8 (some .long) [.ref 162, .int a0, .int a1, .int a2] h (fun r h2 => r = some (.long (-1))) := by
  refine CT_of (by decide) (Nat.le_of_ble_eq_true rfl) (fun x hq => ?_)
  show J x yX11_rows cX11_rows 8 (some .long) d 0 0 h.length 0 [(0, .ref 162), (1, .int a0), (2, .int a1), (3, .int a2)] [] h 0 0
  refine J_aload_n (i := 0) (j := 0) dX11_rows_0 rfl rfl ?_
  refine J_iconst (v := 0) dX11_rows_1 (by decide) ?_
  obtain ⟨h1, e2⟩ : ∃ z, z = h.set 162 (.inr (11, [.int 0, .ref 163, .ref 164, .ref 165, .ref 166, .ref 167, .ref 168, .ref 169, .int 0, .int 0, .int 0, .int 0, .int 0, .long 0, .int 0, .int 0, .int 0, .int 0, .int 0, .ref 170, .ref 171, .ref 172, .int 0, .int 0, .int 0, .int 0, .int 0, .int 0, .ref 173, .ref 174, .ref 175, .int 0, .int 0, .int 0, .ref 176, .ref 177, .ref 178, .ref 179, .ref 180, .int 0, .long 0, .int 0, .ref 181])) := ⟨_, rfl⟩
  refine J_put (C := RX11) (T := TX11) (Z := 43) (ci := 11) (f := 0) (ty0 := tyX11) dX11_rows_2 inG11 rfl tyX11_ok nmX11 (by decide) k1264 rfl rfl hm (Nat.le_of_ble_eq_true rfl) (fun _ _ => ⟨rfl, rfl⟩) e2.symm ?_
  have f3 := a_set e2 hm
  have l4 := l_set e2 rfl
  refine J_aload_n (i := 0) (j := 0) dX11_rows_5 rfl rfl ?_
  refine J_iload_n (i := 1) (j := 1) dX11_rows_6 rfl rfl ?_
  refine J_iload_n (i := 2) (j := 2) dX11_rows_7 rfl rfl ?_
  have f5 : h1[167]? = some (.inl (1, 8, .inl (fun _ => 0))) := (s_ne e2 (by decide)).trans hy
  refine J_callV (As := [.int a0, .int a1]) (rest := []) dX11_rows_8 (c_X11_lay0 (d := 2) (h := h1)  (by decide) f3 f5 ) hq.n k1503 k1505 k52 f3 rfl rfl k97 k1506 np_X11_lay (Nat.le_trans (by decide) hd) (by decide) (Nat.le_refl _) (Nat.le_refl _) (hkz l4) rfl (Nat.le_of_ble_eq_true rfl) (fun r6 h7 p8 => ?_)
  obtain ⟨rfl, w9⟩ := p8
  refine J_w w9 ?_
  refine J_if_ne (tgt := 18) dX11_rows_11 (by decide) (fun q => absurd (by decide) q) (fun _ => ?_)
  refine J_ldc2 (v := (-1)) dX11_rows_14 k1578 ?_
  exact J_lret hq dX11_rows_17 rfl (hkz l4) (Nat.le_refl _) (Nat.le_refl _) rfl
set_option maxHeartbeats 4000000 in
set_option maxRecDepth 100000 in
theorem c_X11_brings0 {d : Nat} {h : List MC} {a0 a1 a2 a3 : Int32} (hd : 4 ≤ d) (hm : h[162]? = some (.inr (11, [.int 0, .ref 163, .ref 164, .ref 165, .ref 166, .ref 167, .ref 168, .ref 169, .int 0, .int 0, .int 0, .int 0, .int 0, .long 0, .int 0, .int 0, .int 0, .int 0, .int 0, .ref 170, .ref 171, .ref 172, .int 0, .int 0, .int 0, .int 0, .int 0, .int 0, .ref 173, .ref 174, .ref 175, .int 0, .int 0, .int 0, .ref 176, .ref 177, .ref 178, .ref 179, .ref 180, .int 0, .long 0, .int 0, .ref 181]))) (hy : h[167]? = some (.inl (1, 8, .inl (fun _ => 0))))  : CT con0 d 0 0 yX11_brings cX11_brings 7 (some .int) [.ref 162, .int a0, .int a1, .int a2, .int a3] h (fun r h2 => r = some (.int (-1))) := by
  refine CT_of (by decide) (Nat.le_of_ble_eq_true rfl) (fun x hq => ?_)
  show J x yX11_brings cX11_brings 7 (some .int) d 0 0 h.length 0 [(0, .ref 162), (1, .int a0), (2, .int a1), (3, .int a2), (4, .int a3)] [] h 0 0
  refine J_aload_n (i := 0) (j := 0) dX11_brings_0 rfl rfl ?_
  refine J_iconst (v := 0) dX11_brings_1 (by decide) ?_
  obtain ⟨h1, e2⟩ : ∃ z, z = h.set 162 (.inr (11, [.int 0, .ref 163, .ref 164, .ref 165, .ref 166, .ref 167, .ref 168, .ref 169, .int 0, .int 0, .int 0, .int 0, .int 0, .long 0, .int 0, .int 0, .int 0, .int 0, .int 0, .ref 170, .ref 171, .ref 172, .int 0, .int 0, .int 0, .int 0, .int 0, .int 0, .ref 173, .ref 174, .ref 175, .int 0, .int 0, .int 0, .ref 176, .ref 177, .ref 178, .ref 179, .ref 180, .int 0, .long 0, .int 0, .ref 181])) := ⟨_, rfl⟩
  refine J_put (C := RX11) (T := TX11) (Z := 43) (ci := 11) (f := 0) (ty0 := tyX11) dX11_brings_2 inG11 rfl tyX11_ok nmX11 (by decide) k1264 rfl rfl hm (Nat.le_of_ble_eq_true rfl) (fun _ _ => ⟨rfl, rfl⟩) e2.symm ?_
  have f3 := a_set e2 hm
  have l4 := l_set e2 rfl
  refine J_aload_n (i := 0) (j := 0) dX11_brings_5 rfl rfl ?_
  refine J_iload_n (i := 1) (j := 1) dX11_brings_6 rfl rfl ?_
  refine J_iload_n (i := 2) (j := 2) dX11_brings_7 rfl rfl ?_
  have f5 : h1[167]? = some (.inl (1, 8, .inl (fun _ => 0))) := (s_ne e2 (by decide)).trans hy
  refine J_callV (As := [.int a0, .int a1]) (rest := []) dX11_brings_8 (c_X11_lay0 (d := 2) (h := h1)  (by decide) f3 f5 ) hq.n k1503 k1505 k52 f3 rfl rfl k97 k1506 np_X11_lay (Nat.le_trans (by decide) hd) (by decide) (Nat.le_refl _) (Nat.le_refl _) (hkz l4) rfl (Nat.le_of_ble_eq_true rfl) (fun r6 h7 p8 => ?_)
  obtain ⟨rfl, w9⟩ := p8
  refine J_w w9 ?_
  refine J_if_eq (tgt := 31) dX11_brings_11 (by decide) (fun _ => ?_) (fun q => absurd (by decide) q)
  refine J_iconst (v := (-1)) dX11_brings_31 (by decide) ?_
  exact J_iret hq dX11_brings_32 rfl (hkz l4) (Nat.le_refl _) (Nat.le_refl _) rfl
set_option maxHeartbeats 4000000 in
set_option maxRecDepth 100000 in
theorem c_X11_best0 {d : Nat} {h : List MC} {a0 a1 a2 a3 : Int32} (hd : 4 ≤ d) (hm : h[162]? = some (.inr (11, [.int 0, .ref 163, .ref 164, .ref 165, .ref 166, .ref 167, .ref 168, .ref 169, .int 0, .int 0, .int 0, .int 0, .int 0, .long 0, .int 0, .int 0, .int 0, .int 0, .int 0, .ref 170, .ref 171, .ref 172, .int 0, .int 0, .int 0, .int 0, .int 0, .int 0, .ref 173, .ref 174, .ref 175, .int 0, .int 0, .int 0, .ref 176, .ref 177, .ref 178, .ref 179, .ref 180, .int 0, .long 0, .int 0, .ref 181]))) (hy : h[167]? = some (.inl (1, 8, .inl (fun _ => 0))))  : CT con0 d 0 0 yX11_best cX11_best 11 (some .int) [.ref 162, .int a0, .int a1, .int a2, .int a3] h (fun r h2 => r = some (.int (-1))) := by
  refine CT_of (by decide) (Nat.le_of_ble_eq_true rfl) (fun x hq => ?_)
  show J x yX11_best cX11_best 11 (some .int) d 0 0 h.length 0 [(0, .ref 162), (1, .int a0), (2, .int a1), (3, .int a2), (4, .int a3)] [] h 0 0
  refine J_aload_n (i := 0) (j := 0) dX11_best_0 rfl rfl ?_
  refine J_iconst (v := 0) dX11_best_1 (by decide) ?_
  obtain ⟨h1, e2⟩ : ∃ z, z = h.set 162 (.inr (11, [.int 0, .ref 163, .ref 164, .ref 165, .ref 166, .ref 167, .ref 168, .ref 169, .int 0, .int 0, .int 0, .int 0, .int 0, .long 0, .int 0, .int 0, .int 0, .int 0, .int 0, .ref 170, .ref 171, .ref 172, .int 0, .int 0, .int 0, .int 0, .int 0, .int 0, .ref 173, .ref 174, .ref 175, .int 0, .int 0, .int 0, .ref 176, .ref 177, .ref 178, .ref 179, .ref 180, .int 0, .long 0, .int 0, .ref 181])) := ⟨_, rfl⟩
  refine J_put (C := RX11) (T := TX11) (Z := 43) (ci := 11) (f := 0) (ty0 := tyX11) dX11_best_2 inG11 rfl tyX11_ok nmX11 (by decide) k1264 rfl rfl hm (Nat.le_of_ble_eq_true rfl) (fun _ _ => ⟨rfl, rfl⟩) e2.symm ?_
  have f3 := a_set e2 hm
  have l4 := l_set e2 rfl
  refine J_aload_n (i := 0) (j := 0) dX11_best_5 rfl rfl ?_
  refine J_iload_n (i := 1) (j := 1) dX11_best_6 rfl rfl ?_
  refine J_iload_n (i := 2) (j := 2) dX11_best_7 rfl rfl ?_
  refine J_iload_n (i := 3) (j := 3) dX11_best_8 rfl rfl ?_
  refine J_iload (i := 4) (j := 4) dX11_best_9 rfl ?_
  have f5 : h1[167]? = some (.inl (1, 8, .inl (fun _ => 0))) := (s_ne e2 (by decide)).trans hy
  refine J_callV (As := [.int a0, .int a1, .int a2, .int a3]) (rest := []) dX11_best_11 (c_X11_canMend0 (d := 3) (h := h1)  (by decide) f3 f5 ) hq.n k1615 k1617 k69 f3 rfl rfl k97 k1618 np_X11_canMend (Nat.le_trans (by decide) hd) (by decide) (Nat.le_refl _) (Nat.le_refl _) (hkz l4) rfl (Nat.le_of_ble_eq_true rfl) (fun r6 h7 p8 => ?_)
  obtain ⟨rfl, w9⟩ := p8
  refine J_w w9 ?_
  refine J_if_ne (tgt := 19) dX11_best_14 (by decide) (fun q => absurd (by decide) q) (fun _ => ?_)
  refine J_iconst (v := (-1)) dX11_best_17 (by decide) ?_
  exact J_iret hq dX11_best_18 rfl (hkz l4) (Nat.le_refl _) (Nat.le_refl _) rfl
set_option maxHeartbeats 4000000 in
set_option maxRecDepth 100000 in
theorem c_X11_steps0 {d : Nat} {h : List MC} {a0 a1 a2 a3 : Int32} (hd : 4 ≤ d) (hm : h[162]? = some (.inr (11, [.int 0, .ref 163, .ref 164, .ref 165, .ref 166, .ref 167, .ref 168, .ref 169, .int 0, .int 0, .int 0, .int 0, .int 0, .long 0, .int 0, .int 0, .int 0, .int 0, .int 0, .ref 170, .ref 171, .ref 172, .int 0, .int 0, .int 0, .int 0, .int 0, .int 0, .ref 173, .ref 174, .ref 175, .int 0, .int 0, .int 0, .ref 176, .ref 177, .ref 178, .ref 179, .ref 180, .int 0, .long 0, .int 0, .ref 181]))) (hy : h[167]? = some (.inl (1, 8, .inl (fun _ => 0))))  : CT con0 d 0 0 yX11_steps cX11_steps 8 (some .int) [.ref 162, .int a0, .int a1, .int a2, .int a3] h (fun r h2 => r = some (.int (-1))) := by
  refine CT_of (by decide) (Nat.le_of_ble_eq_true rfl) (fun x hq => ?_)
  show J x yX11_steps cX11_steps 8 (some .int) d 0 0 h.length 0 [(0, .ref 162), (1, .int a0), (2, .int a1), (3, .int a2), (4, .int a3)] [] h 0 0
  refine J_aload_n (i := 0) (j := 0) dX11_steps_0 rfl rfl ?_
  refine J_iconst (v := 0) dX11_steps_1 (by decide) ?_
  obtain ⟨h1, e2⟩ : ∃ z, z = h.set 162 (.inr (11, [.int 0, .ref 163, .ref 164, .ref 165, .ref 166, .ref 167, .ref 168, .ref 169, .int 0, .int 0, .int 0, .int 0, .int 0, .long 0, .int 0, .int 0, .int 0, .int 0, .int 0, .ref 170, .ref 171, .ref 172, .int 0, .int 0, .int 0, .int 0, .int 0, .int 0, .ref 173, .ref 174, .ref 175, .int 0, .int 0, .int 0, .ref 176, .ref 177, .ref 178, .ref 179, .ref 180, .int 0, .long 0, .int 0, .ref 181])) := ⟨_, rfl⟩
  refine J_put (C := RX11) (T := TX11) (Z := 43) (ci := 11) (f := 0) (ty0 := tyX11) dX11_steps_2 inG11 rfl tyX11_ok nmX11 (by decide) k1264 rfl rfl hm (Nat.le_of_ble_eq_true rfl) (fun _ _ => ⟨rfl, rfl⟩) e2.symm ?_
  have f3 := a_set e2 hm
  have l4 := l_set e2 rfl
  refine J_aload_n (i := 0) (j := 0) dX11_steps_5 rfl rfl ?_
  refine J_iload_n (i := 1) (j := 1) dX11_steps_6 rfl rfl ?_
  refine J_iload_n (i := 2) (j := 2) dX11_steps_7 rfl rfl ?_
  refine J_iload_n (i := 3) (j := 3) dX11_steps_8 rfl rfl ?_
  refine J_iload (i := 4) (j := 4) dX11_steps_9 rfl ?_
  have f5 : h1[167]? = some (.inl (1, 8, .inl (fun _ => 0))) := (s_ne e2 (by decide)).trans hy
  refine J_callV (As := [.int a0, .int a1, .int a2, .int a3]) (rest := []) dX11_steps_11 (c_X11_canMend0 (d := 3) (h := h1)  (by decide) f3 f5 ) hq.n k1615 k1617 k69 f3 rfl rfl k97 k1618 np_X11_canMend (Nat.le_trans (by decide) hd) (by decide) (Nat.le_refl _) (Nat.le_refl _) (hkz l4) rfl (Nat.le_of_ble_eq_true rfl) (fun r6 h7 p8 => ?_)
  obtain ⟨rfl, w9⟩ := p8
  refine J_w w9 ?_
  refine J_if_ne (tgt := 19) dX11_steps_14 (by decide) (fun q => absurd (by decide) q) (fun _ => ?_)
  refine J_iconst (v := (-1)) dX11_steps_17 (by decide) ?_
  exact J_iret hq dX11_steps_18 rfl (hkz l4) (Nat.le_refl _) (Nat.le_refl _) rfl
set_option maxHeartbeats 4000000 in
set_option maxRecDepth 100000 in
theorem c_X11_mended0 {d : Nat} {h : List MC} {a0 a1 a2 : Int32} (hd : 4 ≤ d) (hm : h[162]? = some (.inr (11, [.int 0, .ref 163, .ref 164, .ref 165, .ref 166, .ref 167, .ref 168, .ref 169, .int 0, .int 0, .int 0, .int 0, .int 0, .long 0, .int 0, .int 0, .int 0, .int 0, .int 0, .ref 170, .ref 171, .ref 172, .int 0, .int 0, .int 0, .int 0, .int 0, .int 0, .ref 173, .ref 174, .ref 175, .int 0, .int 0, .int 0, .ref 176, .ref 177, .ref 178, .ref 179, .ref 180, .int 0, .long 0, .int 0, .ref 181]))) (hy : h[167]? = some (.inl (1, 8, .inl (fun _ => 0))))  : CT con0 d 0 0 yX11_mended cX11_mended 4 (some .long) [.ref 162, .int a0, .int a1, .int a2] h (fun r h2 => r = some (.long (-1))) := by
  refine CT_of (by decide) (Nat.le_of_ble_eq_true rfl) (fun x hq => ?_)
  show J x yX11_mended cX11_mended 4 (some .long) d 0 0 h.length 0 [(0, .ref 162), (1, .int a0), (2, .int a1), (3, .int a2)] [] h 0 0
  refine J_aload_n (i := 0) (j := 0) dX11_mended_0 rfl rfl ?_
  refine J_iconst (v := 0) dX11_mended_1 (by decide) ?_
  obtain ⟨h1, e2⟩ : ∃ z, z = h.set 162 (.inr (11, [.int 0, .ref 163, .ref 164, .ref 165, .ref 166, .ref 167, .ref 168, .ref 169, .int 0, .int 0, .int 0, .int 0, .int 0, .long 0, .int 0, .int 0, .int 0, .int 0, .int 0, .ref 170, .ref 171, .ref 172, .int 0, .int 0, .int 0, .int 0, .int 0, .int 0, .ref 173, .ref 174, .ref 175, .int 0, .int 0, .int 0, .ref 176, .ref 177, .ref 178, .ref 179, .ref 180, .int 0, .long 0, .int 0, .ref 181])) := ⟨_, rfl⟩
  refine J_put (C := RX11) (T := TX11) (Z := 43) (ci := 11) (f := 0) (ty0 := tyX11) dX11_mended_2 inG11 rfl tyX11_ok nmX11 (by decide) k1264 rfl rfl hm (Nat.le_of_ble_eq_true rfl) (fun _ _ => ⟨rfl, rfl⟩) e2.symm ?_
  have f3 := a_set e2 hm
  have l4 := l_set e2 rfl
  refine J_aload_n (i := 0) (j := 0) dX11_mended_5 rfl rfl ?_
  refine J_iload_n (i := 1) (j := 1) dX11_mended_6 rfl rfl ?_
  refine J_iload_n (i := 2) (j := 2) dX11_mended_7 rfl rfl ?_
  have f5 : h1[167]? = some (.inl (1, 8, .inl (fun _ => 0))) := (s_ne e2 (by decide)).trans hy
  refine J_callV (As := [.int a0, .int a1]) (rest := []) dX11_mended_8 (c_X11_lay0 (d := 2) (h := h1)  (by decide) f3 f5 ) hq.n k1503 k1505 k52 f3 rfl rfl k97 k1506 np_X11_lay (Nat.le_trans (by decide) hd) (by decide) (Nat.le_refl _) (Nat.le_refl _) (hkz l4) rfl (Nat.le_of_ble_eq_true rfl) (fun r6 h7 p8 => ?_)
  obtain ⟨rfl, w9⟩ := p8
  refine J_w w9 ?_
  refine J_if_eq (tgt := 22) dX11_mended_11 (by decide) (fun _ => ?_) (fun q => absurd (by decide) q)
  refine J_ldc2 (v := (-1)) dX11_mended_22 k1578 ?_
  exact J_lret hq dX11_mended_25 rfl (hkz l4) (Nat.le_refl _) (Nat.le_refl _) rfl
set_option maxHeartbeats 4000000 in
set_option maxRecDepth 100000 in
theorem c_X11_one0 {d : Nat} {h : List MC} {a0 a1 a2 : Int32} (hd : 4 ≤ d) (hm : h[162]? = some (.inr (11, [.int 0, .ref 163, .ref 164, .ref 165, .ref 166, .ref 167, .ref 168, .ref 169, .int 0, .int 0, .int 0, .int 0, .int 0, .long 0, .int 0, .int 0, .int 0, .int 0, .int 0, .ref 170, .ref 171, .ref 172, .int 0, .int 0, .int 0, .int 0, .int 0, .int 0, .ref 173, .ref 174, .ref 175, .int 0, .int 0, .int 0, .ref 176, .ref 177, .ref 178, .ref 179, .ref 180, .int 0, .long 0, .int 0, .ref 181]))) (hy : h[167]? = some (.inl (1, 8, .inl (fun _ => 0))))  : CT con0 d 0 0 yX11_one cX11_one 10 (some .long) [.ref 162, .int a0, .int a1, .int a2] h (fun r h2 => r = some (.long (-1))) := by
  refine CT_of (by decide) (Nat.le_of_ble_eq_true rfl) (fun x hq => ?_)
  show J x yX11_one cX11_one 10 (some .long) d 0 0 h.length 0 [(0, .ref 162), (1, .int a0), (2, .int a1), (3, .int a2)] [] h 0 0
  refine J_aload_n (i := 0) (j := 0) dX11_one_0 rfl rfl ?_
  refine J_iconst (v := 0) dX11_one_1 (by decide) ?_
  obtain ⟨h1, e2⟩ : ∃ z, z = h.set 162 (.inr (11, [.int 0, .ref 163, .ref 164, .ref 165, .ref 166, .ref 167, .ref 168, .ref 169, .int 0, .int 0, .int 0, .int 0, .int 0, .long 0, .int 0, .int 0, .int 0, .int 0, .int 0, .ref 170, .ref 171, .ref 172, .int 0, .int 0, .int 0, .int 0, .int 0, .int 0, .ref 173, .ref 174, .ref 175, .int 0, .int 0, .int 0, .ref 176, .ref 177, .ref 178, .ref 179, .ref 180, .int 0, .long 0, .int 0, .ref 181])) := ⟨_, rfl⟩
  refine J_put (C := RX11) (T := TX11) (Z := 43) (ci := 11) (f := 0) (ty0 := tyX11) dX11_one_2 inG11 rfl tyX11_ok nmX11 (by decide) k1264 rfl rfl hm (Nat.le_of_ble_eq_true rfl) (fun _ _ => ⟨rfl, rfl⟩) e2.symm ?_
  have f3 := a_set e2 hm
  have l4 := l_set e2 rfl
  refine J_aload_n (i := 0) (j := 0) dX11_one_5 rfl rfl ?_
  refine J_iload_n (i := 1) (j := 1) dX11_one_6 rfl rfl ?_
  refine J_iload_n (i := 2) (j := 2) dX11_one_7 rfl rfl ?_
  have f5 : h1[167]? = some (.inl (1, 8, .inl (fun _ => 0))) := (s_ne e2 (by decide)).trans hy
  refine J_callV (As := [.int a0, .int a1]) (rest := []) dX11_one_8 (c_X11_lay0 (d := 2) (h := h1)  (by decide) f3 f5 ) hq.n k1503 k1505 k52 f3 rfl rfl k97 k1506 np_X11_lay (Nat.le_trans (by decide) hd) (by decide) (Nat.le_refl _) (Nat.le_refl _) (hkz l4) rfl (Nat.le_of_ble_eq_true rfl) (fun r6 h7 p8 => ?_)
  obtain ⟨rfl, w9⟩ := p8
  refine J_w w9 ?_
  refine J_if_eq (tgt := 21) dX11_one_11 (by decide) (fun _ => ?_) (fun q => absurd (by decide) q)
  refine J_ldc2 (v := (-1)) dX11_one_21 k1578 ?_
  exact J_lret hq dX11_one_24 rfl (hkz l4) (Nat.le_refl _) (Nat.le_refl _) rfl
set_option maxHeartbeats 4000000 in
set_option maxRecDepth 100000 in
theorem c_X11_low0 {d : Nat} {h : List MC} {a0 a1 a2 : Int32} (hd : 4 ≤ d) (hm : h[162]? = some (.inr (11, [.int 0, .ref 163, .ref 164, .ref 165, .ref 166, .ref 167, .ref 168, .ref 169, .int 0, .int 0, .int 0, .int 0, .int 0, .long 0, .int 0, .int 0, .int 0, .int 0, .int 0, .ref 170, .ref 171, .ref 172, .int 0, .int 0, .int 0, .int 0, .int 0, .int 0, .ref 173, .ref 174, .ref 175, .int 0, .int 0, .int 0, .ref 176, .ref 177, .ref 178, .ref 179, .ref 180, .int 0, .long 0, .int 0, .ref 181]))) (hy : h[167]? = some (.inl (1, 8, .inl (fun _ => 0))))  : CT con0 d 0 0 yX11_low cX11_low 11 (some .int) [.ref 162, .int a0, .int a1, .int a2] h (fun r h2 => r = some (.int (-1))) := by
  refine CT_of (by decide) (Nat.le_of_ble_eq_true rfl) (fun x hq => ?_)
  show J x yX11_low cX11_low 11 (some .int) d 0 0 h.length 0 [(0, .ref 162), (1, .int a0), (2, .int a1), (3, .int a2)] [] h 0 0
  refine J_aload_n (i := 0) (j := 0) dX11_low_0 rfl rfl ?_
  refine J_iconst (v := 0) dX11_low_1 (by decide) ?_
  obtain ⟨h1, e2⟩ : ∃ z, z = h.set 162 (.inr (11, [.int 0, .ref 163, .ref 164, .ref 165, .ref 166, .ref 167, .ref 168, .ref 169, .int 0, .int 0, .int 0, .int 0, .int 0, .long 0, .int 0, .int 0, .int 0, .int 0, .int 0, .ref 170, .ref 171, .ref 172, .int 0, .int 0, .int 0, .int 0, .int 0, .int 0, .ref 173, .ref 174, .ref 175, .int 0, .int 0, .int 0, .ref 176, .ref 177, .ref 178, .ref 179, .ref 180, .int 0, .long 0, .int 0, .ref 181])) := ⟨_, rfl⟩
  refine J_put (C := RX11) (T := TX11) (Z := 43) (ci := 11) (f := 0) (ty0 := tyX11) dX11_low_2 inG11 rfl tyX11_ok nmX11 (by decide) k1264 rfl rfl hm (Nat.le_of_ble_eq_true rfl) (fun _ _ => ⟨rfl, rfl⟩) e2.symm ?_
  have f3 := a_set e2 hm
  have l4 := l_set e2 rfl
  refine J_aload_n (i := 0) (j := 0) dX11_low_5 rfl rfl ?_
  refine J_iload_n (i := 1) (j := 1) dX11_low_6 rfl rfl ?_
  refine J_iload_n (i := 2) (j := 2) dX11_low_7 rfl rfl ?_
  have f5 : h1[167]? = some (.inl (1, 8, .inl (fun _ => 0))) := (s_ne e2 (by decide)).trans hy
  refine J_callV (As := [.int a0, .int a1]) (rest := []) dX11_low_8 (c_X11_lay0 (d := 2) (h := h1)  (by decide) f3 f5 ) hq.n k1503 k1505 k52 f3 rfl rfl k97 k1506 np_X11_lay (Nat.le_trans (by decide) hd) (by decide) (Nat.le_refl _) (Nat.le_refl _) (hkz l4) rfl (Nat.le_of_ble_eq_true rfl) (fun r6 h7 p8 => ?_)
  obtain ⟨rfl, w9⟩ := p8
  refine J_w w9 ?_
  refine J_if_eq (tgt := 22) dX11_low_11 (by decide) (fun _ => ?_) (fun q => absurd (by decide) q)
  refine J_iconst (v := (-1)) dX11_low_22 (by decide) ?_
  exact J_iret hq dX11_low_23 rfl (hkz l4) (Nat.le_refl _) (Nat.le_refl _) rfl
set_option maxHeartbeats 4000000 in
set_option maxRecDepth 100000 in
theorem c_X11_helps0 {d : Nat} {h : List MC} {a0 a1 a2 a3 : Int32} (hd : 4 ≤ d) (hm : h[162]? = some (.inr (11, [.int 0, .ref 163, .ref 164, .ref 165, .ref 166, .ref 167, .ref 168, .ref 169, .int 0, .int 0, .int 0, .int 0, .int 0, .long 0, .int 0, .int 0, .int 0, .int 0, .int 0, .ref 170, .ref 171, .ref 172, .int 0, .int 0, .int 0, .int 0, .int 0, .int 0, .ref 173, .ref 174, .ref 175, .int 0, .int 0, .int 0, .ref 176, .ref 177, .ref 178, .ref 179, .ref 180, .int 0, .long 0, .int 0, .ref 181]))) (hy : h[167]? = some (.inl (1, 8, .inl (fun _ => 0))))  : CT con0 d 0 0 yX11_helps cX11_helps 5 (some .long) [.ref 162, .int a0, .int a1, .int a2, .int a3] h (fun r h2 => r = some (.long (-1))) := by
  refine CT_of (by decide) (Nat.le_of_ble_eq_true rfl) (fun x hq => ?_)
  show J x yX11_helps cX11_helps 5 (some .long) d 0 0 h.length 0 [(0, .ref 162), (1, .int a0), (2, .int a1), (3, .int a2), (4, .int a3)] [] h 0 0
  refine J_aload_n (i := 0) (j := 0) dX11_helps_0 rfl rfl ?_
  refine J_iconst (v := 0) dX11_helps_1 (by decide) ?_
  obtain ⟨h1, e2⟩ : ∃ z, z = h.set 162 (.inr (11, [.int 0, .ref 163, .ref 164, .ref 165, .ref 166, .ref 167, .ref 168, .ref 169, .int 0, .int 0, .int 0, .int 0, .int 0, .long 0, .int 0, .int 0, .int 0, .int 0, .int 0, .ref 170, .ref 171, .ref 172, .int 0, .int 0, .int 0, .int 0, .int 0, .int 0, .ref 173, .ref 174, .ref 175, .int 0, .int 0, .int 0, .ref 176, .ref 177, .ref 178, .ref 179, .ref 180, .int 0, .long 0, .int 0, .ref 181])) := ⟨_, rfl⟩
  refine J_put (C := RX11) (T := TX11) (Z := 43) (ci := 11) (f := 0) (ty0 := tyX11) dX11_helps_2 inG11 rfl tyX11_ok nmX11 (by decide) k1264 rfl rfl hm (Nat.le_of_ble_eq_true rfl) (fun _ _ => ⟨rfl, rfl⟩) e2.symm ?_
  have f3 := a_set e2 hm
  have l4 := l_set e2 rfl
  refine J_aload_n (i := 0) (j := 0) dX11_helps_5 rfl rfl ?_
  refine J_iload_n (i := 1) (j := 1) dX11_helps_6 rfl rfl ?_
  refine J_iload_n (i := 2) (j := 2) dX11_helps_7 rfl rfl ?_
  have f5 : h1[167]? = some (.inl (1, 8, .inl (fun _ => 0))) := (s_ne e2 (by decide)).trans hy
  refine J_callV (As := [.int a0, .int a1]) (rest := []) dX11_helps_8 (c_X11_lay0 (d := 2) (h := h1)  (by decide) f3 f5 ) hq.n k1503 k1505 k52 f3 rfl rfl k97 k1506 np_X11_lay (Nat.le_trans (by decide) hd) (by decide) (Nat.le_refl _) (Nat.le_refl _) (hkz l4) rfl (Nat.le_of_ble_eq_true rfl) (fun r6 h7 p8 => ?_)
  obtain ⟨rfl, w9⟩ := p8
  refine J_w w9 ?_
  refine J_if_eq (tgt := 29) dX11_helps_11 (by decide) (fun _ => ?_) (fun q => absurd (by decide) q)
  refine J_ldc2 (v := (-1)) dX11_helps_29 k1578 ?_
  exact J_lret hq dX11_helps_32 rfl (hkz l4) (Nat.le_refl _) (Nat.le_refl _) rfl
set_option maxHeartbeats 4000000 in
set_option maxRecDepth 100000 in
theorem c_X11_alone0 {d : Nat} {h : List MC} {a0 a1 a2 : Int32} (hd : 4 ≤ d) (hm : h[162]? = some (.inr (11, [.int 0, .ref 163, .ref 164, .ref 165, .ref 166, .ref 167, .ref 168, .ref 169, .int 0, .int 0, .int 0, .int 0, .int 0, .long 0, .int 0, .int 0, .int 0, .int 0, .int 0, .ref 170, .ref 171, .ref 172, .int 0, .int 0, .int 0, .int 0, .int 0, .int 0, .ref 173, .ref 174, .ref 175, .int 0, .int 0, .int 0, .ref 176, .ref 177, .ref 178, .ref 179, .ref 180, .int 0, .long 0, .int 0, .ref 181]))) (hy : h[167]? = some (.inl (1, 8, .inl (fun _ => 0))))  : CT con0 d 0 0 yX11_alone cX11_alone 4 (some .long) [.ref 162, .int a0, .int a1, .int a2] h (fun r h2 => r = some (.long (-1))) := by
  refine CT_of (by decide) (Nat.le_of_ble_eq_true rfl) (fun x hq => ?_)
  show J x yX11_alone cX11_alone 4 (some .long) d 0 0 h.length 0 [(0, .ref 162), (1, .int a0), (2, .int a1), (3, .int a2)] [] h 0 0
  refine J_aload_n (i := 0) (j := 0) dX11_alone_0 rfl rfl ?_
  refine J_iconst (v := 0) dX11_alone_1 (by decide) ?_
  obtain ⟨h1, e2⟩ : ∃ z, z = h.set 162 (.inr (11, [.int 0, .ref 163, .ref 164, .ref 165, .ref 166, .ref 167, .ref 168, .ref 169, .int 0, .int 0, .int 0, .int 0, .int 0, .long 0, .int 0, .int 0, .int 0, .int 0, .int 0, .ref 170, .ref 171, .ref 172, .int 0, .int 0, .int 0, .int 0, .int 0, .int 0, .ref 173, .ref 174, .ref 175, .int 0, .int 0, .int 0, .ref 176, .ref 177, .ref 178, .ref 179, .ref 180, .int 0, .long 0, .int 0, .ref 181])) := ⟨_, rfl⟩
  refine J_put (C := RX11) (T := TX11) (Z := 43) (ci := 11) (f := 0) (ty0 := tyX11) dX11_alone_2 inG11 rfl tyX11_ok nmX11 (by decide) k1264 rfl rfl hm (Nat.le_of_ble_eq_true rfl) (fun _ _ => ⟨rfl, rfl⟩) e2.symm ?_
  have f3 := a_set e2 hm
  have l4 := l_set e2 rfl
  refine J_aload_n (i := 0) (j := 0) dX11_alone_5 rfl rfl ?_
  refine J_iload_n (i := 1) (j := 1) dX11_alone_6 rfl rfl ?_
  refine J_iload_n (i := 2) (j := 2) dX11_alone_7 rfl rfl ?_
  have f5 : h1[167]? = some (.inl (1, 8, .inl (fun _ => 0))) := (s_ne e2 (by decide)).trans hy
  refine J_callV (As := [.int a0, .int a1]) (rest := []) dX11_alone_8 (c_X11_lay0 (d := 2) (h := h1)  (by decide) f3 f5 ) hq.n k1503 k1505 k52 f3 rfl rfl k97 k1506 np_X11_lay (Nat.le_trans (by decide) hd) (by decide) (Nat.le_refl _) (Nat.le_refl _) (hkz l4) rfl (Nat.le_of_ble_eq_true rfl) (fun r6 h7 p8 => ?_)
  obtain ⟨rfl, w9⟩ := p8
  refine J_w w9 ?_
  refine J_if_eq (tgt := 21) dX11_alone_11 (by decide) (fun _ => ?_) (fun q => absurd (by decide) q)
  refine J_ldc2 (v := (-1)) dX11_alone_21 k1578 ?_
  exact J_lret hq dX11_alone_24 rfl (hkz l4) (Nat.le_refl _) (Nat.le_refl _) rfl
set_option maxHeartbeats 4000000 in
set_option maxRecDepth 100000 in
theorem c_X11_hear0 {d : Nat} {h : List MC} {a0 a1 a2 a3 : Int32} (hd : 4 ≤ d) (hm : h[162]? = some (.inr (11, [.int 0, .ref 163, .ref 164, .ref 165, .ref 166, .ref 167, .ref 168, .ref 169, .int 0, .int 0, .int 0, .int 0, .int 0, .long 0, .int 0, .int 0, .int 0, .int 0, .int 0, .ref 170, .ref 171, .ref 172, .int 0, .int 0, .int 0, .int 0, .int 0, .int 0, .ref 173, .ref 174, .ref 175, .int 0, .int 0, .int 0, .ref 176, .ref 177, .ref 178, .ref 179, .ref 180, .int 0, .long 0, .int 0, .ref 181]))) (hy : h[167]? = some (.inl (1, 8, .inl (fun _ => 0))))  : CT con0 d 0 0 yX11_hear cX11_hear 7 (some .long) [.ref 162, .int a0, .int a1, .int a2, .int a3] h (fun r h2 => r = some (.long (-9223372036854775808))) := by
  refine CT_of (by decide) (Nat.le_of_ble_eq_true rfl) (fun x hq => ?_)
  show J x yX11_hear cX11_hear 7 (some .long) d 0 0 h.length 0 [(0, .ref 162), (1, .int a0), (2, .int a1), (3, .int a2), (4, .int a3)] [] h 0 0
  refine J_aload_n (i := 0) (j := 0) dX11_hear_0 rfl rfl ?_
  refine J_iconst (v := 0) dX11_hear_1 (by decide) ?_
  obtain ⟨h1, e2⟩ : ∃ z, z = h.set 162 (.inr (11, [.int 0, .ref 163, .ref 164, .ref 165, .ref 166, .ref 167, .ref 168, .ref 169, .int 0, .int 0, .int 0, .int 0, .int 0, .long 0, .int 0, .int 0, .int 0, .int 0, .int 0, .ref 170, .ref 171, .ref 172, .int 0, .int 0, .int 0, .int 0, .int 0, .int 0, .ref 173, .ref 174, .ref 175, .int 0, .int 0, .int 0, .ref 176, .ref 177, .ref 178, .ref 179, .ref 180, .int 0, .long 0, .int 0, .ref 181])) := ⟨_, rfl⟩
  refine J_put (C := RX11) (T := TX11) (Z := 43) (ci := 11) (f := 0) (ty0 := tyX11) dX11_hear_2 inG11 rfl tyX11_ok nmX11 (by decide) k1264 rfl rfl hm (Nat.le_of_ble_eq_true rfl) (fun _ _ => ⟨rfl, rfl⟩) e2.symm ?_
  have f3 := a_set e2 hm
  have l4 := l_set e2 rfl
  refine J_aload_n (i := 0) (j := 0) dX11_hear_5 rfl rfl ?_
  refine J_iload_n (i := 1) (j := 1) dX11_hear_6 rfl rfl ?_
  refine J_iload_n (i := 2) (j := 2) dX11_hear_7 rfl rfl ?_
  have f5 : h1[167]? = some (.inl (1, 8, .inl (fun _ => 0))) := (s_ne e2 (by decide)).trans hy
  refine J_callV (As := [.int a0, .int a1]) (rest := []) dX11_hear_8 (c_X11_lay0 (d := 2) (h := h1)  (by decide) f3 f5 ) hq.n k1503 k1505 k52 f3 rfl rfl k97 k1506 np_X11_lay (Nat.le_trans (by decide) hd) (by decide) (Nat.le_refl _) (Nat.le_refl _) (hkz l4) rfl (Nat.le_of_ble_eq_true rfl) (fun r6 h7 p8 => ?_)
  obtain ⟨rfl, w9⟩ := p8
  refine J_w w9 ?_
  refine J_if_eq (tgt := 33) dX11_hear_11 (by decide) (fun _ => ?_) (fun q => absurd (by decide) q)
  refine J_ldc2 (v := (-9223372036854775808)) dX11_hear_33 k1674 ?_
  exact J_lret hq dX11_hear_36 rfl (hkz l4) (Nat.le_refl _) (Nat.le_refl _) rfl
set_option maxHeartbeats 4000000 in
set_option maxRecDepth 100000 in
theorem c_X11_may0 {d : Nat} {h : List MC} {a0 a1 a2 a3 : Int32} (hd : 4 ≤ d) (hm : h[162]? = some (.inr (11, [.int 0, .ref 163, .ref 164, .ref 165, .ref 166, .ref 167, .ref 168, .ref 169, .int 0, .int 0, .int 0, .int 0, .int 0, .long 0, .int 0, .int 0, .int 0, .int 0, .int 0, .ref 170, .ref 171, .ref 172, .int 0, .int 0, .int 0, .int 0, .int 0, .int 0, .ref 173, .ref 174, .ref 175, .int 0, .int 0, .int 0, .ref 176, .ref 177, .ref 178, .ref 179, .ref 180, .int 0, .long 0, .int 0, .ref 181]))) (hy : h[167]? = some (.inl (1, 8, .inl (fun _ => 0))))  : CT con0 d 0 0 yX11_may cX11_may 7 (some .long) [.ref 162, .int a0, .int a1, .int a2, .int a3] h (fun r h2 => r = some (.long (-1))) := by
  refine CT_of (by decide) (Nat.le_of_ble_eq_true rfl) (fun x hq => ?_)
  show J x yX11_may cX11_may 7 (some .long) d 0 0 h.length 0 [(0, .ref 162), (1, .int a0), (2, .int a1), (3, .int a2), (4, .int a3)] [] h 0 0
  refine J_aload_n (i := 0) (j := 0) dX11_may_0 rfl rfl ?_
  refine J_iconst (v := 0) dX11_may_1 (by decide) ?_
  obtain ⟨h1, e2⟩ : ∃ z, z = h.set 162 (.inr (11, [.int 0, .ref 163, .ref 164, .ref 165, .ref 166, .ref 167, .ref 168, .ref 169, .int 0, .int 0, .int 0, .int 0, .int 0, .long 0, .int 0, .int 0, .int 0, .int 0, .int 0, .ref 170, .ref 171, .ref 172, .int 0, .int 0, .int 0, .int 0, .int 0, .int 0, .ref 173, .ref 174, .ref 175, .int 0, .int 0, .int 0, .ref 176, .ref 177, .ref 178, .ref 179, .ref 180, .int 0, .long 0, .int 0, .ref 181])) := ⟨_, rfl⟩
  refine J_put (C := RX11) (T := TX11) (Z := 43) (ci := 11) (f := 0) (ty0 := tyX11) dX11_may_2 inG11 rfl tyX11_ok nmX11 (by decide) k1264 rfl rfl hm (Nat.le_of_ble_eq_true rfl) (fun _ _ => ⟨rfl, rfl⟩) e2.symm ?_
  have f3 := a_set e2 hm
  have l4 := l_set e2 rfl
  refine J_aload_n (i := 0) (j := 0) dX11_may_5 rfl rfl ?_
  refine J_iload_n (i := 1) (j := 1) dX11_may_6 rfl rfl ?_
  refine J_iload_n (i := 2) (j := 2) dX11_may_7 rfl rfl ?_
  refine J_iload_n (i := 3) (j := 3) dX11_may_8 rfl rfl ?_
  have f5 : h1[167]? = some (.inl (1, 8, .inl (fun _ => 0))) := (s_ne e2 (by decide)).trans hy
  refine J_callV (As := [.int a0, .int a1, .int a2]) (rest := []) dX11_may_9 (c_X11_isFilled0 (d := 3) (h := h1)  (by decide) f3 f5 ) hq.n k1679 k1681 k76 f3 rfl rfl k97 k1682 np_X11_isFilled (Nat.le_trans (by decide) hd) (by decide) (Nat.le_refl _) (Nat.le_refl _) (hkz l4) rfl (Nat.le_of_ble_eq_true rfl) (fun r6 h7 p8 => ?_)
  obtain ⟨rfl, w9⟩ := p8
  refine J_w w9 ?_
  refine J_if_ne (tgt := 19) dX11_may_12 (by decide) (fun q => absurd (by decide) q) (fun _ => ?_)
  refine J_ldc2 (v := (-1)) dX11_may_15 k1578 ?_
  exact J_lret hq dX11_may_18 rfl (hkz l4) (Nat.le_refl _) (Nat.le_refl _) rfl
set_option maxHeartbeats 4000000 in
set_option maxRecDepth 100000 in
theorem c_X11_order0 {d : Nat} {h : List MC} {a0 a1 a2 a3 : Int32} (hd : 4 ≤ d) (hm : h[162]? = some (.inr (11, [.int 0, .ref 163, .ref 164, .ref 165, .ref 166, .ref 167, .ref 168, .ref 169, .int 0, .int 0, .int 0, .int 0, .int 0, .long 0, .int 0, .int 0, .int 0, .int 0, .int 0, .ref 170, .ref 171, .ref 172, .int 0, .int 0, .int 0, .int 0, .int 0, .int 0, .ref 173, .ref 174, .ref 175, .int 0, .int 0, .int 0, .ref 176, .ref 177, .ref 178, .ref 179, .ref 180, .int 0, .long 0, .int 0, .ref 181]))) (hy : h[167]? = some (.inl (1, 8, .inl (fun _ => 0))))  : CT con0 d 0 0 yX11_order cX11_order 5 (some .int) [.ref 162, .int a0, .int a1, .int a2, .int a3] h (fun r h2 => r = some (.int (-1))) := by
  refine CT_of (by decide) (Nat.le_of_ble_eq_true rfl) (fun x hq => ?_)
  show J x yX11_order cX11_order 5 (some .int) d 0 0 h.length 0 [(0, .ref 162), (1, .int a0), (2, .int a1), (3, .int a2), (4, .int a3)] [] h 0 0
  refine J_aload_n (i := 0) (j := 0) dX11_order_0 rfl rfl ?_
  refine J_iconst (v := 0) dX11_order_1 (by decide) ?_
  obtain ⟨h1, e2⟩ : ∃ z, z = h.set 162 (.inr (11, [.int 0, .ref 163, .ref 164, .ref 165, .ref 166, .ref 167, .ref 168, .ref 169, .int 0, .int 0, .int 0, .int 0, .int 0, .long 0, .int 0, .int 0, .int 0, .int 0, .int 0, .ref 170, .ref 171, .ref 172, .int 0, .int 0, .int 0, .int 0, .int 0, .int 0, .ref 173, .ref 174, .ref 175, .int 0, .int 0, .int 0, .ref 176, .ref 177, .ref 178, .ref 179, .ref 180, .int 0, .long 0, .int 0, .ref 181])) := ⟨_, rfl⟩
  refine J_put (C := RX11) (T := TX11) (Z := 43) (ci := 11) (f := 0) (ty0 := tyX11) dX11_order_2 inG11 rfl tyX11_ok nmX11 (by decide) k1264 rfl rfl hm (Nat.le_of_ble_eq_true rfl) (fun _ _ => ⟨rfl, rfl⟩) e2.symm ?_
  have f3 := a_set e2 hm
  have l4 := l_set e2 rfl
  refine J_aload_n (i := 0) (j := 0) dX11_order_5 rfl rfl ?_
  refine J_iload_n (i := 1) (j := 1) dX11_order_6 rfl rfl ?_
  refine J_iload_n (i := 2) (j := 2) dX11_order_7 rfl rfl ?_
  refine J_iload_n (i := 3) (j := 3) dX11_order_8 rfl rfl ?_
  have f5 : h1[167]? = some (.inl (1, 8, .inl (fun _ => 0))) := (s_ne e2 (by decide)).trans hy
  refine J_callV (As := [.int a0, .int a1, .int a2]) (rest := []) dX11_order_9 (c_X11_isFilled0 (d := 3) (h := h1)  (by decide) f3 f5 ) hq.n k1679 k1681 k76 f3 rfl rfl k97 k1682 np_X11_isFilled (Nat.le_trans (by decide) hd) (by decide) (Nat.le_refl _) (Nat.le_refl _) (hkz l4) rfl (Nat.le_of_ble_eq_true rfl) (fun r6 h7 p8 => ?_)
  obtain ⟨rfl, w9⟩ := p8
  refine J_w w9 ?_
  refine J_if_eq (tgt := 30) dX11_order_12 (by decide) (fun _ => ?_) (fun q => absurd (by decide) q)
  refine J_iconst (v := (-1)) dX11_order_30 (by decide) ?_
  exact J_iret hq dX11_order_31 rfl (hkz l4) (Nat.le_refl _) (Nat.le_refl _) rfl
set_option maxHeartbeats 4000000 in
set_option maxRecDepth 100000 in
theorem c_X11_think0 {d : Nat} {h : List MC} {a0 a1 a2 a3 : Int32} (hd : 4 ≤ d) (hm : h[162]? = some (.inr (11, [.int 0, .ref 163, .ref 164, .ref 165, .ref 166, .ref 167, .ref 168, .ref 169, .int 0, .int 0, .int 0, .int 0, .int 0, .long 0, .int 0, .int 0, .int 0, .int 0, .int 0, .ref 170, .ref 171, .ref 172, .int 0, .int 0, .int 0, .int 0, .int 0, .int 0, .ref 173, .ref 174, .ref 175, .int 0, .int 0, .int 0, .ref 176, .ref 177, .ref 178, .ref 179, .ref 180, .int 0, .long 0, .int 0, .ref 181]))) (hy : h[167]? = some (.inl (1, 8, .inl (fun _ => 0))))  : CT con0 d 0 0 yX11_think cX11_think 7 (some .int) [.ref 162, .int a0, .int a1, .int a2, .int a3] h (fun r h2 => r = some (.int (-1))) := by
  refine CT_of (by decide) (Nat.le_of_ble_eq_true rfl) (fun x hq => ?_)
  show J x yX11_think cX11_think 7 (some .int) d 0 0 h.length 0 [(0, .ref 162), (1, .int a0), (2, .int a1), (3, .int a2), (4, .int a3)] [] h 0 0
  refine J_aload_n (i := 0) (j := 0) dX11_think_0 rfl rfl ?_
  refine J_iconst (v := 0) dX11_think_1 (by decide) ?_
  obtain ⟨h1, e2⟩ : ∃ z, z = h.set 162 (.inr (11, [.int 0, .ref 163, .ref 164, .ref 165, .ref 166, .ref 167, .ref 168, .ref 169, .int 0, .int 0, .int 0, .int 0, .int 0, .long 0, .int 0, .int 0, .int 0, .int 0, .int 0, .ref 170, .ref 171, .ref 172, .int 0, .int 0, .int 0, .int 0, .int 0, .int 0, .ref 173, .ref 174, .ref 175, .int 0, .int 0, .int 0, .ref 176, .ref 177, .ref 178, .ref 179, .ref 180, .int 0, .long 0, .int 0, .ref 181])) := ⟨_, rfl⟩
  refine J_put (C := RX11) (T := TX11) (Z := 43) (ci := 11) (f := 0) (ty0 := tyX11) dX11_think_2 inG11 rfl tyX11_ok nmX11 (by decide) k1264 rfl rfl hm (Nat.le_of_ble_eq_true rfl) (fun _ _ => ⟨rfl, rfl⟩) e2.symm ?_
  have f3 := a_set e2 hm
  have l4 := l_set e2 rfl
  refine J_aload_n (i := 0) (j := 0) dX11_think_5 rfl rfl ?_
  refine J_iload_n (i := 1) (j := 1) dX11_think_6 rfl rfl ?_
  refine J_iload_n (i := 2) (j := 2) dX11_think_7 rfl rfl ?_
  have f5 : h1[167]? = some (.inl (1, 8, .inl (fun _ => 0))) := (s_ne e2 (by decide)).trans hy
  refine J_callV (As := [.int a0, .int a1]) (rest := []) dX11_think_8 (c_X11_lay0 (d := 2) (h := h1)  (by decide) f3 f5 ) hq.n k1503 k1505 k52 f3 rfl rfl k97 k1506 np_X11_lay (Nat.le_trans (by decide) hd) (by decide) (Nat.le_refl _) (Nat.le_refl _) (hkz l4) rfl (Nat.le_of_ble_eq_true rfl) (fun r6 h7 p8 => ?_)
  obtain ⟨rfl, w9⟩ := p8
  refine J_w w9 ?_
  refine J_if_eq (tgt := 22) dX11_think_11 (by decide) (fun _ => ?_) (fun q => absurd (by decide) q)
  refine J_iconst (v := (-1)) dX11_think_22 (by decide) ?_
  exact J_iret hq dX11_think_23 rfl (hkz l4) (Nat.le_refl _) (Nat.le_refl _) rfl
set_option maxHeartbeats 4000000 in
set_option maxRecDepth 100000 in
theorem c_X11_now0 {d : Nat} {h : List MC} {a0 a1 : Int32} (hd : 4 ≤ d) (hm : h[162]? = some (.inr (11, [.int 0, .ref 163, .ref 164, .ref 165, .ref 166, .ref 167, .ref 168, .ref 169, .int 0, .int 0, .int 0, .int 0, .int 0, .long 0, .int 0, .int 0, .int 0, .int 0, .int 0, .ref 170, .ref 171, .ref 172, .int 0, .int 0, .int 0, .int 0, .int 0, .int 0, .ref 173, .ref 174, .ref 175, .int 0, .int 0, .int 0, .ref 176, .ref 177, .ref 178, .ref 179, .ref 180, .int 0, .long 0, .int 0, .ref 181]))) (hy : h[167]? = some (.inl (1, 8, .inl (fun _ => 0))))  : CT con0 d 0 0 yX11_now cX11_now 11 (some .int) [.ref 162, .int a0, .int a1] h (fun r h2 => r = some (.int (-1))) := by
  refine CT_of (by decide) (Nat.le_of_ble_eq_true rfl) (fun x hq => ?_)
  show J x yX11_now cX11_now 11 (some .int) d 0 0 h.length 0 [(0, .ref 162), (1, .int a0), (2, .int a1)] [] h 0 0
  refine J_aload_n (i := 0) (j := 0) dX11_now_0 rfl rfl ?_
  refine J_iconst (v := 0) dX11_now_1 (by decide) ?_
  obtain ⟨h1, e2⟩ : ∃ z, z = h.set 162 (.inr (11, [.int 0, .ref 163, .ref 164, .ref 165, .ref 166, .ref 167, .ref 168, .ref 169, .int 0, .int 0, .int 0, .int 0, .int 0, .long 0, .int 0, .int 0, .int 0, .int 0, .int 0, .ref 170, .ref 171, .ref 172, .int 0, .int 0, .int 0, .int 0, .int 0, .int 0, .ref 173, .ref 174, .ref 175, .int 0, .int 0, .int 0, .ref 176, .ref 177, .ref 178, .ref 179, .ref 180, .int 0, .long 0, .int 0, .ref 181])) := ⟨_, rfl⟩
  refine J_put (C := RX11) (T := TX11) (Z := 43) (ci := 11) (f := 0) (ty0 := tyX11) dX11_now_2 inG11 rfl tyX11_ok nmX11 (by decide) k1264 rfl rfl hm (Nat.le_of_ble_eq_true rfl) (fun _ _ => ⟨rfl, rfl⟩) e2.symm ?_
  have f3 := a_set e2 hm
  have l4 := l_set e2 rfl
  refine J_aload_n (i := 0) (j := 0) dX11_now_5 rfl rfl ?_
  refine J_iload_n (i := 1) (j := 1) dX11_now_6 rfl rfl ?_
  refine J_iload_n (i := 2) (j := 2) dX11_now_7 rfl rfl ?_
  have f5 : h1[167]? = some (.inl (1, 8, .inl (fun _ => 0))) := (s_ne e2 (by decide)).trans hy
  refine J_callV (As := [.int a0, .int a1]) (rest := []) dX11_now_8 (c_X11_lay0 (d := 2) (h := h1)  (by decide) f3 f5 ) hq.n k1503 k1505 k52 f3 rfl rfl k97 k1506 np_X11_lay (Nat.le_trans (by decide) hd) (by decide) (Nat.le_refl _) (Nat.le_refl _) (hkz l4) rfl (Nat.le_of_ble_eq_true rfl) (fun r6 h7 p8 => ?_)
  obtain ⟨rfl, w9⟩ := p8
  refine J_w w9 ?_
  refine J_if_ne (tgt := 16) dX11_now_11 (by decide) (fun q => absurd (by decide) q) (fun _ => ?_)
  refine J_iconst (v := (-1)) dX11_now_14 (by decide) ?_
  exact J_iret hq dX11_now_15 rfl (hkz l4) (Nat.le_refl _) (Nat.le_refl _) rfl
set_option maxHeartbeats 4000000 in
set_option maxRecDepth 100000 in
theorem c_X11_years0 {d : Nat} {h : List MC} {a0 a1 a2 a3 a4 : Int32} (hd : 4 ≤ d) (hm : h[162]? = some (.inr (11, [.int 0, .ref 163, .ref 164, .ref 165, .ref 166, .ref 167, .ref 168, .ref 169, .int 0, .int 0, .int 0, .int 0, .int 0, .long 0, .int 0, .int 0, .int 0, .int 0, .int 0, .ref 170, .ref 171, .ref 172, .int 0, .int 0, .int 0, .int 0, .int 0, .int 0, .ref 173, .ref 174, .ref 175, .int 0, .int 0, .int 0, .ref 176, .ref 177, .ref 178, .ref 179, .ref 180, .int 0, .long 0, .int 0, .ref 181]))) (hy : h[167]? = some (.inl (1, 8, .inl (fun _ => 0))))  : CT con0 d 0 0 yX11_years cX11_years 12 (some .long) [.ref 162, .int a0, .int a1, .int a2, .int a3, .int a4] h (fun r h2 => r = some (.long (-1))) := by
  refine CT_of (by decide) (Nat.le_of_ble_eq_true rfl) (fun x hq => ?_)
  show J x yX11_years cX11_years 12 (some .long) d 0 0 h.length 0 [(0, .ref 162), (1, .int a0), (2, .int a1), (3, .int a2), (4, .int a3), (5, .int a4)] [] h 0 0
  refine J_aload_n (i := 0) (j := 0) dX11_years_0 rfl rfl ?_
  refine J_iconst (v := 0) dX11_years_1 (by decide) ?_
  obtain ⟨h1, e2⟩ : ∃ z, z = h.set 162 (.inr (11, [.int 0, .ref 163, .ref 164, .ref 165, .ref 166, .ref 167, .ref 168, .ref 169, .int 0, .int 0, .int 0, .int 0, .int 0, .long 0, .int 0, .int 0, .int 0, .int 0, .int 0, .ref 170, .ref 171, .ref 172, .int 0, .int 0, .int 0, .int 0, .int 0, .int 0, .ref 173, .ref 174, .ref 175, .int 0, .int 0, .int 0, .ref 176, .ref 177, .ref 178, .ref 179, .ref 180, .int 0, .long 0, .int 0, .ref 181])) := ⟨_, rfl⟩
  refine J_put (C := RX11) (T := TX11) (Z := 43) (ci := 11) (f := 0) (ty0 := tyX11) dX11_years_2 inG11 rfl tyX11_ok nmX11 (by decide) k1264 rfl rfl hm (Nat.le_of_ble_eq_true rfl) (fun _ _ => ⟨rfl, rfl⟩) e2.symm ?_
  have f3 := a_set e2 hm
  have l4 := l_set e2 rfl
  refine J_aload_n (i := 0) (j := 0) dX11_years_5 rfl rfl ?_
  refine J_iload_n (i := 1) (j := 1) dX11_years_6 rfl rfl ?_
  refine J_iload_n (i := 2) (j := 2) dX11_years_7 rfl rfl ?_
  have f5 : h1[167]? = some (.inl (1, 8, .inl (fun _ => 0))) := (s_ne e2 (by decide)).trans hy
  refine J_callV (As := [.int a0, .int a1]) (rest := []) dX11_years_8 (c_X11_lay0 (d := 2) (h := h1)  (by decide) f3 f5 ) hq.n k1503 k1505 k52 f3 rfl rfl k97 k1506 np_X11_lay (Nat.le_trans (by decide) hd) (by decide) (Nat.le_refl _) (Nat.le_refl _) (hkz l4) rfl (Nat.le_of_ble_eq_true rfl) (fun r6 h7 p8 => ?_)
  obtain ⟨rfl, w9⟩ := p8
  refine J_w w9 ?_
  refine J_if_eq (tgt := 25) dX11_years_11 (by decide) (fun _ => ?_) (fun q => absurd (by decide) q)
  refine J_ldc2 (v := (-1)) dX11_years_25 k1578 ?_
  exact J_lret hq dX11_years_28 rfl (hkz l4) (Nat.le_refl _) (Nat.le_refl _) rfl
set_option maxHeartbeats 4000000 in
set_option maxRecDepth 100000 in
theorem c_X11_spared0 {d : Nat} {h : List MC} {a0 a1 a2 : Int32} (hd : 4 ≤ d) (hm : h[162]? = some (.inr (11, [.int 0, .ref 163, .ref 164, .ref 165, .ref 166, .ref 167, .ref 168, .ref 169, .int 0, .int 0, .int 0, .int 0, .int 0, .long 0, .int 0, .int 0, .int 0, .int 0, .int 0, .ref 170, .ref 171, .ref 172, .int 0, .int 0, .int 0, .int 0, .int 0, .int 0, .ref 173, .ref 174, .ref 175, .int 0, .int 0, .int 0, .ref 176, .ref 177, .ref 178, .ref 179, .ref 180, .int 0, .long 0, .int 0, .ref 181]))) (hy : h[167]? = some (.inl (1, 8, .inl (fun _ => 0))))  : CT con0 d 0 0 yX11_spared cX11_spared 6 (some .int) [.ref 162, .int a0, .int a1, .int a2] h (fun r h2 => r = some (.int (-1))) := by
  refine CT_of (by decide) (Nat.le_of_ble_eq_true rfl) (fun x hq => ?_)
  show J x yX11_spared cX11_spared 6 (some .int) d 0 0 h.length 0 [(0, .ref 162), (1, .int a0), (2, .int a1), (3, .int a2)] [] h 0 0
  refine J_aload_n (i := 0) (j := 0) dX11_spared_0 rfl rfl ?_
  refine J_iconst (v := 0) dX11_spared_1 (by decide) ?_
  obtain ⟨h1, e2⟩ : ∃ z, z = h.set 162 (.inr (11, [.int 0, .ref 163, .ref 164, .ref 165, .ref 166, .ref 167, .ref 168, .ref 169, .int 0, .int 0, .int 0, .int 0, .int 0, .long 0, .int 0, .int 0, .int 0, .int 0, .int 0, .ref 170, .ref 171, .ref 172, .int 0, .int 0, .int 0, .int 0, .int 0, .int 0, .ref 173, .ref 174, .ref 175, .int 0, .int 0, .int 0, .ref 176, .ref 177, .ref 178, .ref 179, .ref 180, .int 0, .long 0, .int 0, .ref 181])) := ⟨_, rfl⟩
  refine J_put (C := RX11) (T := TX11) (Z := 43) (ci := 11) (f := 0) (ty0 := tyX11) dX11_spared_2 inG11 rfl tyX11_ok nmX11 (by decide) k1264 rfl rfl hm (Nat.le_of_ble_eq_true rfl) (fun _ _ => ⟨rfl, rfl⟩) e2.symm ?_
  have f3 := a_set e2 hm
  have l4 := l_set e2 rfl
  refine J_aload_n (i := 0) (j := 0) dX11_spared_5 rfl rfl ?_
  refine J_iload_n (i := 1) (j := 1) dX11_spared_6 rfl rfl ?_
  refine J_iload_n (i := 2) (j := 2) dX11_spared_7 rfl rfl ?_
  have f5 : h1[167]? = some (.inl (1, 8, .inl (fun _ => 0))) := (s_ne e2 (by decide)).trans hy
  refine J_callV (As := [.int a0, .int a1]) (rest := []) dX11_spared_8 (c_X11_lay0 (d := 2) (h := h1)  (by decide) f3 f5 ) hq.n k1503 k1505 k52 f3 rfl rfl k97 k1506 np_X11_lay (Nat.le_trans (by decide) hd) (by decide) (Nat.le_refl _) (Nat.le_refl _) (hkz l4) rfl (Nat.le_of_ble_eq_true rfl) (fun r6 h7 p8 => ?_)
  obtain ⟨rfl, w9⟩ := p8
  refine J_w w9 ?_
  refine J_if_eq (tgt := 22) dX11_spared_11 (by decide) (fun _ => ?_) (fun q => absurd (by decide) q)
  refine J_iconst (v := (-1)) dX11_spared_22 (by decide) ?_
  exact J_iret hq dX11_spared_23 rfl (hkz l4) (Nat.le_refl _) (Nat.le_refl _) rfl
set_option maxHeartbeats 4000000 in
set_option maxRecDepth 100000 in
theorem c_X11_deep0 {d : Nat} {h : List MC} {a0 a1 : Int32} (hd : 4 ≤ d) (hm : h[162]? = some (.inr (11, [.int 0, .ref 163, .ref 164, .ref 165, .ref 166, .ref 167, .ref 168, .ref 169, .int 0, .int 0, .int 0, .int 0, .int 0, .long 0, .int 0, .int 0, .int 0, .int 0, .int 0, .ref 170, .ref 171, .ref 172, .int 0, .int 0, .int 0, .int 0, .int 0, .int 0, .ref 173, .ref 174, .ref 175, .int 0, .int 0, .int 0, .ref 176, .ref 177, .ref 178, .ref 179, .ref 180, .int 0, .long 0, .int 0, .ref 181]))) (hy : h[167]? = some (.inl (1, 8, .inl (fun _ => 0))))  : CT con0 d 0 0 yX11_deep cX11_deep 7 (some .int) [.ref 162, .int a0, .int a1] h (fun r h2 => r = some (.int (-1))) := by
  refine CT_of (by decide) (Nat.le_of_ble_eq_true rfl) (fun x hq => ?_)
  show J x yX11_deep cX11_deep 7 (some .int) d 0 0 h.length 0 [(0, .ref 162), (1, .int a0), (2, .int a1)] [] h 0 0
  refine J_aload_n (i := 0) (j := 0) dX11_deep_0 rfl rfl ?_
  refine J_iconst (v := 0) dX11_deep_1 (by decide) ?_
  obtain ⟨h1, e2⟩ : ∃ z, z = h.set 162 (.inr (11, [.int 0, .ref 163, .ref 164, .ref 165, .ref 166, .ref 167, .ref 168, .ref 169, .int 0, .int 0, .int 0, .int 0, .int 0, .long 0, .int 0, .int 0, .int 0, .int 0, .int 0, .ref 170, .ref 171, .ref 172, .int 0, .int 0, .int 0, .int 0, .int 0, .int 0, .ref 173, .ref 174, .ref 175, .int 0, .int 0, .int 0, .ref 176, .ref 177, .ref 178, .ref 179, .ref 180, .int 0, .long 0, .int 0, .ref 181])) := ⟨_, rfl⟩
  refine J_put (C := RX11) (T := TX11) (Z := 43) (ci := 11) (f := 0) (ty0 := tyX11) dX11_deep_2 inG11 rfl tyX11_ok nmX11 (by decide) k1264 rfl rfl hm (Nat.le_of_ble_eq_true rfl) (fun _ _ => ⟨rfl, rfl⟩) e2.symm ?_
  have f3 := a_set e2 hm
  have l4 := l_set e2 rfl
  refine J_aload_n (i := 0) (j := 0) dX11_deep_5 rfl rfl ?_
  refine J_iload_n (i := 1) (j := 1) dX11_deep_6 rfl rfl ?_
  refine J_iload_n (i := 2) (j := 2) dX11_deep_7 rfl rfl ?_
  have f5 : h1[167]? = some (.inl (1, 8, .inl (fun _ => 0))) := (s_ne e2 (by decide)).trans hy
  refine J_callV (As := [.int a0, .int a1]) (rest := []) dX11_deep_8 (c_X11_lay0 (d := 2) (h := h1)  (by decide) f3 f5 ) hq.n k1503 k1505 k52 f3 rfl rfl k97 k1506 np_X11_lay (Nat.le_trans (by decide) hd) (by decide) (Nat.le_refl _) (Nat.le_refl _) (hkz l4) rfl (Nat.le_of_ble_eq_true rfl) (fun r6 h7 p8 => ?_)
  obtain ⟨rfl, w9⟩ := p8
  refine J_w w9 ?_
  refine J_if_ne (tgt := 16) dX11_deep_11 (by decide) (fun q => absurd (by decide) q) (fun _ => ?_)
  refine J_iconst (v := (-1)) dX11_deep_14 (by decide) ?_
  exact J_iret hq dX11_deep_15 rfl (hkz l4) (Nat.le_refl _) (Nat.le_refl _) rfl
set_option maxHeartbeats 4000000 in
set_option maxRecDepth 100000 in
theorem c_X11_safe0 {d : Nat} {h : List MC} {a0 a1 : Int32} (hd : 4 ≤ d) (hm : h[162]? = some (.inr (11, [.int 0, .ref 163, .ref 164, .ref 165, .ref 166, .ref 167, .ref 168, .ref 169, .int 0, .int 0, .int 0, .int 0, .int 0, .long 0, .int 0, .int 0, .int 0, .int 0, .int 0, .ref 170, .ref 171, .ref 172, .int 0, .int 0, .int 0, .int 0, .int 0, .int 0, .ref 173, .ref 174, .ref 175, .int 0, .int 0, .int 0, .ref 176, .ref 177, .ref 178, .ref 179, .ref 180, .int 0, .long 0, .int 0, .ref 181]))) (hy : h[167]? = some (.inl (1, 8, .inl (fun _ => 0))))  : CT con0 d 0 0 yX11_safe cX11_safe 5 (some .int) [.ref 162, .int a0, .int a1] h (fun r h2 => r = some (.int (-1))) := by
  refine CT_of (by decide) (Nat.le_of_ble_eq_true rfl) (fun x hq => ?_)
  show J x yX11_safe cX11_safe 5 (some .int) d 0 0 h.length 0 [(0, .ref 162), (1, .int a0), (2, .int a1)] [] h 0 0
  refine J_aload_n (i := 0) (j := 0) dX11_safe_0 rfl rfl ?_
  refine J_iconst (v := 0) dX11_safe_1 (by decide) ?_
  obtain ⟨h1, e2⟩ : ∃ z, z = h.set 162 (.inr (11, [.int 0, .ref 163, .ref 164, .ref 165, .ref 166, .ref 167, .ref 168, .ref 169, .int 0, .int 0, .int 0, .int 0, .int 0, .long 0, .int 0, .int 0, .int 0, .int 0, .int 0, .ref 170, .ref 171, .ref 172, .int 0, .int 0, .int 0, .int 0, .int 0, .int 0, .ref 173, .ref 174, .ref 175, .int 0, .int 0, .int 0, .ref 176, .ref 177, .ref 178, .ref 179, .ref 180, .int 0, .long 0, .int 0, .ref 181])) := ⟨_, rfl⟩
  refine J_put (C := RX11) (T := TX11) (Z := 43) (ci := 11) (f := 0) (ty0 := tyX11) dX11_safe_2 inG11 rfl tyX11_ok nmX11 (by decide) k1264 rfl rfl hm (Nat.le_of_ble_eq_true rfl) (fun _ _ => ⟨rfl, rfl⟩) e2.symm ?_
  have f3 := a_set e2 hm
  have l4 := l_set e2 rfl
  refine J_aload_n (i := 0) (j := 0) dX11_safe_5 rfl rfl ?_
  refine J_iload_n (i := 1) (j := 1) dX11_safe_6 rfl rfl ?_
  refine J_iload_n (i := 2) (j := 2) dX11_safe_7 rfl rfl ?_
  have f5 : h1[167]? = some (.inl (1, 8, .inl (fun _ => 0))) := (s_ne e2 (by decide)).trans hy
  refine J_callV (As := [.int a0, .int a1]) (rest := []) dX11_safe_8 (c_X11_lay0 (d := 2) (h := h1)  (by decide) f3 f5 ) hq.n k1503 k1505 k52 f3 rfl rfl k97 k1506 np_X11_lay (Nat.le_trans (by decide) hd) (by decide) (Nat.le_refl _) (Nat.le_refl _) (hkz l4) rfl (Nat.le_of_ble_eq_true rfl) (fun r6 h7 p8 => ?_)
  obtain ⟨rfl, w9⟩ := p8
  refine J_w w9 ?_
  refine J_if_ne (tgt := 16) dX11_safe_11 (by decide) (fun q => absurd (by decide) q) (fun _ => ?_)
  refine J_iconst (v := (-1)) dX11_safe_14 (by decide) ?_
  exact J_iret hq dX11_safe_15 rfl (hkz l4) (Nat.le_refl _) (Nat.le_refl _) rfl
set_option maxHeartbeats 4000000 in
set_option maxRecDepth 100000 in
theorem c_X11_weighs0 {d : Nat} {h : List MC} {a0 a1 : Int32} (hd : 4 ≤ d) (hm : h[162]? = some (.inr (11, [.int 0, .ref 163, .ref 164, .ref 165, .ref 166, .ref 167, .ref 168, .ref 169, .int 0, .int 0, .int 0, .int 0, .int 0, .long 0, .int 0, .int 0, .int 0, .int 0, .int 0, .ref 170, .ref 171, .ref 172, .int 0, .int 0, .int 0, .int 0, .int 0, .int 0, .ref 173, .ref 174, .ref 175, .int 0, .int 0, .int 0, .ref 176, .ref 177, .ref 178, .ref 179, .ref 180, .int 0, .long 0, .int 0, .ref 181]))) (hy : h[167]? = some (.inl (1, 8, .inl (fun _ => 0))))  : CT con0 d 0 0 yX11_weighs cX11_weighs 12 (some .int) [.ref 162, .int a0, .int a1] h (fun r h2 => r = some (.int (-1))) := by
  refine CT_of (by decide) (Nat.le_of_ble_eq_true rfl) (fun x hq => ?_)
  show J x yX11_weighs cX11_weighs 12 (some .int) d 0 0 h.length 0 [(0, .ref 162), (1, .int a0), (2, .int a1)] [] h 0 0
  refine J_aload_n (i := 0) (j := 0) dX11_weighs_0 rfl rfl ?_
  refine J_iconst (v := 0) dX11_weighs_1 (by decide) ?_
  obtain ⟨h1, e2⟩ : ∃ z, z = h.set 162 (.inr (11, [.int 0, .ref 163, .ref 164, .ref 165, .ref 166, .ref 167, .ref 168, .ref 169, .int 0, .int 0, .int 0, .int 0, .int 0, .long 0, .int 0, .int 0, .int 0, .int 0, .int 0, .ref 170, .ref 171, .ref 172, .int 0, .int 0, .int 0, .int 0, .int 0, .int 0, .ref 173, .ref 174, .ref 175, .int 0, .int 0, .int 0, .ref 176, .ref 177, .ref 178, .ref 179, .ref 180, .int 0, .long 0, .int 0, .ref 181])) := ⟨_, rfl⟩
  refine J_put (C := RX11) (T := TX11) (Z := 43) (ci := 11) (f := 0) (ty0 := tyX11) dX11_weighs_2 inG11 rfl tyX11_ok nmX11 (by decide) k1264 rfl rfl hm (Nat.le_of_ble_eq_true rfl) (fun _ _ => ⟨rfl, rfl⟩) e2.symm ?_
  have f3 := a_set e2 hm
  have l4 := l_set e2 rfl
  refine J_aload_n (i := 0) (j := 0) dX11_weighs_5 rfl rfl ?_
  refine J_iload_n (i := 1) (j := 1) dX11_weighs_6 rfl rfl ?_
  refine J_iload_n (i := 2) (j := 2) dX11_weighs_7 rfl rfl ?_
  have f5 : h1[167]? = some (.inl (1, 8, .inl (fun _ => 0))) := (s_ne e2 (by decide)).trans hy
  refine J_callV (As := [.int a0, .int a1]) (rest := []) dX11_weighs_8 (c_X11_lay0 (d := 2) (h := h1)  (by decide) f3 f5 ) hq.n k1503 k1505 k52 f3 rfl rfl k97 k1506 np_X11_lay (Nat.le_trans (by decide) hd) (by decide) (Nat.le_refl _) (Nat.le_refl _) (hkz l4) rfl (Nat.le_of_ble_eq_true rfl) (fun r6 h7 p8 => ?_)
  obtain ⟨rfl, w9⟩ := p8
  refine J_w w9 ?_
  refine J_if_ne (tgt := 16) dX11_weighs_11 (by decide) (fun q => absurd (by decide) q) (fun _ => ?_)
  refine J_iconst (v := (-1)) dX11_weighs_14 (by decide) ?_
  exact J_iret hq dX11_weighs_15 rfl (hkz l4) (Nat.le_refl _) (Nat.le_refl _) rfl
set_option maxHeartbeats 4000000 in
set_option maxRecDepth 100000 in
theorem c_X11_upon0 {d : Nat} {h : List MC} {a0 a1 a2 a3 : Int32} (hd : 4 ≤ d) (hm : h[162]? = some (.inr (11, [.int 0, .ref 163, .ref 164, .ref 165, .ref 166, .ref 167, .ref 168, .ref 169, .int 0, .int 0, .int 0, .int 0, .int 0, .long 0, .int 0, .int 0, .int 0, .int 0, .int 0, .ref 170, .ref 171, .ref 172, .int 0, .int 0, .int 0, .int 0, .int 0, .int 0, .ref 173, .ref 174, .ref 175, .int 0, .int 0, .int 0, .ref 176, .ref 177, .ref 178, .ref 179, .ref 180, .int 0, .long 0, .int 0, .ref 181]))) (hy : h[167]? = some (.inl (1, 8, .inl (fun _ => 0))))  : CT con0 d 0 0 yX11_upon cX11_upon 9 (some .int) [.ref 162, .int a0, .int a1, .int a2, .int a3] h (fun r h2 => r = some (.int (-1))) := by
  refine CT_of (by decide) (Nat.le_of_ble_eq_true rfl) (fun x hq => ?_)
  show J x yX11_upon cX11_upon 9 (some .int) d 0 0 h.length 0 [(0, .ref 162), (1, .int a0), (2, .int a1), (3, .int a2), (4, .int a3)] [] h 0 0
  refine J_aload_n (i := 0) (j := 0) dX11_upon_0 rfl rfl ?_
  refine J_iconst (v := 0) dX11_upon_1 (by decide) ?_
  obtain ⟨h1, e2⟩ : ∃ z, z = h.set 162 (.inr (11, [.int 0, .ref 163, .ref 164, .ref 165, .ref 166, .ref 167, .ref 168, .ref 169, .int 0, .int 0, .int 0, .int 0, .int 0, .long 0, .int 0, .int 0, .int 0, .int 0, .int 0, .ref 170, .ref 171, .ref 172, .int 0, .int 0, .int 0, .int 0, .int 0, .int 0, .ref 173, .ref 174, .ref 175, .int 0, .int 0, .int 0, .ref 176, .ref 177, .ref 178, .ref 179, .ref 180, .int 0, .long 0, .int 0, .ref 181])) := ⟨_, rfl⟩
  refine J_put (C := RX11) (T := TX11) (Z := 43) (ci := 11) (f := 0) (ty0 := tyX11) dX11_upon_2 inG11 rfl tyX11_ok nmX11 (by decide) k1264 rfl rfl hm (Nat.le_of_ble_eq_true rfl) (fun _ _ => ⟨rfl, rfl⟩) e2.symm ?_
  have f3 := a_set e2 hm
  have l4 := l_set e2 rfl
  refine J_aload_n (i := 0) (j := 0) dX11_upon_5 rfl rfl ?_
  refine J_iload_n (i := 1) (j := 1) dX11_upon_6 rfl rfl ?_
  refine J_iload_n (i := 2) (j := 2) dX11_upon_7 rfl rfl ?_
  have f5 : h1[167]? = some (.inl (1, 8, .inl (fun _ => 0))) := (s_ne e2 (by decide)).trans hy
  refine J_callV (As := [.int a0, .int a1]) (rest := []) dX11_upon_8 (c_X11_lay0 (d := 2) (h := h1)  (by decide) f3 f5 ) hq.n k1503 k1505 k52 f3 rfl rfl k97 k1506 np_X11_lay (Nat.le_trans (by decide) hd) (by decide) (Nat.le_refl _) (Nat.le_refl _) (hkz l4) rfl (Nat.le_of_ble_eq_true rfl) (fun r6 h7 p8 => ?_)
  obtain ⟨rfl, w9⟩ := p8
  refine J_w w9 ?_
  refine J_if_eq (tgt := 22) dX11_upon_11 (by decide) (fun _ => ?_) (fun q => absurd (by decide) q)
  refine J_iconst (v := (-1)) dX11_upon_22 (by decide) ?_
  exact J_iret hq dX11_upon_23 rfl (hkz l4) (Nat.le_refl _) (Nat.le_refl _) rfl
set_option maxHeartbeats 4000000 in
set_option maxRecDepth 100000 in
theorem c_X11_runs0 {d : Nat} {h : List MC} {a0 a1 a2 : Int32} (hd : 4 ≤ d) (hm : h[162]? = some (.inr (11, [.int 0, .ref 163, .ref 164, .ref 165, .ref 166, .ref 167, .ref 168, .ref 169, .int 0, .int 0, .int 0, .int 0, .int 0, .long 0, .int 0, .int 0, .int 0, .int 0, .int 0, .ref 170, .ref 171, .ref 172, .int 0, .int 0, .int 0, .int 0, .int 0, .int 0, .ref 173, .ref 174, .ref 175, .int 0, .int 0, .int 0, .ref 176, .ref 177, .ref 178, .ref 179, .ref 180, .int 0, .long 0, .int 0, .ref 181]))) (hy : h[167]? = some (.inl (1, 8, .inl (fun _ => 0))))  : CT con0 d 0 0 yX11_runs cX11_runs 5 (some .int) [.ref 162, .int a0, .int a1, .int a2] h (fun r h2 => r = some (.int (-1))) := by
  refine CT_of (by decide) (Nat.le_of_ble_eq_true rfl) (fun x hq => ?_)
  show J x yX11_runs cX11_runs 5 (some .int) d 0 0 h.length 0 [(0, .ref 162), (1, .int a0), (2, .int a1), (3, .int a2)] [] h 0 0
  refine J_aload_n (i := 0) (j := 0) dX11_runs_0 rfl rfl ?_
  refine J_iconst (v := 0) dX11_runs_1 (by decide) ?_
  obtain ⟨h1, e2⟩ : ∃ z, z = h.set 162 (.inr (11, [.int 0, .ref 163, .ref 164, .ref 165, .ref 166, .ref 167, .ref 168, .ref 169, .int 0, .int 0, .int 0, .int 0, .int 0, .long 0, .int 0, .int 0, .int 0, .int 0, .int 0, .ref 170, .ref 171, .ref 172, .int 0, .int 0, .int 0, .int 0, .int 0, .int 0, .ref 173, .ref 174, .ref 175, .int 0, .int 0, .int 0, .ref 176, .ref 177, .ref 178, .ref 179, .ref 180, .int 0, .long 0, .int 0, .ref 181])) := ⟨_, rfl⟩
  refine J_put (C := RX11) (T := TX11) (Z := 43) (ci := 11) (f := 0) (ty0 := tyX11) dX11_runs_2 inG11 rfl tyX11_ok nmX11 (by decide) k1264 rfl rfl hm (Nat.le_of_ble_eq_true rfl) (fun _ _ => ⟨rfl, rfl⟩) e2.symm ?_
  have f3 := a_set e2 hm
  have l4 := l_set e2 rfl
  refine J_aload_n (i := 0) (j := 0) dX11_runs_5 rfl rfl ?_
  refine J_iload_n (i := 1) (j := 1) dX11_runs_6 rfl rfl ?_
  refine J_iload_n (i := 2) (j := 2) dX11_runs_7 rfl rfl ?_
  have f5 : h1[167]? = some (.inl (1, 8, .inl (fun _ => 0))) := (s_ne e2 (by decide)).trans hy
  refine J_callV (As := [.int a0, .int a1]) (rest := []) dX11_runs_8 (c_X11_lay0 (d := 2) (h := h1)  (by decide) f3 f5 ) hq.n k1503 k1505 k52 f3 rfl rfl k97 k1506 np_X11_lay (Nat.le_trans (by decide) hd) (by decide) (Nat.le_refl _) (Nat.le_refl _) (hkz l4) rfl (Nat.le_of_ble_eq_true rfl) (fun r6 h7 p8 => ?_)
  obtain ⟨rfl, w9⟩ := p8
  refine J_w w9 ?_
  refine J_if_eq (tgt := 22) dX11_runs_11 (by decide) (fun _ => ?_) (fun q => absurd (by decide) q)
  refine J_iconst (v := (-1)) dX11_runs_22 (by decide) ?_
  exact J_iret hq dX11_runs_23 rfl (hkz l4) (Nat.le_refl _) (Nat.le_refl _) rfl
set_option maxHeartbeats 4000000 in
set_option maxRecDepth 100000 in
theorem c_X11_joint0 {d : Nat} {h : List MC} {a0 a1 a2 a3 : Int32} (hd : 4 ≤ d) (hm : h[162]? = some (.inr (11, [.int 0, .ref 163, .ref 164, .ref 165, .ref 166, .ref 167, .ref 168, .ref 169, .int 0, .int 0, .int 0, .int 0, .int 0, .long 0, .int 0, .int 0, .int 0, .int 0, .int 0, .ref 170, .ref 171, .ref 172, .int 0, .int 0, .int 0, .int 0, .int 0, .int 0, .ref 173, .ref 174, .ref 175, .int 0, .int 0, .int 0, .ref 176, .ref 177, .ref 178, .ref 179, .ref 180, .int 0, .long 0, .int 0, .ref 181]))) (hy : h[167]? = some (.inl (1, 8, .inl (fun _ => 0))))  : CT con0 d 0 0 yX11_joint cX11_joint 5 (some .long) [.ref 162, .int a0, .int a1, .int a2, .int a3] h (fun r h2 => r = some (.long (-1))) := by
  refine CT_of (by decide) (Nat.le_of_ble_eq_true rfl) (fun x hq => ?_)
  show J x yX11_joint cX11_joint 5 (some .long) d 0 0 h.length 0 [(0, .ref 162), (1, .int a0), (2, .int a1), (3, .int a2), (4, .int a3)] [] h 0 0
  refine J_aload_n (i := 0) (j := 0) dX11_joint_0 rfl rfl ?_
  refine J_iconst (v := 0) dX11_joint_1 (by decide) ?_
  obtain ⟨h1, e2⟩ : ∃ z, z = h.set 162 (.inr (11, [.int 0, .ref 163, .ref 164, .ref 165, .ref 166, .ref 167, .ref 168, .ref 169, .int 0, .int 0, .int 0, .int 0, .int 0, .long 0, .int 0, .int 0, .int 0, .int 0, .int 0, .ref 170, .ref 171, .ref 172, .int 0, .int 0, .int 0, .int 0, .int 0, .int 0, .ref 173, .ref 174, .ref 175, .int 0, .int 0, .int 0, .ref 176, .ref 177, .ref 178, .ref 179, .ref 180, .int 0, .long 0, .int 0, .ref 181])) := ⟨_, rfl⟩
  refine J_put (C := RX11) (T := TX11) (Z := 43) (ci := 11) (f := 0) (ty0 := tyX11) dX11_joint_2 inG11 rfl tyX11_ok nmX11 (by decide) k1264 rfl rfl hm (Nat.le_of_ble_eq_true rfl) (fun _ _ => ⟨rfl, rfl⟩) e2.symm ?_
  have f3 := a_set e2 hm
  have l4 := l_set e2 rfl
  refine J_aload_n (i := 0) (j := 0) dX11_joint_5 rfl rfl ?_
  refine J_iload_n (i := 1) (j := 1) dX11_joint_6 rfl rfl ?_
  refine J_iload_n (i := 2) (j := 2) dX11_joint_7 rfl rfl ?_
  have f5 : h1[167]? = some (.inl (1, 8, .inl (fun _ => 0))) := (s_ne e2 (by decide)).trans hy
  refine J_callV (As := [.int a0, .int a1]) (rest := []) dX11_joint_8 (c_X11_lay0 (d := 2) (h := h1)  (by decide) f3 f5 ) hq.n k1503 k1505 k52 f3 rfl rfl k97 k1506 np_X11_lay (Nat.le_trans (by decide) hd) (by decide) (Nat.le_refl _) (Nat.le_refl _) (hkz l4) rfl (Nat.le_of_ble_eq_true rfl) (fun r6 h7 p8 => ?_)
  obtain ⟨rfl, w9⟩ := p8
  refine J_w w9 ?_
  refine J_if_eq (tgt := 46) dX11_joint_11 (by decide) (fun _ => ?_) (fun q => absurd (by decide) q)
  refine J_ldc2 (v := (-1)) dX11_joint_46 k1578 ?_
  exact J_lret hq dX11_joint_49 rfl (hkz l4) (Nat.le_refl _) (Nat.le_refl _) rfl
set_option maxHeartbeats 4000000 in
set_option maxRecDepth 100000 in
theorem c_X11_given0 {d : Nat} {h : List MC} {a0 a1 a2 a3 a4 : Int32} (hd : 4 ≤ d) (hm : h[162]? = some (.inr (11, [.int 0, .ref 163, .ref 164, .ref 165, .ref 166, .ref 167, .ref 168, .ref 169, .int 0, .int 0, .int 0, .int 0, .int 0, .long 0, .int 0, .int 0, .int 0, .int 0, .int 0, .ref 170, .ref 171, .ref 172, .int 0, .int 0, .int 0, .int 0, .int 0, .int 0, .ref 173, .ref 174, .ref 175, .int 0, .int 0, .int 0, .ref 176, .ref 177, .ref 178, .ref 179, .ref 180, .int 0, .long 0, .int 0, .ref 181]))) (hy : h[167]? = some (.inl (1, 8, .inl (fun _ => 0))))  : CT con0 d 0 0 yX11_given cX11_given 10 (some .long) [.ref 162, .int a0, .int a1, .int a2, .int a3, .int a4] h (fun r h2 => r = some (.long (-1))) := by
  refine CT_of (by decide) (Nat.le_of_ble_eq_true rfl) (fun x hq => ?_)
  show J x yX11_given cX11_given 10 (some .long) d 0 0 h.length 0 [(0, .ref 162), (1, .int a0), (2, .int a1), (3, .int a2), (4, .int a3), (5, .int a4)] [] h 0 0
  refine J_aload_n (i := 0) (j := 0) dX11_given_0 rfl rfl ?_
  refine J_iconst (v := 0) dX11_given_1 (by decide) ?_
  obtain ⟨h1, e2⟩ : ∃ z, z = h.set 162 (.inr (11, [.int 0, .ref 163, .ref 164, .ref 165, .ref 166, .ref 167, .ref 168, .ref 169, .int 0, .int 0, .int 0, .int 0, .int 0, .long 0, .int 0, .int 0, .int 0, .int 0, .int 0, .ref 170, .ref 171, .ref 172, .int 0, .int 0, .int 0, .int 0, .int 0, .int 0, .ref 173, .ref 174, .ref 175, .int 0, .int 0, .int 0, .ref 176, .ref 177, .ref 178, .ref 179, .ref 180, .int 0, .long 0, .int 0, .ref 181])) := ⟨_, rfl⟩
  refine J_put (C := RX11) (T := TX11) (Z := 43) (ci := 11) (f := 0) (ty0 := tyX11) dX11_given_2 inG11 rfl tyX11_ok nmX11 (by decide) k1264 rfl rfl hm (Nat.le_of_ble_eq_true rfl) (fun _ _ => ⟨rfl, rfl⟩) e2.symm ?_
  have f3 := a_set e2 hm
  have l4 := l_set e2 rfl
  refine J_aload_n (i := 0) (j := 0) dX11_given_5 rfl rfl ?_
  refine J_iload_n (i := 1) (j := 1) dX11_given_6 rfl rfl ?_
  refine J_iload_n (i := 2) (j := 2) dX11_given_7 rfl rfl ?_
  have f5 : h1[167]? = some (.inl (1, 8, .inl (fun _ => 0))) := (s_ne e2 (by decide)).trans hy
  refine J_callV (As := [.int a0, .int a1]) (rest := []) dX11_given_8 (c_X11_lay0 (d := 2) (h := h1)  (by decide) f3 f5 ) hq.n k1503 k1505 k52 f3 rfl rfl k97 k1506 np_X11_lay (Nat.le_trans (by decide) hd) (by decide) (Nat.le_refl _) (Nat.le_refl _) (hkz l4) rfl (Nat.le_of_ble_eq_true rfl) (fun r6 h7 p8 => ?_)
  obtain ⟨rfl, w9⟩ := p8
  refine J_w w9 ?_
  refine J_if_eq (tgt := 31) dX11_given_11 (by decide) (fun _ => ?_) (fun q => absurd (by decide) q)
  refine J_ldc2 (v := (-1)) dX11_given_31 k1578 ?_
  exact J_lret hq dX11_given_34 rfl (hkz l4) (Nat.le_refl _) (Nat.le_refl _) rfl
set_option maxHeartbeats 4000000 in
set_option maxRecDepth 100000 in
theorem c_X11_worst0 {d : Nat} {h : List MC} {a0 a1 a2 : Int32} (hd : 4 ≤ d) (hm : h[162]? = some (.inr (11, [.int 0, .ref 163, .ref 164, .ref 165, .ref 166, .ref 167, .ref 168, .ref 169, .int 0, .int 0, .int 0, .int 0, .int 0, .long 0, .int 0, .int 0, .int 0, .int 0, .int 0, .ref 170, .ref 171, .ref 172, .int 0, .int 0, .int 0, .int 0, .int 0, .int 0, .ref 173, .ref 174, .ref 175, .int 0, .int 0, .int 0, .ref 176, .ref 177, .ref 178, .ref 179, .ref 180, .int 0, .long 0, .int 0, .ref 181]))) (hy : h[167]? = some (.inl (1, 8, .inl (fun _ => 0))))  : CT con0 d 0 0 yX11_worst cX11_worst 9 (some .long) [.ref 162, .int a0, .int a1, .int a2] h (fun r h2 => r = some (.long (-1))) := by
  refine CT_of (by decide) (Nat.le_of_ble_eq_true rfl) (fun x hq => ?_)
  show J x yX11_worst cX11_worst 9 (some .long) d 0 0 h.length 0 [(0, .ref 162), (1, .int a0), (2, .int a1), (3, .int a2)] [] h 0 0
  refine J_aload_n (i := 0) (j := 0) dX11_worst_0 rfl rfl ?_
  refine J_iconst (v := 0) dX11_worst_1 (by decide) ?_
  obtain ⟨h1, e2⟩ : ∃ z, z = h.set 162 (.inr (11, [.int 0, .ref 163, .ref 164, .ref 165, .ref 166, .ref 167, .ref 168, .ref 169, .int 0, .int 0, .int 0, .int 0, .int 0, .long 0, .int 0, .int 0, .int 0, .int 0, .int 0, .ref 170, .ref 171, .ref 172, .int 0, .int 0, .int 0, .int 0, .int 0, .int 0, .ref 173, .ref 174, .ref 175, .int 0, .int 0, .int 0, .ref 176, .ref 177, .ref 178, .ref 179, .ref 180, .int 0, .long 0, .int 0, .ref 181])) := ⟨_, rfl⟩
  refine J_put (C := RX11) (T := TX11) (Z := 43) (ci := 11) (f := 0) (ty0 := tyX11) dX11_worst_2 inG11 rfl tyX11_ok nmX11 (by decide) k1264 rfl rfl hm (Nat.le_of_ble_eq_true rfl) (fun _ _ => ⟨rfl, rfl⟩) e2.symm ?_
  have f3 := a_set e2 hm
  have l4 := l_set e2 rfl
  refine J_aload_n (i := 0) (j := 0) dX11_worst_5 rfl rfl ?_
  refine J_iload_n (i := 1) (j := 1) dX11_worst_6 rfl rfl ?_
  refine J_iload_n (i := 2) (j := 2) dX11_worst_7 rfl rfl ?_
  have f5 : h1[167]? = some (.inl (1, 8, .inl (fun _ => 0))) := (s_ne e2 (by decide)).trans hy
  refine J_callV (As := [.int a0, .int a1]) (rest := []) dX11_worst_8 (c_X11_lay0 (d := 2) (h := h1)  (by decide) f3 f5 ) hq.n k1503 k1505 k52 f3 rfl rfl k97 k1506 np_X11_lay (Nat.le_trans (by decide) hd) (by decide) (Nat.le_refl _) (Nat.le_refl _) (hkz l4) rfl (Nat.le_of_ble_eq_true rfl) (fun r6 h7 p8 => ?_)
  obtain ⟨rfl, w9⟩ := p8
  refine J_w w9 ?_
  refine J_if_eq (tgt := 23) dX11_worst_11 (by decide) (fun _ => ?_) (fun q => absurd (by decide) q)
  refine J_ldc2 (v := (-1)) dX11_worst_23 k1578 ?_
  exact J_lret hq dX11_worst_26 rfl (hkz l4) (Nat.le_refl _) (Nat.le_refl _) rfl
set_option maxHeartbeats 4000000 in
set_option maxRecDepth 100000 in
theorem c_X11_flood0 {d : Nat} {h : List MC} {a0 a1 : Int32} (hd : 4 ≤ d) (hm : h[162]? = some (.inr (11, [.int 0, .ref 163, .ref 164, .ref 165, .ref 166, .ref 167, .ref 168, .ref 169, .int 0, .int 0, .int 0, .int 0, .int 0, .long 0, .int 0, .int 0, .int 0, .int 0, .int 0, .ref 170, .ref 171, .ref 172, .int 0, .int 0, .int 0, .int 0, .int 0, .int 0, .ref 173, .ref 174, .ref 175, .int 0, .int 0, .int 0, .ref 176, .ref 177, .ref 178, .ref 179, .ref 180, .int 0, .long 0, .int 0, .ref 181]))) (hy : h[167]? = some (.inl (1, 8, .inl (fun _ => 0))))  : CT con0 d 0 0 yX11_flood cX11_flood 6 (some .int) [.ref 162, .int a0, .int a1] h (fun r h2 => r = some (.int (-1))) := by
  refine CT_of (by decide) (Nat.le_of_ble_eq_true rfl) (fun x hq => ?_)
  show J x yX11_flood cX11_flood 6 (some .int) d 0 0 h.length 0 [(0, .ref 162), (1, .int a0), (2, .int a1)] [] h 0 0
  refine J_aload_n (i := 0) (j := 0) dX11_flood_0 rfl rfl ?_
  refine J_iconst (v := 0) dX11_flood_1 (by decide) ?_
  obtain ⟨h1, e2⟩ : ∃ z, z = h.set 162 (.inr (11, [.int 0, .ref 163, .ref 164, .ref 165, .ref 166, .ref 167, .ref 168, .ref 169, .int 0, .int 0, .int 0, .int 0, .int 0, .long 0, .int 0, .int 0, .int 0, .int 0, .int 0, .ref 170, .ref 171, .ref 172, .int 0, .int 0, .int 0, .int 0, .int 0, .int 0, .ref 173, .ref 174, .ref 175, .int 0, .int 0, .int 0, .ref 176, .ref 177, .ref 178, .ref 179, .ref 180, .int 0, .long 0, .int 0, .ref 181])) := ⟨_, rfl⟩
  refine J_put (C := RX11) (T := TX11) (Z := 43) (ci := 11) (f := 0) (ty0 := tyX11) dX11_flood_2 inG11 rfl tyX11_ok nmX11 (by decide) k1264 rfl rfl hm (Nat.le_of_ble_eq_true rfl) (fun _ _ => ⟨rfl, rfl⟩) e2.symm ?_
  have f3 := a_set e2 hm
  have l4 := l_set e2 rfl
  refine J_aload_n (i := 0) (j := 0) dX11_flood_5 rfl rfl ?_
  refine J_iload_n (i := 1) (j := 1) dX11_flood_6 rfl rfl ?_
  refine J_iload_n (i := 2) (j := 2) dX11_flood_7 rfl rfl ?_
  have f5 : h1[167]? = some (.inl (1, 8, .inl (fun _ => 0))) := (s_ne e2 (by decide)).trans hy
  refine J_callV (As := [.int a0, .int a1]) (rest := []) dX11_flood_8 (c_X11_lay0 (d := 2) (h := h1)  (by decide) f3 f5 ) hq.n k1503 k1505 k52 f3 rfl rfl k97 k1506 np_X11_lay (Nat.le_trans (by decide) hd) (by decide) (Nat.le_refl _) (Nat.le_refl _) (hkz l4) rfl (Nat.le_of_ble_eq_true rfl) (fun r6 h7 p8 => ?_)
  obtain ⟨rfl, w9⟩ := p8
  refine J_w w9 ?_
  refine J_if_ne (tgt := 16) dX11_flood_11 (by decide) (fun q => absurd (by decide) q) (fun _ => ?_)
  refine J_iconst (v := (-1)) dX11_flood_14 (by decide) ?_
  exact J_iret hq dX11_flood_15 rfl (hkz l4) (Nat.le_refl _) (Nat.le_refl _) rfl
set_option maxHeartbeats 4000000 in
set_option maxRecDepth 100000 in
theorem c_X11_around0 {d : Nat} {h : List MC} {a0 a1 a2 : Int32} (hd : 4 ≤ d) (hm : h[162]? = some (.inr (11, [.int 0, .ref 163, .ref 164, .ref 165, .ref 166, .ref 167, .ref 168, .ref 169, .int 0, .int 0, .int 0, .int 0, .int 0, .long 0, .int 0, .int 0, .int 0, .int 0, .int 0, .ref 170, .ref 171, .ref 172, .int 0, .int 0, .int 0, .int 0, .int 0, .int 0, .ref 173, .ref 174, .ref 175, .int 0, .int 0, .int 0, .ref 176, .ref 177, .ref 178, .ref 179, .ref 180, .int 0, .long 0, .int 0, .ref 181]))) (hy : h[167]? = some (.inl (1, 8, .inl (fun _ => 0))))  : CT con0 d 0 0 yX11_around cX11_around 13 (some .int) [.ref 162, .int a0, .int a1, .int a2] h (fun r h2 => r = some (.int (-1))) := by
  refine CT_of (by decide) (Nat.le_of_ble_eq_true rfl) (fun x hq => ?_)
  show J x yX11_around cX11_around 13 (some .int) d 0 0 h.length 0 [(0, .ref 162), (1, .int a0), (2, .int a1), (3, .int a2)] [] h 0 0
  refine J_aload_n (i := 0) (j := 0) dX11_around_0 rfl rfl ?_
  refine J_iconst (v := 0) dX11_around_1 (by decide) ?_
  obtain ⟨h1, e2⟩ : ∃ z, z = h.set 162 (.inr (11, [.int 0, .ref 163, .ref 164, .ref 165, .ref 166, .ref 167, .ref 168, .ref 169, .int 0, .int 0, .int 0, .int 0, .int 0, .long 0, .int 0, .int 0, .int 0, .int 0, .int 0, .ref 170, .ref 171, .ref 172, .int 0, .int 0, .int 0, .int 0, .int 0, .int 0, .ref 173, .ref 174, .ref 175, .int 0, .int 0, .int 0, .ref 176, .ref 177, .ref 178, .ref 179, .ref 180, .int 0, .long 0, .int 0, .ref 181])) := ⟨_, rfl⟩
  refine J_put (C := RX11) (T := TX11) (Z := 43) (ci := 11) (f := 0) (ty0 := tyX11) dX11_around_2 inG11 rfl tyX11_ok nmX11 (by decide) k1264 rfl rfl hm (Nat.le_of_ble_eq_true rfl) (fun _ _ => ⟨rfl, rfl⟩) e2.symm ?_
  have f3 := a_set e2 hm
  have l4 := l_set e2 rfl
  refine J_aload_n (i := 0) (j := 0) dX11_around_5 rfl rfl ?_
  refine J_iload_n (i := 1) (j := 1) dX11_around_6 rfl rfl ?_
  refine J_iload_n (i := 2) (j := 2) dX11_around_7 rfl rfl ?_
  have f5 : h1[167]? = some (.inl (1, 8, .inl (fun _ => 0))) := (s_ne e2 (by decide)).trans hy
  refine J_callV (As := [.int a0, .int a1]) (rest := []) dX11_around_8 (c_X11_lay0 (d := 2) (h := h1)  (by decide) f3 f5 ) hq.n k1503 k1505 k52 f3 rfl rfl k97 k1506 np_X11_lay (Nat.le_trans (by decide) hd) (by decide) (Nat.le_refl _) (Nat.le_refl _) (hkz l4) rfl (Nat.le_of_ble_eq_true rfl) (fun r6 h7 p8 => ?_)
  obtain ⟨rfl, w9⟩ := p8
  refine J_w w9 ?_
  refine J_if_ne (tgt := 16) dX11_around_11 (by decide) (fun q => absurd (by decide) q) (fun _ => ?_)
  refine J_iconst (v := (-1)) dX11_around_14 (by decide) ?_
  exact J_iret hq dX11_around_15 rfl (hkz l4) (Nat.le_refl _) (Nat.le_refl _) rfl
set_option maxHeartbeats 4000000 in
set_option maxRecDepth 100000 in
theorem c_X11_twice0 {d : Nat} {h : List MC} {a0 a1 a2 a3 a4 a5 a6 : Int32} (hd : 4 ≤ d) (hm : h[162]? = some (.inr (11, [.int 0, .ref 163, .ref 164, .ref 165, .ref 166, .ref 167, .ref 168, .ref 169, .int 0, .int 0, .int 0, .int 0, .int 0, .long 0, .int 0, .int 0, .int 0, .int 0, .int 0, .ref 170, .ref 171, .ref 172, .int 0, .int 0, .int 0, .int 0, .int 0, .int 0, .ref 173, .ref 174, .ref 175, .int 0, .int 0, .int 0, .ref 176, .ref 177, .ref 178, .ref 179, .ref 180, .int 0, .long 0, .int 0, .ref 181]))) (hy : h[167]? = some (.inl (1, 8, .inl (fun _ => 0))))  : CT con0 d 0 0 yX11_twice cX11_twice 9 (some .int) [.ref 162, .int a0, .int a1, .int a2, .int a3, .int a4, .int a5, .int a6] h (fun r h2 => r = some (.int (-1))) := by
  refine CT_of (by decide) (Nat.le_of_ble_eq_true rfl) (fun x hq => ?_)
  show J x yX11_twice cX11_twice 9 (some .int) d 0 0 h.length 0 [(0, .ref 162), (1, .int a0), (2, .int a1), (3, .int a2), (4, .int a3), (5, .int a4), (6, .int a5), (7, .int a6)] [] h 0 0
  refine J_aload_n (i := 0) (j := 0) dX11_twice_0 rfl rfl ?_
  refine J_iconst (v := 0) dX11_twice_1 (by decide) ?_
  obtain ⟨h1, e2⟩ : ∃ z, z = h.set 162 (.inr (11, [.int 0, .ref 163, .ref 164, .ref 165, .ref 166, .ref 167, .ref 168, .ref 169, .int 0, .int 0, .int 0, .int 0, .int 0, .long 0, .int 0, .int 0, .int 0, .int 0, .int 0, .ref 170, .ref 171, .ref 172, .int 0, .int 0, .int 0, .int 0, .int 0, .int 0, .ref 173, .ref 174, .ref 175, .int 0, .int 0, .int 0, .ref 176, .ref 177, .ref 178, .ref 179, .ref 180, .int 0, .long 0, .int 0, .ref 181])) := ⟨_, rfl⟩
  refine J_put (C := RX11) (T := TX11) (Z := 43) (ci := 11) (f := 0) (ty0 := tyX11) dX11_twice_2 inG11 rfl tyX11_ok nmX11 (by decide) k1264 rfl rfl hm (Nat.le_of_ble_eq_true rfl) (fun _ _ => ⟨rfl, rfl⟩) e2.symm ?_
  have f3 := a_set e2 hm
  have l4 := l_set e2 rfl
  refine J_aload_n (i := 0) (j := 0) dX11_twice_5 rfl rfl ?_
  refine J_iload_n (i := 1) (j := 1) dX11_twice_6 rfl rfl ?_
  refine J_iload_n (i := 2) (j := 2) dX11_twice_7 rfl rfl ?_
  have f5 : h1[167]? = some (.inl (1, 8, .inl (fun _ => 0))) := (s_ne e2 (by decide)).trans hy
  refine J_callV (As := [.int a0, .int a1]) (rest := []) dX11_twice_8 (c_X11_lay0 (d := 2) (h := h1)  (by decide) f3 f5 ) hq.n k1503 k1505 k52 f3 rfl rfl k97 k1506 np_X11_lay (Nat.le_trans (by decide) hd) (by decide) (Nat.le_refl _) (Nat.le_refl _) (hkz l4) rfl (Nat.le_of_ble_eq_true rfl) (fun r6 h7 p8 => ?_)
  obtain ⟨rfl, w9⟩ := p8
  refine J_w w9 ?_
  refine J_if_eq (tgt := 49) dX11_twice_11 (by decide) (fun _ => ?_) (fun q => absurd (by decide) q)
  refine J_iconst (v := (-1)) dX11_twice_49 (by decide) ?_
  exact J_iret hq dX11_twice_50 rfl (hkz l4) (Nat.le_refl _) (Nat.le_refl _) rfl
set_option maxHeartbeats 4000000 in
set_option maxRecDepth 100000 in
theorem c_X11_better0 {d : Nat} {h : List MC} {a0 a1 a2 : Int32} (hd : 4 ≤ d) (hm : h[162]? = some (.inr (11, [.int 0, .ref 163, .ref 164, .ref 165, .ref 166, .ref 167, .ref 168, .ref 169, .int 0, .int 0, .int 0, .int 0, .int 0, .long 0, .int 0, .int 0, .int 0, .int 0, .int 0, .ref 170, .ref 171, .ref 172, .int 0, .int 0, .int 0, .int 0, .int 0, .int 0, .ref 173, .ref 174, .ref 175, .int 0, .int 0, .int 0, .ref 176, .ref 177, .ref 178, .ref 179, .ref 180, .int 0, .long 0, .int 0, .ref 181]))) (hy : h[167]? = some (.inl (1, 8, .inl (fun _ => 0))))  : CT con0 d 0 0 yX11_better cX11_better 8 (some .int) [.ref 162, .int a0, .int a1, .int a2] h (fun r h2 => r = some (.int (-1))) := by
  refine CT_of (by decide) (Nat.le_of_ble_eq_true rfl) (fun x hq => ?_)
  show J x yX11_better cX11_better 8 (some .int) d 0 0 h.length 0 [(0, .ref 162), (1, .int a0), (2, .int a1), (3, .int a2)] [] h 0 0
  refine J_aload_n (i := 0) (j := 0) dX11_better_0 rfl rfl ?_
  refine J_iconst (v := 0) dX11_better_1 (by decide) ?_
  obtain ⟨h1, e2⟩ : ∃ z, z = h.set 162 (.inr (11, [.int 0, .ref 163, .ref 164, .ref 165, .ref 166, .ref 167, .ref 168, .ref 169, .int 0, .int 0, .int 0, .int 0, .int 0, .long 0, .int 0, .int 0, .int 0, .int 0, .int 0, .ref 170, .ref 171, .ref 172, .int 0, .int 0, .int 0, .int 0, .int 0, .int 0, .ref 173, .ref 174, .ref 175, .int 0, .int 0, .int 0, .ref 176, .ref 177, .ref 178, .ref 179, .ref 180, .int 0, .long 0, .int 0, .ref 181])) := ⟨_, rfl⟩
  refine J_put (C := RX11) (T := TX11) (Z := 43) (ci := 11) (f := 0) (ty0 := tyX11) dX11_better_2 inG11 rfl tyX11_ok nmX11 (by decide) k1264 rfl rfl hm (Nat.le_of_ble_eq_true rfl) (fun _ _ => ⟨rfl, rfl⟩) e2.symm ?_
  have f3 := a_set e2 hm
  have l4 := l_set e2 rfl
  refine J_aload_n (i := 0) (j := 0) dX11_better_5 rfl rfl ?_
  refine J_iload_n (i := 1) (j := 1) dX11_better_6 rfl rfl ?_
  refine J_iload_n (i := 2) (j := 2) dX11_better_7 rfl rfl ?_
  have f5 : h1[167]? = some (.inl (1, 8, .inl (fun _ => 0))) := (s_ne e2 (by decide)).trans hy
  refine J_callV (As := [.int a0, .int a1]) (rest := []) dX11_better_8 (c_X11_lay0 (d := 2) (h := h1)  (by decide) f3 f5 ) hq.n k1503 k1505 k52 f3 rfl rfl k97 k1506 np_X11_lay (Nat.le_trans (by decide) hd) (by decide) (Nat.le_refl _) (Nat.le_refl _) (hkz l4) rfl (Nat.le_of_ble_eq_true rfl) (fun r6 h7 p8 => ?_)
  obtain ⟨rfl, w9⟩ := p8
  refine J_w w9 ?_
  refine J_if_ne (tgt := 16) dX11_better_11 (by decide) (fun q => absurd (by decide) q) (fun _ => ?_)
  refine J_iconst (v := (-1)) dX11_better_14 (by decide) ?_
  exact J_iret hq dX11_better_15 rfl (hkz l4) (Nat.le_refl _) (Nat.le_refl _) rfl
set_option maxHeartbeats 4000000 in
set_option maxRecDepth 100000 in
theorem c_X11_spend0 {d : Nat} {h : List MC} {a0 a1 a2 a3 : Int32} (hd : 4 ≤ d) (hm : h[162]? = some (.inr (11, [.int 0, .ref 163, .ref 164, .ref 165, .ref 166, .ref 167, .ref 168, .ref 169, .int 0, .int 0, .int 0, .int 0, .int 0, .long 0, .int 0, .int 0, .int 0, .int 0, .int 0, .ref 170, .ref 171, .ref 172, .int 0, .int 0, .int 0, .int 0, .int 0, .int 0, .ref 173, .ref 174, .ref 175, .int 0, .int 0, .int 0, .ref 176, .ref 177, .ref 178, .ref 179, .ref 180, .int 0, .long 0, .int 0, .ref 181]))) (hy : h[167]? = some (.inl (1, 8, .inl (fun _ => 0))))  : CT con0 d 0 0 yX11_spend cX11_spend 9 (some .int) [.ref 162, .int a0, .int a1, .int a2, .int a3] h (fun r h2 => r = some (.int (-1))) := by
  refine CT_of (by decide) (Nat.le_of_ble_eq_true rfl) (fun x hq => ?_)
  show J x yX11_spend cX11_spend 9 (some .int) d 0 0 h.length 0 [(0, .ref 162), (1, .int a0), (2, .int a1), (3, .int a2), (4, .int a3)] [] h 0 0
  refine J_aload_n (i := 0) (j := 0) dX11_spend_0 rfl rfl ?_
  refine J_iconst (v := 0) dX11_spend_1 (by decide) ?_
  obtain ⟨h1, e2⟩ : ∃ z, z = h.set 162 (.inr (11, [.int 0, .ref 163, .ref 164, .ref 165, .ref 166, .ref 167, .ref 168, .ref 169, .int 0, .int 0, .int 0, .int 0, .int 0, .long 0, .int 0, .int 0, .int 0, .int 0, .int 0, .ref 170, .ref 171, .ref 172, .int 0, .int 0, .int 0, .int 0, .int 0, .int 0, .ref 173, .ref 174, .ref 175, .int 0, .int 0, .int 0, .ref 176, .ref 177, .ref 178, .ref 179, .ref 180, .int 0, .long 0, .int 0, .ref 181])) := ⟨_, rfl⟩
  refine J_put (C := RX11) (T := TX11) (Z := 43) (ci := 11) (f := 0) (ty0 := tyX11) dX11_spend_2 inG11 rfl tyX11_ok nmX11 (by decide) k1264 rfl rfl hm (Nat.le_of_ble_eq_true rfl) (fun _ _ => ⟨rfl, rfl⟩) e2.symm ?_
  have f3 := a_set e2 hm
  have l4 := l_set e2 rfl
  refine J_aload_n (i := 0) (j := 0) dX11_spend_5 rfl rfl ?_
  refine J_iload_n (i := 1) (j := 1) dX11_spend_6 rfl rfl ?_
  refine J_iload_n (i := 2) (j := 2) dX11_spend_7 rfl rfl ?_
  refine J_iload_n (i := 3) (j := 3) dX11_spend_8 rfl rfl ?_
  refine J_iconst (v := 0) dX11_spend_9 (by decide) ?_
  have f5 : h1[167]? = some (.inl (1, 8, .inl (fun _ => 0))) := (s_ne e2 (by decide)).trans hy
  refine J_callV (As := [.int a0, .int a1, .int a2, .int 0]) (rest := []) dX11_spend_10 (c_X11_canMend0 (d := 3) (h := h1)  (by decide) f3 f5 ) hq.n k1615 k1617 k69 f3 rfl rfl k97 k1618 np_X11_canMend (Nat.le_trans (by decide) hd) (by decide) (Nat.le_refl _) (Nat.le_refl _) (hkz l4) rfl (Nat.le_of_ble_eq_true rfl) (fun r6 h7 p8 => ?_)
  obtain ⟨rfl, w9⟩ := p8
  refine J_w w9 ?_
  refine J_if_eq (tgt := 27) dX11_spend_13 (by decide) (fun _ => ?_) (fun q => absurd (by decide) q)
  refine J_iconst (v := (-1)) dX11_spend_27 (by decide) ?_
  exact J_iret hq dX11_spend_28 rfl (hkz l4) (Nat.le_refl _) (Nat.le_refl _) rfl
end
section
/-- the model's cells are as they were -/
def FX (h h2 : List MC) : Prop := h2.length = h.length ∧ ∀ j, 162 ≤ j → h2[j]? = h[j]?
theorem cn0 {a : Int32} (h : (!decide (a < 0) && !decide ((1 : Int32) < a)) = false) : (if a = 0 then (0 : Int32) else if a = 1 then 0 else -2) = -2 := by
  by_cases h0 : a = 0
  · subst h0; exact absurd h (by decide)
  · by_cases h1 : a = 1
    · subst h1; exact absurd h (by decide)
    · simp [h0, h1]
theorem cn1 {a : Int32} (h : (!decide (a < 0) && !decide ((1 : Int32) < a)) = true) : (if a = 0 then (0 : Int32) else if a = 1 then 0 else -2) = 0 := by
  simp only [Bool.and_eq_true, Bool.not_eq_true', decide_eq_false_iff_not, Int32.lt_iff_toInt_lt] at h
  have e0 : (0 : Int32).toInt = 0 := by decide
  have e1 : (1 : Int32).toInt = 1 := by decide
  by_cases h0 : a = 0
  · simp [h0]
  · have h1 : a = 1 := by
      apply Int32.toInt_inj.mp
      have h2 : ¬ a.toInt = 0 := fun q => h0 (Int32.toInt_inj.mp (q.trans e0.symm))
      omega
    simp [h1]
theorem en0 {a : Int32} (h : (!decide (a < 0) && !decide ((0 : Int32) < a)) = false) : (if a < 0 then (-1 : Int32) else if a ≤ 0 then a else -1) = -1 := by
  by_cases h0 : a < 0
  · simp [h0]
  · by_cases h1 : a ≤ 0
    · have h2 : ¬ (0 : Int32) < a := by
        rw [Int32.lt_iff_toInt_lt]; rw [Int32.le_iff_toInt_le] at h1; omega
      simp [h0, h2] at h
    · simp [h0, h1]
theorem en1 {a : Int32} (h : (!decide (a < 0) && !decide ((0 : Int32) < a)) = true) : (if a < 0 then (-1 : Int32) else if a ≤ 0 then a else -1) = a := by
  simp only [Bool.and_eq_true, Bool.not_eq_true', decide_eq_false_iff_not] at h
  simp [h.1, i_nlt h.2]
theorem pi3 {a : Int32} (h1 : ¬ a < 0) (h2 : ¬ 3 ≤ a) : vp_in a 3 := by
  rw [vp_in_iff]
  have e0 : (0 : Int32).toInt = 0 := by decide
  have e3 : (3 : Int32).toInt = 3 := by decide
  rw [Int32.lt_iff_toInt_lt] at h1
  rw [Int32.le_iff_toInt_le] at h2
  omega
theorem pi2 {a : Int32} (h : (!decide (a < 0) && !decide ((1 : Int32) < a)) = true) : vp_in a 8 := by
  rw [vp_in_iff]
  simp only [Bool.and_eq_true, Bool.not_eq_true', decide_eq_false_iff_not, Int32.lt_iff_toInt_lt] at h
  have e0 : (0 : Int32).toInt = 0 := by decide
  have e1 : (1 : Int32).toInt = 1 := by decide
  omega
theorem pi4 {a : Int32} (h : (!decide (a < 0) && !decide ((2 : Int32) < a)) = true) : vp_in a 3 := by
  rw [vp_in_iff]
  simp only [Bool.and_eq_true, Bool.not_eq_true', decide_eq_false_iff_not, Int32.lt_iff_toInt_lt] at h
  have e0 : (0 : Int32).toInt = 0 := by decide
  have e1 : (2 : Int32).toInt = 2 := by decide
  omega
theorem k191 : Cond.fieldLinkNest RX10 79 "PondStair$Told" "fault" "I" "PondStair" ∈ nt := nt_in 191 (by decide +kernel) (by decide +kernel)
theorem k193 : Cond.fieldLinkNest RX10 82 "PondStair$Told" "place" "I" "PondStair" ∈ nt := nt_in 193 (by decide +kernel) (by decide +kernel)
theorem k197 : Cond.fieldLinkNest RX10 328 "PondStair$Told" "hills" "I" "PondStair" ∈ nt := nt_in 197 (by decide +kernel) (by decide +kernel)
theorem k201 : Cond.fieldLinkNest RX10 331 "PondStair$Told" "plans" "I" "PondStair" ∈ nt := nt_in 201 (by decide +kernel) (by decide +kernel)
theorem k189 : Cond.fieldLinkNest RX10 71 "PondStair$Told" "length" "I" "PondStair" ∈ nt := nt_in 189 (by decide +kernel) (by decide +kernel)
theorem dX10_again_0 : decode cX10_again 0 = .ok (.iload_n 1, 1) := by decide +kernel
theorem dX10_again_1 : decode cX10_again 1 = .ok (.ifCond .lt 17, 3) := by decide +kernel
theorem dX10_again_4 : decode cX10_again 4 = .ok (.iload_n 1, 1) := by decide +kernel
theorem dX10_again_5 : decode cX10_again 5 = .ok (.iconst 3, 1) := by decide +kernel
theorem dX10_again_6 : decode cX10_again 6 = .ok (.if_icmp .ge 12, 3) := by decide +kernel
theorem dX10_again_9 : decode cX10_again 9 = .ok (.aload_n 0, 1) := by decide +kernel
theorem dX10_again_10 : decode cX10_again 10 = .ok (.getfield 20, 3) := by decide +kernel
theorem dX10_again_13 : decode cX10_again 13 = .ok (.iload_n 1, 1) := by decide +kernel
theorem dX10_again_14 : decode cX10_again 14 = .ok (.baload, 1) := by decide +kernel
theorem dX10_again_15 : decode cX10_again 15 = .ok (.ifCond .ne 5, 3) := by decide +kernel
theorem dX10_again_18 : decode cX10_again 18 = .ok (.iconst 0, 1) := by decide +kernel
theorem dX10_again_19 : decode cX10_again 19 = .ok (.ireturn, 1) := by decide +kernel
theorem dX10_count_0 : decode cX10_count 0 = .ok (.iload_n 1, 1) := by decide +kernel
theorem dX10_count_1 : decode cX10_count 1 = .ok (.lookupswitch 43 #[(0, 27), (1, 35)], 27) := by decide +kernel
theorem dX10_count_28 : decode cX10_count 28 = .ok (.aload_n 0, 1) := by decide +kernel
theorem dX10_count_29 : decode cX10_count 29 = .ok (.getfield 10, 3) := by decide +kernel
theorem dX10_count_32 : decode cX10_count 32 = .ok (.getfield 328, 3) := by decide +kernel
theorem dX10_count_35 : decode cX10_count 35 = .ok (.ireturn, 1) := by decide +kernel
theorem dX10_count_36 : decode cX10_count 36 = .ok (.aload_n 0, 1) := by decide +kernel
theorem dX10_count_37 : decode cX10_count 37 = .ok (.getfield 10, 3) := by decide +kernel
theorem dX10_count_40 : decode cX10_count 40 = .ok (.getfield 331, 3) := by decide +kernel
theorem dX10_count_43 : decode cX10_count 43 = .ok (.ireturn, 1) := by decide +kernel
theorem dX10_count_44 : decode cX10_count 44 = .ok (.bipush (-2), 2) := by decide +kernel
theorem dX10_count_46 : decode cX10_count 46 = .ok (.ireturn, 1) := by decide +kernel
theorem dX10_end_0 : decode cX10_end 0 = .ok (.iload_n 1, 1) := by decide +kernel
theorem dX10_end_1 : decode cX10_end 1 = .ok (.ifCond .lt 14, 3) := by decide +kernel
theorem dX10_end_4 : decode cX10_end 4 = .ok (.iload_n 1, 1) := by decide +kernel
theorem dX10_end_5 : decode cX10_end 5 = .ok (.aload_n 0, 1) := by decide +kernel
theorem dX10_end_6 : decode cX10_end 6 = .ok (.getfield 10, 3) := by decide +kernel
theorem dX10_end_9 : decode cX10_end 9 = .ok (.getfield 71, 3) := by decide +kernel
theorem dX10_end_12 : decode cX10_end 12 = .ok (.if_icmp .le 5, 3) := by decide +kernel
theorem dX10_end_15 : decode cX10_end 15 = .ok (.iconst (-1), 1) := by decide +kernel
theorem dX10_end_16 : decode cX10_end 16 = .ok (.ireturn, 1) := by decide +kernel
theorem dX10_end_17 : decode cX10_end 17 = .ok (.aload_n 0, 1) := by decide +kernel
theorem dX10_end_18 : decode cX10_end 18 = .ok (.getfield 10, 3) := by decide +kernel
theorem dX10_end_21 : decode cX10_end 21 = .ok (.iload_n 1, 1) := by decide +kernel
theorem dX10_end_22 : decode cX10_end 22 = .ok (.putfield 71, 3) := by decide +kernel
theorem dX10_end_25 : decode cX10_end 25 = .ok (.iload_n 1, 1) := by decide +kernel
theorem dX10_end_26 : decode cX10_end 26 = .ok (.ireturn, 1) := by decide +kernel
theorem dX10_fault_0 : decode cX10_fault 0 = .ok (.iload_n 1, 1) := by decide +kernel
theorem dX10_fault_1 : decode cX10_fault 1 = .ok (.lookupswitch 43 #[(0, 27), (1, 35)], 27) := by decide +kernel
theorem dX10_fault_28 : decode cX10_fault 28 = .ok (.aload_n 0, 1) := by decide +kernel
theorem dX10_fault_29 : decode cX10_fault 29 = .ok (.getfield 10, 3) := by decide +kernel
theorem dX10_fault_32 : decode cX10_fault 32 = .ok (.getfield 79, 3) := by decide +kernel
theorem dX10_fault_35 : decode cX10_fault 35 = .ok (.ireturn, 1) := by decide +kernel
theorem dX10_fault_36 : decode cX10_fault 36 = .ok (.aload_n 0, 1) := by decide +kernel
theorem dX10_fault_37 : decode cX10_fault 37 = .ok (.getfield 10, 3) := by decide +kernel
theorem dX10_fault_40 : decode cX10_fault 40 = .ok (.getfield 82, 3) := by decide +kernel
theorem dX10_fault_43 : decode cX10_fault 43 = .ok (.ireturn, 1) := by decide +kernel
theorem dX10_fault_44 : decode cX10_fault 44 = .ok (.iconst (-1), 1) := by decide +kernel
theorem dX10_fault_45 : decode cX10_fault 45 = .ok (.ireturn, 1) := by decide +kernel
theorem dX11_again_0 : decode cX11_again 0 = .ok (.aload_n 0, 1) := by decide +kernel
theorem dX11_again_1 : decode cX11_again 1 = .ok (.iconst 0, 1) := by decide +kernel
theorem dX11_again_2 : decode cX11_again 2 = .ok (.putfield 70, 3) := by decide +kernel
theorem dX11_again_5 : decode cX11_again 5 = .ok (.iload_n 1, 1) := by decide +kernel
theorem dX11_again_6 : decode cX11_again 6 = .ok (.iconst 0, 1) := by decide +kernel
theorem dX11_again_7 : decode cX11_again 7 = .ok (.iconst 2, 1) := by decide +kernel
theorem dX11_again_8 : decode cX11_again 8 = .ok (.invokestatic 78, 3) := by decide +kernel
theorem dX11_again_11 : decode cX11_again 11 = .ok (.ifCond .eq 12, 3) := by decide +kernel
theorem dX11_again_14 : decode cX11_again 14 = .ok (.aload_n 0, 1) := by decide +kernel
theorem dX11_again_15 : decode cX11_again 15 = .ok (.getfield 66, 3) := by decide +kernel
theorem dX11_again_18 : decode cX11_again 18 = .ok (.iload_n 1, 1) := by decide +kernel
theorem dX11_again_19 : decode cX11_again 19 = .ok (.baload, 1) := by decide +kernel
theorem dX11_again_20 : decode cX11_again 20 = .ok (.ifCond .ne 5, 3) := by decide +kernel
theorem dX11_again_23 : decode cX11_again 23 = .ok (.iconst 0, 1) := by decide +kernel
theorem dX11_again_24 : decode cX11_again 24 = .ok (.ireturn, 1) := by decide +kernel
theorem dX11_count_0 : decode cX11_count 0 = .ok (.aload_n 0, 1) := by decide +kernel
theorem dX11_count_1 : decode cX11_count 1 = .ok (.iconst 0, 1) := by decide +kernel
theorem dX11_count_2 : decode cX11_count 2 = .ok (.putfield 70, 3) := by decide +kernel
theorem dX11_count_5 : decode cX11_count 5 = .ok (.iload_n 1, 1) := by decide +kernel
theorem dX11_count_6 : decode cX11_count 6 = .ok (.iconst 0, 1) := by decide +kernel
theorem dX11_count_7 : decode cX11_count 7 = .ok (.iconst 1, 1) := by decide +kernel
theorem dX11_count_8 : decode cX11_count 8 = .ok (.invokestatic 78, 3) := by decide +kernel
theorem dX11_count_11 : decode cX11_count 11 = .ok (.ifCond .eq 12, 3) := by decide +kernel
theorem dX11_count_14 : decode cX11_count 14 = .ok (.aload_n 0, 1) := by decide +kernel
theorem dX11_count_15 : decode cX11_count 15 = .ok (.getfield 23, 3) := by decide +kernel
theorem dX11_count_18 : decode cX11_count 18 = .ok (.iload_n 1, 1) := by decide +kernel
theorem dX11_count_19 : decode cX11_count 19 = .ok (.iaload, 1) := by decide +kernel
theorem dX11_count_20 : decode cX11_count 20 = .ok (.goto 5, 3) := by decide +kernel
theorem dX11_count_23 : decode cX11_count 23 = .ok (.bipush (-2), 2) := by decide +kernel
theorem dX11_count_25 : decode cX11_count 25 = .ok (.ireturn, 1) := by decide +kernel
theorem dX11_end_0 : decode cX11_end 0 = .ok (.aload_n 0, 1) := by decide +kernel
theorem dX11_end_1 : decode cX11_end 1 = .ok (.iconst 0, 1) := by decide +kernel
theorem dX11_end_2 : decode cX11_end 2 = .ok (.putfield 70, 3) := by decide +kernel
theorem dX11_end_5 : decode cX11_end 5 = .ok (.iload_n 1, 1) := by decide +kernel
theorem dX11_end_6 : decode cX11_end 6 = .ok (.iconst 0, 1) := by decide +kernel
theorem dX11_end_7 : decode cX11_end 7 = .ok (.aload_n 0, 1) := by decide +kernel
theorem dX11_end_8 : decode cX11_end 8 = .ok (.getfield 13, 3) := by decide +kernel
theorem dX11_end_11 : decode cX11_end 11 = .ok (.iconst 0, 1) := by decide +kernel
theorem dX11_end_12 : decode cX11_end 12 = .ok (.iaload, 1) := by decide +kernel
theorem dX11_end_13 : decode cX11_end 13 = .ok (.invokestatic 78, 3) := by decide +kernel
theorem dX11_end_16 : decode cX11_end 16 = .ok (.ifCond .ne 5, 3) := by decide +kernel
theorem dX11_end_19 : decode cX11_end 19 = .ok (.iconst (-1), 1) := by decide +kernel
theorem dX11_end_20 : decode cX11_end 20 = .ok (.ireturn, 1) := by decide +kernel
theorem dX11_end_21 : decode cX11_end 21 = .ok (.aload_n 0, 1) := by decide +kernel
theorem dX11_end_22 : decode cX11_end 22 = .ok (.getfield 13, 3) := by decide +kernel
theorem dX11_end_25 : decode cX11_end 25 = .ok (.iconst 0, 1) := by decide +kernel
theorem dX11_end_26 : decode cX11_end 26 = .ok (.iload_n 1, 1) := by decide +kernel
theorem dX11_end_27 : decode cX11_end 27 = .ok (.iastore, 1) := by decide +kernel
theorem dX11_end_28 : decode cX11_end 28 = .ok (.iload_n 1, 1) := by decide +kernel
theorem dX11_end_29 : decode cX11_end 29 = .ok (.ireturn, 1) := by decide +kernel
theorem dX11_fault_0 : decode cX11_fault 0 = .ok (.aload_n 0, 1) := by decide +kernel
theorem dX11_fault_1 : decode cX11_fault 1 = .ok (.iconst 0, 1) := by decide +kernel
theorem dX11_fault_2 : decode cX11_fault 2 = .ok (.putfield 70, 3) := by decide +kernel
theorem dX11_fault_5 : decode cX11_fault 5 = .ok (.iload_n 1, 1) := by decide +kernel
theorem dX11_fault_6 : decode cX11_fault 6 = .ok (.ifCond .ne 12, 3) := by decide +kernel
theorem dX11_fault_9 : decode cX11_fault 9 = .ok (.aload_n 0, 1) := by decide +kernel
theorem dX11_fault_10 : decode cX11_fault 10 = .ok (.getfield 17, 3) := by decide +kernel
theorem dX11_fault_13 : decode cX11_fault 13 = .ok (.iconst 0, 1) := by decide +kernel
theorem dX11_fault_14 : decode cX11_fault 14 = .ok (.iaload, 1) := by decide +kernel
theorem dX11_fault_15 : decode cX11_fault 15 = .ok (.goto 18, 3) := by decide +kernel
theorem dX11_fault_18 : decode cX11_fault 18 = .ok (.iload_n 1, 1) := by decide +kernel
theorem dX11_fault_19 : decode cX11_fault 19 = .ok (.iconst 1, 1) := by decide +kernel
theorem dX11_fault_20 : decode cX11_fault 20 = .ok (.if_icmp .ne 12, 3) := by decide +kernel
theorem dX11_fault_23 : decode cX11_fault 23 = .ok (.aload_n 0, 1) := by decide +kernel
theorem dX11_fault_24 : decode cX11_fault 24 = .ok (.getfield 20, 3) := by decide +kernel
theorem dX11_fault_27 : decode cX11_fault 27 = .ok (.iconst 0, 1) := by decide +kernel
theorem dX11_fault_28 : decode cX11_fault 28 = .ok (.iaload, 1) := by decide +kernel
theorem dX11_fault_29 : decode cX11_fault 29 = .ok (.goto 4, 3) := by decide +kernel
theorem dX11_fault_32 : decode cX11_fault 32 = .ok (.iconst (-1), 1) := by decide +kernel
theorem dX11_fault_33 : decode cX11_fault 33 = .ok (.ireturn, 1) := by decide +kernel
set_option maxHeartbeats 4000000 in
set_option maxRecDepth 100000 in
theorem c_X10_fault0 {d : Nat} {h : List MC} {a0 : Int32} (hd : 0 ≤ d) (h0 : h[0]? = some (.inr (10, [.ref 1, .ref 27, .ref 28, .ref 29, .ref 43, .ref 49, .ref 53, .ref 56, .ref 57, .ref 79]))) (h1 : h[1]? = some (.inr (7, [.ref 2, .int 0, .int 0, .int (-1), .ref 3, .int 0, .ref 4, .int 0])))  : CT con0 d 0 0 yX10_fault cX10_fault 2 (some .int) [.ref 0, .int a0] h (fun r h2 => r = some (.int (if a0 = 0 then 0 else -1)) ∧ FX h h2) := by
  refine CT_of (by decide) (Nat.le_of_ble_eq_true rfl) (fun x hq => ?_)
  show J x yX10_fault cX10_fault 2 (some .int) d 0 0 h.length 0 [(0, .ref 0), (1, .int a0)] [] h 0 0
  refine J_iload_n (i := 1) (j := 1) dX10_fault_0 rfl rfl ?_
  by_cases c1 : a0 = 0
  · refine J_ci (v := 0) c1 ?_
    refine J_lookup (tgt := 28) dX10_fault_1 (by decide) (off := 27) (by decide) (by decide) ?_
    refine J_aload_n (i := 0) (j := 0) dX10_fault_28 rfl rfl ?_
    refine J_get (C := RX10) (T := TX10) (Z := 10) (ci := 10) (f := 0) dX10_fault_29 inG10 rfl (by decide) k423 h0 rfl ?_
    refine J_getN (C := RX7) (T := TX7) (Z := 8) (ci := 7) (f := 2) dX10_fault_32 inG7 rfl (by decide) k191 h1 rfl ?_
    exact J_iret hq dX10_fault_35 rfl (hkz rfl) (Nat.le_refl _) (Nat.le_refl _) ⟨by simp [c1], ⟨rfl, fun _ _ => rfl⟩⟩
  by_cases c2 : a0 = 1
  · refine J_ci (v := 1) c2 ?_
    refine J_lookup (tgt := 36) dX10_fault_1 (by decide) (off := 35) (by decide) (by decide) ?_
    refine J_aload_n (i := 0) (j := 0) dX10_fault_36 rfl rfl ?_
    refine J_get (C := RX10) (T := TX10) (Z := 10) (ci := 10) (f := 0) dX10_fault_37 inG10 rfl (by decide) k423 h0 rfl ?_
    refine J_getN (C := RX7) (T := TX7) (Z := 8) (ci := 7) (f := 3) dX10_fault_40 inG7 rfl (by decide) k193 h1 rfl ?_
    exact J_iret hq dX10_fault_43 rfl (hkz rfl) (Nat.le_refl _) (Nat.le_refl _) ⟨by simp [c2], ⟨rfl, fun _ _ => rfl⟩⟩
  · refine J_lookup (tgt := 44) dX10_fault_1 (by decide) (off := 43) ((lv_osw c1 (by decide)).trans ((lv_osw c2 (by decide)).trans rfl)) (by decide) ?_
    refine J_iconst (v := (-1)) dX10_fault_44 (by decide) ?_
    exact J_iret hq dX10_fault_45 rfl (hkz rfl) (Nat.le_refl _) (Nat.le_refl _) ⟨by simp [c1, c2], ⟨rfl, fun _ _ => rfl⟩⟩
set_option maxHeartbeats 4000000 in
set_option maxRecDepth 100000 in
theorem c_X10_count0 {d : Nat} {h : List MC} {a0 : Int32} (hd : 0 ≤ d) (h0 : h[0]? = some (.inr (10, [.ref 1, .ref 27, .ref 28, .ref 29, .ref 43, .ref 49, .ref 53, .ref 56, .ref 57, .ref 79]))) (h1 : h[1]? = some (.inr (7, [.ref 2, .int 0, .int 0, .int (-1), .ref 3, .int 0, .ref 4, .int 0])))  : CT con0 d 0 0 yX10_count cX10_count 2 (some .int) [.ref 0, .int a0] h (fun r h2 => r = some (.int (if a0 = 0 then 0 else if a0 = 1 then 0 else -2)) ∧ FX h h2) := by
  refine CT_of (by decide) (Nat.le_of_ble_eq_true rfl) (fun x hq => ?_)
  show J x yX10_count cX10_count 2 (some .int) d 0 0 h.length 0 [(0, .ref 0), (1, .int a0)] [] h 0 0
  refine J_iload_n (i := 1) (j := 1) dX10_count_0 rfl rfl ?_
  by_cases c1 : a0 = 0
  · refine J_ci (v := 0) c1 ?_
    refine J_lookup (tgt := 28) dX10_count_1 (by decide) (off := 27) (by decide) (by decide) ?_
    refine J_aload_n (i := 0) (j := 0) dX10_count_28 rfl rfl ?_
    refine J_get (C := RX10) (T := TX10) (Z := 10) (ci := 10) (f := 0) dX10_count_29 inG10 rfl (by decide) k423 h0 rfl ?_
    refine J_getN (C := RX7) (T := TX7) (Z := 8) (ci := 7) (f := 5) dX10_count_32 inG7 rfl (by decide) k197 h1 rfl ?_
    exact J_iret hq dX10_count_35 rfl (hkz rfl) (Nat.le_refl _) (Nat.le_refl _) ⟨by simp [c1], ⟨rfl, fun _ _ => rfl⟩⟩
  by_cases c2 : a0 = 1
  · refine J_ci (v := 1) c2 ?_
    refine J_lookup (tgt := 36) dX10_count_1 (by decide) (off := 35) (by decide) (by decide) ?_
    refine J_aload_n (i := 0) (j := 0) dX10_count_36 rfl rfl ?_
    refine J_get (C := RX10) (T := TX10) (Z := 10) (ci := 10) (f := 0) dX10_count_37 inG10 rfl (by decide) k423 h0 rfl ?_
    refine J_getN (C := RX7) (T := TX7) (Z := 8) (ci := 7) (f := 7) dX10_count_40 inG7 rfl (by decide) k201 h1 rfl ?_
    exact J_iret hq dX10_count_43 rfl (hkz rfl) (Nat.le_refl _) (Nat.le_refl _) ⟨by simp [c2], ⟨rfl, fun _ _ => rfl⟩⟩
  · refine J_lookup (tgt := 44) dX10_count_1 (by decide) (off := 43) ((lv_osw c1 (by decide)).trans ((lv_osw c2 (by decide)).trans rfl)) (by decide) ?_
    refine J_bipush (v := (-2)) dX10_count_44 (by decide) ?_
    exact J_iret hq dX10_count_46 rfl (hkz rfl) (Nat.le_refl _) (Nat.le_refl _) ⟨by simp [c1, c2], ⟨rfl, fun _ _ => rfl⟩⟩
set_option maxHeartbeats 4000000 in
set_option maxRecDepth 100000 in
theorem c_X10_end0 {d : Nat} {h : List MC} {a0 : Int32} (hd : 0 ≤ d) (h0 : h[0]? = some (.inr (10, [.ref 1, .ref 27, .ref 28, .ref 29, .ref 43, .ref 49, .ref 53, .ref 56, .ref 57, .ref 79]))) (h1 : h[1]? = some (.inr (7, [.ref 2, .int 0, .int 0, .int (-1), .ref 3, .int 0, .ref 4, .int 0])))  : CT con0 d 0 0 yX10_end cX10_end 2 (some .int) [.ref 0, .int a0] h (fun r h2 => r = some (.int (if a0 < 0 then -1 else if a0 ≤ 0 then a0 else -1)) ∧ FX h h2) := by
  refine CT_of (by decide) (Nat.le_of_ble_eq_true rfl) (fun x hq => ?_)
  show J x yX10_end cX10_end 2 (some .int) d 0 0 h.length 0 [(0, .ref 0), (1, .int a0)] [] h 0 0
  refine J_iload_n (i := 1) (j := 1) dX10_end_0 rfl rfl ?_
  refine J_if_lt (tgt := 15) dX10_end_1 (by decide) (fun c1 => ?_) (fun c1 => ?_)
  · refine J_iconst (v := (-1)) dX10_end_15 (by decide) ?_
    exact J_iret hq dX10_end_16 rfl (hkz rfl) (Nat.le_refl _) (Nat.le_refl _) ⟨by simp [c1], ⟨rfl, fun _ _ => rfl⟩⟩
  · refine J_iload_n (i := 1) (j := 1) dX10_end_4 rfl rfl ?_
    refine J_aload_n (i := 0) (j := 0) dX10_end_5 rfl rfl ?_
    refine J_get (C := RX10) (T := TX10) (Z := 10) (ci := 10) (f := 0) dX10_end_6 inG10 rfl (by decide) k423 h0 rfl ?_
    refine J_getN (C := RX7) (T := TX7) (Z := 8) (ci := 7) (f := 1) dX10_end_9 inG7 rfl (by decide) k189 h1 rfl ?_
    refine J_icmp_le (tgt := 17) dX10_end_12 (by decide) (fun c2 => ?_) (fun c2 => ?_)
    · refine J_aload_n (i := 0) (j := 0) dX10_end_17 rfl rfl ?_
      refine J_get (C := RX10) (T := TX10) (Z := 10) (ci := 10) (f := 0) dX10_end_18 inG10 rfl (by decide) k423 h0 rfl ?_
      refine J_iload_n (i := 1) (j := 1) dX10_end_21 rfl rfl ?_
      obtain ⟨h3, e4⟩ : ∃ z, z = h.set 1 (.inr (7, [.ref 2, .int a0, .int 0, .int (-1), .ref 3, .int 0, .ref 4, .int 0])) := ⟨_, rfl⟩
      refine J_putN (C := RX7) (T := TX7) (Z := 8) (ci := 7) (f := 1) (ty0 := tyX7) dX10_end_22 inG7 rfl tyX7_ok nmX7 (by decide) k189 rfl rfl h1 (Nat.le_of_ble_eq_true rfl) (fun _ _ => ⟨rfl, rfl⟩) e4.symm ?_
      have f5 := a_set e4 h1
      have l6 := l_set e4 rfl
      refine J_iload_n (i := 1) (j := 1) dX10_end_25 rfl rfl ?_
      exact J_iret hq dX10_end_26 rfl (hkz l6) (Nat.le_refl _) (Nat.le_refl _) ⟨by simp [c1, c2], ⟨l6, fun j hj => (s_ne e4 (by omega))⟩⟩
    · refine J_iconst (v := (-1)) dX10_end_15 (by decide) ?_
      exact J_iret hq dX10_end_16 rfl (hkz rfl) (Nat.le_refl _) (Nat.le_refl _) ⟨by simp [c1, c2], ⟨rfl, fun _ _ => rfl⟩⟩
set_option maxHeartbeats 4000000 in
set_option maxRecDepth 100000 in
theorem c_X10_again0 {d : Nat} {h : List MC} {a0 : Int32} (hd : 1 ≤ d) (h0 : h[0]? = some (.inr (10, [.ref 1, .ref 27, .ref 28, .ref 29, .ref 43, .ref 49, .ref 53, .ref 56, .ref 57, .ref 79]))) (h1 : h[1]? = some (.inr (7, [.ref 2, .int 0, .int 0, .int (-1), .ref 3, .int 0, .ref 4, .int 0]))) (h28 : h[28]? = some (.inl (3, 3, .inl (fun _ => 0))))  : CT con0 d 0 0 yX10_again cX10_again 2 (some .boolean) [.ref 0, .int a0] h (fun r h2 => r = some (.int 0) ∧ FX h h2) := by
  refine CT_of (by decide) (Nat.le_of_ble_eq_true rfl) (fun x hq => ?_)
  show J x yX10_again cX10_again 2 (some .boolean) d 0 0 h.length 0 [(0, .ref 0), (1, .int a0)] [] h 0 0
  refine J_iload_n (i := 1) (j := 1) dX10_again_0 rfl rfl ?_
  refine J_if_lt (tgt := 18) dX10_again_1 (by decide) (fun c1 => ?_) (fun c1 => ?_)
  · refine J_iconst (v := 0) dX10_again_18 (by decide) ?_
    exact J_zret hq dX10_again_19 rfl rfl (hkz rfl) (Nat.le_refl _) (Nat.le_refl _) ⟨by simp [c1], ⟨rfl, fun _ _ => rfl⟩⟩
  · refine J_iload_n (i := 1) (j := 1) dX10_again_4 rfl rfl ?_
    refine J_iconst (v := 3) dX10_again_5 (by decide) ?_
    refine J_icmp_ge (tgt := 18) dX10_again_6 (by decide) (fun c2 => ?_) (fun c2 => ?_)
    · refine J_iconst (v := 0) dX10_again_18 (by decide) ?_
      exact J_zret hq dX10_again_19 rfl rfl (hkz rfl) (Nat.le_refl _) (Nat.le_refl _) ⟨by simp [c1, c2], ⟨rfl, fun _ _ => rfl⟩⟩
    · refine J_aload_n (i := 0) (j := 0) dX10_again_9 rfl rfl ?_
      refine J_get (C := RX10) (T := TX10) (Z := 10) (ci := 10) (f := 2) dX10_again_10 inG10 rfl (by decide) k425 h0 rfl ?_
      refine J_iload_n (i := 1) (j := 1) dX10_again_13 rfl rfl ?_
      refine J_zald dX10_again_14 h28 (pi3 c1 c2) ?_
      refine J_ci (v := 0) rfl ?_
      refine J_if_ne (tgt := 20) dX10_again_15 (by decide) (fun q => absurd (by decide) q) (fun _ => ?_)
      refine J_iconst (v := 0) dX10_again_18 (by decide) ?_
      exact J_zret hq dX10_again_19 rfl rfl (hkz rfl) (Nat.le_refl _) (Nat.le_refl _) ⟨by simp [c1, c2], ⟨rfl, fun _ _ => rfl⟩⟩
set_option maxHeartbeats 4000000 in
set_option maxRecDepth 100000 in
theorem c_X11_fault0 {d : Nat} {h : List MC} {a0 : Int32} (hd : 0 ≤ d) (hm : h[162]? = some (.inr (11, [.int 0, .ref 163, .ref 164, .ref 165, .ref 166, .ref 167, .ref 168, .ref 169, .int 0, .int 0, .int 0, .int 0, .int 0, .long 0, .int 0, .int 0, .int 0, .int 0, .int 0, .ref 170, .ref 171, .ref 172, .int 0, .int 0, .int 0, .int 0, .int 0, .int 0, .ref 173, .ref 174, .ref 175, .int 0, .int 0, .int 0, .ref 176, .ref 177, .ref 178, .ref 179, .ref 180, .int 0, .long 0, .int 0, .ref 181]))) (hy : h[167]? = some (.inl (1, 8, .inl (fun _ => 0)))) (h164 : h[164]? = some (.inl (1, 4, .inl (fun _ => 0)))) (h165 : h[165]? = some (.inl (1, 4, .inl (fun _ => 0)))) (h166 : h[166]? = some (.inl (1, 4, .inl (upd (fun _ => 0) ((0 : Int32).toNatClampNeg) (-1))))) (h181 : h[181]? = some (.inl (3, 3, .inl (fun _ => 0))))  : CT con0 d 0 0 yX11_fault cX11_fault 2 (some .int) [.ref 162, .int a0] h (fun r h2 => r = some (.int (if a0 = 0 then 0 else -1))) := by
  refine CT_of (by decide) (Nat.le_of_ble_eq_true rfl) (fun x hq => ?_)
  show J x yX11_fault cX11_fault 2 (some .int) d 0 0 h.length 0 [(0, .ref 162), (1, .int a0)] [] h 0 0
  refine J_aload_n (i := 0) (j := 0) dX11_fault_0 rfl rfl ?_
  refine J_iconst (v := 0) dX11_fault_1 (by decide) ?_
  obtain ⟨h1, e2⟩ : ∃ z, z = h.set 162 (.inr (11, [.int 0, .ref 163, .ref 164, .ref 165, .ref 166, .ref 167, .ref 168, .ref 169, .int 0, .int 0, .int 0, .int 0, .int 0, .long 0, .int 0, .int 0, .int 0, .int 0, .int 0, .ref 170, .ref 171, .ref 172, .int 0, .int 0, .int 0, .int 0, .int 0, .int 0, .ref 173, .ref 174, .ref 175, .int 0, .int 0, .int 0, .ref 176, .ref 177, .ref 178, .ref 179, .ref 180, .int 0, .long 0, .int 0, .ref 181])) := ⟨_, rfl⟩
  refine J_put (C := RX11) (T := TX11) (Z := 43) (ci := 11) (f := 0) (ty0 := tyX11) dX11_fault_2 inG11 rfl tyX11_ok nmX11 (by decide) k1264 rfl rfl hm (Nat.le_of_ble_eq_true rfl) (fun _ _ => ⟨rfl, rfl⟩) e2.symm ?_
  have f3 := a_set e2 hm
  have l4 := l_set e2 rfl
  refine J_iload_n (i := 1) (j := 1) dX11_fault_5 rfl rfl ?_
  refine J_if_ne (tgt := 18) dX11_fault_6 (by decide) (fun c5 => ?_) (fun c5 => ?_)
  · refine J_iload_n (i := 1) (j := 1) dX11_fault_18 rfl rfl ?_
    refine J_iconst (v := 1) dX11_fault_19 (by decide) ?_
    refine J_icmp_ne (tgt := 32) dX11_fault_20 (by decide) (fun c6 => ?_) (fun c6 => ?_)
    · refine J_iconst (v := (-1)) dX11_fault_32 (by decide) ?_
      exact J_iret hq dX11_fault_33 rfl (hkz l4) (Nat.le_refl _) (Nat.le_refl _) (by simp [c5, c6])
    · refine J_aload_n (i := 0) (j := 0) dX11_fault_23 rfl rfl ?_
      refine J_get (C := RX11) (T := TX11) (Z := 43) (ci := 11) (f := 4) dX11_fault_24 inG11 rfl (by decide) k1268 f3 rfl ?_
      refine J_iconst (v := 0) dX11_fault_27 (by decide) ?_
      have f7 : h1[166]? = some (.inl (1, 4, .inl (upd (fun _ => 0) ((0 : Int32).toNatClampNeg) (-1)))) := (s_ne e2 (by decide)).trans h166
      refine J_iald dX11_fault_28 f7 (vp_c (by decide)) ?_
      refine J_ci (v := -1) rfl ?_
      refine J_goto (tgt := 33) dX11_fault_29 (by decide) ?_
      exact J_iret hq dX11_fault_33 rfl (hkz l4) (Nat.le_refl _) (Nat.le_refl _) (by simp [c5, c6])
  · refine J_aload_n (i := 0) (j := 0) dX11_fault_9 rfl rfl ?_
    refine J_get (C := RX11) (T := TX11) (Z := 43) (ci := 11) (f := 3) dX11_fault_10 inG11 rfl (by decide) k1267 f3 rfl ?_
    refine J_iconst (v := 0) dX11_fault_13 (by decide) ?_
    have f8 : h1[165]? = some (.inl (1, 4, .inl (fun _ => 0))) := (s_ne e2 (by decide)).trans h165
    refine J_iald dX11_fault_14 f8 (vp_c (by decide)) ?_
    refine J_ci (v := 0) rfl ?_
    refine J_goto (tgt := 33) dX11_fault_15 (by decide) ?_
    exact J_iret hq dX11_fault_33 rfl (hkz l4) (Nat.le_refl _) (Nat.le_refl _) (by simp [c5])
set_option maxHeartbeats 4000000 in
set_option maxRecDepth 100000 in
theorem c_X11_count0 {d : Nat} {h : List MC} {a0 : Int32} (hd : 1 ≤ d) (hm : h[162]? = some (.inr (11, [.int 0, .ref 163, .ref 164, .ref 165, .ref 166, .ref 167, .ref 168, .ref 169, .int 0, .int 0, .int 0, .int 0, .int 0, .long 0, .int 0, .int 0, .int 0, .int 0, .int 0, .ref 170, .ref 171, .ref 172, .int 0, .int 0, .int 0, .int 0, .int 0, .int 0, .ref 173, .ref 174, .ref 175, .int 0, .int 0, .int 0, .ref 176, .ref 177, .ref 178, .ref 179, .ref 180, .int 0, .long 0, .int 0, .ref 181]))) (hy : h[167]? = some (.inl (1, 8, .inl (fun _ => 0)))) (h164 : h[164]? = some (.inl (1, 4, .inl (fun _ => 0)))) (h165 : h[165]? = some (.inl (1, 4, .inl (fun _ => 0)))) (h166 : h[166]? = some (.inl (1, 4, .inl (upd (fun _ => 0) ((0 : Int32).toNatClampNeg) (-1))))) (h181 : h[181]? = some (.inl (3, 3, .inl (fun _ => 0))))  : CT con0 d 0 0 yX11_count cX11_count 2 (some .int) [.ref 162, .int a0] h (fun r h2 => r = some (.int (if a0 = 0 then 0 else if a0 = 1 then 0 else -2))) := by
  refine CT_of (by decide) (Nat.le_of_ble_eq_true rfl) (fun x hq => ?_)
  show J x yX11_count cX11_count 2 (some .int) d 0 0 h.length 0 [(0, .ref 162), (1, .int a0)] [] h 0 0
  refine J_aload_n (i := 0) (j := 0) dX11_count_0 rfl rfl ?_
  refine J_iconst (v := 0) dX11_count_1 (by decide) ?_
  obtain ⟨h1, e2⟩ : ∃ z, z = h.set 162 (.inr (11, [.int 0, .ref 163, .ref 164, .ref 165, .ref 166, .ref 167, .ref 168, .ref 169, .int 0, .int 0, .int 0, .int 0, .int 0, .long 0, .int 0, .int 0, .int 0, .int 0, .int 0, .ref 170, .ref 171, .ref 172, .int 0, .int 0, .int 0, .int 0, .int 0, .int 0, .ref 173, .ref 174, .ref 175, .int 0, .int 0, .int 0, .ref 176, .ref 177, .ref 178, .ref 179, .ref 180, .int 0, .long 0, .int 0, .ref 181])) := ⟨_, rfl⟩
  refine J_put (C := RX11) (T := TX11) (Z := 43) (ci := 11) (f := 0) (ty0 := tyX11) dX11_count_2 inG11 rfl tyX11_ok nmX11 (by decide) k1264 rfl rfl hm (Nat.le_of_ble_eq_true rfl) (fun _ _ => ⟨rfl, rfl⟩) e2.symm ?_
  have f3 := a_set e2 hm
  have l4 := l_set e2 rfl
  refine J_iload_n (i := 1) (j := 1) dX11_count_5 rfl rfl ?_
  refine J_iconst (v := 0) dX11_count_6 (by decide) ?_
  refine J_iconst (v := 1) dX11_count_7 (by decide) ?_
  refine J_callS (As := [.int a0, .int 0, .int 1]) (rest := []) dX11_count_8 (c_X11_in (d := 0) (h := h1) (v := a0) (lo := 0) (hi := 1) (by decide)) hq.n k1406 k1407 k97 k1408 np_X11_in (Nat.le_trans (by decide) hd) (by decide) (Nat.le_refl _) (Nat.le_refl _) (hkz l4) rfl (Nat.le_of_ble_eq_true rfl) (fun r5 h6 p7 => ?_)
  obtain ⟨rfl, w8⟩ := p7
  refine J_w w8 ?_
  refine J_ifB_eq (tgt := 23) dX11_count_11 (by decide) (fun c9 => ?_) (fun c9 => ?_)
  · refine J_bipush (v := (-2)) dX11_count_23 (by decide) ?_
    exact J_iret hq dX11_count_25 rfl (hkz l4) (Nat.le_refl _) (Nat.le_refl _) (by rw [cn0 c9])
  · refine J_aload_n (i := 0) (j := 0) dX11_count_14 rfl rfl ?_
    refine J_get (C := RX11) (T := TX11) (Z := 43) (ci := 11) (f := 5) dX11_count_15 inG11 rfl (by decide) k1269 f3 rfl ?_
    refine J_iload_n (i := 1) (j := 1) dX11_count_18 rfl rfl ?_
    have f10 : h1[167]? = some (.inl (1, 8, .inl (fun _ => 0))) := (s_ne e2 (by decide)).trans hy
    refine J_iald dX11_count_19 f10 (pi2 c9) ?_
    refine J_ci (v := 0) rfl ?_
    refine J_goto (tgt := 25) dX11_count_20 (by decide) ?_
    exact J_iret hq dX11_count_25 rfl (hkz l4) (Nat.le_refl _) (Nat.le_refl _) (by rw [cn1 c9])
set_option maxHeartbeats 4000000 in
set_option maxRecDepth 100000 in
theorem c_X11_end0 {d : Nat} {h : List MC} {a0 : Int32} (hd : 1 ≤ d) (hm : h[162]? = some (.inr (11, [.int 0, .ref 163, .ref 164, .ref 165, .ref 166, .ref 167, .ref 168, .ref 169, .int 0, .int 0, .int 0, .int 0, .int 0, .long 0, .int 0, .int 0, .int 0, .int 0, .int 0, .ref 170, .ref 171, .ref 172, .int 0, .int 0, .int 0, .int 0, .int 0, .int 0, .ref 173, .ref 174, .ref 175, .int 0, .int 0, .int 0, .ref 176, .ref 177, .ref 178, .ref 179, .ref 180, .int 0, .long 0, .int 0, .ref 181]))) (hy : h[167]? = some (.inl (1, 8, .inl (fun _ => 0)))) (h164 : h[164]? = some (.inl (1, 4, .inl (fun _ => 0)))) (h165 : h[165]? = some (.inl (1, 4, .inl (fun _ => 0)))) (h166 : h[166]? = some (.inl (1, 4, .inl (upd (fun _ => 0) ((0 : Int32).toNatClampNeg) (-1))))) (h181 : h[181]? = some (.inl (3, 3, .inl (fun _ => 0))))  : CT con0 d 0 0 yX11_end cX11_end 2 (some .int) [.ref 162, .int a0] h (fun r h2 => r = some (.int (if a0 < 0 then -1 else if a0 ≤ 0 then a0 else -1))) := by
  refine CT_of (by decide) (Nat.le_of_ble_eq_true rfl) (fun x hq => ?_)
  show J x yX11_end cX11_end 2 (some .int) d 0 0 h.length 0 [(0, .ref 162), (1, .int a0)] [] h 0 0
  refine J_aload_n (i := 0) (j := 0) dX11_end_0 rfl rfl ?_
  refine J_iconst (v := 0) dX11_end_1 (by decide) ?_
  obtain ⟨h1, e2⟩ : ∃ z, z = h.set 162 (.inr (11, [.int 0, .ref 163, .ref 164, .ref 165, .ref 166, .ref 167, .ref 168, .ref 169, .int 0, .int 0, .int 0, .int 0, .int 0, .long 0, .int 0, .int 0, .int 0, .int 0, .int 0, .ref 170, .ref 171, .ref 172, .int 0, .int 0, .int 0, .int 0, .int 0, .int 0, .ref 173, .ref 174, .ref 175, .int 0, .int 0, .int 0, .ref 176, .ref 177, .ref 178, .ref 179, .ref 180, .int 0, .long 0, .int 0, .ref 181])) := ⟨_, rfl⟩
  refine J_put (C := RX11) (T := TX11) (Z := 43) (ci := 11) (f := 0) (ty0 := tyX11) dX11_end_2 inG11 rfl tyX11_ok nmX11 (by decide) k1264 rfl rfl hm (Nat.le_of_ble_eq_true rfl) (fun _ _ => ⟨rfl, rfl⟩) e2.symm ?_
  have f3 := a_set e2 hm
  have l4 := l_set e2 rfl
  refine J_iload_n (i := 1) (j := 1) dX11_end_5 rfl rfl ?_
  refine J_iconst (v := 0) dX11_end_6 (by decide) ?_
  refine J_aload_n (i := 0) (j := 0) dX11_end_7 rfl rfl ?_
  refine J_get (C := RX11) (T := TX11) (Z := 43) (ci := 11) (f := 2) dX11_end_8 inG11 rfl (by decide) k1266 f3 rfl ?_
  refine J_iconst (v := 0) dX11_end_11 (by decide) ?_
  have f5 : h1[164]? = some (.inl (1, 4, .inl (fun _ => 0))) := (s_ne e2 (by decide)).trans h164
  refine J_iald dX11_end_12 f5 (vp_c (by decide)) ?_
  refine J_ci (v := 0) rfl ?_
  refine J_callS (As := [.int a0, .int 0, .int 0]) (rest := []) dX11_end_13 (c_X11_in (d := 0) (h := h1) (v := a0) (lo := 0) (hi := 0) (by decide)) hq.n k1406 k1407 k97 k1408 np_X11_in (Nat.le_trans (by decide) hd) (by decide) (Nat.le_refl _) (Nat.le_refl _) (hkz l4) rfl (Nat.le_of_ble_eq_true rfl) (fun r6 h7 p8 => ?_)
  obtain ⟨rfl, w9⟩ := p8
  refine J_w w9 ?_
  refine J_ifB_ne (tgt := 21) dX11_end_16 (by decide) (fun c10 => ?_) (fun c10 => ?_)
  · refine J_aload_n (i := 0) (j := 0) dX11_end_21 rfl rfl ?_
    refine J_get (C := RX11) (T := TX11) (Z := 43) (ci := 11) (f := 2) dX11_end_22 inG11 rfl (by decide) k1266 f3 rfl ?_
    refine J_iconst (v := 0) dX11_end_25 (by decide) ?_
    refine J_iload_n (i := 1) (j := 1) dX11_end_26 rfl rfl ?_
    obtain ⟨h11, e12⟩ : ∃ z, z = h1.set 164 (.inl (1, 4, .inl (upd (fun _ => 0) ((0 : Int32).toNatClampNeg) a0))) := ⟨_, rfl⟩
    refine J_iast dX11_end_27 f5 (vp_c (by decide)) e12.symm ?_
    have f13 := a_set e12 f5
    have l14 := l_set e12 l4
    refine J_iload_n (i := 1) (j := 1) dX11_end_28 rfl rfl ?_
    exact J_iret hq dX11_end_29 rfl (hkz l14) (Nat.le_refl _) (Nat.le_refl _) (by rw [en1 c10])
  · refine J_iconst (v := (-1)) dX11_end_19 (by decide) ?_
    exact J_iret hq dX11_end_20 rfl (hkz l4) (Nat.le_refl _) (Nat.le_refl _) (by rw [en0 c10])
set_option maxHeartbeats 4000000 in
set_option maxRecDepth 100000 in
theorem c_X11_again0 {d : Nat} {h : List MC} {a0 : Int32} (hd : 1 ≤ d) (hm : h[162]? = some (.inr (11, [.int 0, .ref 163, .ref 164, .ref 165, .ref 166, .ref 167, .ref 168, .ref 169, .int 0, .int 0, .int 0, .int 0, .int 0, .long 0, .int 0, .int 0, .int 0, .int 0, .int 0, .ref 170, .ref 171, .ref 172, .int 0, .int 0, .int 0, .int 0, .int 0, .int 0, .ref 173, .ref 174, .ref 175, .int 0, .int 0, .int 0, .ref 176, .ref 177, .ref 178, .ref 179, .ref 180, .int 0, .long 0, .int 0, .ref 181]))) (hy : h[167]? = some (.inl (1, 8, .inl (fun _ => 0)))) (h164 : h[164]? = some (.inl (1, 4, .inl (fun _ => 0)))) (h165 : h[165]? = some (.inl (1, 4, .inl (fun _ => 0)))) (h166 : h[166]? = some (.inl (1, 4, .inl (upd (fun _ => 0) ((0 : Int32).toNatClampNeg) (-1))))) (h181 : h[181]? = some (.inl (3, 3, .inl (fun _ => 0))))  : CT con0 d 0 0 yX11_again cX11_again 2 (some .boolean) [.ref 162, .int a0] h (fun r h2 => r = some (.int 0)) := by
  refine CT_of (by decide) (Nat.le_of_ble_eq_true rfl) (fun x hq => ?_)
  show J x yX11_again cX11_again 2 (some .boolean) d 0 0 h.length 0 [(0, .ref 162), (1, .int a0)] [] h 0 0
  refine J_aload_n (i := 0) (j := 0) dX11_again_0 rfl rfl ?_
  refine J_iconst (v := 0) dX11_again_1 (by decide) ?_
  obtain ⟨h1, e2⟩ : ∃ z, z = h.set 162 (.inr (11, [.int 0, .ref 163, .ref 164, .ref 165, .ref 166, .ref 167, .ref 168, .ref 169, .int 0, .int 0, .int 0, .int 0, .int 0, .long 0, .int 0, .int 0, .int 0, .int 0, .int 0, .ref 170, .ref 171, .ref 172, .int 0, .int 0, .int 0, .int 0, .int 0, .int 0, .ref 173, .ref 174, .ref 175, .int 0, .int 0, .int 0, .ref 176, .ref 177, .ref 178, .ref 179, .ref 180, .int 0, .long 0, .int 0, .ref 181])) := ⟨_, rfl⟩
  refine J_put (C := RX11) (T := TX11) (Z := 43) (ci := 11) (f := 0) (ty0 := tyX11) dX11_again_2 inG11 rfl tyX11_ok nmX11 (by decide) k1264 rfl rfl hm (Nat.le_of_ble_eq_true rfl) (fun _ _ => ⟨rfl, rfl⟩) e2.symm ?_
  have f3 := a_set e2 hm
  have l4 := l_set e2 rfl
  refine J_iload_n (i := 1) (j := 1) dX11_again_5 rfl rfl ?_
  refine J_iconst (v := 0) dX11_again_6 (by decide) ?_
  refine J_iconst (v := 2) dX11_again_7 (by decide) ?_
  refine J_callS (As := [.int a0, .int 0, .int 2]) (rest := []) dX11_again_8 (c_X11_in (d := 0) (h := h1) (v := a0) (lo := 0) (hi := 2) (by decide)) hq.n k1406 k1407 k97 k1408 np_X11_in (Nat.le_trans (by decide) hd) (by decide) (Nat.le_refl _) (Nat.le_refl _) (hkz l4) rfl (Nat.le_of_ble_eq_true rfl) (fun r5 h6 p7 => ?_)
  obtain ⟨rfl, w8⟩ := p7
  refine J_w w8 ?_
  refine J_ifB_eq (tgt := 23) dX11_again_11 (by decide) (fun c9 => ?_) (fun c9 => ?_)
  · refine J_iconst (v := 0) dX11_again_23 (by decide) ?_
    exact J_zret hq dX11_again_24 rfl rfl (hkz l4) (Nat.le_refl _) (Nat.le_refl _) (by simp [c9])
  · refine J_aload_n (i := 0) (j := 0) dX11_again_14 rfl rfl ?_
    refine J_get (C := RX11) (T := TX11) (Z := 43) (ci := 11) (f := 42) dX11_again_15 inG11 rfl (by decide) k1306 f3 rfl ?_
    refine J_iload_n (i := 1) (j := 1) dX11_again_18 rfl rfl ?_
    have f10 : h1[181]? = some (.inl (3, 3, .inl (fun _ => 0))) := (s_ne e2 (by decide)).trans h181
    refine J_zald dX11_again_19 f10 (pi4 c9) ?_
    refine J_ci (v := 0) rfl ?_
    refine J_if_ne (tgt := 25) dX11_again_20 (by decide) (fun q => absurd (by decide) q) (fun _ => ?_)
    refine J_iconst (v := 0) dX11_again_23 (by decide) ?_
    exact J_zret hq dX11_again_24 rfl rfl (hkz l4) (Nat.le_refl _) (Nat.le_refl _) (by simp [c9])
end
section
theorem k458 : Cond.methodLink RX10 75 yX7_append ∈ gt := gt_in 458 (by decide +kernel) (by decide +kernel)
theorem k459 : Cond.instanceMethod yX7_append ∈ gt := gt_in 459 (by decide +kernel) (by decide +kernel)
theorem k460 : Cond.selects RX7 yX7_append yX7_append ∈ gt := gt_in 460 (by decide +kernel) (by decide +kernel)
theorem k461 : Cond.code yX7_append cX7_append 3 none ∈ gt := gt_in 461 (by decide +kernel) (by decide +kernel)
theorem np_X7_append : yX7_append.cls ≠ "java/lang/invoke/MethodHandle" ∧ yX7_append.cls ≠ "java/lang/invoke/VarHandle" ∧ (parseMethodDescriptor yX7_append.desc).map (fun d => d.parameters.length) = some 1 := by decide +kernel
theorem k1398 : Cond.methodLink RX11 82 yX11_four ∈ gt := gt_in 1398 (by decide +kernel) (by decide +kernel)
theorem k1400 : Cond.instanceMethod yX11_four ∈ gt := gt_in 1400 (by decide +kernel) (by decide +kernel)
theorem k36 : Cond.selects RX11 yX11_four yX11_four ∈ gt := gt_in 36 (by decide +kernel) (by decide +kernel)
theorem k1401 : Cond.code yX11_four cX11_four 3 none ∈ gt := gt_in 1401 (by decide +kernel) (by decide +kernel)
theorem np_X11_four : yX11_four.cls ≠ "java/lang/invoke/MethodHandle" ∧ yX11_four.cls ≠ "java/lang/invoke/VarHandle" ∧ (parseMethodDescriptor yX11_four.desc).map (fun d => d.parameters.length) = some 1 := by decide +kernel
theorem dX10_feed_0 : decode cX10_feed 0 = .ok (.aload_n 0, 1) := by decide +kernel
theorem dX10_feed_1 : decode cX10_feed 1 = .ok (.getfield 10, 3) := by decide +kernel
theorem dX10_feed_4 : decode cX10_feed 4 = .ok (.getfield 71, 3) := by decide +kernel
theorem dX10_feed_7 : decode cX10_feed 7 = .ok (.sipush 580, 3) := by decide +kernel
theorem dX10_feed_10 : decode cX10_feed 10 = .ok (.if_icmp .le 5, 3) := by decide +kernel
theorem dX10_feed_15 : decode cX10_feed 15 = .ok (.aload_n 0, 1) := by decide +kernel
theorem dX10_feed_16 : decode cX10_feed 16 = .ok (.getfield 10, 3) := by decide +kernel
theorem dX10_feed_19 : decode cX10_feed 19 = .ok (.iload_n 1, 1) := by decide +kernel
theorem dX10_feed_20 : decode cX10_feed 20 = .ok (.invokevirtual 75, 3) := by decide +kernel
theorem dX10_feed_23 : decode cX10_feed 23 = .ok (.aload_n 0, 1) := by decide +kernel
theorem dX10_feed_24 : decode cX10_feed 24 = .ok (.getfield 10, 3) := by decide +kernel
theorem dX10_feed_27 : decode cX10_feed 27 = .ok (.iload_n 2, 1) := by decide +kernel
theorem dX10_feed_28 : decode cX10_feed 28 = .ok (.invokevirtual 75, 3) := by decide +kernel
theorem dX10_feed_31 : decode cX10_feed 31 = .ok (.aload_n 0, 1) := by decide +kernel
theorem dX10_feed_32 : decode cX10_feed 32 = .ok (.getfield 10, 3) := by decide +kernel
theorem dX10_feed_35 : decode cX10_feed 35 = .ok (.iload_n 3, 1) := by decide +kernel
theorem dX10_feed_36 : decode cX10_feed 36 = .ok (.invokevirtual 75, 3) := by decide +kernel
theorem dX10_feed_39 : decode cX10_feed 39 = .ok (.aload_n 0, 1) := by decide +kernel
theorem dX10_feed_40 : decode cX10_feed 40 = .ok (.getfield 10, 3) := by decide +kernel
theorem dX10_feed_43 : decode cX10_feed 43 = .ok (.iload 4, 2) := by decide +kernel
theorem dX10_feed_45 : decode cX10_feed 45 = .ok (.invokevirtual 75, 3) := by decide +kernel
theorem dX10_feed_48 : decode cX10_feed 48 = .ok (.aload_n 0, 1) := by decide +kernel
theorem dX10_feed_49 : decode cX10_feed 49 = .ok (.getfield 10, 3) := by decide +kernel
theorem dX10_feed_52 : decode cX10_feed 52 = .ok (.iload 5, 2) := by decide +kernel
theorem dX10_feed_54 : decode cX10_feed 54 = .ok (.invokevirtual 75, 3) := by decide +kernel
theorem dX10_feed_57 : decode cX10_feed 57 = .ok (.aload_n 0, 1) := by decide +kernel
theorem dX10_feed_58 : decode cX10_feed 58 = .ok (.getfield 10, 3) := by decide +kernel
theorem dX10_feed_61 : decode cX10_feed 61 = .ok (.getfield 71, 3) := by decide +kernel
theorem dX10_feed_64 : decode cX10_feed 64 = .ok (.ireturn, 1) := by decide +kernel
theorem dX11_feed_0 : decode cX11_feed 0 = .ok (.aload_n 0, 1) := by decide +kernel
theorem dX11_feed_1 : decode cX11_feed 1 = .ok (.iconst 0, 1) := by decide +kernel
theorem dX11_feed_2 : decode cX11_feed 2 = .ok (.putfield 70, 3) := by decide +kernel
theorem dX11_feed_5 : decode cX11_feed 5 = .ok (.aload_n 0, 1) := by decide +kernel
theorem dX11_feed_6 : decode cX11_feed 6 = .ok (.getfield 13, 3) := by decide +kernel
theorem dX11_feed_9 : decode cX11_feed 9 = .ok (.iconst 0, 1) := by decide +kernel
theorem dX11_feed_10 : decode cX11_feed 10 = .ok (.iaload, 1) := by decide +kernel
theorem dX11_feed_11 : decode cX11_feed 11 = .ok (.bipush 20, 2) := by decide +kernel
theorem dX11_feed_13 : decode cX11_feed 13 = .ok (.iadd, 1) := by decide +kernel
theorem dX11_feed_14 : decode cX11_feed 14 = .ok (.sipush 600, 3) := by decide +kernel
theorem dX11_feed_17 : decode cX11_feed 17 = .ok (.if_icmp .le 5, 3) := by decide +kernel
theorem dX11_feed_22 : decode cX11_feed 22 = .ok (.aload_n 0, 1) := by decide +kernel
theorem dX11_feed_23 : decode cX11_feed 23 = .ok (.iload_n 1, 1) := by decide +kernel
theorem dX11_feed_24 : decode cX11_feed 24 = .ok (.invokevirtual 82, 3) := by decide +kernel
theorem dX11_feed_27 : decode cX11_feed 27 = .ok (.aload_n 0, 1) := by decide +kernel
theorem dX11_feed_28 : decode cX11_feed 28 = .ok (.iload_n 2, 1) := by decide +kernel
theorem dX11_feed_29 : decode cX11_feed 29 = .ok (.invokevirtual 82, 3) := by decide +kernel
theorem dX11_feed_32 : decode cX11_feed 32 = .ok (.aload_n 0, 1) := by decide +kernel
theorem dX11_feed_33 : decode cX11_feed 33 = .ok (.iload_n 3, 1) := by decide +kernel
theorem dX11_feed_34 : decode cX11_feed 34 = .ok (.invokevirtual 82, 3) := by decide +kernel
theorem dX11_feed_37 : decode cX11_feed 37 = .ok (.aload_n 0, 1) := by decide +kernel
theorem dX11_feed_38 : decode cX11_feed 38 = .ok (.iload 4, 2) := by decide +kernel
theorem dX11_feed_40 : decode cX11_feed 40 = .ok (.invokevirtual 82, 3) := by decide +kernel
theorem dX11_feed_43 : decode cX11_feed 43 = .ok (.aload_n 0, 1) := by decide +kernel
theorem dX11_feed_44 : decode cX11_feed 44 = .ok (.iload 5, 2) := by decide +kernel
theorem dX11_feed_46 : decode cX11_feed 46 = .ok (.invokevirtual 82, 3) := by decide +kernel
theorem dX11_feed_49 : decode cX11_feed 49 = .ok (.aload_n 0, 1) := by decide +kernel
theorem dX11_feed_50 : decode cX11_feed 50 = .ok (.getfield 13, 3) := by decide +kernel
theorem dX11_feed_53 : decode cX11_feed 53 = .ok (.iconst 0, 1) := by decide +kernel
theorem dX11_feed_54 : decode cX11_feed 54 = .ok (.iaload, 1) := by decide +kernel
theorem dX11_feed_55 : decode cX11_feed 55 = .ok (.ireturn, 1) := by decide +kernel
theorem dX11_four_0 : decode cX11_four 0 = .ok (.bipush 24, 2) := by decide +kernel
theorem dX11_four_2 : decode cX11_four 2 = .ok (.istore_n 2, 1) := by decide +kernel
theorem dX11_four_3 : decode cX11_four 3 = .ok (.iload_n 2, 1) := by decide +kernel
theorem dX11_four_4 : decode cX11_four 4 = .ok (.ifCond .lt 34, 3) := by decide +kernel
theorem dX11_four_7 : decode cX11_four 7 = .ok (.aload_n 0, 1) := by decide +kernel
theorem dX11_four_8 : decode cX11_four 8 = .ok (.getfield 7, 3) := by decide +kernel
theorem dX11_four_11 : decode cX11_four 11 = .ok (.aload_n 0, 1) := by decide +kernel
theorem dX11_four_12 : decode cX11_four 12 = .ok (.getfield 13, 3) := by decide +kernel
theorem dX11_four_15 : decode cX11_four 15 = .ok (.iconst 0, 1) := by decide +kernel
theorem dX11_four_16 : decode cX11_four 16 = .ok (.iaload, 1) := by decide +kernel
theorem dX11_four_17 : decode cX11_four 17 = .ok (.iload_n 1, 1) := by decide +kernel
theorem dX11_four_18 : decode cX11_four 18 = .ok (.iload_n 2, 1) := by decide +kernel
theorem dX11_four_19 : decode cX11_four 19 = .ok (.ishr, 1) := by decide +kernel
theorem dX11_four_20 : decode cX11_four 20 = .ok (.i2b, 1) := by decide +kernel
theorem dX11_four_21 : decode cX11_four 21 = .ok (.bastore, 1) := by decide +kernel
theorem dX11_four_22 : decode cX11_four 22 = .ok (.aload_n 0, 1) := by decide +kernel
theorem dX11_four_23 : decode cX11_four 23 = .ok (.getfield 13, 3) := by decide +kernel
theorem dX11_four_26 : decode cX11_four 26 = .ok (.iconst 0, 1) := by decide +kernel
theorem dX11_four_27 : decode cX11_four 27 = .ok (.dup2, 1) := by decide +kernel
theorem dX11_four_28 : decode cX11_four 28 = .ok (.iaload, 1) := by decide +kernel
theorem dX11_four_29 : decode cX11_four 29 = .ok (.iconst 1, 1) := by decide +kernel
theorem dX11_four_30 : decode cX11_four 30 = .ok (.iadd, 1) := by decide +kernel
theorem dX11_four_31 : decode cX11_four 31 = .ok (.iastore, 1) := by decide +kernel
theorem dX11_four_32 : decode cX11_four 32 = .ok (.iinc 2 (-8), 3) := by decide +kernel
theorem dX11_four_35 : decode cX11_four 35 = .ok (.goto (-32), 3) := by decide +kernel
theorem dX11_four_38 : decode cX11_four 38 = .ok (.return_, 1) := by decide +kernel
theorem dX7_append_0 : decode cX7_append 0 = .ok (.bipush 24, 2) := by decide +kernel
theorem dX7_append_2 : decode cX7_append 2 = .ok (.istore_n 2, 1) := by decide +kernel
theorem dX7_append_3 : decode cX7_append 3 = .ok (.iload_n 2, 1) := by decide +kernel
theorem dX7_append_4 : decode cX7_append 4 = .ok (.ifCond .lt 42, 3) := by decide +kernel
theorem dX7_append_7 : decode cX7_append 7 = .ok (.aload_n 0, 1) := by decide +kernel
theorem dX7_append_8 : decode cX7_append 8 = .ok (.getfield 15, 3) := by decide +kernel
theorem dX7_append_11 : decode cX7_append 11 = .ok (.sipush 600, 3) := by decide +kernel
theorem dX7_append_14 : decode cX7_append 14 = .ok (.if_icmp .ge 32, 3) := by decide +kernel
theorem dX7_append_17 : decode cX7_append 17 = .ok (.aload_n 0, 1) := by decide +kernel
theorem dX7_append_18 : decode cX7_append 18 = .ok (.getfield 9, 3) := by decide +kernel
theorem dX7_append_21 : decode cX7_append 21 = .ok (.aload_n 0, 1) := by decide +kernel
theorem dX7_append_22 : decode cX7_append 22 = .ok (.getfield 15, 3) := by decide +kernel
theorem dX7_append_25 : decode cX7_append 25 = .ok (.iload_n 1, 1) := by decide +kernel
theorem dX7_append_26 : decode cX7_append 26 = .ok (.iload_n 2, 1) := by decide +kernel
theorem dX7_append_27 : decode cX7_append 27 = .ok (.ishr, 1) := by decide +kernel
theorem dX7_append_28 : decode cX7_append 28 = .ok (.i2b, 1) := by decide +kernel
theorem dX7_append_29 : decode cX7_append 29 = .ok (.bastore, 1) := by decide +kernel
theorem dX7_append_30 : decode cX7_append 30 = .ok (.aload_n 0, 1) := by decide +kernel
theorem dX7_append_31 : decode cX7_append 31 = .ok (.dup, 1) := by decide +kernel
theorem dX7_append_32 : decode cX7_append 32 = .ok (.getfield 15, 3) := by decide +kernel
theorem dX7_append_35 : decode cX7_append 35 = .ok (.iconst 1, 1) := by decide +kernel
theorem dX7_append_36 : decode cX7_append 36 = .ok (.iadd, 1) := by decide +kernel
theorem dX7_append_37 : decode cX7_append 37 = .ok (.putfield 15, 3) := by decide +kernel
theorem dX7_append_40 : decode cX7_append 40 = .ok (.iinc 2 (-8), 3) := by decide +kernel
theorem dX7_append_43 : decode cX7_append 43 = .ok (.goto (-40), 3) := by decide +kernel
theorem dX7_append_46 : decode cX7_append 46 = .ok (.return_, 1) := by decide +kernel
set_option maxHeartbeats 4000000 in
set_option maxRecDepth 100000 in
theorem c_X7_append {d : Nat} {h : List MC} {n : Nat} {fl pl hc pc v : Int32} {f : Nat → Int32} (hd : 0 ≤ d) (h1 : h[1]? = some (.inr (7, [.ref 2, .int (nI (n)), .int fl, .int pl, .ref 3, .int hc, .ref 4, .int pc]))) (h2 : h[2]? = some (.inl (0, 600, .inl f))) (hn : n ≤ 596) : CT con0 d 0 0 yX7_append cX7_append 3 none [.ref 1, .int v] h (fun r h2 => r = none ∧ h2.length = h.length ∧ h2[1]? = some (.inr (7, [.ref 2, .int (nI (n + 4)), .int fl, .int pl, .ref 3, .int hc, .ref 4, .int pc])) ∧ (∃ g, h2[2]? = some (.inl (0, 600, .inl g))) ∧ ∀ j, j ≠ 1 → j ≠ 2 → h2[j]? = h[j]?) := by
  refine CT_of (by decide) (Nat.le_of_ble_eq_true rfl) (fun x hq => ?_)
  show J x yX7_append cX7_append 3 none d 0 0 h.length 0 [(0, .ref 1), (1, .int v)] [] h 0 0
  refine J_bipush (v := 24) dX7_append_0 (by decide) ?_
  refine J_istore_n (i := 2) (lw := [(2, .int 24), (0, .ref 1), (1, .int v)]) dX7_append_2 rfl (by decide) rfl ?_
  refine J_iload_n (i := 2) (j := 0) dX7_append_3 rfl rfl ?_
  refine J_if_lt (tgt := 46) dX7_append_4 (by decide) (fun q => absurd q (by decide)) (fun _ => ?_)
  refine J_aload_n (i := 0) (j := 1) dX7_append_7 rfl rfl ?_
  refine J_get (C := RX7) (T := TX7) (Z := 8) (ci := 7) (f := 1) dX7_append_8 inG7 rfl (by decide) k188 h1 rfl ?_
  refine J_sipush (v := 600) dX7_append_11 (by decide) ?_
  refine J_icmp_ge (tgt := 46) dX7_append_14 (by decide) (fun c1 => ?_) (fun c1 => ?_)
  · exact absurd ((nI_leI (a := 600) (by omega) (by omega)).mp c1) (by omega)
  · refine J_aload_n (i := 0) (j := 1) dX7_append_17 rfl rfl ?_
    refine J_get (C := RX7) (T := TX7) (Z := 8) (ci := 7) (f := 0) dX7_append_18 inG7 rfl (by decide) k186 h1 rfl ?_
    refine J_aload_n (i := 0) (j := 1) dX7_append_21 rfl rfl ?_
    refine J_get (C := RX7) (T := TX7) (Z := 8) (ci := 7) (f := 1) dX7_append_22 inG7 rfl (by decide) k188 h1 rfl ?_
    refine J_iload_n (i := 1) (j := 2) dX7_append_25 rfl rfl ?_
    refine J_iload_n (i := 2) (j := 0) dX7_append_26 rfl rfl ?_
    refine J_ishr dX7_append_27 ?_
    obtain ⟨v2, qv2⟩ : ∃ z : Int32, z = (v >>> (24 &&& 31)).toInt8.toInt32 := ⟨_, rfl⟩
    refine J_i2b dX7_append_28 qv2.symm ?_
    obtain ⟨h3, e4⟩ : ∃ z, z = h.set 2 (.inl (0, 600, .inl (upd f ((nI (n)).toNatClampNeg) (vp_nar .byte v2)))) := ⟨_, rfl⟩
    refine J_bast dX7_append_29 h2 (vp_in_nI (n := n) (by omega) (by omega)) e4.symm ?_
    have f5 := a_set e4 h2
    have l6 := l_set e4 rfl
    refine J_aload_n (i := 0) (j := 1) dX7_append_30 rfl rfl ?_
    refine J_dup dX7_append_31 rfl ?_
    have f7 : h3[1]? = some (.inr (7, [.ref 2, .int (nI (n)), .int fl, .int pl, .ref 3, .int hc, .ref 4, .int pc])) := (s_ne e4 (by decide)).trans h1
    refine J_get (C := RX7) (T := TX7) (Z := 8) (ci := 7) (f := 1) dX7_append_32 inG7 rfl (by decide) k188 f7 rfl ?_
    refine J_iconst (v := 1) dX7_append_35 (by decide) ?_
    refine J_iadd dX7_append_36 ?_
    refine J_ci (v := nI (n + 1)) (nI_add _ _) ?_
    obtain ⟨h8, e9⟩ : ∃ z, z = h3.set 1 (.inr (7, [.ref 2, .int (nI (n + 1)), .int fl, .int pl, .ref 3, .int hc, .ref 4, .int pc])) := ⟨_, rfl⟩
    refine J_put (C := RX7) (T := TX7) (Z := 8) (ci := 7) (f := 1) (ty0 := tyX7) dX7_append_37 inG7 rfl tyX7_ok nmX7 (by decide) k188 rfl rfl f7 (Nat.le_of_ble_eq_true rfl) (fun _ _ => ⟨rfl, rfl⟩) e9.symm ?_
    have f10 := a_set e9 f7
    have l11 := l_set e9 l6
    refine J_iinc (i := 2) (j := 0) (v := 16) (lw := [(2, .int 16), (0, .ref 1), (1, .int v)]) dX7_append_40 rfl (by decide) (by decide) rfl ?_
    refine J_goto (tgt := 3) dX7_append_43 (by decide) ?_
    refine J_iload_n (i := 2) (j := 0) dX7_append_3 rfl rfl ?_
    refine J_if_lt (tgt := 46) dX7_append_4 (by decide) (fun q => absurd q (by decide)) (fun _ => ?_)
    refine J_aload_n (i := 0) (j := 1) dX7_append_7 rfl rfl ?_
    refine J_get (C := RX7) (T := TX7) (Z := 8) (ci := 7) (f := 1) dX7_append_8 inG7 rfl (by decide) k188 f10 rfl ?_
    refine J_sipush (v := 600) dX7_append_11 (by decide) ?_
    refine J_icmp_ge (tgt := 46) dX7_append_14 (by decide) (fun c12 => ?_) (fun c12 => ?_)
    · exact absurd ((nI_leI (a := 600) (by omega) (by omega)).mp c12) (by omega)
    · refine J_aload_n (i := 0) (j := 1) dX7_append_17 rfl rfl ?_
      refine J_get (C := RX7) (T := TX7) (Z := 8) (ci := 7) (f := 0) dX7_append_18 inG7 rfl (by decide) k186 f10 rfl ?_
      refine J_aload_n (i := 0) (j := 1) dX7_append_21 rfl rfl ?_
      refine J_get (C := RX7) (T := TX7) (Z := 8) (ci := 7) (f := 1) dX7_append_22 inG7 rfl (by decide) k188 f10 rfl ?_
      refine J_iload_n (i := 1) (j := 2) dX7_append_25 rfl rfl ?_
      refine J_iload_n (i := 2) (j := 0) dX7_append_26 rfl rfl ?_
      refine J_ishr dX7_append_27 ?_
      obtain ⟨v13, qv13⟩ : ∃ z : Int32, z = (v >>> (16 &&& 31)).toInt8.toInt32 := ⟨_, rfl⟩
      refine J_i2b dX7_append_28 qv13.symm ?_
      have f14 : h8[2]? = some (.inl (0, 600, .inl (upd f ((nI (n)).toNatClampNeg) (vp_nar .byte v2)))) := (s_ne e9 (by decide)).trans f5
      obtain ⟨h15, e16⟩ : ∃ z, z = h8.set 2 (.inl (0, 600, .inl (upd (upd f ((nI (n)).toNatClampNeg) (vp_nar .byte v2)) ((nI (n + 1)).toNatClampNeg) (vp_nar .byte v13)))) := ⟨_, rfl⟩
      refine J_bast dX7_append_29 f14 (vp_in_nI (n := n + 1) (by omega) (by omega)) e16.symm ?_
      have f17 := a_set e16 f14
      have l18 := l_set e16 l11
      refine J_aload_n (i := 0) (j := 1) dX7_append_30 rfl rfl ?_
      refine J_dup dX7_append_31 rfl ?_
      have f19 : h15[1]? = some (.inr (7, [.ref 2, .int (nI (n + 1)), .int fl, .int pl, .ref 3, .int hc, .ref 4, .int pc])) := (s_ne e16 (by decide)).trans f10
      refine J_get (C := RX7) (T := TX7) (Z := 8) (ci := 7) (f := 1) dX7_append_32 inG7 rfl (by decide) k188 f19 rfl ?_
      refine J_iconst (v := 1) dX7_append_35 (by decide) ?_
      refine J_iadd dX7_append_36 ?_
      refine J_ci (v := nI (n + 1 + 1)) (nI_add _ _) ?_
      obtain ⟨h20, e21⟩ : ∃ z, z = h15.set 1 (.inr (7, [.ref 2, .int (nI (n + 1 + 1)), .int fl, .int pl, .ref 3, .int hc, .ref 4, .int pc])) := ⟨_, rfl⟩
      refine J_put (C := RX7) (T := TX7) (Z := 8) (ci := 7) (f := 1) (ty0 := tyX7) dX7_append_37 inG7 rfl tyX7_ok nmX7 (by decide) k188 rfl rfl f19 (Nat.le_of_ble_eq_true rfl) (fun _ _ => ⟨rfl, rfl⟩) e21.symm ?_
      have f22 := a_set e21 f19
      have l23 := l_set e21 l18
      refine J_iinc (i := 2) (j := 0) (v := 8) (lw := [(2, .int 8), (0, .ref 1), (1, .int v)]) dX7_append_40 rfl (by decide) (by decide) rfl ?_
      refine J_goto (tgt := 3) dX7_append_43 (by decide) ?_
      refine J_iload_n (i := 2) (j := 0) dX7_append_3 rfl rfl ?_
      refine J_if_lt (tgt := 46) dX7_append_4 (by decide) (fun q => absurd q (by decide)) (fun _ => ?_)
      refine J_aload_n (i := 0) (j := 1) dX7_append_7 rfl rfl ?_
      refine J_get (C := RX7) (T := TX7) (Z := 8) (ci := 7) (f := 1) dX7_append_8 inG7 rfl (by decide) k188 f22 rfl ?_
      refine J_sipush (v := 600) dX7_append_11 (by decide) ?_
      refine J_icmp_ge (tgt := 46) dX7_append_14 (by decide) (fun c24 => ?_) (fun c24 => ?_)
      · exact absurd ((nI_leI (a := 600) (by omega) (by omega)).mp c24) (by omega)
      · refine J_aload_n (i := 0) (j := 1) dX7_append_17 rfl rfl ?_
        refine J_get (C := RX7) (T := TX7) (Z := 8) (ci := 7) (f := 0) dX7_append_18 inG7 rfl (by decide) k186 f22 rfl ?_
        refine J_aload_n (i := 0) (j := 1) dX7_append_21 rfl rfl ?_
        refine J_get (C := RX7) (T := TX7) (Z := 8) (ci := 7) (f := 1) dX7_append_22 inG7 rfl (by decide) k188 f22 rfl ?_
        refine J_iload_n (i := 1) (j := 2) dX7_append_25 rfl rfl ?_
        refine J_iload_n (i := 2) (j := 0) dX7_append_26 rfl rfl ?_
        refine J_ishr dX7_append_27 ?_
        obtain ⟨v25, qv25⟩ : ∃ z : Int32, z = (v >>> (8 &&& 31)).toInt8.toInt32 := ⟨_, rfl⟩
        refine J_i2b dX7_append_28 qv25.symm ?_
        have f26 : h20[2]? = some (.inl (0, 600, .inl (upd (upd f ((nI (n)).toNatClampNeg) (vp_nar .byte v2)) ((nI (n + 1)).toNatClampNeg) (vp_nar .byte v13)))) := (s_ne e21 (by decide)).trans f17
        obtain ⟨h27, e28⟩ : ∃ z, z = h20.set 2 (.inl (0, 600, .inl (upd (upd (upd f ((nI (n)).toNatClampNeg) (vp_nar .byte v2)) ((nI (n + 1)).toNatClampNeg) (vp_nar .byte v13)) ((nI (n + 1 + 1)).toNatClampNeg) (vp_nar .byte v25)))) := ⟨_, rfl⟩
        refine J_bast dX7_append_29 f26 (vp_in_nI (n := n + 1 + 1) (by omega) (by omega)) e28.symm ?_
        have f29 := a_set e28 f26
        have l30 := l_set e28 l23
        refine J_aload_n (i := 0) (j := 1) dX7_append_30 rfl rfl ?_
        refine J_dup dX7_append_31 rfl ?_
        have f31 : h27[1]? = some (.inr (7, [.ref 2, .int (nI (n + 1 + 1)), .int fl, .int pl, .ref 3, .int hc, .ref 4, .int pc])) := (s_ne e28 (by decide)).trans f22
        refine J_get (C := RX7) (T := TX7) (Z := 8) (ci := 7) (f := 1) dX7_append_32 inG7 rfl (by decide) k188 f31 rfl ?_
        refine J_iconst (v := 1) dX7_append_35 (by decide) ?_
        refine J_iadd dX7_append_36 ?_
        refine J_ci (v := nI (n + 1 + 1 + 1)) (nI_add _ _) ?_
        obtain ⟨h32, e33⟩ : ∃ z, z = h27.set 1 (.inr (7, [.ref 2, .int (nI (n + 1 + 1 + 1)), .int fl, .int pl, .ref 3, .int hc, .ref 4, .int pc])) := ⟨_, rfl⟩
        refine J_put (C := RX7) (T := TX7) (Z := 8) (ci := 7) (f := 1) (ty0 := tyX7) dX7_append_37 inG7 rfl tyX7_ok nmX7 (by decide) k188 rfl rfl f31 (Nat.le_of_ble_eq_true rfl) (fun _ _ => ⟨rfl, rfl⟩) e33.symm ?_
        have f34 := a_set e33 f31
        have l35 := l_set e33 l30
        refine J_iinc (i := 2) (j := 0) (v := 0) (lw := [(2, .int 0), (0, .ref 1), (1, .int v)]) dX7_append_40 rfl (by decide) (by decide) rfl ?_
        refine J_goto (tgt := 3) dX7_append_43 (by decide) ?_
        refine J_iload_n (i := 2) (j := 0) dX7_append_3 rfl rfl ?_
        refine J_if_lt (tgt := 46) dX7_append_4 (by decide) (fun q => absurd q (by decide)) (fun _ => ?_)
        refine J_aload_n (i := 0) (j := 1) dX7_append_7 rfl rfl ?_
        refine J_get (C := RX7) (T := TX7) (Z := 8) (ci := 7) (f := 1) dX7_append_8 inG7 rfl (by decide) k188 f34 rfl ?_
        refine J_sipush (v := 600) dX7_append_11 (by decide) ?_
        refine J_icmp_ge (tgt := 46) dX7_append_14 (by decide) (fun c36 => ?_) (fun c36 => ?_)
        · exact absurd ((nI_leI (a := 600) (by omega) (by omega)).mp c36) (by omega)
        · refine J_aload_n (i := 0) (j := 1) dX7_append_17 rfl rfl ?_
          refine J_get (C := RX7) (T := TX7) (Z := 8) (ci := 7) (f := 0) dX7_append_18 inG7 rfl (by decide) k186 f34 rfl ?_
          refine J_aload_n (i := 0) (j := 1) dX7_append_21 rfl rfl ?_
          refine J_get (C := RX7) (T := TX7) (Z := 8) (ci := 7) (f := 1) dX7_append_22 inG7 rfl (by decide) k188 f34 rfl ?_
          refine J_iload_n (i := 1) (j := 2) dX7_append_25 rfl rfl ?_
          refine J_iload_n (i := 2) (j := 0) dX7_append_26 rfl rfl ?_
          refine J_ishr dX7_append_27 ?_
          obtain ⟨v37, qv37⟩ : ∃ z : Int32, z = (v >>> (0 &&& 31)).toInt8.toInt32 := ⟨_, rfl⟩
          refine J_i2b dX7_append_28 qv37.symm ?_
          have f38 : h32[2]? = some (.inl (0, 600, .inl (upd (upd (upd f ((nI (n)).toNatClampNeg) (vp_nar .byte v2)) ((nI (n + 1)).toNatClampNeg) (vp_nar .byte v13)) ((nI (n + 1 + 1)).toNatClampNeg) (vp_nar .byte v25)))) := (s_ne e33 (by decide)).trans f29
          obtain ⟨h39, e40⟩ : ∃ z, z = h32.set 2 (.inl (0, 600, .inl (upd (upd (upd (upd f ((nI (n)).toNatClampNeg) (vp_nar .byte v2)) ((nI (n + 1)).toNatClampNeg) (vp_nar .byte v13)) ((nI (n + 1 + 1)).toNatClampNeg) (vp_nar .byte v25)) ((nI (n + 1 + 1 + 1)).toNatClampNeg) (vp_nar .byte v37)))) := ⟨_, rfl⟩
          refine J_bast dX7_append_29 f38 (vp_in_nI (n := n + 1 + 1 + 1) (by omega) (by omega)) e40.symm ?_
          have f41 := a_set e40 f38
          have l42 := l_set e40 l35
          refine J_aload_n (i := 0) (j := 1) dX7_append_30 rfl rfl ?_
          refine J_dup dX7_append_31 rfl ?_
          have f43 : h39[1]? = some (.inr (7, [.ref 2, .int (nI (n + 1 + 1 + 1)), .int fl, .int pl, .ref 3, .int hc, .ref 4, .int pc])) := (s_ne e40 (by decide)).trans f34
          refine J_get (C := RX7) (T := TX7) (Z := 8) (ci := 7) (f := 1) dX7_append_32 inG7 rfl (by decide) k188 f43 rfl ?_
          refine J_iconst (v := 1) dX7_append_35 (by decide) ?_
          refine J_iadd dX7_append_36 ?_
          refine J_ci (v := nI (n + 1 + 1 + 1 + 1)) (nI_add _ _) ?_
          obtain ⟨h44, e45⟩ : ∃ z, z = h39.set 1 (.inr (7, [.ref 2, .int (nI (n + 1 + 1 + 1 + 1)), .int fl, .int pl, .ref 3, .int hc, .ref 4, .int pc])) := ⟨_, rfl⟩
          refine J_put (C := RX7) (T := TX7) (Z := 8) (ci := 7) (f := 1) (ty0 := tyX7) dX7_append_37 inG7 rfl tyX7_ok nmX7 (by decide) k188 rfl rfl f43 (Nat.le_of_ble_eq_true rfl) (fun _ _ => ⟨rfl, rfl⟩) e45.symm ?_
          have f46 := a_set e45 f43
          have l47 := l_set e45 l42
          refine J_iinc (i := 2) (j := 0) (v := (-8)) (lw := [(2, .int (-8)), (0, .ref 1), (1, .int v)]) dX7_append_40 rfl (by decide) (by decide) rfl ?_
          refine J_goto (tgt := 3) dX7_append_43 (by decide) ?_
          refine J_iload_n (i := 2) (j := 0) dX7_append_3 rfl rfl ?_
          refine J_if_lt (tgt := 46) dX7_append_4 (by decide) (fun _ => ?_) (fun q => absurd (by decide) q)
          have f48 : h44[2]? = some (.inl (0, 600, .inl (upd (upd (upd (upd f ((nI (n)).toNatClampNeg) (vp_nar .byte v2)) ((nI (n + 1)).toNatClampNeg) (vp_nar .byte v13)) ((nI (n + 1 + 1)).toNatClampNeg) (vp_nar .byte v25)) ((nI (n + 1 + 1 + 1)).toNatClampNeg) (vp_nar .byte v37)))) := (s_ne e45 (by decide)).trans f41
          exact J_vret hq dX7_append_46 rfl (hkz l47) (Nat.le_refl _) (Nat.le_refl _) ⟨rfl, l47, f46, ⟨_, f48⟩, fun j hj1 hj2 => ((((((((s_ne e45 hj1)).trans (s_ne e40 hj2)).trans (s_ne e33 hj1)).trans (s_ne e28 hj2)).trans (s_ne e21 hj1)).trans (s_ne e16 hj2)).trans (s_ne e9 hj1)).trans (s_ne e4 hj2)⟩
set_option maxHeartbeats 4000000 in
set_option maxRecDepth 100000 in
theorem c_X10_feed0 {d : Nat} {h : List MC} {a0 a1 a2 a3 a4 : Int32} (hd : 1 ≤ d) (h0 : h[0]? = some (.inr (10, [.ref 1, .ref 27, .ref 28, .ref 29, .ref 43, .ref 49, .ref 53, .ref 56, .ref 57, .ref 79]))) (h1 : h[1]? = some (.inr (7, [.ref 2, .int 0, .int 0, .int (-1), .ref 3, .int 0, .ref 4, .int 0]))) (h2 : h[2]? = some (.inl (0, 600, .inl (fun _ => 0))))  : CT con0 d 0 0 yX10_feed cX10_feed 6 (some .int) [.ref 0, .int a0, .int a1, .int a2, .int a3, .int a4] h (fun r h2 => r = some (.int 20) ∧ FX h h2) := by
  refine CT_of (by decide) (Nat.le_of_ble_eq_true rfl) (fun x hq => ?_)
  show J x yX10_feed cX10_feed 6 (some .int) d 0 0 h.length 0 [(0, .ref 0), (1, .int a0), (2, .int a1), (3, .int a2), (4, .int a3), (5, .int a4)] [] h 0 0
  refine J_aload_n (i := 0) (j := 0) dX10_feed_0 rfl rfl ?_
  refine J_get (C := RX10) (T := TX10) (Z := 10) (ci := 10) (f := 0) dX10_feed_1 inG10 rfl (by decide) k423 h0 rfl ?_
  refine J_getN (C := RX7) (T := TX7) (Z := 8) (ci := 7) (f := 1) dX10_feed_4 inG7 rfl (by decide) k189 h1 rfl ?_
  refine J_sipush (v := 580) dX10_feed_7 (by decide) ?_
  refine J_icmp_le (tgt := 15) dX10_feed_10 (by decide) (fun _ => ?_) (fun q => absurd (by decide) q)
  refine J_aload_n (i := 0) (j := 0) dX10_feed_15 rfl rfl ?_
  refine J_get (C := RX10) (T := TX10) (Z := 10) (ci := 10) (f := 0) dX10_feed_16 inG10 rfl (by decide) k423 h0 rfl ?_
  refine J_iload_n (i := 1) (j := 1) dX10_feed_19 rfl rfl ?_
  refine J_callV (As := [.int a0]) (rest := []) dX10_feed_20 (c_X7_append (d := 0) (h := h) (n := 0) (by decide) h1 h2 (by omega)) hq.n k458 k459 k460 h1 rfl rfl k88 k461 np_X7_append (Nat.le_trans (by decide) hd) (by decide) (Nat.le_refl _) (Nat.le_refl _) (hkz rfl) rfl (Nat.le_of_ble_eq_true rfl) (fun r1 h2 p3 => ?_)
  obtain ⟨rfl, l4, f5, ⟨g6, f7⟩, r8⟩ := p3
  have l9 := l4.trans rfl
  refine J_aload_n (i := 0) (j := 0) dX10_feed_23 rfl rfl ?_
  have f10 : h2[0]? = some (.inr (10, [.ref 1, .ref 27, .ref 28, .ref 29, .ref 43, .ref 49, .ref 53, .ref 56, .ref 57, .ref 79])) := (r8 0 (by decide) (by decide)).trans h0
  refine J_get (C := RX10) (T := TX10) (Z := 10) (ci := 10) (f := 0) dX10_feed_24 inG10 rfl (by decide) k423 f10 rfl ?_
  refine J_iload_n (i := 2) (j := 2) dX10_feed_27 rfl rfl ?_
  refine J_callV (As := [.int a1]) (rest := []) dX10_feed_28 (c_X7_append (d := 0) (h := h2) (n := 0 + 4) (by decide) f5 f7 (by omega)) hq.n k458 k459 k460 f5 rfl rfl k88 k461 np_X7_append (Nat.le_trans (by decide) hd) (by decide) (Nat.le_refl _) (Nat.le_refl _) (hkz l9) rfl (Nat.le_of_ble_eq_true rfl) (fun r11 h12 p13 => ?_)
  obtain ⟨rfl, l14, f15, ⟨g16, f17⟩, r18⟩ := p13
  have l19 := l14.trans l9
  refine J_aload_n (i := 0) (j := 0) dX10_feed_31 rfl rfl ?_
  have f20 : h12[0]? = some (.inr (10, [.ref 1, .ref 27, .ref 28, .ref 29, .ref 43, .ref 49, .ref 53, .ref 56, .ref 57, .ref 79])) := (r18 0 (by decide) (by decide)).trans f10
  refine J_get (C := RX10) (T := TX10) (Z := 10) (ci := 10) (f := 0) dX10_feed_32 inG10 rfl (by decide) k423 f20 rfl ?_
  refine J_iload_n (i := 3) (j := 3) dX10_feed_35 rfl rfl ?_
  refine J_callV (As := [.int a2]) (rest := []) dX10_feed_36 (c_X7_append (d := 0) (h := h12) (n := 0 + 4 + 4) (by decide) f15 f17 (by omega)) hq.n k458 k459 k460 f15 rfl rfl k88 k461 np_X7_append (Nat.le_trans (by decide) hd) (by decide) (Nat.le_refl _) (Nat.le_refl _) (hkz l19) rfl (Nat.le_of_ble_eq_true rfl) (fun r21 h22 p23 => ?_)
  obtain ⟨rfl, l24, f25, ⟨g26, f27⟩, r28⟩ := p23
  have l29 := l24.trans l19
  refine J_aload_n (i := 0) (j := 0) dX10_feed_39 rfl rfl ?_
  have f30 : h22[0]? = some (.inr (10, [.ref 1, .ref 27, .ref 28, .ref 29, .ref 43, .ref 49, .ref 53, .ref 56, .ref 57, .ref 79])) := (r28 0 (by decide) (by decide)).trans f20
  refine J_get (C := RX10) (T := TX10) (Z := 10) (ci := 10) (f := 0) dX10_feed_40 inG10 rfl (by decide) k423 f30 rfl ?_
  refine J_iload (i := 4) (j := 4) dX10_feed_43 rfl ?_
  refine J_callV (As := [.int a3]) (rest := []) dX10_feed_45 (c_X7_append (d := 0) (h := h22) (n := 0 + 4 + 4 + 4) (by decide) f25 f27 (by omega)) hq.n k458 k459 k460 f25 rfl rfl k88 k461 np_X7_append (Nat.le_trans (by decide) hd) (by decide) (Nat.le_refl _) (Nat.le_refl _) (hkz l29) rfl (Nat.le_of_ble_eq_true rfl) (fun r31 h32 p33 => ?_)
  obtain ⟨rfl, l34, f35, ⟨g36, f37⟩, r38⟩ := p33
  have l39 := l34.trans l29
  refine J_aload_n (i := 0) (j := 0) dX10_feed_48 rfl rfl ?_
  have f40 : h32[0]? = some (.inr (10, [.ref 1, .ref 27, .ref 28, .ref 29, .ref 43, .ref 49, .ref 53, .ref 56, .ref 57, .ref 79])) := (r38 0 (by decide) (by decide)).trans f30
  refine J_get (C := RX10) (T := TX10) (Z := 10) (ci := 10) (f := 0) dX10_feed_49 inG10 rfl (by decide) k423 f40 rfl ?_
  refine J_iload (i := 5) (j := 5) dX10_feed_52 rfl ?_
  refine J_callV (As := [.int a4]) (rest := []) dX10_feed_54 (c_X7_append (d := 0) (h := h32) (n := 0 + 4 + 4 + 4 + 4) (by decide) f35 f37 (by omega)) hq.n k458 k459 k460 f35 rfl rfl k88 k461 np_X7_append (Nat.le_trans (by decide) hd) (by decide) (Nat.le_refl _) (Nat.le_refl _) (hkz l39) rfl (Nat.le_of_ble_eq_true rfl) (fun r41 h42 p43 => ?_)
  obtain ⟨rfl, l44, f45, ⟨g46, f47⟩, r48⟩ := p43
  have l49 := l44.trans l39
  refine J_aload_n (i := 0) (j := 0) dX10_feed_57 rfl rfl ?_
  have f50 : h42[0]? = some (.inr (10, [.ref 1, .ref 27, .ref 28, .ref 29, .ref 43, .ref 49, .ref 53, .ref 56, .ref 57, .ref 79])) := (r48 0 (by decide) (by decide)).trans f40
  refine J_get (C := RX10) (T := TX10) (Z := 10) (ci := 10) (f := 0) dX10_feed_58 inG10 rfl (by decide) k423 f50 rfl ?_
  refine J_getN (C := RX7) (T := TX7) (Z := 8) (ci := 7) (f := 1) dX10_feed_61 inG7 rfl (by decide) k189 f45 rfl ?_
  refine J_ci (v := 20) (by decide) ?_
  exact J_iret hq dX10_feed_64 rfl (hkz l49) (Nat.le_refl _) (Nat.le_refl _) ⟨rfl, ⟨l49, fun j hj => (((((r48 j (by omega) (by omega))).trans (r38 j (by omega) (by omega))).trans (r28 j (by omega) (by omega))).trans (r18 j (by omega) (by omega))).trans (r8 j (by omega) (by omega))⟩⟩
set_option maxHeartbeats 4000000 in
set_option maxRecDepth 100000 in
theorem c_X11_four {d : Nat} {h : List MC} {n : Nat} {v : Int32} {f g : Nat → Int32} (hd : 0 ≤ d) (hm : h[162]? = some (.inr (11, [.int 0, .ref 163, .ref 164, .ref 165, .ref 166, .ref 167, .ref 168, .ref 169, .int 0, .int 0, .int 0, .int 0, .int 0, .long 0, .int 0, .int 0, .int 0, .int 0, .int 0, .ref 170, .ref 171, .ref 172, .int 0, .int 0, .int 0, .int 0, .int 0, .int 0, .ref 173, .ref 174, .ref 175, .int 0, .int 0, .int 0, .ref 176, .ref 177, .ref 178, .ref 179, .ref 180, .int 0, .long 0, .int 0, .ref 181]))) (h3 : h[163]? = some (.inl (0, 2400, .inl f))) (h4 : h[164]? = some (.inl (1, 4, .inl g))) (hg : g 0 = nI n) (hn : n ≤ 596) : CT con0 d 0 0 yX11_four cX11_four 3 none [.ref 162, .int v] h (fun r h2 => r = none ∧ h2.length = h.length ∧ (∃ f2, h2[163]? = some (.inl (0, 2400, .inl f2))) ∧ (∃ g2, h2[164]? = some (.inl (1, 4, .inl g2)) ∧ g2 0 = nI (n + 4)) ∧ ∀ j, j ≠ 163 → j ≠ 164 → h2[j]? = h[j]?) := by
  refine CT_of (by decide) (Nat.le_of_ble_eq_true rfl) (fun x hq => ?_)
  show J x yX11_four cX11_four 3 none d 0 0 h.length 0 [(0, .ref 162), (1, .int v)] [] h 0 0
  refine J_bipush (v := 24) dX11_four_0 (by decide) ?_
  refine J_istore_n (i := 2) (lw := [(2, .int 24), (0, .ref 162), (1, .int v)]) dX11_four_2 rfl (by decide) rfl ?_
  refine J_iload_n (i := 2) (j := 0) dX11_four_3 rfl rfl ?_
  refine J_if_lt (tgt := 38) dX11_four_4 (by decide) (fun q => absurd q (by decide)) (fun _ => ?_)
  refine J_aload_n (i := 0) (j := 1) dX11_four_7 rfl rfl ?_
  refine J_get (C := RX11) (T := TX11) (Z := 43) (ci := 11) (f := 1) dX11_four_8 inG11 rfl (by decide) k1265 hm rfl ?_
  refine J_aload_n (i := 0) (j := 1) dX11_four_11 rfl rfl ?_
  refine J_get (C := RX11) (T := TX11) (Z := 43) (ci := 11) (f := 2) dX11_four_12 inG11 rfl (by decide) k1266 hm rfl ?_
  refine J_iconst (v := 0) dX11_four_15 (by decide) ?_
  refine J_iald dX11_four_16 h4 (vp_c (by decide)) ?_
  refine J_ci (v := nI (n)) hg ?_
  refine J_iload_n (i := 1) (j := 2) dX11_four_17 rfl rfl ?_
  refine J_iload_n (i := 2) (j := 0) dX11_four_18 rfl rfl ?_
  refine J_ishr dX11_four_19 ?_
  obtain ⟨v1, qv1⟩ : ∃ z : Int32, z = (v >>> (24 &&& 31)).toInt8.toInt32 := ⟨_, rfl⟩
  refine J_i2b dX11_four_20 qv1.symm ?_
  obtain ⟨h2, e3⟩ : ∃ z, z = h.set 163 (.inl (0, 2400, .inl (upd f ((nI (n)).toNatClampNeg) (vp_nar .byte v1)))) := ⟨_, rfl⟩
  refine J_bast dX11_four_21 h3 (vp_in_nI (n := n) (by omega) (by omega)) e3.symm ?_
  have f4 := a_set e3 h3
  have l5 := l_set e3 rfl
  refine J_aload_n (i := 0) (j := 1) dX11_four_22 rfl rfl ?_
  have f6 : h2[162]? = some (.inr (11, [.int 0, .ref 163, .ref 164, .ref 165, .ref 166, .ref 167, .ref 168, .ref 169, .int 0, .int 0, .int 0, .int 0, .int 0, .long 0, .int 0, .int 0, .int 0, .int 0, .int 0, .ref 170, .ref 171, .ref 172, .int 0, .int 0, .int 0, .int 0, .int 0, .int 0, .ref 173, .ref 174, .ref 175, .int 0, .int 0, .int 0, .ref 176, .ref 177, .ref 178, .ref 179, .ref 180, .int 0, .long 0, .int 0, .ref 181])) := (s_ne e3 (by decide)).trans hm
  refine J_get (C := RX11) (T := TX11) (Z := 43) (ci := 11) (f := 2) dX11_four_23 inG11 rfl (by decide) k1266 f6 rfl ?_
  refine J_iconst (v := 0) dX11_four_26 (by decide) ?_
  refine J_dup2_11 dX11_four_27 rfl rfl ?_
  have f7 : h2[164]? = some (.inl (1, 4, .inl g)) := (s_ne e3 (by decide)).trans h4
  refine J_iald dX11_four_28 f7 (vp_c (by decide)) ?_
  refine J_ci (v := nI (n)) hg ?_
  refine J_iconst (v := 1) dX11_four_29 (by decide) ?_
  refine J_iadd dX11_four_30 ?_
  refine J_ci (v := nI (n + 1)) (nI_add _ _) ?_
  obtain ⟨h8, e9⟩ : ∃ z, z = h2.set 164 (.inl (1, 4, .inl (upd g ((0 : Int32).toNatClampNeg) (nI (n + 1))))) := ⟨_, rfl⟩
  refine J_iast dX11_four_31 f7 (vp_c (by decide)) e9.symm ?_
  have f10 := a_set e9 f7
  have l11 := l_set e9 l5
  have z12 : (upd g ((0 : Int32).toNatClampNeg) (nI (n + 1))) 0 = nI (n + 1) := rfl
  refine J_iinc (i := 2) (j := 0) (v := 16) (lw := [(2, .int 16), (0, .ref 162), (1, .int v)]) dX11_four_32 rfl (by decide) (by decide) rfl ?_
  refine J_goto (tgt := 3) dX11_four_35 (by decide) ?_
  refine J_iload_n (i := 2) (j := 0) dX11_four_3 rfl rfl ?_
  refine J_if_lt (tgt := 38) dX11_four_4 (by decide) (fun q => absurd q (by decide)) (fun _ => ?_)
  refine J_aload_n (i := 0) (j := 1) dX11_four_7 rfl rfl ?_
  have f13 : h8[162]? = some (.inr (11, [.int 0, .ref 163, .ref 164, .ref 165, .ref 166, .ref 167, .ref 168, .ref 169, .int 0, .int 0, .int 0, .int 0, .int 0, .long 0, .int 0, .int 0, .int 0, .int 0, .int 0, .ref 170, .ref 171, .ref 172, .int 0, .int 0, .int 0, .int 0, .int 0, .int 0, .ref 173, .ref 174, .ref 175, .int 0, .int 0, .int 0, .ref 176, .ref 177, .ref 178, .ref 179, .ref 180, .int 0, .long 0, .int 0, .ref 181])) := (s_ne e9 (by decide)).trans f6
  refine J_get (C := RX11) (T := TX11) (Z := 43) (ci := 11) (f := 1) dX11_four_8 inG11 rfl (by decide) k1265 f13 rfl ?_
  refine J_aload_n (i := 0) (j := 1) dX11_four_11 rfl rfl ?_
  refine J_get (C := RX11) (T := TX11) (Z := 43) (ci := 11) (f := 2) dX11_four_12 inG11 rfl (by decide) k1266 f13 rfl ?_
  refine J_iconst (v := 0) dX11_four_15 (by decide) ?_
  refine J_iald dX11_four_16 f10 (vp_c (by decide)) ?_
  refine J_ci (v := nI (n + 1)) z12 ?_
  refine J_iload_n (i := 1) (j := 2) dX11_four_17 rfl rfl ?_
  refine J_iload_n (i := 2) (j := 0) dX11_four_18 rfl rfl ?_
  refine J_ishr dX11_four_19 ?_
  obtain ⟨v14, qv14⟩ : ∃ z : Int32, z = (v >>> (16 &&& 31)).toInt8.toInt32 := ⟨_, rfl⟩
  refine J_i2b dX11_four_20 qv14.symm ?_
  have f15 : h8[163]? = some (.inl (0, 2400, .inl (upd f ((nI (n)).toNatClampNeg) (vp_nar .byte v1)))) := (s_ne e9 (by decide)).trans f4
  obtain ⟨h16, e17⟩ : ∃ z, z = h8.set 163 (.inl (0, 2400, .inl (upd (upd f ((nI (n)).toNatClampNeg) (vp_nar .byte v1)) ((nI (n + 1)).toNatClampNeg) (vp_nar .byte v14)))) := ⟨_, rfl⟩
  refine J_bast dX11_four_21 f15 (vp_in_nI (n := n + 1) (by omega) (by omega)) e17.symm ?_
  have f18 := a_set e17 f15
  have l19 := l_set e17 l11
  refine J_aload_n (i := 0) (j := 1) dX11_four_22 rfl rfl ?_
  have f20 : h16[162]? = some (.inr (11, [.int 0, .ref 163, .ref 164, .ref 165, .ref 166, .ref 167, .ref 168, .ref 169, .int 0, .int 0, .int 0, .int 0, .int 0, .long 0, .int 0, .int 0, .int 0, .int 0, .int 0, .ref 170, .ref 171, .ref 172, .int 0, .int 0, .int 0, .int 0, .int 0, .int 0, .ref 173, .ref 174, .ref 175, .int 0, .int 0, .int 0, .ref 176, .ref 177, .ref 178, .ref 179, .ref 180, .int 0, .long 0, .int 0, .ref 181])) := (s_ne e17 (by decide)).trans f13
  refine J_get (C := RX11) (T := TX11) (Z := 43) (ci := 11) (f := 2) dX11_four_23 inG11 rfl (by decide) k1266 f20 rfl ?_
  refine J_iconst (v := 0) dX11_four_26 (by decide) ?_
  refine J_dup2_11 dX11_four_27 rfl rfl ?_
  have f21 : h16[164]? = some (.inl (1, 4, .inl (upd g ((0 : Int32).toNatClampNeg) (nI (n + 1))))) := (s_ne e17 (by decide)).trans f10
  refine J_iald dX11_four_28 f21 (vp_c (by decide)) ?_
  refine J_ci (v := nI (n + 1)) z12 ?_
  refine J_iconst (v := 1) dX11_four_29 (by decide) ?_
  refine J_iadd dX11_four_30 ?_
  refine J_ci (v := nI (n + 1 + 1)) (nI_add _ _) ?_
  obtain ⟨h22, e23⟩ : ∃ z, z = h16.set 164 (.inl (1, 4, .inl (upd (upd g ((0 : Int32).toNatClampNeg) (nI (n + 1))) ((0 : Int32).toNatClampNeg) (nI (n + 1 + 1))))) := ⟨_, rfl⟩
  refine J_iast dX11_four_31 f21 (vp_c (by decide)) e23.symm ?_
  have f24 := a_set e23 f21
  have l25 := l_set e23 l19
  have z26 : (upd (upd g ((0 : Int32).toNatClampNeg) (nI (n + 1))) ((0 : Int32).toNatClampNeg) (nI (n + 1 + 1))) 0 = nI (n + 1 + 1) := rfl
  refine J_iinc (i := 2) (j := 0) (v := 8) (lw := [(2, .int 8), (0, .ref 162), (1, .int v)]) dX11_four_32 rfl (by decide) (by decide) rfl ?_
  refine J_goto (tgt := 3) dX11_four_35 (by decide) ?_
  refine J_iload_n (i := 2) (j := 0) dX11_four_3 rfl rfl ?_
  refine J_if_lt (tgt := 38) dX11_four_4 (by decide) (fun q => absurd q (by decide)) (fun _ => ?_)
  refine J_aload_n (i := 0) (j := 1) dX11_four_7 rfl rfl ?_
  have f27 : h22[162]? = some (.inr (11, [.int 0, .ref 163, .ref 164, .ref 165, .ref 166, .ref 167, .ref 168, .ref 169, .int 0, .int 0, .int 0, .int 0, .int 0, .long 0, .int 0, .int 0, .int 0, .int 0, .int 0, .ref 170, .ref 171, .ref 172, .int 0, .int 0, .int 0, .int 0, .int 0, .int 0, .ref 173, .ref 174, .ref 175, .int 0, .int 0, .int 0, .ref 176, .ref 177, .ref 178, .ref 179, .ref 180, .int 0, .long 0, .int 0, .ref 181])) := (s_ne e23 (by decide)).trans f20
  refine J_get (C := RX11) (T := TX11) (Z := 43) (ci := 11) (f := 1) dX11_four_8 inG11 rfl (by decide) k1265 f27 rfl ?_
  refine J_aload_n (i := 0) (j := 1) dX11_four_11 rfl rfl ?_
  refine J_get (C := RX11) (T := TX11) (Z := 43) (ci := 11) (f := 2) dX11_four_12 inG11 rfl (by decide) k1266 f27 rfl ?_
  refine J_iconst (v := 0) dX11_four_15 (by decide) ?_
  refine J_iald dX11_four_16 f24 (vp_c (by decide)) ?_
  refine J_ci (v := nI (n + 1 + 1)) z26 ?_
  refine J_iload_n (i := 1) (j := 2) dX11_four_17 rfl rfl ?_
  refine J_iload_n (i := 2) (j := 0) dX11_four_18 rfl rfl ?_
  refine J_ishr dX11_four_19 ?_
  obtain ⟨v28, qv28⟩ : ∃ z : Int32, z = (v >>> (8 &&& 31)).toInt8.toInt32 := ⟨_, rfl⟩
  refine J_i2b dX11_four_20 qv28.symm ?_
  have f29 : h22[163]? = some (.inl (0, 2400, .inl (upd (upd f ((nI (n)).toNatClampNeg) (vp_nar .byte v1)) ((nI (n + 1)).toNatClampNeg) (vp_nar .byte v14)))) := (s_ne e23 (by decide)).trans f18
  obtain ⟨h30, e31⟩ : ∃ z, z = h22.set 163 (.inl (0, 2400, .inl (upd (upd (upd f ((nI (n)).toNatClampNeg) (vp_nar .byte v1)) ((nI (n + 1)).toNatClampNeg) (vp_nar .byte v14)) ((nI (n + 1 + 1)).toNatClampNeg) (vp_nar .byte v28)))) := ⟨_, rfl⟩
  refine J_bast dX11_four_21 f29 (vp_in_nI (n := n + 1 + 1) (by omega) (by omega)) e31.symm ?_
  have f32 := a_set e31 f29
  have l33 := l_set e31 l25
  refine J_aload_n (i := 0) (j := 1) dX11_four_22 rfl rfl ?_
  have f34 : h30[162]? = some (.inr (11, [.int 0, .ref 163, .ref 164, .ref 165, .ref 166, .ref 167, .ref 168, .ref 169, .int 0, .int 0, .int 0, .int 0, .int 0, .long 0, .int 0, .int 0, .int 0, .int 0, .int 0, .ref 170, .ref 171, .ref 172, .int 0, .int 0, .int 0, .int 0, .int 0, .int 0, .ref 173, .ref 174, .ref 175, .int 0, .int 0, .int 0, .ref 176, .ref 177, .ref 178, .ref 179, .ref 180, .int 0, .long 0, .int 0, .ref 181])) := (s_ne e31 (by decide)).trans f27
  refine J_get (C := RX11) (T := TX11) (Z := 43) (ci := 11) (f := 2) dX11_four_23 inG11 rfl (by decide) k1266 f34 rfl ?_
  refine J_iconst (v := 0) dX11_four_26 (by decide) ?_
  refine J_dup2_11 dX11_four_27 rfl rfl ?_
  have f35 : h30[164]? = some (.inl (1, 4, .inl (upd (upd g ((0 : Int32).toNatClampNeg) (nI (n + 1))) ((0 : Int32).toNatClampNeg) (nI (n + 1 + 1))))) := (s_ne e31 (by decide)).trans f24
  refine J_iald dX11_four_28 f35 (vp_c (by decide)) ?_
  refine J_ci (v := nI (n + 1 + 1)) z26 ?_
  refine J_iconst (v := 1) dX11_four_29 (by decide) ?_
  refine J_iadd dX11_four_30 ?_
  refine J_ci (v := nI (n + 1 + 1 + 1)) (nI_add _ _) ?_
  obtain ⟨h36, e37⟩ : ∃ z, z = h30.set 164 (.inl (1, 4, .inl (upd (upd (upd g ((0 : Int32).toNatClampNeg) (nI (n + 1))) ((0 : Int32).toNatClampNeg) (nI (n + 1 + 1))) ((0 : Int32).toNatClampNeg) (nI (n + 1 + 1 + 1))))) := ⟨_, rfl⟩
  refine J_iast dX11_four_31 f35 (vp_c (by decide)) e37.symm ?_
  have f38 := a_set e37 f35
  have l39 := l_set e37 l33
  have z40 : (upd (upd (upd g ((0 : Int32).toNatClampNeg) (nI (n + 1))) ((0 : Int32).toNatClampNeg) (nI (n + 1 + 1))) ((0 : Int32).toNatClampNeg) (nI (n + 1 + 1 + 1))) 0 = nI (n + 1 + 1 + 1) := rfl
  refine J_iinc (i := 2) (j := 0) (v := 0) (lw := [(2, .int 0), (0, .ref 162), (1, .int v)]) dX11_four_32 rfl (by decide) (by decide) rfl ?_
  refine J_goto (tgt := 3) dX11_four_35 (by decide) ?_
  refine J_iload_n (i := 2) (j := 0) dX11_four_3 rfl rfl ?_
  refine J_if_lt (tgt := 38) dX11_four_4 (by decide) (fun q => absurd q (by decide)) (fun _ => ?_)
  refine J_aload_n (i := 0) (j := 1) dX11_four_7 rfl rfl ?_
  have f41 : h36[162]? = some (.inr (11, [.int 0, .ref 163, .ref 164, .ref 165, .ref 166, .ref 167, .ref 168, .ref 169, .int 0, .int 0, .int 0, .int 0, .int 0, .long 0, .int 0, .int 0, .int 0, .int 0, .int 0, .ref 170, .ref 171, .ref 172, .int 0, .int 0, .int 0, .int 0, .int 0, .int 0, .ref 173, .ref 174, .ref 175, .int 0, .int 0, .int 0, .ref 176, .ref 177, .ref 178, .ref 179, .ref 180, .int 0, .long 0, .int 0, .ref 181])) := (s_ne e37 (by decide)).trans f34
  refine J_get (C := RX11) (T := TX11) (Z := 43) (ci := 11) (f := 1) dX11_four_8 inG11 rfl (by decide) k1265 f41 rfl ?_
  refine J_aload_n (i := 0) (j := 1) dX11_four_11 rfl rfl ?_
  refine J_get (C := RX11) (T := TX11) (Z := 43) (ci := 11) (f := 2) dX11_four_12 inG11 rfl (by decide) k1266 f41 rfl ?_
  refine J_iconst (v := 0) dX11_four_15 (by decide) ?_
  refine J_iald dX11_four_16 f38 (vp_c (by decide)) ?_
  refine J_ci (v := nI (n + 1 + 1 + 1)) z40 ?_
  refine J_iload_n (i := 1) (j := 2) dX11_four_17 rfl rfl ?_
  refine J_iload_n (i := 2) (j := 0) dX11_four_18 rfl rfl ?_
  refine J_ishr dX11_four_19 ?_
  obtain ⟨v42, qv42⟩ : ∃ z : Int32, z = (v >>> (0 &&& 31)).toInt8.toInt32 := ⟨_, rfl⟩
  refine J_i2b dX11_four_20 qv42.symm ?_
  have f43 : h36[163]? = some (.inl (0, 2400, .inl (upd (upd (upd f ((nI (n)).toNatClampNeg) (vp_nar .byte v1)) ((nI (n + 1)).toNatClampNeg) (vp_nar .byte v14)) ((nI (n + 1 + 1)).toNatClampNeg) (vp_nar .byte v28)))) := (s_ne e37 (by decide)).trans f32
  obtain ⟨h44, e45⟩ : ∃ z, z = h36.set 163 (.inl (0, 2400, .inl (upd (upd (upd (upd f ((nI (n)).toNatClampNeg) (vp_nar .byte v1)) ((nI (n + 1)).toNatClampNeg) (vp_nar .byte v14)) ((nI (n + 1 + 1)).toNatClampNeg) (vp_nar .byte v28)) ((nI (n + 1 + 1 + 1)).toNatClampNeg) (vp_nar .byte v42)))) := ⟨_, rfl⟩
  refine J_bast dX11_four_21 f43 (vp_in_nI (n := n + 1 + 1 + 1) (by omega) (by omega)) e45.symm ?_
  have f46 := a_set e45 f43
  have l47 := l_set e45 l39
  refine J_aload_n (i := 0) (j := 1) dX11_four_22 rfl rfl ?_
  have f48 : h44[162]? = some (.inr (11, [.int 0, .ref 163, .ref 164, .ref 165, .ref 166, .ref 167, .ref 168, .ref 169, .int 0, .int 0, .int 0, .int 0, .int 0, .long 0, .int 0, .int 0, .int 0, .int 0, .int 0, .ref 170, .ref 171, .ref 172, .int 0, .int 0, .int 0, .int 0, .int 0, .int 0, .ref 173, .ref 174, .ref 175, .int 0, .int 0, .int 0, .ref 176, .ref 177, .ref 178, .ref 179, .ref 180, .int 0, .long 0, .int 0, .ref 181])) := (s_ne e45 (by decide)).trans f41
  refine J_get (C := RX11) (T := TX11) (Z := 43) (ci := 11) (f := 2) dX11_four_23 inG11 rfl (by decide) k1266 f48 rfl ?_
  refine J_iconst (v := 0) dX11_four_26 (by decide) ?_
  refine J_dup2_11 dX11_four_27 rfl rfl ?_
  have f49 : h44[164]? = some (.inl (1, 4, .inl (upd (upd (upd g ((0 : Int32).toNatClampNeg) (nI (n + 1))) ((0 : Int32).toNatClampNeg) (nI (n + 1 + 1))) ((0 : Int32).toNatClampNeg) (nI (n + 1 + 1 + 1))))) := (s_ne e45 (by decide)).trans f38
  refine J_iald dX11_four_28 f49 (vp_c (by decide)) ?_
  refine J_ci (v := nI (n + 1 + 1 + 1)) z40 ?_
  refine J_iconst (v := 1) dX11_four_29 (by decide) ?_
  refine J_iadd dX11_four_30 ?_
  refine J_ci (v := nI (n + 1 + 1 + 1 + 1)) (nI_add _ _) ?_
  obtain ⟨h50, e51⟩ : ∃ z, z = h44.set 164 (.inl (1, 4, .inl (upd (upd (upd (upd g ((0 : Int32).toNatClampNeg) (nI (n + 1))) ((0 : Int32).toNatClampNeg) (nI (n + 1 + 1))) ((0 : Int32).toNatClampNeg) (nI (n + 1 + 1 + 1))) ((0 : Int32).toNatClampNeg) (nI (n + 1 + 1 + 1 + 1))))) := ⟨_, rfl⟩
  refine J_iast dX11_four_31 f49 (vp_c (by decide)) e51.symm ?_
  have f52 := a_set e51 f49
  have l53 := l_set e51 l47
  have z54 : (upd (upd (upd (upd g ((0 : Int32).toNatClampNeg) (nI (n + 1))) ((0 : Int32).toNatClampNeg) (nI (n + 1 + 1))) ((0 : Int32).toNatClampNeg) (nI (n + 1 + 1 + 1))) ((0 : Int32).toNatClampNeg) (nI (n + 1 + 1 + 1 + 1))) 0 = nI (n + 1 + 1 + 1 + 1) := rfl
  refine J_iinc (i := 2) (j := 0) (v := (-8)) (lw := [(2, .int (-8)), (0, .ref 162), (1, .int v)]) dX11_four_32 rfl (by decide) (by decide) rfl ?_
  refine J_goto (tgt := 3) dX11_four_35 (by decide) ?_
  refine J_iload_n (i := 2) (j := 0) dX11_four_3 rfl rfl ?_
  refine J_if_lt (tgt := 38) dX11_four_4 (by decide) (fun _ => ?_) (fun q => absurd (by decide) q)
  have f55 : h50[163]? = some (.inl (0, 2400, .inl (upd (upd (upd (upd f ((nI (n)).toNatClampNeg) (vp_nar .byte v1)) ((nI (n + 1)).toNatClampNeg) (vp_nar .byte v14)) ((nI (n + 1 + 1)).toNatClampNeg) (vp_nar .byte v28)) ((nI (n + 1 + 1 + 1)).toNatClampNeg) (vp_nar .byte v42)))) := (s_ne e51 (by decide)).trans f46
  exact J_vret hq dX11_four_38 rfl (hkz l53) (Nat.le_refl _) (Nat.le_refl _) ⟨rfl, l53, ⟨_, f55⟩, ⟨_, f52, z54⟩, fun j hj1 hj2 => ((((((((s_ne e51 hj2)).trans (s_ne e45 hj1)).trans (s_ne e37 hj2)).trans (s_ne e31 hj1)).trans (s_ne e23 hj2)).trans (s_ne e17 hj1)).trans (s_ne e9 hj2)).trans (s_ne e3 hj1)⟩
set_option maxHeartbeats 4000000 in
set_option maxRecDepth 100000 in
theorem c_X11_feed0 {d : Nat} {h : List MC} {a0 a1 a2 a3 a4 : Int32} (hd : 1 ≤ d) (hm : h[162]? = some (.inr (11, [.int 0, .ref 163, .ref 164, .ref 165, .ref 166, .ref 167, .ref 168, .ref 169, .int 0, .int 0, .int 0, .int 0, .int 0, .long 0, .int 0, .int 0, .int 0, .int 0, .int 0, .ref 170, .ref 171, .ref 172, .int 0, .int 0, .int 0, .int 0, .int 0, .int 0, .ref 173, .ref 174, .ref 175, .int 0, .int 0, .int 0, .ref 176, .ref 177, .ref 178, .ref 179, .ref 180, .int 0, .long 0, .int 0, .ref 181]))) (hy : h[167]? = some (.inl (1, 8, .inl (fun _ => 0)))) (h3 : h[163]? = some (.inl (0, 2400, .inl (fun _ => 0)))) (h4 : h[164]? = some (.inl (1, 4, .inl (fun _ => 0))))  : CT con0 d 0 0 yX11_feed cX11_feed 6 (some .int) [.ref 162, .int a0, .int a1, .int a2, .int a3, .int a4] h (fun r h2 => r = some (.int 20)) := by
  refine CT_of (by decide) (Nat.le_of_ble_eq_true rfl) (fun x hq => ?_)
  show J x yX11_feed cX11_feed 6 (some .int) d 0 0 h.length 0 [(0, .ref 162), (1, .int a0), (2, .int a1), (3, .int a2), (4, .int a3), (5, .int a4)] [] h 0 0
  refine J_aload_n (i := 0) (j := 0) dX11_feed_0 rfl rfl ?_
  refine J_iconst (v := 0) dX11_feed_1 (by decide) ?_
  obtain ⟨h1, e2⟩ : ∃ z, z = h.set 162 (.inr (11, [.int 0, .ref 163, .ref 164, .ref 165, .ref 166, .ref 167, .ref 168, .ref 169, .int 0, .int 0, .int 0, .int 0, .int 0, .long 0, .int 0, .int 0, .int 0, .int 0, .int 0, .ref 170, .ref 171, .ref 172, .int 0, .int 0, .int 0, .int 0, .int 0, .int 0, .ref 173, .ref 174, .ref 175, .int 0, .int 0, .int 0, .ref 176, .ref 177, .ref 178, .ref 179, .ref 180, .int 0, .long 0, .int 0, .ref 181])) := ⟨_, rfl⟩
  refine J_put (C := RX11) (T := TX11) (Z := 43) (ci := 11) (f := 0) (ty0 := tyX11) dX11_feed_2 inG11 rfl tyX11_ok nmX11 (by decide) k1264 rfl rfl hm (Nat.le_of_ble_eq_true rfl) (fun _ _ => ⟨rfl, rfl⟩) e2.symm ?_
  have f3 := a_set e2 hm
  have l4 := l_set e2 rfl
  refine J_aload_n (i := 0) (j := 0) dX11_feed_5 rfl rfl ?_
  refine J_get (C := RX11) (T := TX11) (Z := 43) (ci := 11) (f := 2) dX11_feed_6 inG11 rfl (by decide) k1266 f3 rfl ?_
  refine J_iconst (v := 0) dX11_feed_9 (by decide) ?_
  have f5 : h1[164]? = some (.inl (1, 4, .inl (fun _ => 0))) := (s_ne e2 (by decide)).trans h4
  refine J_iald dX11_feed_10 f5 (vp_c (by decide)) ?_
  refine J_ci (v := 0) rfl ?_
  refine J_bipush (v := 20) dX11_feed_11 (by decide) ?_
  refine J_iadd dX11_feed_13 ?_
  refine J_ci (v := 20) (by decide) ?_
  refine J_sipush (v := 600) dX11_feed_14 (by decide) ?_
  refine J_icmp_le (tgt := 22) dX11_feed_17 (by decide) (fun _ => ?_) (fun q => absurd (by decide) q)
  refine J_aload_n (i := 0) (j := 0) dX11_feed_22 rfl rfl ?_
  refine J_iload_n (i := 1) (j := 1) dX11_feed_23 rfl rfl ?_
  have f6 : h1[163]? = some (.inl (0, 2400, .inl (fun _ => 0))) := (s_ne e2 (by decide)).trans h3
  refine J_callV (As := [.int a0]) (rest := []) dX11_feed_24 (c_X11_four (d := 0) (h := h1) (n := 0) (by decide) f3 f6 f5 rfl (by omega)) hq.n k1398 k1400 k36 f3 rfl rfl k97 k1401 np_X11_four (Nat.le_trans (by decide) hd) (by decide) (Nat.le_refl _) (Nat.le_refl _) (hkz l4) rfl (Nat.le_of_ble_eq_true rfl) (fun r7 h8 p9 => ?_)
  obtain ⟨rfl, l10, ⟨g11, f13⟩, ⟨g12, f14, z15⟩, r16⟩ := p9
  have l17 := l10.trans l4
  refine J_aload_n (i := 0) (j := 0) dX11_feed_27 rfl rfl ?_
  refine J_iload_n (i := 2) (j := 2) dX11_feed_28 rfl rfl ?_
  have f18 : h8[162]? = some (.inr (11, [.int 0, .ref 163, .ref 164, .ref 165, .ref 166, .ref 167, .ref 168, .ref 169, .int 0, .int 0, .int 0, .int 0, .int 0, .long 0, .int 0, .int 0, .int 0, .int 0, .int 0, .ref 170, .ref 171, .ref 172, .int 0, .int 0, .int 0, .int 0, .int 0, .int 0, .ref 173, .ref 174, .ref 175, .int 0, .int 0, .int 0, .ref 176, .ref 177, .ref 178, .ref 179, .ref 180, .int 0, .long 0, .int 0, .ref 181])) := (r16 162 (by decide) (by decide)).trans f3
  refine J_callV (As := [.int a1]) (rest := []) dX11_feed_29 (c_X11_four (d := 0) (h := h8) (n := 0 + 4) (by decide) f18 f13 f14 z15 (by omega)) hq.n k1398 k1400 k36 f18 rfl rfl k97 k1401 np_X11_four (Nat.le_trans (by decide) hd) (by decide) (Nat.le_refl _) (Nat.le_refl _) (hkz l17) rfl (Nat.le_of_ble_eq_true rfl) (fun r19 h20 p21 => ?_)
  obtain ⟨rfl, l22, ⟨g23, f25⟩, ⟨g24, f26, z27⟩, r28⟩ := p21
  have l29 := l22.trans l17
  refine J_aload_n (i := 0) (j := 0) dX11_feed_32 rfl rfl ?_
  refine J_iload_n (i := 3) (j := 3) dX11_feed_33 rfl rfl ?_
  have f30 : h20[162]? = some (.inr (11, [.int 0, .ref 163, .ref 164, .ref 165, .ref 166, .ref 167, .ref 168, .ref 169, .int 0, .int 0, .int 0, .int 0, .int 0, .long 0, .int 0, .int 0, .int 0, .int 0, .int 0, .ref 170, .ref 171, .ref 172, .int 0, .int 0, .int 0, .int 0, .int 0, .int 0, .ref 173, .ref 174, .ref 175, .int 0, .int 0, .int 0, .ref 176, .ref 177, .ref 178, .ref 179, .ref 180, .int 0, .long 0, .int 0, .ref 181])) := (r28 162 (by decide) (by decide)).trans f18
  refine J_callV (As := [.int a2]) (rest := []) dX11_feed_34 (c_X11_four (d := 0) (h := h20) (n := 0 + 4 + 4) (by decide) f30 f25 f26 z27 (by omega)) hq.n k1398 k1400 k36 f30 rfl rfl k97 k1401 np_X11_four (Nat.le_trans (by decide) hd) (by decide) (Nat.le_refl _) (Nat.le_refl _) (hkz l29) rfl (Nat.le_of_ble_eq_true rfl) (fun r31 h32 p33 => ?_)
  obtain ⟨rfl, l34, ⟨g35, f37⟩, ⟨g36, f38, z39⟩, r40⟩ := p33
  have l41 := l34.trans l29
  refine J_aload_n (i := 0) (j := 0) dX11_feed_37 rfl rfl ?_
  refine J_iload (i := 4) (j := 4) dX11_feed_38 rfl ?_
  have f42 : h32[162]? = some (.inr (11, [.int 0, .ref 163, .ref 164, .ref 165, .ref 166, .ref 167, .ref 168, .ref 169, .int 0, .int 0, .int 0, .int 0, .int 0, .long 0, .int 0, .int 0, .int 0, .int 0, .int 0, .ref 170, .ref 171, .ref 172, .int 0, .int 0, .int 0, .int 0, .int 0, .int 0, .ref 173, .ref 174, .ref 175, .int 0, .int 0, .int 0, .ref 176, .ref 177, .ref 178, .ref 179, .ref 180, .int 0, .long 0, .int 0, .ref 181])) := (r40 162 (by decide) (by decide)).trans f30
  refine J_callV (As := [.int a3]) (rest := []) dX11_feed_40 (c_X11_four (d := 0) (h := h32) (n := 0 + 4 + 4 + 4) (by decide) f42 f37 f38 z39 (by omega)) hq.n k1398 k1400 k36 f42 rfl rfl k97 k1401 np_X11_four (Nat.le_trans (by decide) hd) (by decide) (Nat.le_refl _) (Nat.le_refl _) (hkz l41) rfl (Nat.le_of_ble_eq_true rfl) (fun r43 h44 p45 => ?_)
  obtain ⟨rfl, l46, ⟨g47, f49⟩, ⟨g48, f50, z51⟩, r52⟩ := p45
  have l53 := l46.trans l41
  refine J_aload_n (i := 0) (j := 0) dX11_feed_43 rfl rfl ?_
  refine J_iload (i := 5) (j := 5) dX11_feed_44 rfl ?_
  have f54 : h44[162]? = some (.inr (11, [.int 0, .ref 163, .ref 164, .ref 165, .ref 166, .ref 167, .ref 168, .ref 169, .int 0, .int 0, .int 0, .int 0, .int 0, .long 0, .int 0, .int 0, .int 0, .int 0, .int 0, .ref 170, .ref 171, .ref 172, .int 0, .int 0, .int 0, .int 0, .int 0, .int 0, .ref 173, .ref 174, .ref 175, .int 0, .int 0, .int 0, .ref 176, .ref 177, .ref 178, .ref 179, .ref 180, .int 0, .long 0, .int 0, .ref 181])) := (r52 162 (by decide) (by decide)).trans f42
  refine J_callV (As := [.int a4]) (rest := []) dX11_feed_46 (c_X11_four (d := 0) (h := h44) (n := 0 + 4 + 4 + 4 + 4) (by decide) f54 f49 f50 z51 (by omega)) hq.n k1398 k1400 k36 f54 rfl rfl k97 k1401 np_X11_four (Nat.le_trans (by decide) hd) (by decide) (Nat.le_refl _) (Nat.le_refl _) (hkz l53) rfl (Nat.le_of_ble_eq_true rfl) (fun r55 h56 p57 => ?_)
  obtain ⟨rfl, l58, ⟨g59, f61⟩, ⟨g60, f62, z63⟩, r64⟩ := p57
  have l65 := l58.trans l53
  refine J_aload_n (i := 0) (j := 0) dX11_feed_49 rfl rfl ?_
  have f66 : h56[162]? = some (.inr (11, [.int 0, .ref 163, .ref 164, .ref 165, .ref 166, .ref 167, .ref 168, .ref 169, .int 0, .int 0, .int 0, .int 0, .int 0, .long 0, .int 0, .int 0, .int 0, .int 0, .int 0, .ref 170, .ref 171, .ref 172, .int 0, .int 0, .int 0, .int 0, .int 0, .int 0, .ref 173, .ref 174, .ref 175, .int 0, .int 0, .int 0, .ref 176, .ref 177, .ref 178, .ref 179, .ref 180, .int 0, .long 0, .int 0, .ref 181])) := (r64 162 (by decide) (by decide)).trans f54
  refine J_get (C := RX11) (T := TX11) (Z := 43) (ci := 11) (f := 2) dX11_feed_50 inG11 rfl (by decide) k1266 f66 rfl ?_
  refine J_iconst (v := 0) dX11_feed_53 (by decide) ?_
  refine J_iald dX11_feed_54 f62 (vp_c (by decide)) ?_
  refine J_ci (v := nI (0 + 4 + 4 + 4 + 4 + 4)) z63 ?_
  refine J_ci (v := 20) (by decide) ?_
  exact J_iret hq dX11_feed_55 rfl (hkz l65) (Nat.le_refl _) (Nat.le_refl _) rfl
end
