-- ===== PART A: goes FIRST, ahead of the names: the tables' words, and 'selects' of the private methods out of them =====
/-- a private method of a class that the tables say can be made, by its rows of tables_1 -/
def lw_okq (q : MethodName × Nat) : Prop := (q.1.cls ≠ "java/lang/invoke/MethodHandle" ∧ q.1.cls ≠ "java/lang/invoke/VarHandle") ∧ Cond.instantiable q.1.cls q.2 ∈ tables_1 ∧ Cond.privateMethod q.1 ∈ tables_1 ∧ Cond.instanceMethod q.1 ∈ tables_1
theorem tbm1 {w : Cond} {i : Nat} (h : tables_1_1[i]? = some w) : w ∈ tables_1 := by
  have hm := List.mem_of_getElem? h
  unfold tables_1
  simp only [List.mem_append]
  simp only [hm, true_or, or_true]
theorem tbm2 {w : Cond} {i : Nat} (h : tables_1_2[i]? = some w) : w ∈ tables_1 := by
  have hm := List.mem_of_getElem? h
  unfold tables_1
  simp only [List.mem_append]
  simp only [hm, true_or, or_true]
theorem tbm3 {w : Cond} {i : Nat} (h : tables_1_3[i]? = some w) : w ∈ tables_1 := by
  have hm := List.mem_of_getElem? h
  unfold tables_1
  simp only [List.mem_append]
  simp only [hm, true_or, or_true]
theorem tbm4 {w : Cond} {i : Nat} (h : tables_1_4[i]? = some w) : w ∈ tables_1 := by
  have hm := List.mem_of_getElem? h
  unfold tables_1
  simp only [List.mem_append]
  simp only [hm, true_or, or_true]
theorem tbm5 {w : Cond} {i : Nat} (h : tables_1_5[i]? = some w) : w ∈ tables_1 := by
  have hm := List.mem_of_getElem? h
  unfold tables_1
  simp only [List.mem_append]
  simp only [hm, true_or, or_true]
theorem tbm6 {w : Cond} {i : Nat} (h : tables_1_6[i]? = some w) : w ∈ tables_1 := by
  have hm := List.mem_of_getElem? h
  unfold tables_1
  simp only [List.mem_append]
  simp only [hm, true_or, or_true]
theorem tbm7 {w : Cond} {i : Nat} (h : tables_1_7[i]? = some w) : w ∈ tables_1 := by
  have hm := List.mem_of_getElem? h
  unfold tables_1
  simp only [List.mem_append]
  simp only [hm, true_or, or_true]
theorem tbm8 {w : Cond} {i : Nat} (h : tables_1_8[i]? = some w) : w ∈ tables_1 := by
  have hm := List.mem_of_getElem? h
  unfold tables_1
  simp only [List.mem_append]
  simp only [hm, true_or, or_true]
theorem lw_c0 : ("PondStair$Reader" ≠ "java/lang/invoke/MethodHandle" ∧ "PondStair$Reader" ≠ "java/lang/invoke/VarHandle") ∧ Cond.instantiable "PondStair$Reader" 7 ∈ tables_1 := ⟨⟨by decide +kernel, by decide +kernel⟩, tbm1 (i := 135) rfl⟩
theorem lw_p0 : lw_okq (⟨"PondStair$Reader", "readLine", "(I)Z"⟩, 7) := ⟨lw_c0.1, lw_c0.2, tbm2 (i := 171) rfl, tbm2 (i := 172) rfl⟩
theorem lw_c1 : ("PondStair$Tokens" ≠ "java/lang/invoke/MethodHandle" ∧ "PondStair$Tokens" ≠ "java/lang/invoke/VarHandle") ∧ Cond.instantiable "PondStair$Tokens" 6 ∈ tables_1 := ⟨⟨by decide +kernel, by decide +kernel⟩, tbm1 (i := 141) rfl⟩
theorem lw_p1 : lw_okq (⟨"PondStair$Tokens", "takeWord", "()V"⟩, 6) := ⟨lw_c1.1, lw_c1.2, tbm2 (i := 185) rfl, tbm2 (i := 186) rfl⟩
theorem lw_p2 : lw_okq (⟨"PondStair$Tokens", "takeNumber", "()V"⟩, 6) := ⟨lw_c1.1, lw_c1.2, tbm2 (i := 192) rfl, tbm2 (i := 193) rfl⟩
theorem lw_p3 : lw_okq (⟨"PondStair$Reader", "lineOf", "(I)I"⟩, 7) := ⟨lw_c0.1, lw_c0.2, tbm2 (i := 196) rfl, tbm2 (i := 197) rfl⟩
theorem lw_p4 : lw_okq (⟨"PondStair$Reader", "breaksOff", "()Z"⟩, 7) := ⟨lw_c0.1, lw_c0.2, tbm3 (i := 36) rfl, tbm3 (i := 37) rfl⟩
theorem lw_p5 : lw_okq (⟨"PondStair$Reader", "take", "(IIII)V"⟩, 7) := ⟨lw_c0.1, lw_c0.2, tbm3 (i := 44) rfl, tbm3 (i := 45) rfl⟩
theorem lw_p6 : lw_okq (⟨"PondStair$Reader", "isFull", "(I)Z"⟩, 7) := ⟨lw_c0.1, lw_c0.2, tbm3 (i := 48) rfl, tbm3 (i := 49) rfl⟩
theorem lw_p7 : lw_okq (⟨"PondStair$Reader", "remember", "(II)V"⟩, 7) := ⟨lw_c0.1, lw_c0.2, tbm3 (i := 52) rfl, tbm3 (i := 53) rfl⟩
theorem lw_p8 : lw_okq (⟨"PondStair$Reader", "canBeInHill", "(II)Z"⟩, 7) := ⟨lw_c0.1, lw_c0.2, tbm3 (i := 56) rfl, tbm3 (i := 57) rfl⟩
theorem lw_p9 : lw_okq (⟨"PondStair$Reader", "canBeInPlan", "(II)Z"⟩, 7) := ⟨lw_c0.1, lw_c0.2, tbm3 (i := 62) rfl, tbm3 (i := 63) rfl⟩
theorem lw_p10 : lw_okq (⟨"PondStair$Reader", "takeForHill", "(II)V"⟩, 7) := ⟨lw_c0.1, lw_c0.2, tbm3 (i := 70) rfl, tbm3 (i := 71) rfl⟩
theorem lw_p11 : lw_okq (⟨"PondStair$Reader", "closeRains", "()V"⟩, 7) := ⟨lw_c0.1, lw_c0.2, tbm3 (i := 99) rfl, tbm3 (i := 100) rfl⟩
theorem lw_c2 : ("PondStair" ≠ "java/lang/invoke/MethodHandle" ∧ "PondStair" ≠ "java/lang/invoke/VarHandle") ∧ Cond.instantiable "PondStair" 10 ∈ tables_1 := ⟨⟨by decide +kernel, by decide +kernel⟩, tbm1 (i := 22) rfl⟩
theorem lw_p12 : lw_okq (⟨"PondStair", "lays", "(II)Z"⟩, 10) := ⟨lw_c2.1, lw_c2.2, tbm3 (i := 158) rfl, tbm3 (i := 159) rfl⟩
theorem lw_c3 : ("PondStair$Site" ≠ "java/lang/invoke/MethodHandle" ∧ "PondStair$Site" ≠ "java/lang/invoke/VarHandle") ∧ Cond.instantiable "PondStair$Site" 4 ∈ tables_1 := ⟨⟨by decide +kernel, by decide +kernel⟩, tbm1 (i := 201) rfl⟩
theorem lw_p13 : lw_okq (⟨"PondStair$Site", "builds", "(III)Z"⟩, 4) := ⟨lw_c3.1, lw_c3.2, tbm3 (i := 171) rfl, tbm3 (i := 172) rfl⟩
theorem lw_p14 : lw_okq (⟨"PondStair$Site", "mends", "(II)Z"⟩, 4) := ⟨lw_c3.1, lw_c3.2, tbm3 (i := 187) rfl, tbm3 (i := 188) rfl⟩
theorem lw_p15 : lw_okq (⟨"PondStair$Site", "lowers", "(II)Z"⟩, 4) := ⟨lw_c3.1, lw_c3.2, tbm3 (i := 193) rfl, tbm3 (i := 194) rfl⟩
def lw_privs_1 : List (MethodName × Nat) := [(⟨"PondStair$Reader", "readLine", "(I)Z"⟩, 7), (⟨"PondStair$Tokens", "takeWord", "()V"⟩, 6), (⟨"PondStair$Tokens", "takeNumber", "()V"⟩, 6), (⟨"PondStair$Reader", "lineOf", "(I)I"⟩, 7), (⟨"PondStair$Reader", "breaksOff", "()Z"⟩, 7), (⟨"PondStair$Reader", "take", "(IIII)V"⟩, 7), (⟨"PondStair$Reader", "isFull", "(I)Z"⟩, 7), (⟨"PondStair$Reader", "remember", "(II)V"⟩, 7), (⟨"PondStair$Reader", "canBeInHill", "(II)Z"⟩, 7), (⟨"PondStair$Reader", "canBeInPlan", "(II)Z"⟩, 7), (⟨"PondStair$Reader", "takeForHill", "(II)V"⟩, 7), (⟨"PondStair$Reader", "closeRains", "()V"⟩, 7), (⟨"PondStair", "lays", "(II)Z"⟩, 10), (⟨"PondStair$Site", "builds", "(III)Z"⟩, 4), (⟨"PondStair$Site", "mends", "(II)Z"⟩, 4), (⟨"PondStair$Site", "lowers", "(II)Z"⟩, 4)]
theorem lw_r1 : ∀ q ∈ lw_privs_1, lw_okq q := List.forall_mem_cons.mpr ⟨lw_p0, List.forall_mem_cons.mpr ⟨lw_p1, List.forall_mem_cons.mpr ⟨lw_p2, List.forall_mem_cons.mpr ⟨lw_p3, List.forall_mem_cons.mpr ⟨lw_p4, List.forall_mem_cons.mpr ⟨lw_p5, List.forall_mem_cons.mpr ⟨lw_p6, List.forall_mem_cons.mpr ⟨lw_p7, List.forall_mem_cons.mpr ⟨lw_p8, List.forall_mem_cons.mpr ⟨lw_p9, List.forall_mem_cons.mpr ⟨lw_p10, List.forall_mem_cons.mpr ⟨lw_p11, List.forall_mem_cons.mpr ⟨lw_p12, List.forall_mem_cons.mpr ⟨lw_p13, List.forall_mem_cons.mpr ⟨lw_p14, List.forall_mem_cons.mpr ⟨lw_p15, fun _ h => absurd h List.not_mem_nil⟩⟩⟩⟩⟩⟩⟩⟩⟩⟩⟩⟩⟩⟩⟩⟩
theorem lw_p16 : lw_okq (⟨"PondStair$Site", "widens", "(II)Z"⟩, 4) := ⟨lw_c3.1, lw_c3.2, tbm3 (i := 197) rfl, tbm3 (i := 198) rfl⟩
theorem lw_p17 : lw_okq (⟨"PondStair$Site", "leads", "(II)Z"⟩, 4) := ⟨lw_c3.1, lw_c3.2, tbm3 (i := 201) rfl, tbm3 (i := 202) rfl⟩
theorem lw_c4 : ("PondStair$Storm" ≠ "java/lang/invoke/MethodHandle" ∧ "PondStair$Storm" ≠ "java/lang/invoke/VarHandle") ∧ Cond.instantiable "PondStair$Storm" 7 ∈ tables_1 := ⟨⟨by decide +kernel, by decide +kernel⟩, tbm1 (i := 228) rfl⟩
theorem lw_p18 : lw_okq (⟨"PondStair$Storm", "hears", "(LPondStair$Hill;I)Z"⟩, 7) := ⟨lw_c4.1, lw_c4.2, tbm4 (i := 5) rfl, tbm4 (i := 6) rfl⟩
theorem lw_p19 : lw_okq (⟨"PondStair$Storm", "goes", "(LPondStair$Hill;II)Z"⟩, 7) := ⟨lw_c4.1, lw_c4.2, tbm4 (i := 16) rfl, tbm4 (i := 17) rfl⟩
theorem lw_p20 : lw_okq (⟨"PondStair$Storm", "leaving", "(LPondStair$Hill;IZ)I"⟩, 7) := ⟨lw_c4.1, lw_c4.2, tbm4 (i := 20) rfl, tbm4 (i := 21) rfl⟩
theorem lw_p21 : lw_okq (⟨"PondStair$Storm", "pass", "(LPondStair$Hill;I)V"⟩, 7) := ⟨lw_c4.1, lw_c4.2, tbm4 (i := 25) rfl, tbm4 (i := 26) rfl⟩
theorem lw_p22 : lw_okq (⟨"PondStair$Storm", "toldOfPond", "(II)I"⟩, 7) := ⟨lw_c4.1, lw_c4.2, tbm4 (i := 39) rfl, tbm4 (i := 40) rfl⟩
theorem lw_p23 : lw_okq (⟨"PondStair", "looks", "(II)Z"⟩, 10) := ⟨lw_c2.1, lw_c2.2, tbm4 (i := 47) rfl, tbm4 (i := 48) rfl⟩
theorem lw_c5 : ("PondStair$Odds" ≠ "java/lang/invoke/MethodHandle" ∧ "PondStair$Odds" ≠ "java/lang/invoke/VarHandle") ∧ Cond.instantiable "PondStair$Odds" 6 ∈ tables_1 := ⟨⟨by decide +kernel, by decide +kernel⟩, tbm2 (i := 27) rfl⟩
theorem lw_p24 : lw_okq (⟨"PondStair$Odds", "parts", "(II)J"⟩, 6) := ⟨lw_c5.1, lw_c5.2, tbm4 (i := 78) rfl, tbm4 (i := 79) rfl⟩
theorem lw_p25 : lw_okq (⟨"PondStair$Odds", "wentBy", "(II)I"⟩, 6) := ⟨lw_c5.1, lw_c5.2, tbm4 (i := 86) rfl, tbm4 (i := 87) rfl⟩
theorem lw_p26 : lw_okq (⟨"PondStair", "canMend", "(IIIII)Z"⟩, 10) := ⟨lw_c2.1, lw_c2.2, tbm4 (i := 133) rfl, tbm4 (i := 134) rfl⟩
theorem lw_c6 : ("PondStair$Choice" ≠ "java/lang/invoke/MethodHandle" ∧ "PondStair$Choice" ≠ "java/lang/invoke/VarHandle") ∧ Cond.instantiable "PondStair$Choice" 10 ∈ tables_1 := ⟨⟨by decide +kernel, by decide +kernel⟩, tbm2 (i := 21) rfl⟩
theorem lw_p27 : lw_okq (⟨"PondStair$Choice", "meanMended", "(I)J"⟩, 10) := ⟨lw_c6.1, lw_c6.2, tbm4 (i := 144) rfl, tbm4 (i := 145) rfl⟩
theorem lw_p28 : lw_okq (⟨"PondStair$Choice", "nextStep", "(LPondStair$Hill;III)I"⟩, 10) := ⟨lw_c6.1, lw_c6.2, tbm4 (i := 163) rfl, tbm4 (i := 164) rfl⟩
theorem lw_p29 : lw_okq (⟨"PondStair", "hasPond", "(III)Z"⟩, 10) := ⟨lw_c2.1, lw_c2.2, tbm4 (i := 200) rfl, tbm4 (i := 201) rfl⟩
theorem lw_p30 : lw_okq (⟨"PondStair", "canFill", "(III)Z"⟩, 10) := ⟨lw_c2.1, lw_c2.2, tbm4 (i := 231) rfl, tbm4 (i := 232) rfl⟩
theorem lw_p31 : lw_okq (⟨"PondStair$Choice", "mayOfTried", "()J"⟩, 10) := ⟨lw_c6.1, lw_c6.2, tbm5 (i := 4) rfl, tbm5 (i := 5) rfl⟩
def lw_privs_2 : List (MethodName × Nat) := [(⟨"PondStair$Site", "widens", "(II)Z"⟩, 4), (⟨"PondStair$Site", "leads", "(II)Z"⟩, 4), (⟨"PondStair$Storm", "hears", "(LPondStair$Hill;I)Z"⟩, 7), (⟨"PondStair$Storm", "goes", "(LPondStair$Hill;II)Z"⟩, 7), (⟨"PondStair$Storm", "leaving", "(LPondStair$Hill;IZ)I"⟩, 7), (⟨"PondStair$Storm", "pass", "(LPondStair$Hill;I)V"⟩, 7), (⟨"PondStair$Storm", "toldOfPond", "(II)I"⟩, 7), (⟨"PondStair", "looks", "(II)Z"⟩, 10), (⟨"PondStair$Odds", "parts", "(II)J"⟩, 6), (⟨"PondStair$Odds", "wentBy", "(II)I"⟩, 6), (⟨"PondStair", "canMend", "(IIIII)Z"⟩, 10), (⟨"PondStair$Choice", "meanMended", "(I)J"⟩, 10), (⟨"PondStair$Choice", "nextStep", "(LPondStair$Hill;III)I"⟩, 10), (⟨"PondStair", "hasPond", "(III)Z"⟩, 10), (⟨"PondStair", "canFill", "(III)Z"⟩, 10), (⟨"PondStair$Choice", "mayOfTried", "()J"⟩, 10)]
theorem lw_r2 : ∀ q ∈ lw_privs_2, lw_okq q := List.forall_mem_cons.mpr ⟨lw_p16, List.forall_mem_cons.mpr ⟨lw_p17, List.forall_mem_cons.mpr ⟨lw_p18, List.forall_mem_cons.mpr ⟨lw_p19, List.forall_mem_cons.mpr ⟨lw_p20, List.forall_mem_cons.mpr ⟨lw_p21, List.forall_mem_cons.mpr ⟨lw_p22, List.forall_mem_cons.mpr ⟨lw_p23, List.forall_mem_cons.mpr ⟨lw_p24, List.forall_mem_cons.mpr ⟨lw_p25, List.forall_mem_cons.mpr ⟨lw_p26, List.forall_mem_cons.mpr ⟨lw_p27, List.forall_mem_cons.mpr ⟨lw_p28, List.forall_mem_cons.mpr ⟨lw_p29, List.forall_mem_cons.mpr ⟨lw_p30, List.forall_mem_cons.mpr ⟨lw_p31, fun _ h => absurd h List.not_mem_nil⟩⟩⟩⟩⟩⟩⟩⟩⟩⟩⟩⟩⟩⟩⟩⟩
theorem lw_p32 : lw_okq (⟨"PondStair$Choice", "takeOrder", "(I)Z"⟩, 10) := ⟨lw_c6.1, lw_c6.2, tbm5 (i := 12) rfl, tbm5 (i := 13) rfl⟩
theorem lw_c7 : ("PondStair$Years" ≠ "java/lang/invoke/MethodHandle" ∧ "PondStair$Years" ≠ "java/lang/invoke/VarHandle") ∧ Cond.instantiable "PondStair$Years" 1 ∈ tables_1 := ⟨⟨by decide +kernel, by decide +kernel⟩, tbm5 (i := 59) rfl⟩
theorem lw_p33 : lw_okq (⟨"PondStair$Years", "drawRain", "(LPondStair$Hill;)I"⟩, 1) := ⟨lw_c7.1, lw_c7.2, tbm5 (i := 73) rfl, tbm5 (i := 74) rfl⟩
theorem lw_p34 : lw_okq (⟨"PondStair$Years", "draw", "(I)I"⟩, 1) := ⟨lw_c7.1, lw_c7.2, tbm5 (i := 77) rfl, tbm5 (i := 78) rfl⟩
theorem lw_p35 : lw_okq (⟨"PondStair$Years", "drawBanks", "(LPondStair$Hill;)I"⟩, 1) := ⟨lw_c7.1, lw_c7.2, tbm5 (i := 84) rfl, tbm5 (i := 85) rfl⟩
theorem lw_c8 : ("PondStairModel" ≠ "java/lang/invoke/MethodHandle" ∧ "PondStairModel" ≠ "java/lang/invoke/VarHandle") ∧ Cond.instantiable "PondStairModel" 43 ∈ tables_1 := ⟨⟨by decide +kernel, by decide +kernel⟩, tbm5 (i := 213) rfl⟩
theorem lw_p36 : lw_okq (⟨"PondStairModel", "four", "(I)V"⟩, 43) := ⟨lw_c8.1, lw_c8.2, tbm6 (i := 113) rfl, tbm6 (i := 114) rfl⟩
theorem lw_p37 : lw_okq (⟨"PondStairModel", "readText", "(I)Z"⟩, 43) := ⟨lw_c8.1, lw_c8.2, tbm6 (i := 128) rfl, tbm6 (i := 129) rfl⟩
theorem lw_p38 : lw_okq (⟨"PondStairModel", "token", "()V"⟩, 43) := ⟨lw_c8.1, lw_c8.2, tbm6 (i := 132) rfl, tbm6 (i := 133) rfl⟩
theorem lw_p39 : lw_okq (⟨"PondStairModel", "see", "()I"⟩, 43) := ⟨lw_c8.1, lw_c8.2, tbm6 (i := 136) rfl, tbm6 (i := 137) rfl⟩
theorem lw_p40 : lw_okq (⟨"PondStairModel", "hillLine", "(I)Z"⟩, 43) := ⟨lw_c8.1, lw_c8.2, tbm6 (i := 140) rfl, tbm6 (i := 141) rfl⟩
theorem lw_p41 : lw_okq (⟨"PondStairModel", "stops", "()Z"⟩, 43) := ⟨lw_c8.1, lw_c8.2, tbm6 (i := 159) rfl, tbm6 (i := 160) rfl⟩
theorem lw_p42 : lw_okq (⟨"PondStairModel", "pondLine", "(I)Z"⟩, 43) := ⟨lw_c8.1, lw_c8.2, tbm6 (i := 163) rfl, tbm6 (i := 164) rfl⟩
theorem lw_p43 : lw_okq (⟨"PondStairModel", "later", "(II)V"⟩, 43) := ⟨lw_c8.1, lw_c8.2, tbm6 (i := 167) rfl, tbm6 (i := 168) rfl⟩
theorem lw_p44 : lw_okq (⟨"PondStairModel", "take", "(III)Z"⟩, 43) := ⟨lw_c8.1, lw_c8.2, tbm6 (i := 171) rfl, tbm6 (i := 172) rfl⟩
theorem lw_p45 : lw_okq (⟨"PondStairModel", "number", "(II)Z"⟩, 43) := ⟨lw_c8.1, lw_c8.2, tbm6 (i := 175) rfl, tbm6 (i := 176) rfl⟩
theorem lw_p46 : lw_okq (⟨"PondStairModel", "rainLine", "(I)Z"⟩, 43) := ⟨lw_c8.1, lw_c8.2, tbm6 (i := 179) rfl, tbm6 (i := 180) rfl⟩
theorem lw_p47 : lw_okq (⟨"PondStairModel", "daysLine", "(I)Z"⟩, 43) := ⟨lw_c8.1, lw_c8.2, tbm6 (i := 183) rfl, tbm6 (i := 184) rfl⟩
def lw_privs_3 : List (MethodName × Nat) := [(⟨"PondStair$Choice", "takeOrder", "(I)Z"⟩, 10), (⟨"PondStair$Years", "drawRain", "(LPondStair$Hill;)I"⟩, 1), (⟨"PondStair$Years", "draw", "(I)I"⟩, 1), (⟨"PondStair$Years", "drawBanks", "(LPondStair$Hill;)I"⟩, 1), (⟨"PondStairModel", "four", "(I)V"⟩, 43), (⟨"PondStairModel", "readText", "(I)Z"⟩, 43), (⟨"PondStairModel", "token", "()V"⟩, 43), (⟨"PondStairModel", "see", "()I"⟩, 43), (⟨"PondStairModel", "hillLine", "(I)Z"⟩, 43), (⟨"PondStairModel", "stops", "()Z"⟩, 43), (⟨"PondStairModel", "pondLine", "(I)Z"⟩, 43), (⟨"PondStairModel", "later", "(II)V"⟩, 43), (⟨"PondStairModel", "take", "(III)Z"⟩, 43), (⟨"PondStairModel", "number", "(II)Z"⟩, 43), (⟨"PondStairModel", "rainLine", "(I)Z"⟩, 43), (⟨"PondStairModel", "daysLine", "(I)Z"⟩, 43)]
theorem lw_r3 : ∀ q ∈ lw_privs_3, lw_okq q := List.forall_mem_cons.mpr ⟨lw_p32, List.forall_mem_cons.mpr ⟨lw_p33, List.forall_mem_cons.mpr ⟨lw_p34, List.forall_mem_cons.mpr ⟨lw_p35, List.forall_mem_cons.mpr ⟨lw_p36, List.forall_mem_cons.mpr ⟨lw_p37, List.forall_mem_cons.mpr ⟨lw_p38, List.forall_mem_cons.mpr ⟨lw_p39, List.forall_mem_cons.mpr ⟨lw_p40, List.forall_mem_cons.mpr ⟨lw_p41, List.forall_mem_cons.mpr ⟨lw_p42, List.forall_mem_cons.mpr ⟨lw_p43, List.forall_mem_cons.mpr ⟨lw_p44, List.forall_mem_cons.mpr ⟨lw_p45, List.forall_mem_cons.mpr ⟨lw_p46, List.forall_mem_cons.mpr ⟨lw_p47, fun _ h => absurd h List.not_mem_nil⟩⟩⟩⟩⟩⟩⟩⟩⟩⟩⟩⟩⟩⟩⟩⟩
theorem lw_p48 : lw_okq (⟨"PondStairModel", "ofPond", "(IIIII)Z"⟩, 43) := ⟨lw_c8.1, lw_c8.2, tbm6 (i := 187) rfl, tbm6 (i := 188) rfl⟩
theorem lw_p49 : lw_okq (⟨"PondStairModel", "workLine", "(I)Z"⟩, 43) := ⟨lw_c8.1, lw_c8.2, tbm6 (i := 191) rfl, tbm6 (i := 192) rfl⟩
theorem lw_p50 : lw_okq (⟨"PondStairModel", "endsHill", "()V"⟩, 43) := ⟨lw_c8.1, lw_c8.2, tbm6 (i := 198) rfl, tbm6 (i := 199) rfl⟩
theorem lw_p51 : lw_okq (⟨"PondStairModel", "isHill", "(I)Z"⟩, 43) := ⟨lw_c8.1, lw_c8.2, tbm6 (i := 210) rfl, tbm6 (i := 211) rfl⟩
theorem lw_p52 : lw_okq (⟨"PondStairModel", "lay", "(II)Z"⟩, 43) := ⟨lw_c8.1, lw_c8.2, tbm6 (i := 218) rfl, tbm6 (i := 219) rfl⟩
theorem lw_p53 : lw_okq (⟨"PondStairModel", "isPlan", "(I)Z"⟩, 43) := ⟨lw_c8.1, lw_c8.2, tbm6 (i := 222) rfl, tbm6 (i := 223) rfl⟩
theorem lw_p54 : lw_okq (⟨"PondStairModel", "does", "(III)Z"⟩, 43) := ⟨lw_c8.1, lw_c8.2, tbm6 (i := 226) rfl, tbm6 (i := 227) rfl⟩
theorem lw_p55 : lw_okq (⟨"PondStairModel", "of", "(II)I"⟩, 43) := ⟨lw_c8.1, lw_c8.2, tbm6 (i := 230) rfl, tbm6 (i := 231) rfl⟩
theorem lw_p56 : lw_okq (⟨"PondStairModel", "set", "(III)V"⟩, 43) := ⟨lw_c8.1, lw_c8.2, tbm6 (i := 234) rfl, tbm6 (i := 235) rfl⟩
theorem lw_p57 : lw_okq (⟨"PondStairModel", "isPond", "(I)Z"⟩, 43) := ⟨lw_c8.1, lw_c8.2, tbm6 (i := 238) rfl, tbm6 (i := 239) rfl⟩
theorem lw_p58 : lw_okq (⟨"PondStairModel", "isRain", "(I)Z"⟩, 43) := ⟨lw_c8.1, lw_c8.2, tbm7 (i := 14) rfl, tbm7 (i := 15) rfl⟩
theorem lw_p59 : lw_okq (⟨"PondStairModel", "arePonds", "(I)Z"⟩, 43) := ⟨lw_c8.1, lw_c8.2, tbm7 (i := 18) rfl, tbm7 (i := 19) rfl⟩
theorem lw_p60 : lw_okq (⟨"PondStairModel", "stepsOf", "(I)I"⟩, 43) := ⟨lw_c8.1, lw_c8.2, tbm7 (i := 22) rfl, tbm7 (i := 23) rfl⟩
theorem lw_p61 : lw_okq (⟨"PondStairModel", "blow", "(II)V"⟩, 43) := ⟨lw_c8.1, lw_c8.2, tbm7 (i := 26) rfl, tbm7 (i := 27) rfl⟩
theorem lw_p62 : lw_okq (⟨"PondStairModel", "pass", "(IIZ)V"⟩, 43) := ⟨lw_c8.1, lw_c8.2, tbm7 (i := 33) rfl, tbm7 (i := 34) rfl⟩
theorem lw_p63 : lw_okq (⟨"PondStairModel", "hears", "(I)Z"⟩, 43) := ⟨lw_c8.1, lw_c8.2, tbm7 (i := 37) rfl, tbm7 (i := 38) rfl⟩
def lw_privs_4 : List (MethodName × Nat) := [(⟨"PondStairModel", "ofPond", "(IIIII)Z"⟩, 43), (⟨"PondStairModel", "workLine", "(I)Z"⟩, 43), (⟨"PondStairModel", "endsHill", "()V"⟩, 43), (⟨"PondStairModel", "isHill", "(I)Z"⟩, 43), (⟨"PondStairModel", "lay", "(II)Z"⟩, 43), (⟨"PondStairModel", "isPlan", "(I)Z"⟩, 43), (⟨"PondStairModel", "does", "(III)Z"⟩, 43), (⟨"PondStairModel", "of", "(II)I"⟩, 43), (⟨"PondStairModel", "set", "(III)V"⟩, 43), (⟨"PondStairModel", "isPond", "(I)Z"⟩, 43), (⟨"PondStairModel", "isRain", "(I)Z"⟩, 43), (⟨"PondStairModel", "arePonds", "(I)Z"⟩, 43), (⟨"PondStairModel", "stepsOf", "(I)I"⟩, 43), (⟨"PondStairModel", "blow", "(II)V"⟩, 43), (⟨"PondStairModel", "pass", "(IIZ)V"⟩, 43), (⟨"PondStairModel", "hears", "(I)Z"⟩, 43)]
theorem lw_r4 : ∀ q ∈ lw_privs_4, lw_okq q := List.forall_mem_cons.mpr ⟨lw_p48, List.forall_mem_cons.mpr ⟨lw_p49, List.forall_mem_cons.mpr ⟨lw_p50, List.forall_mem_cons.mpr ⟨lw_p51, List.forall_mem_cons.mpr ⟨lw_p52, List.forall_mem_cons.mpr ⟨lw_p53, List.forall_mem_cons.mpr ⟨lw_p54, List.forall_mem_cons.mpr ⟨lw_p55, List.forall_mem_cons.mpr ⟨lw_p56, List.forall_mem_cons.mpr ⟨lw_p57, List.forall_mem_cons.mpr ⟨lw_p58, List.forall_mem_cons.mpr ⟨lw_p59, List.forall_mem_cons.mpr ⟨lw_p60, List.forall_mem_cons.mpr ⟨lw_p61, List.forall_mem_cons.mpr ⟨lw_p62, List.forall_mem_cons.mpr ⟨lw_p63, fun _ h => absurd h List.not_mem_nil⟩⟩⟩⟩⟩⟩⟩⟩⟩⟩⟩⟩⟩⟩⟩⟩
theorem lw_p64 : lw_okq (⟨"PondStairModel", "told", "(I)I"⟩, 43) := ⟨lw_c8.1, lw_c8.2, tbm7 (i := 41) rfl, tbm7 (i := 42) rfl⟩
theorem lw_p65 : lw_okq (⟨"PondStairModel", "harmOf", "(I)I"⟩, 43) := ⟨lw_c8.1, lw_c8.2, tbm7 (i := 45) rfl, tbm7 (i := 46) rfl⟩
theorem lw_p66 : lw_okq (⟨"PondStairModel", "partsOf", "(II)J"⟩, 43) := ⟨lw_c8.1, lw_c8.2, tbm7 (i := 54) rfl, tbm7 (i := 55) rfl⟩
theorem lw_p67 : lw_okq (⟨"PondStairModel", "allParts", "()J"⟩, 43) := ⟨lw_c8.1, lw_c8.2, tbm7 (i := 58) rfl, tbm7 (i := 59) rfl⟩
theorem lw_p68 : lw_okq (⟨"PondStairModel", "meanBy", "(I)J"⟩, 43) := ⟨lw_c8.1, lw_c8.2, tbm7 (i := 71) rfl, tbm7 (i := 72) rfl⟩
theorem lw_p69 : lw_okq (⟨"PondStairModel", "canMend", "(IIII)Z"⟩, 43) := ⟨lw_c8.1, lw_c8.2, tbm7 (i := 90) rfl, tbm7 (i := 91) rfl⟩
theorem lw_p70 : lw_okq (⟨"PondStairModel", "keepChances", "()V"⟩, 43) := ⟨lw_c8.1, lw_c8.2, tbm7 (i := 94) rfl, tbm7 (i := 95) rfl⟩
theorem lw_p71 : lw_okq (⟨"PondStairModel", "costOf", "(I)I"⟩, 43) := ⟨lw_c8.1, lw_c8.2, tbm7 (i := 98) rfl, tbm7 (i := 99) rfl⟩
theorem lw_p72 : lw_okq (⟨"PondStairModel", "meanMended", "(II)J"⟩, 43) := ⟨lw_c8.1, lw_c8.2, tbm7 (i := 102) rfl, tbm7 (i := 103) rfl⟩
theorem lw_p73 : lw_okq (⟨"PondStairModel", "mendAll", "(I)V"⟩, 43) := ⟨lw_c8.1, lw_c8.2, tbm7 (i := 106) rfl, tbm7 (i := 107) rfl⟩
theorem lw_p74 : lw_okq (⟨"PondStairModel", "nextOf", "(III)I"⟩, 43) := ⟨lw_c8.1, lw_c8.2, tbm7 (i := 114) rfl, tbm7 (i := 115) rfl⟩
theorem lw_p75 : lw_okq (⟨"PondStairModel", "pondsOf", "(I)I"⟩, 43) := ⟨lw_c8.1, lw_c8.2, tbm7 (i := 137) rfl, tbm7 (i := 138) rfl⟩
theorem lw_p76 : lw_okq (⟨"PondStairModel", "isFilled", "(III)Z"⟩, 43) := ⟨lw_c8.1, lw_c8.2, tbm7 (i := 154) rfl, tbm7 (i := 155) rfl⟩
theorem lw_p77 : lw_okq (⟨"PondStairModel", "findOrder", "(I)V"⟩, 43) := ⟨lw_c8.1, lw_c8.2, tbm7 (i := 158) rfl, tbm7 (i := 159) rfl⟩
theorem lw_p78 : lw_okq (⟨"PondStairModel", "fillAll", "(I)J"⟩, 43) := ⟨lw_c8.1, lw_c8.2, tbm7 (i := 162) rfl, tbm7 (i := 163) rfl⟩
theorem lw_p79 : lw_okq (⟨"PondStairModel", "seenBy", "(I)I"⟩, 43) := ⟨lw_c8.1, lw_c8.2, tbm7 (i := 174) rfl, tbm7 (i := 175) rfl⟩
def lw_privs_5 : List (MethodName × Nat) := [(⟨"PondStairModel", "told", "(I)I"⟩, 43), (⟨"PondStairModel", "harmOf", "(I)I"⟩, 43), (⟨"PondStairModel", "partsOf", "(II)J"⟩, 43), (⟨"PondStairModel", "allParts", "()J"⟩, 43), (⟨"PondStairModel", "meanBy", "(I)J"⟩, 43), (⟨"PondStairModel", "canMend", "(IIII)Z"⟩, 43), (⟨"PondStairModel", "keepChances", "()V"⟩, 43), (⟨"PondStairModel", "costOf", "(I)I"⟩, 43), (⟨"PondStairModel", "meanMended", "(II)J"⟩, 43), (⟨"PondStairModel", "mendAll", "(I)V"⟩, 43), (⟨"PondStairModel", "nextOf", "(III)I"⟩, 43), (⟨"PondStairModel", "pondsOf", "(I)I"⟩, 43), (⟨"PondStairModel", "isFilled", "(III)Z"⟩, 43), (⟨"PondStairModel", "findOrder", "(I)V"⟩, 43), (⟨"PondStairModel", "fillAll", "(I)J"⟩, 43), (⟨"PondStairModel", "seenBy", "(I)I"⟩, 43)]
theorem lw_r5 : ∀ q ∈ lw_privs_5, lw_okq q := List.forall_mem_cons.mpr ⟨lw_p64, List.forall_mem_cons.mpr ⟨lw_p65, List.forall_mem_cons.mpr ⟨lw_p66, List.forall_mem_cons.mpr ⟨lw_p67, List.forall_mem_cons.mpr ⟨lw_p68, List.forall_mem_cons.mpr ⟨lw_p69, List.forall_mem_cons.mpr ⟨lw_p70, List.forall_mem_cons.mpr ⟨lw_p71, List.forall_mem_cons.mpr ⟨lw_p72, List.forall_mem_cons.mpr ⟨lw_p73, List.forall_mem_cons.mpr ⟨lw_p74, List.forall_mem_cons.mpr ⟨lw_p75, List.forall_mem_cons.mpr ⟨lw_p76, List.forall_mem_cons.mpr ⟨lw_p77, List.forall_mem_cons.mpr ⟨lw_p78, List.forall_mem_cons.mpr ⟨lw_p79, fun _ h => absurd h List.not_mem_nil⟩⟩⟩⟩⟩⟩⟩⟩⟩⟩⟩⟩⟩⟩⟩⟩
theorem lw_p80 : lw_okq (⟨"PondStairModel", "seenAll", "(I)I"⟩, 43) := ⟨lw_c8.1, lw_c8.2, tbm7 (i := 178) rfl, tbm7 (i := 179) rfl⟩
theorem lw_p81 : lw_okq (⟨"PondStairModel", "year", "()V"⟩, 43) := ⟨lw_c8.1, lw_c8.2, tbm7 (i := 193) rfl, tbm7 (i := 194) rfl⟩
theorem lw_p82 : lw_okq (⟨"PondStairModel", "draw", "(I)I"⟩, 43) := ⟨lw_c8.1, lw_c8.2, tbm7 (i := 197) rfl, tbm7 (i := 198) rfl⟩
theorem lw_p83 : lw_okq (⟨"PondStairModel", "leads", "(II)Z"⟩, 43) := ⟨lw_c8.1, lw_c8.2, tbm7 (i := 222) rfl, tbm7 (i := 223) rfl⟩
theorem lw_p84 : lw_okq (⟨"PondStairModel", "together", "(I)J"⟩, 43) := ⟨lw_c8.1, lw_c8.2, tbm7 (i := 234) rfl, tbm7 (i := 235) rfl⟩
theorem lw_p85 : lw_okq (⟨"PondStairModel", "copy", "(II)V"⟩, 43) := ⟨lw_c8.1, lw_c8.2, tbm8 (i := 37) rfl, tbm8 (i := 38) rfl⟩
def lw_privs_6 : List (MethodName × Nat) := [(⟨"PondStairModel", "seenAll", "(I)I"⟩, 43), (⟨"PondStairModel", "year", "()V"⟩, 43), (⟨"PondStairModel", "draw", "(I)I"⟩, 43), (⟨"PondStairModel", "leads", "(II)Z"⟩, 43), (⟨"PondStairModel", "together", "(I)J"⟩, 43), (⟨"PondStairModel", "copy", "(II)V"⟩, 43)]
theorem lw_r6 : ∀ q ∈ lw_privs_6, lw_okq q := List.forall_mem_cons.mpr ⟨lw_p80, List.forall_mem_cons.mpr ⟨lw_p81, List.forall_mem_cons.mpr ⟨lw_p82, List.forall_mem_cons.mpr ⟨lw_p83, List.forall_mem_cons.mpr ⟨lw_p84, List.forall_mem_cons.mpr ⟨lw_p85, fun _ h => absurd h List.not_mem_nil⟩⟩⟩⟩⟩⟩
def lw_privs : List (MethodName × Nat) := lw_privs_1 ++ (lw_privs_2 ++ (lw_privs_3 ++ (lw_privs_4 ++ (lw_privs_5 ++ (lw_privs_6)))))
def lw_tbl : List Cond := k2_sels lw_privs ++ tables_1
theorem lw_privs_ok : ∀ q ∈ lw_privs, lw_okq q := by
  show ∀ q ∈ lw_privs_1 ++ (lw_privs_2 ++ (lw_privs_3 ++ (lw_privs_4 ++ (lw_privs_5 ++ (lw_privs_6))))), lw_okq q
  exact List.forall_mem_append.mpr ⟨lw_r1, List.forall_mem_append.mpr ⟨lw_r2, List.forall_mem_append.mpr ⟨lw_r3, List.forall_mem_append.mpr ⟨lw_r4, List.forall_mem_append.mpr ⟨lw_r5, lw_r6⟩⟩⟩⟩⟩
