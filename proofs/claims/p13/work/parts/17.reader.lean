theorem k553 : Cond.methodLink RX6 51 yJ0_length_8abf5 ∈ gt := gt_t2 (i := 227) rfl rfl
theorem k554 : Cond.instanceMethod yJ0_length_8abf5 ∈ gt := gt_t2 (i := 228) rfl rfl
theorem k555 : Cond.selects RJ0 yJ0_length_8abf5 yJ0_length_8abf5 ∈ gt := gt_t2 (i := 229) rfl rfl
theorem k556 : Cond.code yJ0_length_8abf5 cJ0_length_8abf5 1 (some .int) ∈ gt := gt_t2 (i := 230) rfl rfl
theorem np_J0_length_8abf5 : yJ0_length_8abf5.cls ≠ "java/lang/invoke/MethodHandle" ∧ yJ0_length_8abf5.cls ≠ "java/lang/invoke/VarHandle" ∧ (parseMethodDescriptor yJ0_length_8abf5.desc).map (fun d => d.parameters.length) = some 0 := by decide +kernel
theorem k563 : Cond.methodLink RX6 56 yJ0_charAt_5068e ∈ gt := gt_t2 (i := 237) rfl rfl
theorem k564 : Cond.instanceMethod yJ0_charAt_5068e ∈ gt := gt_t2 (i := 238) rfl rfl
theorem k565 : Cond.selects RJ0 yJ0_charAt_5068e yJ0_charAt_5068e ∈ gt := gt_t2 (i := 239) rfl rfl
theorem k566 : Cond.code yJ0_charAt_5068e cJ0_charAt_5068e 2 (some .char) ∈ gt := gt_t3 (i := 0) rfl rfl
theorem np_J0_charAt_5068e : yJ0_charAt_5068e.cls ≠ "java/lang/invoke/MethodHandle" ∧ yJ0_charAt_5068e.cls ≠ "java/lang/invoke/VarHandle" ∧ (parseMethodDescriptor yJ0_charAt_5068e.desc).map (fun d => d.parameters.length) = some 1 := by decide +kernel
theorem k543 : Cond.methodLink RX3 113 yX3_planWord ∈ gt := gt_t2 (i := 217) rfl rfl
theorem k544 : Cond.static yX3_planWord ∈ gt := gt_t2 (i := 218) rfl rfl
theorem k545 : Cond.code yX3_planWord cX3_planWord 1 (some (.object "java/lang/String")) ∈ gt := gt_t2 (i := 219) rfl rfl
theorem np_X3_planWord : yX3_planWord.cls ≠ "java/lang/invoke/MethodHandle" ∧ yX3_planWord.cls ≠ "java/lang/invoke/VarHandle" ∧ (parseMethodDescriptor yX3_planWord.desc).map (fun d => d.parameters.length) = some 1 := by decide +kernel
theorem k549 : Cond.methodLink RX3 116 yX6_isWord ∈ gt := gt_t2 (i := 223) rfl rfl
theorem k550 : Cond.instanceMethod yX6_isWord ∈ gt := gt_t2 (i := 224) rfl rfl
theorem k551 : Cond.selects RX6 yX6_isWord yX6_isWord ∈ gt := gt_t2 (i := 225) rfl rfl
theorem k552 : Cond.code yX6_isWord cX6_isWord 3 (some .boolean) ∈ gt := gt_t2 (i := 226) rfl rfl
theorem np_X6_isWord : yX6_isWord.cls ≠ "java/lang/invoke/MethodHandle" ∧ yX6_isWord.cls ≠ "java/lang/invoke/VarHandle" ∧ (parseMethodDescriptor yX6_isWord.desc).map (fun d => d.parameters.length) = some 1 := by decide +kernel
theorem k525 : Cond.methodLink RX3 109 yX3_hillWord ∈ gt := gt_t2 (i := 199) rfl rfl
theorem k526 : Cond.static yX3_hillWord ∈ gt := gt_t2 (i := 200) rfl rfl
theorem k527 : Cond.code yX3_hillWord cX3_hillWord 1 (some (.object "java/lang/String")) ∈ gt := gt_t2 (i := 201) rfl rfl
theorem np_X3_hillWord : yX3_hillWord.cls ≠ "java/lang/invoke/MethodHandle" ∧ yX3_hillWord.cls ≠ "java/lang/invoke/VarHandle" ∧ (parseMethodDescriptor yX3_hillWord.desc).map (fun d => d.parameters.length) = some 1 := by decide +kernel
theorem k239 : Cond.fieldLinkNest RX3 89 "PondStair$Tokens" "start" "I" "PondStair" ∈ nt := nt_t1 (i := 153) rfl rfl
theorem k140 : Cond.fieldLinkNest RX3 61 "PondStair$Hill" "rains" "I" "PondStair" ∈ nt := nt_t1 (i := 54) rfl rfl
theorem k135 : Cond.fieldLinkNest RX3 174 "PondStair$Hill" "ponds" "I" "PondStair" ∈ nt := nt_t1 (i := 49) rfl rfl
theorem k625 : Cond.fieldLink RX3 177 "PondStair$Reader" "HILL_MOST" "[I" ∈ gt := gt_t3 (i := 59) rfl rfl
theorem k631 : Cond.fieldLink RX3 180 "PondStair$Reader" "PLAN_LEAST" "[I" ∈ gt := gt_t3 (i := 65) rfl rfl
theorem k633 : Cond.fieldLink RX3 183 "PondStair$Reader" "PLAN_MOST" "[I" ∈ gt := gt_t3 (i := 67) rfl rfl
theorem k657 : Cond.fieldLink RX3 192 "PondStair$Reader" "HILL_COLUMN" "[I" ∈ gt := gt_t3 (i := 91) rfl rfl
theorem k659 : Cond.methodLink RX3 195 yX1_put ∈ gt := gt_t3 (i := 93) rfl rfl
theorem k147 : Cond.fieldLinkNest RX3 189 "PondStair$Hill" "days" "[I" "PondStair" ∈ nt := nt_t1 (i := 61) rfl rfl
theorem k653 : Cond.methodLink RX3 64 yX1_addRain ∈ gt := gt_t3 (i := 87) rfl rfl
theorem k639 : Cond.methodLink RX3 186 yX1_addPond ∈ gt := gt_t3 (i := 73) rfl rfl
theorem k640 : Cond.instanceMethod yX1_addPond ∈ gt := gt_t3 (i := 74) rfl rfl
theorem k641 : Cond.selects RX1 yX1_addPond yX1_addPond ∈ gt := gt_t3 (i := 75) rfl rfl
theorem k642 : Cond.code yX1_addPond cX1_addPond 5 (some .boolean) ∈ gt := gt_t3 (i := 76) rfl rfl
theorem np_X1_addPond : yX1_addPond.cls ≠ "java/lang/invoke/MethodHandle" ∧ yX1_addPond.cls ≠ "java/lang/invoke/VarHandle" ∧ (parseMethodDescriptor yX1_addPond.desc).map (fun d => d.parameters.length) = some 3 := by decide +kernel
theorem k170 : Cond.fieldLinkNest RX3 159 "PondStair$Works" "works" "I" "PondStair" ∈ nt := nt_t1 (i := 84) rfl rfl
theorem k617 : Cond.methodLink RX3 75 yX3_remember ∈ gt := gt_t3 (i := 51) rfl rfl
theorem k619 : Cond.instanceMethod yX3_remember ∈ gt := gt_t3 (i := 53) rfl rfl
theorem k7 : Cond.selects RX3 yX3_remember yX3_remember ∈ gt := gt_in 7 (by decide +kernel) (by decide +kernel)
theorem k620 : Cond.code yX3_remember cX3_remember 3 none ∈ gt := gt_t3 (i := 54) rfl rfl
theorem np_X3_remember : yX3_remember.cls ≠ "java/lang/invoke/MethodHandle" ∧ yX3_remember.cls ≠ "java/lang/invoke/VarHandle" ∧ (parseMethodDescriptor yX3_remember.desc).map (fun d => d.parameters.length) = some 2 := by decide +kernel
theorem k613 : Cond.methodLink RX3 156 yX3_isFull ∈ gt := gt_t3 (i := 47) rfl rfl
theorem k615 : Cond.instanceMethod yX3_isFull ∈ gt := gt_t3 (i := 49) rfl rfl
theorem k6 : Cond.selects RX3 yX3_isFull yX3_isFull ∈ gt := gt_in 6 (by decide +kernel) (by decide +kernel)
theorem k616 : Cond.code yX3_isFull cX3_isFull 2 (some .boolean) ∈ gt := gt_t3 (i := 50) rfl rfl
theorem np_X3_isFull : yX3_isFull.cls ≠ "java/lang/invoke/MethodHandle" ∧ yX3_isFull.cls ≠ "java/lang/invoke/VarHandle" ∧ (parseMethodDescriptor yX3_isFull.desc).map (fun d => d.parameters.length) = some 1 := by decide +kernel
theorem k627 : Cond.methodLink RX3 164 yX3_canBeInPlan ∈ gt := gt_t3 (i := 61) rfl rfl
theorem k629 : Cond.instanceMethod yX3_canBeInPlan ∈ gt := gt_t3 (i := 63) rfl rfl
theorem k9 : Cond.selects RX3 yX3_canBeInPlan yX3_canBeInPlan ∈ gt := gt_in 9 (by decide +kernel) (by decide +kernel)
theorem k630 : Cond.code yX3_canBeInPlan cX3_canBeInPlan 4 (some .boolean) ∈ gt := gt_t3 (i := 64) rfl rfl
theorem np_X3_canBeInPlan : yX3_canBeInPlan.cls ≠ "java/lang/invoke/MethodHandle" ∧ yX3_canBeInPlan.cls ≠ "java/lang/invoke/VarHandle" ∧ (parseMethodDescriptor yX3_canBeInPlan.desc).map (fun d => d.parameters.length) = some 2 := by decide +kernel
theorem k621 : Cond.methodLink RX3 161 yX3_canBeInHill ∈ gt := gt_t3 (i := 55) rfl rfl
theorem k623 : Cond.instanceMethod yX3_canBeInHill ∈ gt := gt_t3 (i := 57) rfl rfl
theorem k8 : Cond.selects RX3 yX3_canBeInHill yX3_canBeInHill ∈ gt := gt_in 8 (by decide +kernel) (by decide +kernel)
theorem k624 : Cond.code yX3_canBeInHill cX3_canBeInHill 4 (some .boolean) ∈ gt := gt_t3 (i := 58) rfl rfl
theorem np_X3_canBeInHill : yX3_canBeInHill.cls ≠ "java/lang/invoke/MethodHandle" ∧ yX3_canBeInHill.cls ≠ "java/lang/invoke/VarHandle" ∧ (parseMethodDescriptor yX3_canBeInHill.desc).map (fun d => d.parameters.length) = some 2 := by decide +kernel
theorem k660 : Cond.methodLink RX3 170 yX8_add ∈ gt := gt_t3 (i := 94) rfl rfl
theorem k661 : Cond.instanceMethod yX8_add ∈ gt := gt_t3 (i := 95) rfl rfl
theorem k662 : Cond.selects RX8 yX8_add yX8_add ∈ gt := gt_t3 (i := 96) rfl rfl
theorem k663 : Cond.code yX8_add cX8_add 4 (some .boolean) ∈ gt := gt_t3 (i := 97) rfl rfl
theorem np_X8_add : yX8_add.cls ≠ "java/lang/invoke/MethodHandle" ∧ yX8_add.cls ≠ "java/lang/invoke/VarHandle" ∧ (parseMethodDescriptor yX8_add.desc).map (fun d => d.parameters.length) = some 3 := by decide +kernel
theorem k635 : Cond.methodLink RX3 167 yX3_takeForHill ∈ gt := gt_t3 (i := 69) rfl rfl
theorem k637 : Cond.instanceMethod yX3_takeForHill ∈ gt := gt_t3 (i := 71) rfl rfl
theorem k10 : Cond.selects RX3 yX3_takeForHill yX3_takeForHill ∈ gt := gt_in 10 (by decide +kernel) (by decide +kernel)
theorem k638 : Cond.code yX3_takeForHill cX3_takeForHill 3 none ∈ gt := gt_t3 (i := 72) rfl rfl
theorem np_X3_takeForHill : yX3_takeForHill.cls ≠ "java/lang/invoke/MethodHandle" ∧ yX3_takeForHill.cls ≠ "java/lang/invoke/VarHandle" ∧ (parseMethodDescriptor yX3_takeForHill.desc).map (fun d => d.parameters.length) = some 2 := by decide +kernel
theorem k500 : Cond.methodLink RX3 79 yX6_advance ∈ gt := gt_t2 (i := 174) rfl rfl
theorem k501 : Cond.instanceMethod yX6_advance ∈ gt := gt_t2 (i := 175) rfl rfl
theorem k502 : Cond.selects RX6 yX6_advance yX6_advance ∈ gt := gt_t2 (i := 176) rfl rfl
theorem k503 : Cond.code yX6_advance cX6_advance 1 none ∈ gt := gt_t2 (i := 177) rfl rfl
theorem np_X6_advance : yX6_advance.cls ≠ "java/lang/invoke/MethodHandle" ∧ yX6_advance.cls ≠ "java/lang/invoke/VarHandle" ∧ (parseMethodDescriptor yX6_advance.desc).map (fun d => d.parameters.length) = some 0 := by decide +kernel
theorem k237 : Cond.fieldLinkNest RX3 82 "PondStair$Tokens" "kind" "I" "PondStair" ∈ nt := nt_t1 (i := 151) rfl rfl
theorem k521 : Cond.methodLink RX3 85 yX3_lineOf ∈ gt := gt_t2 (i := 195) rfl rfl
theorem k523 : Cond.instanceMethod yX3_lineOf ∈ gt := gt_t2 (i := 197) rfl rfl
theorem k3 : Cond.selects RX3 yX3_lineOf yX3_lineOf ∈ gt := gt_in 3 (by decide +kernel) (by decide +kernel)
theorem k524 : Cond.code yX3_lineOf cX3_lineOf 4 (some .int) ∈ gt := gt_t2 (i := 198) rfl rfl
theorem np_X3_lineOf : yX3_lineOf.cls ≠ "java/lang/invoke/MethodHandle" ∧ yX3_lineOf.cls ≠ "java/lang/invoke/VarHandle" ∧ (parseMethodDescriptor yX3_lineOf.desc).map (fun d => d.parameters.length) = some 1 := by decide +kernel
theorem k607 : Cond.fieldLink RX3 99 "PondStair$Reader" "PLAN_COUNT" "[I" ∈ gt := gt_t3 (i := 41) rfl rfl
theorem k609 : Cond.methodLink RX3 105 yX3_take ∈ gt := gt_t3 (i := 43) rfl rfl
theorem k611 : Cond.instanceMethod yX3_take ∈ gt := gt_t3 (i := 45) rfl rfl
theorem k5 : Cond.selects RX3 yX3_take yX3_take ∈ gt := gt_in 5 (by decide +kernel) (by decide +kernel)
theorem k612 : Cond.code yX3_take cX3_take 6 none ∈ gt := gt_t3 (i := 46) rfl rfl
theorem np_X3_take : yX3_take.cls ≠ "java/lang/invoke/MethodHandle" ∧ yX3_take.cls ≠ "java/lang/invoke/VarHandle" ∧ (parseMethodDescriptor yX3_take.desc).map (fun d => d.parameters.length) = some 4 := by decide +kernel
theorem k601 : Cond.methodLink RX3 92 yX3_breaksOff ∈ gt := gt_t3 (i := 35) rfl rfl
theorem k603 : Cond.instanceMethod yX3_breaksOff ∈ gt := gt_t3 (i := 37) rfl rfl
theorem k4 : Cond.selects RX3 yX3_breaksOff yX3_breaksOff ∈ gt := gt_in 4 (by decide +kernel) (by decide +kernel)
theorem k604 : Cond.code yX3_breaksOff cX3_breaksOff 1 (some .boolean) ∈ gt := gt_t3 (i := 38) rfl rfl
theorem np_X3_breaksOff : yX3_breaksOff.cls ≠ "java/lang/invoke/MethodHandle" ∧ yX3_breaksOff.cls ≠ "java/lang/invoke/VarHandle" ∧ (parseMethodDescriptor yX3_breaksOff.desc).map (fun d => d.parameters.length) = some 0 := by decide +kernel
theorem k241 : Cond.fieldLinkNest RX3 102 "PondStair$Tokens" "value" "I" "PondStair" ∈ nt := nt_t1 (i := 155) rfl rfl
theorem k605 : Cond.fieldLink RX3 96 "PondStair$Reader" "HILL_COUNT" "[I" ∈ gt := gt_t3 (i := 39) rfl rfl
theorem k668 : Cond.methodLink RX3 68 yX1_chancesTogether ∈ gt := gt_t3 (i := 102) rfl rfl
theorem k669 : Cond.instanceMethod yX1_chancesTogether ∈ gt := gt_t3 (i := 103) rfl rfl
theorem k670 : Cond.selects RX1 yX1_chancesTogether yX1_chancesTogether ∈ gt := gt_t3 (i := 104) rfl rfl
theorem k671 : Cond.code yX1_chancesTogether cX1_chancesTogether 3 (some .int) ∈ gt := gt_t3 (i := 105) rfl rfl
theorem np_X1_chancesTogether : yX1_chancesTogether.cls ≠ "java/lang/invoke/MethodHandle" ∧ yX1_chancesTogether.cls ≠ "java/lang/invoke/VarHandle" ∧ (parseMethodDescriptor yX1_chancesTogether.desc).map (fun d => d.parameters.length) = some 0 := by decide +kernel
theorem k234 : Cond.fieldLinkNest RX3 72 "PondStair$Tokens" "length" "I" "PondStair" ∈ nt := nt_t1 (i := 148) rfl rfl
theorem k478 : Cond.methodLink RX3 46 yX1_clear ∈ gt := gt_t2 (i := 152) rfl rfl
theorem k479 : Cond.instanceMethod yX1_clear ∈ gt := gt_t2 (i := 153) rfl rfl
theorem k480 : Cond.selects RX1 yX1_clear yX1_clear ∈ gt := gt_t2 (i := 154) rfl rfl
theorem k481 : Cond.code yX1_clear cX1_clear 1 none ∈ gt := gt_t2 (i := 155) rfl rfl
theorem np_X1_clear : yX1_clear.cls ≠ "java/lang/invoke/MethodHandle" ∧ yX1_clear.cls ≠ "java/lang/invoke/VarHandle" ∧ (parseMethodDescriptor yX1_clear.desc).map (fun d => d.parameters.length) = some 0 := by decide +kernel
theorem k485 : Cond.methodLink RX3 49 yX8_clear ∈ gt := gt_t2 (i := 159) rfl rfl
theorem k486 : Cond.instanceMethod yX8_clear ∈ gt := gt_t2 (i := 160) rfl rfl
theorem k487 : Cond.selects RX8 yX8_clear yX8_clear ∈ gt := gt_t2 (i := 161) rfl rfl
theorem k488 : Cond.code yX8_clear cX8_clear 1 none ∈ gt := gt_t2 (i := 162) rfl rfl
theorem np_X8_clear : yX8_clear.cls ≠ "java/lang/invoke/MethodHandle" ∧ yX8_clear.cls ≠ "java/lang/invoke/VarHandle" ∧ (parseMethodDescriptor yX8_clear.desc).map (fun d => d.parameters.length) = some 0 := by decide +kernel
theorem k489 : Cond.methodLink RX3 50 yX6_begin ∈ gt := gt_t2 (i := 163) rfl rfl
theorem k490 : Cond.instanceMethod yX6_begin ∈ gt := gt_t2 (i := 164) rfl rfl
theorem k491 : Cond.selects RX6 yX6_begin yX6_begin ∈ gt := gt_t2 (i := 165) rfl rfl
theorem k492 : Cond.code yX6_begin cX6_begin 3 none ∈ gt := gt_t2 (i := 166) rfl rfl
theorem np_X6_begin : yX6_begin.cls ≠ "java/lang/invoke/MethodHandle" ∧ yX6_begin.cls ≠ "java/lang/invoke/VarHandle" ∧ (parseMethodDescriptor yX6_begin.desc).map (fun d => d.parameters.length) = some 2 := by decide +kernel
theorem k496 : Cond.methodLink RX3 54 yX3_readLine ∈ gt := gt_t2 (i := 170) rfl rfl
theorem k498 : Cond.instanceMethod yX3_readLine ∈ gt := gt_t2 (i := 172) rfl rfl
theorem k0 : Cond.selects RX3 yX3_readLine yX3_readLine ∈ gt := gt_in 0 (by decide +kernel) (by decide +kernel)
theorem k499 : Cond.code yX3_readLine cX3_readLine 6 (some .boolean) ∈ gt := gt_t2 (i := 173) rfl rfl
theorem np_X3_readLine : yX3_readLine.cls ≠ "java/lang/invoke/MethodHandle" ∧ yX3_readLine.cls ≠ "java/lang/invoke/VarHandle" ∧ (parseMethodDescriptor yX3_readLine.desc).map (fun d => d.parameters.length) = some 1 := by decide +kernel
theorem k664 : Cond.methodLink RX3 58 yX3_closeRains ∈ gt := gt_t3 (i := 98) rfl rfl
theorem k666 : Cond.instanceMethod yX3_closeRains ∈ gt := gt_t3 (i := 100) rfl rfl
theorem k11 : Cond.selects RX3 yX3_closeRains yX3_closeRains ∈ gt := gt_in 11 (by decide +kernel) (by decide +kernel)
theorem k667 : Cond.code yX3_closeRains cX3_closeRains 1 none ∈ gt := gt_t3 (i := 101) rfl rfl
theorem np_X3_closeRains : yX3_closeRains.cls ≠ "java/lang/invoke/MethodHandle" ∧ yX3_closeRains.cls ≠ "java/lang/invoke/VarHandle" ∧ (parseMethodDescriptor yX3_closeRains.desc).map (fun d => d.parameters.length) = some 0 := by decide +kernel
theorem k262 : Cond.fieldLinkNest RX7 45 "PondStair$Reader" "hill" "LPondStair$Hill;" "PondStair" ∈ nt := nt_t1 (i := 176) rfl rfl
theorem k687 : Cond.methodLink RX7 54 Lib.Math.max.name ∈ gt := gt_t3 (i := 121) rfl rfl
theorem k264 : Cond.fieldLinkNest RX7 60 "PondStair$Reader" "works" "LPondStair$Works;" "PondStair" ∈ nt := nt_t1 (i := 178) rfl rfl
theorem k470 : Cond.methodLink RX10 85 yX7_numberFor ∈ gt := gt_t2 (i := 144) rfl rfl
theorem k471 : Cond.instanceMethod yX7_numberFor ∈ gt := gt_t2 (i := 145) rfl rfl
theorem k472 : Cond.selects RX7 yX7_numberFor yX7_numberFor ∈ gt := gt_t2 (i := 146) rfl rfl
theorem k473 : Cond.code yX7_numberFor cX7_numberFor 5 (some .int) ∈ gt := gt_t2 (i := 147) rfl rfl
theorem np_X7_numberFor : yX7_numberFor.cls ≠ "java/lang/invoke/MethodHandle" ∧ yX7_numberFor.cls ≠ "java/lang/invoke/VarHandle" ∧ (parseMethodDescriptor yX7_numberFor.desc).map (fun d => d.parameters.length) = some 2 := by decide +kernel
theorem k187 : Cond.fieldLinkNest RX10 89 "PondStair$Told" "tape" "[B" "PondStair" ∈ nt := nt_t1 (i := 101) rfl rfl
theorem k474 : Cond.methodLink RX10 93 yX3_read ∈ gt := gt_t2 (i := 148) rfl rfl
theorem k475 : Cond.instanceMethod yX3_read ∈ gt := gt_t2 (i := 149) rfl rfl
theorem k476 : Cond.selects RX3 yX3_read yX3_read ∈ gt := gt_t2 (i := 150) rfl rfl
theorem k477 : Cond.code yX3_read cX3_read 6 none ∈ gt := gt_t2 (i := 151) rfl rfl
theorem np_X3_read : yX3_read.cls ≠ "java/lang/invoke/MethodHandle" ∧ yX3_read.cls ≠ "java/lang/invoke/VarHandle" ∧ (parseMethodDescriptor yX3_read.desc).map (fun d => d.parameters.length) = some 3 := by decide +kernel
theorem k268 : Cond.fieldLinkNest RX10 97 "PondStair$Reader" "fault" "I" "PondStair" ∈ nt := nt_t1 (i := 182) rfl rfl
theorem k270 : Cond.fieldLinkNest RX10 98 "PondStair$Reader" "place" "I" "PondStair" ∈ nt := nt_t1 (i := 184) rfl rfl
theorem k676 : Cond.methodLink RX10 99 yX7_keep ∈ gt := gt_t3 (i := 110) rfl rfl
theorem k677 : Cond.instanceMethod yX7_keep ∈ gt := gt_t3 (i := 111) rfl rfl
theorem k678 : Cond.selects RX7 yX7_keep yX7_keep ∈ gt := gt_t3 (i := 112) rfl rfl
theorem k679 : Cond.code yX7_keep cX7_keep 4 none ∈ gt := gt_t3 (i := 113) rfl rfl
theorem np_X7_keep : yX7_keep.cls ≠ "java/lang/invoke/MethodHandle" ∧ yX7_keep.cls ≠ "java/lang/invoke/VarHandle" ∧ (parseMethodDescriptor yX7_keep.desc).map (fun d => d.parameters.length) = some 3 := by decide +kernel
theorem dX6_isWord_0 : decode cX6_isWord 0 = .ok (.aload_n 0, 1) := dc_42 rfl
theorem dX6_isWord_1 : decode cX6_isWord 1 = .ok (.getfield 20, 3) := dc_180 rfl rfl rfl rfl
theorem dX6_isWord_4 : decode cX6_isWord 4 = .ok (.iconst 1, 1) := dc_4 rfl
theorem dX6_isWord_5 : decode cX6_isWord 5 = .ok (.if_icmp .ne 19, 3) := dc_160 rfl rfl rfl (sg_p rfl rfl)
theorem dX6_isWord_8 : decode cX6_isWord 8 = .ok (.aload_n 0, 1) := dc_42 rfl
theorem dX6_isWord_9 : decode cX6_isWord 9 = .ok (.getfield 17, 3) := dc_180 rfl rfl rfl rfl
theorem dX6_isWord_12 : decode cX6_isWord 12 = .ok (.aload_n 0, 1) := dc_42 rfl
theorem dX6_isWord_13 : decode cX6_isWord 13 = .ok (.getfield 23, 3) := dc_180 rfl rfl rfl rfl
theorem dX6_isWord_16 : decode cX6_isWord 16 = .ok (.isub, 1) := dc_100 rfl
theorem dX6_isWord_17 : decode cX6_isWord 17 = .ok (.aload_n 1, 1) := dc_43 rfl
theorem dX6_isWord_18 : decode cX6_isWord 18 = .ok (.invokevirtual 51, 3) := dc_182 rfl rfl rfl rfl
theorem dX6_isWord_21 : decode cX6_isWord 21 = .ok (.if_icmp .eq 5, 3) := dc_159 rfl rfl rfl (sg_p rfl rfl)
theorem dX6_isWord_24 : decode cX6_isWord 24 = .ok (.iconst 0, 1) := dc_3 rfl
theorem dX6_isWord_25 : decode cX6_isWord 25 = .ok (.ireturn, 1) := dc_172 rfl
theorem dX6_isWord_26 : decode cX6_isWord 26 = .ok (.iconst 0, 1) := dc_3 rfl
theorem dX6_isWord_27 : decode cX6_isWord 27 = .ok (.istore_n 2, 1) := dc_61 rfl
theorem dX6_isWord_28 : decode cX6_isWord 28 = .ok (.iload_n 2, 1) := dc_28 rfl
theorem dX6_isWord_29 : decode cX6_isWord 29 = .ok (.aload_n 1, 1) := dc_43 rfl
theorem dX6_isWord_30 : decode cX6_isWord 30 = .ok (.invokevirtual 51, 3) := dc_182 rfl rfl rfl rfl
theorem dX6_isWord_33 : decode cX6_isWord 33 = .ok (.if_icmp .ge 43, 3) := dc_162 rfl rfl rfl (sg_p rfl rfl)
theorem dX6_isWord_36 : decode cX6_isWord 36 = .ok (.aload_n 0, 1) := dc_42 rfl
theorem dX6_isWord_37 : decode cX6_isWord 37 = .ok (.getfield 23, 3) := dc_180 rfl rfl rfl rfl
theorem dX6_isWord_40 : decode cX6_isWord 40 = .ok (.iload_n 2, 1) := dc_28 rfl
theorem dX6_isWord_41 : decode cX6_isWord 41 = .ok (.iadd, 1) := dc_96 rfl
theorem dX6_isWord_42 : decode cX6_isWord 42 = .ok (.aload_n 0, 1) := dc_42 rfl
theorem dX6_isWord_43 : decode cX6_isWord 43 = .ok (.getfield 13, 3) := dc_180 rfl rfl rfl rfl
theorem dX6_isWord_46 : decode cX6_isWord 46 = .ok (.if_icmp .ge 30, 3) := dc_162 rfl rfl rfl (sg_p rfl rfl)
theorem dX6_isWord_49 : decode cX6_isWord 49 = .ok (.aload_n 0, 1) := dc_42 rfl
theorem dX6_isWord_50 : decode cX6_isWord 50 = .ok (.getfield 7, 3) := dc_180 rfl rfl rfl rfl
theorem dX6_isWord_53 : decode cX6_isWord 53 = .ok (.aload_n 0, 1) := dc_42 rfl
theorem dX6_isWord_54 : decode cX6_isWord 54 = .ok (.getfield 23, 3) := dc_180 rfl rfl rfl rfl
theorem dX6_isWord_57 : decode cX6_isWord 57 = .ok (.iload_n 2, 1) := dc_28 rfl
theorem dX6_isWord_58 : decode cX6_isWord 58 = .ok (.iadd, 1) := dc_96 rfl
theorem dX6_isWord_59 : decode cX6_isWord 59 = .ok (.baload, 1) := dc_51 rfl
theorem dX6_isWord_60 : decode cX6_isWord 60 = .ok (.aload_n 1, 1) := dc_43 rfl
theorem dX6_isWord_61 : decode cX6_isWord 61 = .ok (.iload_n 2, 1) := dc_28 rfl
theorem dX6_isWord_62 : decode cX6_isWord 62 = .ok (.invokevirtual 56, 3) := dc_182 rfl rfl rfl rfl
theorem dX6_isWord_65 : decode cX6_isWord 65 = .ok (.if_icmp .eq 5, 3) := dc_159 rfl rfl rfl (sg_p rfl rfl)
theorem dX6_isWord_68 : decode cX6_isWord 68 = .ok (.iconst 0, 1) := dc_3 rfl
theorem dX6_isWord_69 : decode cX6_isWord 69 = .ok (.ireturn, 1) := dc_172 rfl
theorem dX6_isWord_70 : decode cX6_isWord 70 = .ok (.iinc 2 1, 3) := dc_132 rfl rfl rfl rfl (by decide)
theorem dX6_isWord_73 : decode cX6_isWord 73 = .ok (.goto (-45), 3) := dc_167 rfl rfl rfl (sg_n (k := 45) rfl rfl rfl)
theorem dX6_isWord_76 : decode cX6_isWord 76 = .ok (.iconst 1, 1) := dc_4 rfl
theorem dX6_isWord_77 : decode cX6_isWord 77 = .ok (.ireturn, 1) := dc_172 rfl
theorem dX3_hillWord_0 : decode cX3_hillWord 0 = .ok (.iload_n 0, 1) := dc_26 rfl
theorem dX3_hillWord_1 : decode cX3_hillWord 1 = .ok (.tableswitch 113 0 13 #[71, 74, 77, 80, 83, 86, 89, 92, 95, 98, 101, 104, 107, 110], 71) := by decide +kernel
theorem dX3_hillWord_72 : decode cX3_hillWord 72 = .ok (.ldc 120, 2) := dc_18 rfl rfl rfl
theorem dX3_hillWord_74 : decode cX3_hillWord 74 = .ok (.areturn, 1) := dc_176 rfl
theorem dX3_hillWord_75 : decode cX3_hillWord 75 = .ok (.ldc 122, 2) := dc_18 rfl rfl rfl
theorem dX3_hillWord_77 : decode cX3_hillWord 77 = .ok (.areturn, 1) := dc_176 rfl
theorem dX3_hillWord_78 : decode cX3_hillWord 78 = .ok (.ldc 124, 2) := dc_18 rfl rfl rfl
theorem dX3_hillWord_80 : decode cX3_hillWord 80 = .ok (.areturn, 1) := dc_176 rfl
theorem dX3_hillWord_81 : decode cX3_hillWord 81 = .ok (.ldc 126, 2) := dc_18 rfl rfl rfl
theorem dX3_hillWord_83 : decode cX3_hillWord 83 = .ok (.areturn, 1) := dc_176 rfl
theorem dX3_hillWord_84 : decode cX3_hillWord 84 = .ok (.ldc 128, 2) := dc_18 rfl rfl rfl
theorem dX3_hillWord_86 : decode cX3_hillWord 86 = .ok (.areturn, 1) := dc_176 rfl
theorem dX3_hillWord_87 : decode cX3_hillWord 87 = .ok (.ldc 130, 2) := dc_18 rfl rfl rfl
theorem dX3_hillWord_89 : decode cX3_hillWord 89 = .ok (.areturn, 1) := dc_176 rfl
theorem dX3_hillWord_90 : decode cX3_hillWord 90 = .ok (.ldc 132, 2) := dc_18 rfl rfl rfl
theorem dX3_hillWord_92 : decode cX3_hillWord 92 = .ok (.areturn, 1) := dc_176 rfl
theorem dX3_hillWord_93 : decode cX3_hillWord 93 = .ok (.ldc 134, 2) := dc_18 rfl rfl rfl
theorem dX3_hillWord_95 : decode cX3_hillWord 95 = .ok (.areturn, 1) := dc_176 rfl
theorem dX3_hillWord_96 : decode cX3_hillWord 96 = .ok (.ldc 136, 2) := dc_18 rfl rfl rfl
theorem dX3_hillWord_98 : decode cX3_hillWord 98 = .ok (.areturn, 1) := dc_176 rfl
theorem dX3_hillWord_99 : decode cX3_hillWord 99 = .ok (.ldc 138, 2) := dc_18 rfl rfl rfl
theorem dX3_hillWord_101 : decode cX3_hillWord 101 = .ok (.areturn, 1) := dc_176 rfl
theorem dX3_hillWord_102 : decode cX3_hillWord 102 = .ok (.ldc 140, 2) := dc_18 rfl rfl rfl
theorem dX3_hillWord_104 : decode cX3_hillWord 104 = .ok (.areturn, 1) := dc_176 rfl
theorem dX3_hillWord_105 : decode cX3_hillWord 105 = .ok (.ldc 142, 2) := dc_18 rfl rfl rfl
theorem dX3_hillWord_107 : decode cX3_hillWord 107 = .ok (.areturn, 1) := dc_176 rfl
theorem dX3_hillWord_108 : decode cX3_hillWord 108 = .ok (.ldc 144, 2) := dc_18 rfl rfl rfl
theorem dX3_hillWord_110 : decode cX3_hillWord 110 = .ok (.areturn, 1) := dc_176 rfl
theorem dX3_hillWord_111 : decode cX3_hillWord 111 = .ok (.ldc 146, 2) := dc_18 rfl rfl rfl
theorem dX3_hillWord_113 : decode cX3_hillWord 113 = .ok (.areturn, 1) := dc_176 rfl
theorem dX3_hillWord_114 : decode cX3_hillWord 114 = .ok (.ldc 148, 2) := dc_18 rfl rfl rfl
theorem dX3_hillWord_116 : decode cX3_hillWord 116 = .ok (.areturn, 1) := dc_176 rfl
theorem dX3_planWord_0 : decode cX3_planWord 0 = .ok (.iload_n 0, 1) := dc_26 rfl
theorem dX3_planWord_1 : decode cX3_planWord 1 = .ok (.tableswitch 43 0 3 #[31, 34, 37, 40], 31) := by decide +kernel
theorem dX3_planWord_32 : decode cX3_planWord 32 = .ok (.ldc 144, 2) := dc_18 rfl rfl rfl
theorem dX3_planWord_34 : decode cX3_planWord 34 = .ok (.areturn, 1) := dc_176 rfl
theorem dX3_planWord_35 : decode cX3_planWord 35 = .ok (.ldc 150, 2) := dc_18 rfl rfl rfl
theorem dX3_planWord_37 : decode cX3_planWord 37 = .ok (.areturn, 1) := dc_176 rfl
theorem dX3_planWord_38 : decode cX3_planWord 38 = .ok (.ldc 152, 2) := dc_18 rfl rfl rfl
theorem dX3_planWord_40 : decode cX3_planWord 40 = .ok (.areturn, 1) := dc_176 rfl
theorem dX3_planWord_41 : decode cX3_planWord 41 = .ok (.ldc 148, 2) := dc_18 rfl rfl rfl
theorem dX3_planWord_43 : decode cX3_planWord 43 = .ok (.areturn, 1) := dc_176 rfl
theorem dX3_planWord_44 : decode cX3_planWord 44 = .ok (.ldc 154, 2) := dc_18 rfl rfl rfl
theorem dX3_planWord_46 : decode cX3_planWord 46 = .ok (.areturn, 1) := dc_176 rfl
theorem dX3_lineOf_0 : decode cX3_lineOf 0 = .ok (.iload_n 1, 1) := dc_27 rfl
theorem dX3_lineOf_1 : decode cX3_lineOf 1 = .ok (.ifCond .ne 8, 3) := dc_154 rfl rfl rfl (sg_p rfl rfl)
theorem dX3_lineOf_4 : decode cX3_lineOf 4 = .ok (.bipush 15, 2) := dc_16 rfl rfl (by decide)
theorem dX3_lineOf_6 : decode cX3_lineOf 6 = .ok (.goto 4, 3) := dc_167 rfl rfl rfl (sg_p rfl rfl)
theorem dX3_lineOf_9 : decode cX3_lineOf 9 = .ok (.iconst 5, 1) := dc_8 rfl
theorem dX3_lineOf_10 : decode cX3_lineOf 10 = .ok (.istore_n 2, 1) := dc_61 rfl
theorem dX3_lineOf_11 : decode cX3_lineOf 11 = .ok (.iconst 0, 1) := dc_3 rfl
theorem dX3_lineOf_12 : decode cX3_lineOf 12 = .ok (.istore_n 3, 1) := dc_62 rfl
theorem dX3_lineOf_13 : decode cX3_lineOf 13 = .ok (.iload_n 3, 1) := dc_29 rfl
theorem dX3_lineOf_14 : decode cX3_lineOf 14 = .ok (.iload_n 2, 1) := dc_28 rfl
theorem dX3_lineOf_15 : decode cX3_lineOf 15 = .ok (.if_icmp .ge 36, 3) := dc_162 rfl rfl rfl (sg_p rfl rfl)
theorem dX3_lineOf_18 : decode cX3_lineOf 18 = .ok (.aload_n 0, 1) := dc_42 rfl
theorem dX3_lineOf_19 : decode cX3_lineOf 19 = .ok (.getfield 12, 3) := dc_180 rfl rfl rfl rfl
theorem dX3_lineOf_22 : decode cX3_lineOf 22 = .ok (.iload_n 1, 1) := dc_27 rfl
theorem dX3_lineOf_23 : decode cX3_lineOf 23 = .ok (.ifCond .ne 10, 3) := dc_154 rfl rfl rfl (sg_p rfl rfl)
theorem dX3_lineOf_26 : decode cX3_lineOf 26 = .ok (.iload_n 3, 1) := dc_29 rfl
theorem dX3_lineOf_27 : decode cX3_lineOf 27 = .ok (.invokestatic 109, 3) := dc_184 rfl rfl rfl rfl
theorem dX3_lineOf_30 : decode cX3_lineOf 30 = .ok (.goto 7, 3) := dc_167 rfl rfl rfl (sg_p rfl rfl)
theorem dX3_lineOf_33 : decode cX3_lineOf 33 = .ok (.iload_n 3, 1) := dc_29 rfl
theorem dX3_lineOf_34 : decode cX3_lineOf 34 = .ok (.invokestatic 113, 3) := dc_184 rfl rfl rfl rfl
theorem dX3_lineOf_37 : decode cX3_lineOf 37 = .ok (.invokevirtual 116, 3) := dc_182 rfl rfl rfl rfl
theorem dX3_lineOf_40 : decode cX3_lineOf 40 = .ok (.ifCond .eq 5, 3) := dc_153 rfl rfl rfl (sg_p rfl rfl)
theorem dX3_lineOf_43 : decode cX3_lineOf 43 = .ok (.iload_n 3, 1) := dc_29 rfl
theorem dX3_lineOf_44 : decode cX3_lineOf 44 = .ok (.ireturn, 1) := dc_172 rfl
theorem dX3_lineOf_45 : decode cX3_lineOf 45 = .ok (.iinc 3 1, 3) := dc_132 rfl rfl rfl rfl (by decide)
theorem dX3_lineOf_48 : decode cX3_lineOf 48 = .ok (.goto (-35), 3) := dc_167 rfl rfl rfl (sg_n (k := 35) rfl rfl rfl)
theorem dX3_lineOf_51 : decode cX3_lineOf 51 = .ok (.iconst (-1), 1) := dc_2 rfl
theorem dX3_lineOf_52 : decode cX3_lineOf 52 = .ok (.ireturn, 1) := dc_172 rfl
theorem dX3_breaksOff_0 : decode cX3_breaksOff 0 = .ok (.aload_n 0, 1) := dc_42 rfl
theorem dX3_breaksOff_1 : decode cX3_breaksOff 1 = .ok (.iconst 1, 1) := dc_4 rfl
theorem dX3_breaksOff_2 : decode cX3_breaksOff 2 = .ok (.putfield 39, 3) := dc_181 rfl rfl rfl rfl
theorem dX3_breaksOff_5 : decode cX3_breaksOff 5 = .ok (.aload_n 0, 1) := dc_42 rfl
theorem dX3_breaksOff_6 : decode cX3_breaksOff 6 = .ok (.aload_n 0, 1) := dc_42 rfl
theorem dX3_breaksOff_7 : decode cX3_breaksOff 7 = .ok (.getfield 12, 3) := dc_180 rfl rfl rfl rfl
theorem dX3_breaksOff_10 : decode cX3_breaksOff 10 = .ok (.getfield 89, 3) := dc_180 rfl rfl rfl rfl
theorem dX3_breaksOff_13 : decode cX3_breaksOff 13 = .ok (.putfield 43, 3) := dc_181 rfl rfl rfl rfl
theorem dX3_breaksOff_16 : decode cX3_breaksOff 16 = .ok (.iconst 0, 1) := dc_3 rfl
theorem dX3_breaksOff_17 : decode cX3_breaksOff 17 = .ok (.ireturn, 1) := dc_172 rfl
theorem dX3_remember_0 : decode cX3_remember 0 = .ok (.aload_n 0, 1) := dc_42 rfl
theorem dX3_remember_1 : decode cX3_remember 1 = .ok (.getfield 39, 3) := dc_180 rfl rfl rfl rfl
theorem dX3_remember_4 : decode cX3_remember 4 = .ok (.ifCond .ne 13, 3) := dc_154 rfl rfl rfl (sg_p rfl rfl)
theorem dX3_remember_7 : decode cX3_remember 7 = .ok (.aload_n 0, 1) := dc_42 rfl
theorem dX3_remember_8 : decode cX3_remember 8 = .ok (.iload_n 1, 1) := dc_27 rfl
theorem dX3_remember_9 : decode cX3_remember 9 = .ok (.putfield 39, 3) := dc_181 rfl rfl rfl rfl
theorem dX3_remember_12 : decode cX3_remember 12 = .ok (.aload_n 0, 1) := dc_42 rfl
theorem dX3_remember_13 : decode cX3_remember 13 = .ok (.iload_n 2, 1) := dc_28 rfl
theorem dX3_remember_14 : decode cX3_remember 14 = .ok (.putfield 43, 3) := dc_181 rfl rfl rfl rfl
theorem dX3_remember_17 : decode cX3_remember 17 = .ok (.return_, 1) := dc_177 rfl
theorem dX3_isFull_0 : decode cX3_isFull 0 = .ok (.iload_n 1, 1) := dc_27 rfl
theorem dX3_isFull_1 : decode cX3_isFull 1 = .ok (.ifCond .ne 15, 3) := dc_154 rfl rfl rfl (sg_p rfl rfl)
theorem dX3_isFull_4 : decode cX3_isFull 4 = .ok (.aload_n 0, 1) := dc_42 rfl
theorem dX3_isFull_5 : decode cX3_isFull 5 = .ok (.getfield 21, 3) := dc_180 rfl rfl rfl rfl
theorem dX3_isFull_8 : decode cX3_isFull 8 = .ok (.getfield 174, 3) := dc_180 rfl rfl rfl rfl
theorem dX3_isFull_11 : decode cX3_isFull 11 = .ok (.bipush 9, 2) := dc_16 rfl rfl (by decide)
theorem dX3_isFull_13 : decode cX3_isFull 13 = .ok (.if_icmp .ge 20, 3) := dc_162 rfl rfl rfl (sg_p rfl rfl)
theorem dX3_isFull_16 : decode cX3_isFull 16 = .ok (.iload_n 1, 1) := dc_27 rfl
theorem dX3_isFull_17 : decode cX3_isFull 17 = .ok (.bipush 11, 2) := dc_16 rfl rfl (by decide)
theorem dX3_isFull_19 : decode cX3_isFull 19 = .ok (.if_icmp .ne 18, 3) := dc_160 rfl rfl rfl (sg_p rfl rfl)
theorem dX3_isFull_22 : decode cX3_isFull 22 = .ok (.aload_n 0, 1) := dc_42 rfl
theorem dX3_isFull_23 : decode cX3_isFull 23 = .ok (.getfield 21, 3) := dc_180 rfl rfl rfl rfl
theorem dX3_isFull_26 : decode cX3_isFull 26 = .ok (.getfield 61, 3) := dc_180 rfl rfl rfl rfl
theorem dX3_isFull_29 : decode cX3_isFull 29 = .ok (.iconst 4, 1) := dc_7 rfl
theorem dX3_isFull_30 : decode cX3_isFull 30 = .ok (.if_icmp .lt 7, 3) := dc_161 rfl rfl rfl (sg_p rfl rfl)
theorem dX3_isFull_33 : decode cX3_isFull 33 = .ok (.iconst 1, 1) := dc_4 rfl
theorem dX3_isFull_34 : decode cX3_isFull 34 = .ok (.goto 4, 3) := dc_167 rfl rfl rfl (sg_p rfl rfl)
theorem dX3_isFull_37 : decode cX3_isFull 37 = .ok (.iconst 0, 1) := dc_3 rfl
theorem dX3_isFull_38 : decode cX3_isFull 38 = .ok (.ireturn, 1) := dc_172 rfl
theorem dX3_canBeInHill_0 : decode cX3_canBeInHill 0 = .ok (.aload_n 0, 1) := dc_42 rfl
theorem dX3_canBeInHill_1 : decode cX3_canBeInHill 1 = .ok (.getfield 32, 3) := dc_180 rfl rfl rfl rfl
theorem dX3_canBeInHill_4 : decode cX3_canBeInHill 4 = .ok (.iload_n 2, 1) := dc_28 rfl
theorem dX3_canBeInHill_5 : decode cX3_canBeInHill 5 = .ok (.iaload, 1) := dc_46 rfl
theorem dX3_canBeInHill_6 : decode cX3_canBeInHill 6 = .ok (.istore_n 3, 1) := dc_62 rfl
theorem dX3_canBeInHill_7 : decode cX3_canBeInHill 7 = .ok (.iload_n 3, 1) := dc_29 rfl
theorem dX3_canBeInHill_8 : decode cX3_canBeInHill 8 = .ok (.getstatic 177, 3) := dc_178 rfl rfl rfl rfl
theorem dX3_canBeInHill_11 : decode cX3_canBeInHill 11 = .ok (.iconst 3, 1) := dc_6 rfl
theorem dX3_canBeInHill_12 : decode cX3_canBeInHill 12 = .ok (.iload_n 1, 1) := dc_27 rfl
theorem dX3_canBeInHill_13 : decode cX3_canBeInHill 13 = .ok (.imul, 1) := dc_104 rfl
theorem dX3_canBeInHill_14 : decode cX3_canBeInHill 14 = .ok (.iload_n 2, 1) := dc_28 rfl
theorem dX3_canBeInHill_15 : decode cX3_canBeInHill 15 = .ok (.iadd, 1) := dc_96 rfl
theorem dX3_canBeInHill_16 : decode cX3_canBeInHill 16 = .ok (.iaload, 1) := dc_46 rfl
theorem dX3_canBeInHill_17 : decode cX3_canBeInHill 17 = .ok (.if_icmp .le 5, 3) := dc_164 rfl rfl rfl (sg_p rfl rfl)
theorem dX3_canBeInHill_20 : decode cX3_canBeInHill 20 = .ok (.iconst 0, 1) := dc_3 rfl
theorem dX3_canBeInHill_21 : decode cX3_canBeInHill 21 = .ok (.ireturn, 1) := dc_172 rfl
theorem dX3_canBeInHill_22 : decode cX3_canBeInHill 22 = .ok (.iload_n 1, 1) := dc_27 rfl
theorem dX3_canBeInHill_23 : decode cX3_canBeInHill 23 = .ok (.ifCond .ne 24, 3) := dc_154 rfl rfl rfl (sg_p rfl rfl)
theorem dX3_canBeInHill_26 : decode cX3_canBeInHill 26 = .ok (.iload_n 2, 1) := dc_28 rfl
theorem dX3_canBeInHill_27 : decode cX3_canBeInHill 27 = .ok (.iconst 1, 1) := dc_4 rfl
theorem dX3_canBeInHill_28 : decode cX3_canBeInHill 28 = .ok (.if_icmp .ne 13, 3) := dc_160 rfl rfl rfl (sg_p rfl rfl)
theorem dX3_canBeInHill_31 : decode cX3_canBeInHill 31 = .ok (.iload_n 3, 1) := dc_29 rfl
theorem dX3_canBeInHill_32 : decode cX3_canBeInHill 32 = .ok (.aload_n 0, 1) := dc_42 rfl
theorem dX3_canBeInHill_33 : decode cX3_canBeInHill 33 = .ok (.getfield 32, 3) := dc_180 rfl rfl rfl rfl
theorem dX3_canBeInHill_36 : decode cX3_canBeInHill 36 = .ok (.iconst 0, 1) := dc_3 rfl
theorem dX3_canBeInHill_37 : decode cX3_canBeInHill 37 = .ok (.iaload, 1) := dc_46 rfl
theorem dX3_canBeInHill_38 : decode cX3_canBeInHill 38 = .ok (.if_icmp .gt 7, 3) := dc_163 rfl rfl rfl (sg_p rfl rfl)
theorem dX3_canBeInHill_41 : decode cX3_canBeInHill 41 = .ok (.iconst 1, 1) := dc_4 rfl
theorem dX3_canBeInHill_42 : decode cX3_canBeInHill 42 = .ok (.goto 4, 3) := dc_167 rfl rfl rfl (sg_p rfl rfl)
theorem dX3_canBeInHill_45 : decode cX3_canBeInHill 45 = .ok (.iconst 0, 1) := dc_3 rfl
theorem dX3_canBeInHill_46 : decode cX3_canBeInHill 46 = .ok (.ireturn, 1) := dc_172 rfl
theorem dX3_canBeInHill_47 : decode cX3_canBeInHill 47 = .ok (.iload_n 1, 1) := dc_27 rfl
theorem dX3_canBeInHill_48 : decode cX3_canBeInHill 48 = .ok (.bipush 10, 2) := dc_16 rfl rfl (by decide)
theorem dX3_canBeInHill_50 : decode cX3_canBeInHill 50 = .ok (.if_icmp .le 5, 3) := dc_164 rfl rfl rfl (sg_p rfl rfl)
theorem dX3_canBeInHill_53 : decode cX3_canBeInHill 53 = .ok (.iconst 1, 1) := dc_4 rfl
theorem dX3_canBeInHill_54 : decode cX3_canBeInHill 54 = .ok (.ireturn, 1) := dc_172 rfl
theorem dX3_canBeInHill_55 : decode cX3_canBeInHill 55 = .ok (.iload_n 2, 1) := dc_28 rfl
theorem dX3_canBeInHill_56 : decode cX3_canBeInHill 56 = .ok (.ifCond .ne 20, 3) := dc_154 rfl rfl rfl (sg_p rfl rfl)
theorem dX3_canBeInHill_59 : decode cX3_canBeInHill 59 = .ok (.iload_n 3, 1) := dc_29 rfl
theorem dX3_canBeInHill_60 : decode cX3_canBeInHill 60 = .ok (.aload_n 0, 1) := dc_42 rfl
theorem dX3_canBeInHill_61 : decode cX3_canBeInHill 61 = .ok (.getfield 21, 3) := dc_180 rfl rfl rfl rfl
theorem dX3_canBeInHill_64 : decode cX3_canBeInHill 64 = .ok (.getfield 174, 3) := dc_180 rfl rfl rfl rfl
theorem dX3_canBeInHill_67 : decode cX3_canBeInHill 67 = .ok (.if_icmp .ge 7, 3) := dc_162 rfl rfl rfl (sg_p rfl rfl)
theorem dX3_canBeInHill_70 : decode cX3_canBeInHill 70 = .ok (.iconst 1, 1) := dc_4 rfl
theorem dX3_canBeInHill_71 : decode cX3_canBeInHill 71 = .ok (.goto 4, 3) := dc_167 rfl rfl rfl (sg_p rfl rfl)
theorem dX3_canBeInHill_74 : decode cX3_canBeInHill 74 = .ok (.iconst 0, 1) := dc_3 rfl
theorem dX3_canBeInHill_75 : decode cX3_canBeInHill 75 = .ok (.ireturn, 1) := dc_172 rfl
theorem dX3_canBeInHill_76 : decode cX3_canBeInHill 76 = .ok (.iload_n 2, 1) := dc_28 rfl
theorem dX3_canBeInHill_77 : decode cX3_canBeInHill 77 = .ok (.iconst 1, 1) := dc_4 rfl
theorem dX3_canBeInHill_78 : decode cX3_canBeInHill 78 = .ok (.if_icmp .gt 29, 3) := dc_163 rfl rfl rfl (sg_p rfl rfl)
theorem dX3_canBeInHill_81 : decode cX3_canBeInHill 81 = .ok (.iload_n 1, 1) := dc_27 rfl
theorem dX3_canBeInHill_82 : decode cX3_canBeInHill 82 = .ok (.iconst 2, 1) := dc_5 rfl
theorem dX3_canBeInHill_83 : decode cX3_canBeInHill 83 = .ok (.if_icmp .gt 24, 3) := dc_163 rfl rfl rfl (sg_p rfl rfl)
theorem dX3_canBeInHill_86 : decode cX3_canBeInHill 86 = .ok (.iload_n 3, 1) := dc_29 rfl
theorem dX3_canBeInHill_87 : decode cX3_canBeInHill 87 = .ok (.aload_n 0, 1) := dc_42 rfl
theorem dX3_canBeInHill_88 : decode cX3_canBeInHill 88 = .ok (.getfield 32, 3) := dc_180 rfl rfl rfl rfl
theorem dX3_canBeInHill_91 : decode cX3_canBeInHill 91 = .ok (.iconst 0, 1) := dc_3 rfl
theorem dX3_canBeInHill_92 : decode cX3_canBeInHill 92 = .ok (.iaload, 1) := dc_46 rfl
theorem dX3_canBeInHill_93 : decode cX3_canBeInHill 93 = .ok (.if_icmp .le 18, 3) := dc_164 rfl rfl rfl (sg_p rfl rfl)
theorem dX3_canBeInHill_96 : decode cX3_canBeInHill 96 = .ok (.iload_n 3, 1) := dc_29 rfl
theorem dX3_canBeInHill_97 : decode cX3_canBeInHill 97 = .ok (.aload_n 0, 1) := dc_42 rfl
theorem dX3_canBeInHill_98 : decode cX3_canBeInHill 98 = .ok (.getfield 21, 3) := dc_180 rfl rfl rfl rfl
theorem dX3_canBeInHill_101 : decode cX3_canBeInHill 101 = .ok (.getfield 174, 3) := dc_180 rfl rfl rfl rfl
theorem dX3_canBeInHill_104 : decode cX3_canBeInHill 104 = .ok (.if_icmp .ge 7, 3) := dc_162 rfl rfl rfl (sg_p rfl rfl)
theorem dX3_canBeInHill_107 : decode cX3_canBeInHill 107 = .ok (.iconst 1, 1) := dc_4 rfl
theorem dX3_canBeInHill_108 : decode cX3_canBeInHill 108 = .ok (.goto 4, 3) := dc_167 rfl rfl rfl (sg_p rfl rfl)
theorem dX3_canBeInHill_111 : decode cX3_canBeInHill 111 = .ok (.iconst 0, 1) := dc_3 rfl
theorem dX3_canBeInHill_112 : decode cX3_canBeInHill 112 = .ok (.ireturn, 1) := dc_172 rfl
theorem dX3_canBeInPlan_0 : decode cX3_canBeInPlan 0 = .ok (.iconst 3, 1) := dc_6 rfl
theorem dX3_canBeInPlan_1 : decode cX3_canBeInPlan 1 = .ok (.iload_n 1, 1) := dc_27 rfl
theorem dX3_canBeInPlan_2 : decode cX3_canBeInPlan 2 = .ok (.imul, 1) := dc_104 rfl
theorem dX3_canBeInPlan_3 : decode cX3_canBeInPlan 3 = .ok (.iload_n 2, 1) := dc_28 rfl
theorem dX3_canBeInPlan_4 : decode cX3_canBeInPlan 4 = .ok (.iadd, 1) := dc_96 rfl
theorem dX3_canBeInPlan_5 : decode cX3_canBeInPlan 5 = .ok (.istore_n 3, 1) := dc_62 rfl
theorem dX3_canBeInPlan_6 : decode cX3_canBeInPlan 6 = .ok (.aload_n 0, 1) := dc_42 rfl
theorem dX3_canBeInPlan_7 : decode cX3_canBeInPlan 7 = .ok (.getfield 32, 3) := dc_180 rfl rfl rfl rfl
theorem dX3_canBeInPlan_10 : decode cX3_canBeInPlan 10 = .ok (.iload_n 2, 1) := dc_28 rfl
theorem dX3_canBeInPlan_11 : decode cX3_canBeInPlan 11 = .ok (.iaload, 1) := dc_46 rfl
theorem dX3_canBeInPlan_12 : decode cX3_canBeInPlan 12 = .ok (.getstatic 180, 3) := dc_178 rfl rfl rfl rfl
theorem dX3_canBeInPlan_15 : decode cX3_canBeInPlan 15 = .ok (.iload_n 3, 1) := dc_29 rfl
theorem dX3_canBeInPlan_16 : decode cX3_canBeInPlan 16 = .ok (.iaload, 1) := dc_46 rfl
theorem dX3_canBeInPlan_17 : decode cX3_canBeInPlan 17 = .ok (.if_icmp .lt 21, 3) := dc_161 rfl rfl rfl (sg_p rfl rfl)
theorem dX3_canBeInPlan_20 : decode cX3_canBeInPlan 20 = .ok (.aload_n 0, 1) := dc_42 rfl
theorem dX3_canBeInPlan_21 : decode cX3_canBeInPlan 21 = .ok (.getfield 32, 3) := dc_180 rfl rfl rfl rfl
theorem dX3_canBeInPlan_24 : decode cX3_canBeInPlan 24 = .ok (.iload_n 2, 1) := dc_28 rfl
theorem dX3_canBeInPlan_25 : decode cX3_canBeInPlan 25 = .ok (.iaload, 1) := dc_46 rfl
theorem dX3_canBeInPlan_26 : decode cX3_canBeInPlan 26 = .ok (.getstatic 183, 3) := dc_178 rfl rfl rfl rfl
theorem dX3_canBeInPlan_29 : decode cX3_canBeInPlan 29 = .ok (.iload_n 3, 1) := dc_29 rfl
theorem dX3_canBeInPlan_30 : decode cX3_canBeInPlan 30 = .ok (.iaload, 1) := dc_46 rfl
theorem dX3_canBeInPlan_31 : decode cX3_canBeInPlan 31 = .ok (.if_icmp .gt 7, 3) := dc_163 rfl rfl rfl (sg_p rfl rfl)
theorem dX3_canBeInPlan_34 : decode cX3_canBeInPlan 34 = .ok (.iconst 1, 1) := dc_4 rfl
theorem dX3_canBeInPlan_35 : decode cX3_canBeInPlan 35 = .ok (.goto 4, 3) := dc_167 rfl rfl rfl (sg_p rfl rfl)
theorem dX3_canBeInPlan_38 : decode cX3_canBeInPlan 38 = .ok (.iconst 0, 1) := dc_3 rfl
theorem dX3_canBeInPlan_39 : decode cX3_canBeInPlan 39 = .ok (.ireturn, 1) := dc_172 rfl
theorem dX3_takeForHill_0 : decode cX3_takeForHill 0 = .ok (.iload_n 1, 1) := dc_27 rfl
theorem dX3_takeForHill_1 : decode cX3_takeForHill 1 = .ok (.ifCond .ne 32, 3) := dc_154 rfl rfl rfl (sg_p rfl rfl)
theorem dX3_takeForHill_4 : decode cX3_takeForHill 4 = .ok (.aload_n 0, 1) := dc_42 rfl
theorem dX3_takeForHill_5 : decode cX3_takeForHill 5 = .ok (.getfield 21, 3) := dc_180 rfl rfl rfl rfl
theorem dX3_takeForHill_8 : decode cX3_takeForHill 8 = .ok (.aload_n 0, 1) := dc_42 rfl
theorem dX3_takeForHill_9 : decode cX3_takeForHill 9 = .ok (.getfield 32, 3) := dc_180 rfl rfl rfl rfl
theorem dX3_takeForHill_12 : decode cX3_takeForHill 12 = .ok (.iconst 0, 1) := dc_3 rfl
theorem dX3_takeForHill_13 : decode cX3_takeForHill 13 = .ok (.iaload, 1) := dc_46 rfl
theorem dX3_takeForHill_14 : decode cX3_takeForHill 14 = .ok (.aload_n 0, 1) := dc_42 rfl
theorem dX3_takeForHill_15 : decode cX3_takeForHill 15 = .ok (.getfield 32, 3) := dc_180 rfl rfl rfl rfl
theorem dX3_takeForHill_18 : decode cX3_takeForHill 18 = .ok (.iconst 1, 1) := dc_4 rfl
theorem dX3_takeForHill_19 : decode cX3_takeForHill 19 = .ok (.iaload, 1) := dc_46 rfl
theorem dX3_takeForHill_20 : decode cX3_takeForHill 20 = .ok (.aload_n 0, 1) := dc_42 rfl
theorem dX3_takeForHill_21 : decode cX3_takeForHill 21 = .ok (.getfield 32, 3) := dc_180 rfl rfl rfl rfl
theorem dX3_takeForHill_24 : decode cX3_takeForHill 24 = .ok (.iconst 2, 1) := dc_5 rfl
theorem dX3_takeForHill_25 : decode cX3_takeForHill 25 = .ok (.iaload, 1) := dc_46 rfl
theorem dX3_takeForHill_26 : decode cX3_takeForHill 26 = .ok (.invokevirtual 186, 3) := dc_182 rfl rfl rfl rfl
theorem dX3_takeForHill_29 : decode cX3_takeForHill 29 = .ok (.pop, 1) := dc_87 rfl
theorem dX3_takeForHill_30 : decode cX3_takeForHill 30 = .ok (.goto 114, 3) := dc_167 rfl rfl rfl (sg_p rfl rfl)
theorem dX3_takeForHill_33 : decode cX3_takeForHill 33 = .ok (.iload_n 1, 1) := dc_27 rfl
theorem dX3_takeForHill_34 : decode cX3_takeForHill 34 = .ok (.bipush 11, 2) := dc_16 rfl rfl (by decide)
theorem dX3_takeForHill_36 : decode cX3_takeForHill 36 = .ok (.if_icmp .ne 26, 3) := dc_160 rfl rfl rfl (sg_p rfl rfl)
theorem dX3_takeForHill_39 : decode cX3_takeForHill 39 = .ok (.aload_n 0, 1) := dc_42 rfl
theorem dX3_takeForHill_40 : decode cX3_takeForHill 40 = .ok (.getfield 21, 3) := dc_180 rfl rfl rfl rfl
theorem dX3_takeForHill_43 : decode cX3_takeForHill 43 = .ok (.aload_n 0, 1) := dc_42 rfl
theorem dX3_takeForHill_44 : decode cX3_takeForHill 44 = .ok (.getfield 32, 3) := dc_180 rfl rfl rfl rfl
theorem dX3_takeForHill_47 : decode cX3_takeForHill 47 = .ok (.iconst 0, 1) := dc_3 rfl
theorem dX3_takeForHill_48 : decode cX3_takeForHill 48 = .ok (.iaload, 1) := dc_46 rfl
theorem dX3_takeForHill_49 : decode cX3_takeForHill 49 = .ok (.aload_n 0, 1) := dc_42 rfl
theorem dX3_takeForHill_50 : decode cX3_takeForHill 50 = .ok (.getfield 32, 3) := dc_180 rfl rfl rfl rfl
theorem dX3_takeForHill_53 : decode cX3_takeForHill 53 = .ok (.iconst 1, 1) := dc_4 rfl
theorem dX3_takeForHill_54 : decode cX3_takeForHill 54 = .ok (.iaload, 1) := dc_46 rfl
theorem dX3_takeForHill_55 : decode cX3_takeForHill 55 = .ok (.invokevirtual 64, 3) := dc_182 rfl rfl rfl rfl
theorem dX3_takeForHill_58 : decode cX3_takeForHill 58 = .ok (.pop, 1) := dc_87 rfl
theorem dX3_takeForHill_59 : decode cX3_takeForHill 59 = .ok (.goto 85, 3) := dc_167 rfl rfl rfl (sg_p rfl rfl)
theorem dX3_takeForHill_62 : decode cX3_takeForHill 62 = .ok (.iload_n 1, 1) := dc_27 rfl
theorem dX3_takeForHill_63 : decode cX3_takeForHill 63 = .ok (.bipush 12, 2) := dc_16 rfl rfl (by decide)
theorem dX3_takeForHill_65 : decode cX3_takeForHill 65 = .ok (.if_icmp .lt 24, 3) := dc_161 rfl rfl rfl (sg_p rfl rfl)
theorem dX3_takeForHill_68 : decode cX3_takeForHill 68 = .ok (.aload_n 0, 1) := dc_42 rfl
theorem dX3_takeForHill_69 : decode cX3_takeForHill 69 = .ok (.getfield 21, 3) := dc_180 rfl rfl rfl rfl
theorem dX3_takeForHill_72 : decode cX3_takeForHill 72 = .ok (.getfield 189, 3) := dc_180 rfl rfl rfl rfl
theorem dX3_takeForHill_75 : decode cX3_takeForHill 75 = .ok (.iload_n 1, 1) := dc_27 rfl
theorem dX3_takeForHill_76 : decode cX3_takeForHill 76 = .ok (.bipush 12, 2) := dc_16 rfl rfl (by decide)
theorem dX3_takeForHill_78 : decode cX3_takeForHill 78 = .ok (.isub, 1) := dc_100 rfl
theorem dX3_takeForHill_79 : decode cX3_takeForHill 79 = .ok (.aload_n 0, 1) := dc_42 rfl
theorem dX3_takeForHill_80 : decode cX3_takeForHill 80 = .ok (.getfield 32, 3) := dc_180 rfl rfl rfl rfl
theorem dX3_takeForHill_83 : decode cX3_takeForHill 83 = .ok (.iconst 0, 1) := dc_3 rfl
theorem dX3_takeForHill_84 : decode cX3_takeForHill 84 = .ok (.iaload, 1) := dc_46 rfl
theorem dX3_takeForHill_85 : decode cX3_takeForHill 85 = .ok (.iastore, 1) := dc_79 rfl
theorem dX3_takeForHill_86 : decode cX3_takeForHill 86 = .ok (.goto 58, 3) := dc_167 rfl rfl rfl (sg_p rfl rfl)
theorem dX3_takeForHill_89 : decode cX3_takeForHill 89 = .ok (.aload_n 0, 1) := dc_42 rfl
theorem dX3_takeForHill_90 : decode cX3_takeForHill 90 = .ok (.getfield 21, 3) := dc_180 rfl rfl rfl rfl
theorem dX3_takeForHill_93 : decode cX3_takeForHill 93 = .ok (.aload_n 0, 1) := dc_42 rfl
theorem dX3_takeForHill_94 : decode cX3_takeForHill 94 = .ok (.getfield 32, 3) := dc_180 rfl rfl rfl rfl
theorem dX3_takeForHill_97 : decode cX3_takeForHill 97 = .ok (.iconst 0, 1) := dc_3 rfl
theorem dX3_takeForHill_98 : decode cX3_takeForHill 98 = .ok (.iaload, 1) := dc_46 rfl
theorem dX3_takeForHill_99 : decode cX3_takeForHill 99 = .ok (.getstatic 192, 3) := dc_178 rfl rfl rfl rfl
theorem dX3_takeForHill_102 : decode cX3_takeForHill 102 = .ok (.iload_n 1, 1) := dc_27 rfl
theorem dX3_takeForHill_103 : decode cX3_takeForHill 103 = .ok (.iaload, 1) := dc_46 rfl
theorem dX3_takeForHill_104 : decode cX3_takeForHill 104 = .ok (.aload_n 0, 1) := dc_42 rfl
theorem dX3_takeForHill_105 : decode cX3_takeForHill 105 = .ok (.getfield 32, 3) := dc_180 rfl rfl rfl rfl
theorem dX3_takeForHill_108 : decode cX3_takeForHill 108 = .ok (.iconst 1, 1) := dc_4 rfl
theorem dX3_takeForHill_109 : decode cX3_takeForHill 109 = .ok (.iaload, 1) := dc_46 rfl
theorem dX3_takeForHill_110 : decode cX3_takeForHill 110 = .ok (.invokevirtual 195, 3) := dc_182 rfl rfl rfl rfl
theorem dX3_takeForHill_113 : decode cX3_takeForHill 113 = .ok (.iload_n 2, 1) := dc_28 rfl
theorem dX3_takeForHill_114 : decode cX3_takeForHill 114 = .ok (.iconst 3, 1) := dc_6 rfl
theorem dX3_takeForHill_115 : decode cX3_takeForHill 115 = .ok (.if_icmp .ne 29, 3) := dc_160 rfl rfl rfl (sg_p rfl rfl)
theorem dX3_takeForHill_118 : decode cX3_takeForHill 118 = .ok (.aload_n 0, 1) := dc_42 rfl
theorem dX3_takeForHill_119 : decode cX3_takeForHill 119 = .ok (.getfield 21, 3) := dc_180 rfl rfl rfl rfl
theorem dX3_takeForHill_122 : decode cX3_takeForHill 122 = .ok (.aload_n 0, 1) := dc_42 rfl
theorem dX3_takeForHill_123 : decode cX3_takeForHill 123 = .ok (.getfield 32, 3) := dc_180 rfl rfl rfl rfl
theorem dX3_takeForHill_126 : decode cX3_takeForHill 126 = .ok (.iconst 0, 1) := dc_3 rfl
theorem dX3_takeForHill_127 : decode cX3_takeForHill 127 = .ok (.iaload, 1) := dc_46 rfl
theorem dX3_takeForHill_128 : decode cX3_takeForHill 128 = .ok (.getstatic 192, 3) := dc_178 rfl rfl rfl rfl
theorem dX3_takeForHill_131 : decode cX3_takeForHill 131 = .ok (.iload_n 1, 1) := dc_27 rfl
theorem dX3_takeForHill_132 : decode cX3_takeForHill 132 = .ok (.iaload, 1) := dc_46 rfl
theorem dX3_takeForHill_133 : decode cX3_takeForHill 133 = .ok (.iconst 1, 1) := dc_4 rfl
theorem dX3_takeForHill_134 : decode cX3_takeForHill 134 = .ok (.iadd, 1) := dc_96 rfl
theorem dX3_takeForHill_135 : decode cX3_takeForHill 135 = .ok (.aload_n 0, 1) := dc_42 rfl
theorem dX3_takeForHill_136 : decode cX3_takeForHill 136 = .ok (.getfield 32, 3) := dc_180 rfl rfl rfl rfl
theorem dX3_takeForHill_139 : decode cX3_takeForHill 139 = .ok (.iconst 2, 1) := dc_5 rfl
theorem dX3_takeForHill_140 : decode cX3_takeForHill 140 = .ok (.iaload, 1) := dc_46 rfl
theorem dX3_takeForHill_141 : decode cX3_takeForHill 141 = .ok (.invokevirtual 195, 3) := dc_182 rfl rfl rfl rfl
theorem dX3_takeForHill_144 : decode cX3_takeForHill 144 = .ok (.return_, 1) := dc_177 rfl
theorem dX3_take_0 : decode cX3_take 0 = .ok (.iload_n 1, 1) := dc_27 rfl
theorem dX3_take_1 : decode cX3_take 1 = .ok (.ifCond .ne 14, 3) := dc_154 rfl rfl rfl (sg_p rfl rfl)
theorem dX3_take_4 : decode cX3_take 4 = .ok (.aload_n 0, 1) := dc_42 rfl
theorem dX3_take_5 : decode cX3_take 5 = .ok (.iload_n 2, 1) := dc_28 rfl
theorem dX3_take_6 : decode cX3_take 6 = .ok (.invokevirtual 156, 3) := dc_182 rfl rfl rfl rfl
theorem dX3_take_9 : decode cX3_take 9 = .ok (.ifCond .eq 24, 3) := dc_153 rfl rfl rfl (sg_p rfl rfl)
theorem dX3_take_12 : decode cX3_take 12 = .ok (.goto 15, 3) := dc_167 rfl rfl rfl (sg_p rfl rfl)
theorem dX3_take_15 : decode cX3_take 15 = .ok (.aload_n 0, 1) := dc_42 rfl
theorem dX3_take_16 : decode cX3_take 16 = .ok (.getfield 28, 3) := dc_180 rfl rfl rfl rfl
theorem dX3_take_19 : decode cX3_take 19 = .ok (.getfield 159, 3) := dc_180 rfl rfl rfl rfl
theorem dX3_take_22 : decode cX3_take 22 = .ok (.bipush 12, 2) := dc_16 rfl rfl (by decide)
theorem dX3_take_24 : decode cX3_take 24 = .ok (.if_icmp .lt 9, 3) := dc_161 rfl rfl rfl (sg_p rfl rfl)
theorem dX3_take_27 : decode cX3_take 27 = .ok (.aload_n 0, 1) := dc_42 rfl
theorem dX3_take_28 : decode cX3_take 28 = .ok (.iconst 3, 1) := dc_6 rfl
theorem dX3_take_29 : decode cX3_take 29 = .ok (.iload_n 3, 1) := dc_29 rfl
theorem dX3_take_30 : decode cX3_take 30 = .ok (.invokevirtual 75, 3) := dc_182 rfl rfl rfl rfl
theorem dX3_take_33 : decode cX3_take 33 = .ok (.iconst 0, 1) := dc_3 rfl
theorem dX3_take_34 : decode cX3_take 34 = .ok (.istore 5, 2) := dc_54 rfl rfl rfl
theorem dX3_take_36 : decode cX3_take 36 = .ok (.iload 5, 2) := dc_21 rfl rfl rfl
theorem dX3_take_38 : decode cX3_take 38 = .ok (.iload 4, 2) := dc_21 rfl rfl rfl
theorem dX3_take_40 : decode cX3_take 40 = .ok (.if_icmp .ge 48, 3) := dc_162 rfl rfl rfl (sg_p rfl rfl)
theorem dX3_take_43 : decode cX3_take 43 = .ok (.iload_n 1, 1) := dc_27 rfl
theorem dX3_take_44 : decode cX3_take 44 = .ok (.ifCond .ne 16, 3) := dc_154 rfl rfl rfl (sg_p rfl rfl)
theorem dX3_take_47 : decode cX3_take 47 = .ok (.aload_n 0, 1) := dc_42 rfl
theorem dX3_take_48 : decode cX3_take 48 = .ok (.iload_n 2, 1) := dc_28 rfl
theorem dX3_take_49 : decode cX3_take 49 = .ok (.iload 5, 2) := dc_21 rfl rfl rfl
theorem dX3_take_51 : decode cX3_take 51 = .ok (.invokevirtual 161, 3) := dc_182 rfl rfl rfl rfl
theorem dX3_take_54 : decode cX3_take 54 = .ok (.ifCond .eq 16, 3) := dc_153 rfl rfl rfl (sg_p rfl rfl)
theorem dX3_take_57 : decode cX3_take 57 = .ok (.goto 25, 3) := dc_167 rfl rfl rfl (sg_p rfl rfl)
theorem dX3_take_60 : decode cX3_take 60 = .ok (.aload_n 0, 1) := dc_42 rfl
theorem dX3_take_61 : decode cX3_take 61 = .ok (.iload_n 2, 1) := dc_28 rfl
theorem dX3_take_62 : decode cX3_take 62 = .ok (.iload 5, 2) := dc_21 rfl rfl rfl
theorem dX3_take_64 : decode cX3_take 64 = .ok (.invokevirtual 164, 3) := dc_182 rfl rfl rfl rfl
theorem dX3_take_67 : decode cX3_take 67 = .ok (.ifCond .ne 15, 3) := dc_154 rfl rfl rfl (sg_p rfl rfl)
theorem dX3_take_70 : decode cX3_take 70 = .ok (.aload_n 0, 1) := dc_42 rfl
theorem dX3_take_71 : decode cX3_take 71 = .ok (.iconst 2, 1) := dc_5 rfl
theorem dX3_take_72 : decode cX3_take 72 = .ok (.aload_n 0, 1) := dc_42 rfl
theorem dX3_take_73 : decode cX3_take 73 = .ok (.getfield 36, 3) := dc_180 rfl rfl rfl rfl
theorem dX3_take_76 : decode cX3_take 76 = .ok (.iload 5, 2) := dc_21 rfl rfl rfl
theorem dX3_take_78 : decode cX3_take 78 = .ok (.iaload, 1) := dc_46 rfl
theorem dX3_take_79 : decode cX3_take 79 = .ok (.invokevirtual 75, 3) := dc_182 rfl rfl rfl rfl
theorem dX3_take_82 : decode cX3_take 82 = .ok (.iinc 5 1, 3) := dc_132 rfl rfl rfl rfl (by decide)
theorem dX3_take_85 : decode cX3_take 85 = .ok (.goto (-49), 3) := dc_167 rfl rfl rfl (sg_n (k := 49) rfl rfl rfl)
theorem dX3_take_88 : decode cX3_take 88 = .ok (.iload_n 1, 1) := dc_27 rfl
theorem dX3_take_89 : decode cX3_take 89 = .ok (.ifCond .ne 13, 3) := dc_154 rfl rfl rfl (sg_p rfl rfl)
theorem dX3_take_92 : decode cX3_take 92 = .ok (.aload_n 0, 1) := dc_42 rfl
theorem dX3_take_93 : decode cX3_take 93 = .ok (.iload_n 2, 1) := dc_28 rfl
theorem dX3_take_94 : decode cX3_take 94 = .ok (.iload 4, 2) := dc_21 rfl rfl rfl
theorem dX3_take_96 : decode cX3_take 96 = .ok (.invokevirtual 167, 3) := dc_182 rfl rfl rfl rfl
theorem dX3_take_99 : decode cX3_take 99 = .ok (.goto 34, 3) := dc_167 rfl rfl rfl (sg_p rfl rfl)
theorem dX3_take_102 : decode cX3_take 102 = .ok (.aload_n 0, 1) := dc_42 rfl
theorem dX3_take_103 : decode cX3_take 103 = .ok (.getfield 28, 3) := dc_180 rfl rfl rfl rfl
theorem dX3_take_106 : decode cX3_take 106 = .ok (.iload_n 2, 1) := dc_28 rfl
theorem dX3_take_107 : decode cX3_take 107 = .ok (.aload_n 0, 1) := dc_42 rfl
theorem dX3_take_108 : decode cX3_take 108 = .ok (.getfield 32, 3) := dc_180 rfl rfl rfl rfl
theorem dX3_take_111 : decode cX3_take 111 = .ok (.iconst 0, 1) := dc_3 rfl
theorem dX3_take_112 : decode cX3_take 112 = .ok (.iaload, 1) := dc_46 rfl
theorem dX3_take_113 : decode cX3_take 113 = .ok (.iload 4, 2) := dc_21 rfl rfl rfl
theorem dX3_take_115 : decode cX3_take 115 = .ok (.iconst 1, 1) := dc_4 rfl
theorem dX3_take_116 : decode cX3_take 116 = .ok (.if_icmp .le 12, 3) := dc_164 rfl rfl rfl (sg_p rfl rfl)
theorem dX3_take_119 : decode cX3_take 119 = .ok (.aload_n 0, 1) := dc_42 rfl
theorem dX3_take_120 : decode cX3_take 120 = .ok (.getfield 32, 3) := dc_180 rfl rfl rfl rfl
theorem dX3_take_123 : decode cX3_take 123 = .ok (.iconst 1, 1) := dc_4 rfl
theorem dX3_take_124 : decode cX3_take 124 = .ok (.iaload, 1) := dc_46 rfl
theorem dX3_take_125 : decode cX3_take 125 = .ok (.goto 4, 3) := dc_167 rfl rfl rfl (sg_p rfl rfl)
theorem dX3_take_128 : decode cX3_take 128 = .ok (.iconst (-1), 1) := dc_2 rfl
theorem dX3_take_129 : decode cX3_take 129 = .ok (.invokevirtual 170, 3) := dc_182 rfl rfl rfl rfl
theorem dX3_take_132 : decode cX3_take 132 = .ok (.pop, 1) := dc_87 rfl
theorem dX3_take_133 : decode cX3_take 133 = .ok (.return_, 1) := dc_177 rfl
theorem dX3_readLine_0 : decode cX3_readLine 0 = .ok (.aload_n 0, 1) := dc_42 rfl
theorem dX3_readLine_1 : decode cX3_readLine 1 = .ok (.getfield 12, 3) := dc_180 rfl rfl rfl rfl
theorem dX3_readLine_4 : decode cX3_readLine 4 = .ok (.invokevirtual 79, 3) := dc_182 rfl rfl rfl rfl
theorem dX3_readLine_7 : decode cX3_readLine 7 = .ok (.aload_n 0, 1) := dc_42 rfl
theorem dX3_readLine_8 : decode cX3_readLine 8 = .ok (.getfield 12, 3) := dc_180 rfl rfl rfl rfl
theorem dX3_readLine_11 : decode cX3_readLine 11 = .ok (.getfield 82, 3) := dc_180 rfl rfl rfl rfl
theorem dX3_readLine_14 : decode cX3_readLine 14 = .ok (.ifCond .ne 5, 3) := dc_154 rfl rfl rfl (sg_p rfl rfl)
theorem dX3_readLine_17 : decode cX3_readLine 17 = .ok (.iconst 0, 1) := dc_3 rfl
theorem dX3_readLine_18 : decode cX3_readLine 18 = .ok (.ireturn, 1) := dc_172 rfl
theorem dX3_readLine_19 : decode cX3_readLine 19 = .ok (.aload_n 0, 1) := dc_42 rfl
theorem dX3_readLine_20 : decode cX3_readLine 20 = .ok (.iload_n 1, 1) := dc_27 rfl
theorem dX3_readLine_21 : decode cX3_readLine 21 = .ok (.invokevirtual 85, 3) := dc_182 rfl rfl rfl rfl
theorem dX3_readLine_24 : decode cX3_readLine 24 = .ok (.istore_n 2, 1) := dc_61 rfl
theorem dX3_readLine_25 : decode cX3_readLine 25 = .ok (.aload_n 0, 1) := dc_42 rfl
theorem dX3_readLine_26 : decode cX3_readLine 26 = .ok (.getfield 12, 3) := dc_180 rfl rfl rfl rfl
theorem dX3_readLine_29 : decode cX3_readLine 29 = .ok (.getfield 89, 3) := dc_180 rfl rfl rfl rfl
theorem dX3_readLine_32 : decode cX3_readLine 32 = .ok (.istore_n 3, 1) := dc_62 rfl
theorem dX3_readLine_33 : decode cX3_readLine 33 = .ok (.iload_n 2, 1) := dc_28 rfl
theorem dX3_readLine_34 : decode cX3_readLine 34 = .ok (.iconst (-1), 1) := dc_2 rfl
theorem dX3_readLine_35 : decode cX3_readLine 35 = .ok (.if_icmp .ne 8, 3) := dc_160 rfl rfl rfl (sg_p rfl rfl)
theorem dX3_readLine_38 : decode cX3_readLine 38 = .ok (.aload_n 0, 1) := dc_42 rfl
theorem dX3_readLine_39 : decode cX3_readLine 39 = .ok (.invokevirtual 92, 3) := dc_182 rfl rfl rfl rfl
theorem dX3_readLine_42 : decode cX3_readLine 42 = .ok (.ireturn, 1) := dc_172 rfl
theorem dX3_readLine_43 : decode cX3_readLine 43 = .ok (.iload_n 1, 1) := dc_27 rfl
theorem dX3_readLine_44 : decode cX3_readLine 44 = .ok (.ifCond .ne 11, 3) := dc_154 rfl rfl rfl (sg_p rfl rfl)
theorem dX3_readLine_47 : decode cX3_readLine 47 = .ok (.getstatic 96, 3) := dc_178 rfl rfl rfl rfl
theorem dX3_readLine_50 : decode cX3_readLine 50 = .ok (.iload_n 2, 1) := dc_28 rfl
theorem dX3_readLine_51 : decode cX3_readLine 51 = .ok (.iaload, 1) := dc_46 rfl
theorem dX3_readLine_52 : decode cX3_readLine 52 = .ok (.goto 8, 3) := dc_167 rfl rfl rfl (sg_p rfl rfl)
theorem dX3_readLine_55 : decode cX3_readLine 55 = .ok (.getstatic 99, 3) := dc_178 rfl rfl rfl rfl
theorem dX3_readLine_58 : decode cX3_readLine 58 = .ok (.iload_n 2, 1) := dc_28 rfl
theorem dX3_readLine_59 : decode cX3_readLine 59 = .ok (.iaload, 1) := dc_46 rfl
theorem dX3_readLine_60 : decode cX3_readLine 60 = .ok (.istore 4, 2) := dc_54 rfl rfl rfl
theorem dX3_readLine_62 : decode cX3_readLine 62 = .ok (.iconst 0, 1) := dc_3 rfl
theorem dX3_readLine_63 : decode cX3_readLine 63 = .ok (.istore 5, 2) := dc_54 rfl rfl rfl
theorem dX3_readLine_65 : decode cX3_readLine 65 = .ok (.iload 5, 2) := dc_21 rfl rfl rfl
theorem dX3_readLine_67 : decode cX3_readLine 67 = .ok (.iload 4, 2) := dc_21 rfl rfl rfl
theorem dX3_readLine_69 : decode cX3_readLine 69 = .ok (.if_icmp .ge 60, 3) := dc_162 rfl rfl rfl (sg_p rfl rfl)
theorem dX3_readLine_72 : decode cX3_readLine 72 = .ok (.aload_n 0, 1) := dc_42 rfl
theorem dX3_readLine_73 : decode cX3_readLine 73 = .ok (.getfield 12, 3) := dc_180 rfl rfl rfl rfl
theorem dX3_readLine_76 : decode cX3_readLine 76 = .ok (.invokevirtual 79, 3) := dc_182 rfl rfl rfl rfl
theorem dX3_readLine_79 : decode cX3_readLine 79 = .ok (.aload_n 0, 1) := dc_42 rfl
theorem dX3_readLine_80 : decode cX3_readLine 80 = .ok (.getfield 12, 3) := dc_180 rfl rfl rfl rfl
theorem dX3_readLine_83 : decode cX3_readLine 83 = .ok (.getfield 82, 3) := dc_180 rfl rfl rfl rfl
theorem dX3_readLine_86 : decode cX3_readLine 86 = .ok (.iconst 2, 1) := dc_5 rfl
theorem dX3_readLine_87 : decode cX3_readLine 87 = .ok (.if_icmp .eq 8, 3) := dc_159 rfl rfl rfl (sg_p rfl rfl)
theorem dX3_readLine_90 : decode cX3_readLine 90 = .ok (.aload_n 0, 1) := dc_42 rfl
theorem dX3_readLine_91 : decode cX3_readLine 91 = .ok (.invokevirtual 92, 3) := dc_182 rfl rfl rfl rfl
theorem dX3_readLine_94 : decode cX3_readLine 94 = .ok (.ireturn, 1) := dc_172 rfl
theorem dX3_readLine_95 : decode cX3_readLine 95 = .ok (.aload_n 0, 1) := dc_42 rfl
theorem dX3_readLine_96 : decode cX3_readLine 96 = .ok (.getfield 32, 3) := dc_180 rfl rfl rfl rfl
theorem dX3_readLine_99 : decode cX3_readLine 99 = .ok (.iload 5, 2) := dc_21 rfl rfl rfl
theorem dX3_readLine_101 : decode cX3_readLine 101 = .ok (.aload_n 0, 1) := dc_42 rfl
theorem dX3_readLine_102 : decode cX3_readLine 102 = .ok (.getfield 12, 3) := dc_180 rfl rfl rfl rfl
theorem dX3_readLine_105 : decode cX3_readLine 105 = .ok (.getfield 102, 3) := dc_180 rfl rfl rfl rfl
theorem dX3_readLine_108 : decode cX3_readLine 108 = .ok (.iastore, 1) := dc_79 rfl
theorem dX3_readLine_109 : decode cX3_readLine 109 = .ok (.aload_n 0, 1) := dc_42 rfl
theorem dX3_readLine_110 : decode cX3_readLine 110 = .ok (.getfield 36, 3) := dc_180 rfl rfl rfl rfl
theorem dX3_readLine_113 : decode cX3_readLine 113 = .ok (.iload 5, 2) := dc_21 rfl rfl rfl
theorem dX3_readLine_115 : decode cX3_readLine 115 = .ok (.aload_n 0, 1) := dc_42 rfl
theorem dX3_readLine_116 : decode cX3_readLine 116 = .ok (.getfield 12, 3) := dc_180 rfl rfl rfl rfl
theorem dX3_readLine_119 : decode cX3_readLine 119 = .ok (.getfield 89, 3) := dc_180 rfl rfl rfl rfl
theorem dX3_readLine_122 : decode cX3_readLine 122 = .ok (.iastore, 1) := dc_79 rfl
theorem dX3_readLine_123 : decode cX3_readLine 123 = .ok (.iinc 5 1, 3) := dc_132 rfl rfl rfl rfl (by decide)
theorem dX3_readLine_126 : decode cX3_readLine 126 = .ok (.goto (-61), 3) := dc_167 rfl rfl rfl (sg_n (k := 61) rfl rfl rfl)
theorem dX3_readLine_129 : decode cX3_readLine 129 = .ok (.aload_n 0, 1) := dc_42 rfl
theorem dX3_readLine_130 : decode cX3_readLine 130 = .ok (.getfield 12, 3) := dc_180 rfl rfl rfl rfl
theorem dX3_readLine_133 : decode cX3_readLine 133 = .ok (.invokevirtual 79, 3) := dc_182 rfl rfl rfl rfl
theorem dX3_readLine_136 : decode cX3_readLine 136 = .ok (.aload_n 0, 1) := dc_42 rfl
theorem dX3_readLine_137 : decode cX3_readLine 137 = .ok (.getfield 12, 3) := dc_180 rfl rfl rfl rfl
theorem dX3_readLine_140 : decode cX3_readLine 140 = .ok (.getfield 82, 3) := dc_180 rfl rfl rfl rfl
theorem dX3_readLine_143 : decode cX3_readLine 143 = .ok (.iconst 3, 1) := dc_6 rfl
theorem dX3_readLine_144 : decode cX3_readLine 144 = .ok (.if_icmp .eq 8, 3) := dc_159 rfl rfl rfl (sg_p rfl rfl)
theorem dX3_readLine_147 : decode cX3_readLine 147 = .ok (.aload_n 0, 1) := dc_42 rfl
theorem dX3_readLine_148 : decode cX3_readLine 148 = .ok (.invokevirtual 92, 3) := dc_182 rfl rfl rfl rfl
theorem dX3_readLine_151 : decode cX3_readLine 151 = .ok (.ireturn, 1) := dc_172 rfl
theorem dX3_readLine_152 : decode cX3_readLine 152 = .ok (.aload_n 0, 1) := dc_42 rfl
theorem dX3_readLine_153 : decode cX3_readLine 153 = .ok (.iload_n 1, 1) := dc_27 rfl
theorem dX3_readLine_154 : decode cX3_readLine 154 = .ok (.iload_n 2, 1) := dc_28 rfl
theorem dX3_readLine_155 : decode cX3_readLine 155 = .ok (.iload_n 3, 1) := dc_29 rfl
theorem dX3_readLine_156 : decode cX3_readLine 156 = .ok (.iload 4, 2) := dc_21 rfl rfl rfl
theorem dX3_readLine_158 : decode cX3_readLine 158 = .ok (.invokevirtual 105, 3) := dc_182 rfl rfl rfl rfl
theorem dX3_readLine_161 : decode cX3_readLine 161 = .ok (.iconst 1, 1) := dc_4 rfl
theorem dX3_readLine_162 : decode cX3_readLine 162 = .ok (.ireturn, 1) := dc_172 rfl
theorem dX3_closeRains_0 : decode cX3_closeRains 0 = .ok (.aload_n 0, 1) := dc_42 rfl
theorem dX3_closeRains_1 : decode cX3_closeRains 1 = .ok (.getfield 21, 3) := dc_180 rfl rfl rfl rfl
theorem dX3_closeRains_4 : decode cX3_closeRains 4 = .ok (.getfield 61, 3) := dc_180 rfl rfl rfl rfl
theorem dX3_closeRains_7 : decode cX3_closeRains 7 = .ok (.ifCond .ne 17, 3) := dc_154 rfl rfl rfl (sg_p rfl rfl)
theorem dX3_closeRains_10 : decode cX3_closeRains 10 = .ok (.aload_n 0, 1) := dc_42 rfl
theorem dX3_closeRains_11 : decode cX3_closeRains 11 = .ok (.getfield 21, 3) := dc_180 rfl rfl rfl rfl
theorem dX3_closeRains_14 : decode cX3_closeRains 14 = .ok (.iconst 0, 1) := dc_3 rfl
theorem dX3_closeRains_15 : decode cX3_closeRains 15 = .ok (.bipush 100, 2) := dc_16 rfl rfl (by decide)
theorem dX3_closeRains_17 : decode cX3_closeRains 17 = .ok (.invokevirtual 64, 3) := dc_182 rfl rfl rfl rfl
theorem dX3_closeRains_20 : decode cX3_closeRains 20 = .ok (.pop, 1) := dc_87 rfl
theorem dX3_closeRains_21 : decode cX3_closeRains 21 = .ok (.goto 27, 3) := dc_167 rfl rfl rfl (sg_p rfl rfl)
theorem dX3_closeRains_24 : decode cX3_closeRains 24 = .ok (.aload_n 0, 1) := dc_42 rfl
theorem dX3_closeRains_25 : decode cX3_closeRains 25 = .ok (.getfield 21, 3) := dc_180 rfl rfl rfl rfl
theorem dX3_closeRains_28 : decode cX3_closeRains 28 = .ok (.invokevirtual 68, 3) := dc_182 rfl rfl rfl rfl
theorem dX3_closeRains_31 : decode cX3_closeRains 31 = .ok (.bipush 100, 2) := dc_16 rfl rfl (by decide)
theorem dX3_closeRains_33 : decode cX3_closeRains 33 = .ok (.if_icmp .eq 15, 3) := dc_159 rfl rfl rfl (sg_p rfl rfl)
theorem dX3_closeRains_36 : decode cX3_closeRains 36 = .ok (.aload_n 0, 1) := dc_42 rfl
theorem dX3_closeRains_37 : decode cX3_closeRains 37 = .ok (.iconst 4, 1) := dc_7 rfl
theorem dX3_closeRains_38 : decode cX3_closeRains 38 = .ok (.aload_n 0, 1) := dc_42 rfl
theorem dX3_closeRains_39 : decode cX3_closeRains 39 = .ok (.getfield 12, 3) := dc_180 rfl rfl rfl rfl
theorem dX3_closeRains_42 : decode cX3_closeRains 42 = .ok (.getfield 72, 3) := dc_180 rfl rfl rfl rfl
theorem dX3_closeRains_45 : decode cX3_closeRains 45 = .ok (.invokevirtual 75, 3) := dc_182 rfl rfl rfl rfl
theorem dX3_closeRains_48 : decode cX3_closeRains 48 = .ok (.return_, 1) := dc_177 rfl
theorem dX3_read_0 : decode cX3_read 0 = .ok (.aload_n 0, 1) := dc_42 rfl
theorem dX3_read_1 : decode cX3_read 1 = .ok (.iconst 0, 1) := dc_3 rfl
theorem dX3_read_2 : decode cX3_read 2 = .ok (.putfield 39, 3) := dc_181 rfl rfl rfl rfl
theorem dX3_read_5 : decode cX3_read 5 = .ok (.aload_n 0, 1) := dc_42 rfl
theorem dX3_read_6 : decode cX3_read 6 = .ok (.iconst (-1), 1) := dc_2 rfl
theorem dX3_read_7 : decode cX3_read 7 = .ok (.putfield 43, 3) := dc_181 rfl rfl rfl rfl
theorem dX3_read_10 : decode cX3_read 10 = .ok (.aload_n 0, 1) := dc_42 rfl
theorem dX3_read_11 : decode cX3_read 11 = .ok (.getfield 21, 3) := dc_180 rfl rfl rfl rfl
theorem dX3_read_14 : decode cX3_read 14 = .ok (.invokevirtual 46, 3) := dc_182 rfl rfl rfl rfl
theorem dX3_read_17 : decode cX3_read 17 = .ok (.aload_n 0, 1) := dc_42 rfl
theorem dX3_read_18 : decode cX3_read 18 = .ok (.getfield 28, 3) := dc_180 rfl rfl rfl rfl
theorem dX3_read_21 : decode cX3_read 21 = .ok (.invokevirtual 49, 3) := dc_182 rfl rfl rfl rfl
theorem dX3_read_24 : decode cX3_read 24 = .ok (.aload_n 0, 1) := dc_42 rfl
theorem dX3_read_25 : decode cX3_read 25 = .ok (.getfield 12, 3) := dc_180 rfl rfl rfl rfl
theorem dX3_read_28 : decode cX3_read 28 = .ok (.aload_n 1, 1) := dc_43 rfl
theorem dX3_read_29 : decode cX3_read 29 = .ok (.iload_n 2, 1) := dc_28 rfl
theorem dX3_read_30 : decode cX3_read 30 = .ok (.invokevirtual 50, 3) := dc_182 rfl rfl rfl rfl
theorem dX3_read_33 : decode cX3_read 33 = .ok (.iconst 1, 1) := dc_4 rfl
theorem dX3_read_34 : decode cX3_read 34 = .ok (.istore 4, 2) := dc_54 rfl rfl rfl
theorem dX3_read_36 : decode cX3_read 36 = .ok (.iconst 0, 1) := dc_3 rfl
theorem dX3_read_37 : decode cX3_read 37 = .ok (.istore 5, 2) := dc_54 rfl rfl rfl
theorem dX3_read_39 : decode cX3_read 39 = .ok (.iload 5, 2) := dc_21 rfl rfl rfl
theorem dX3_read_41 : decode cX3_read 41 = .ok (.sipush 600, 3) := dc_17 rfl rfl rfl (sg_p rfl rfl)
theorem dX3_read_44 : decode cX3_read 44 = .ok (.if_icmp .gt 21, 3) := dc_163 rfl rfl rfl (sg_p rfl rfl)
theorem dX3_read_47 : decode cX3_read 47 = .ok (.iload 4, 2) := dc_21 rfl rfl rfl
theorem dX3_read_49 : decode cX3_read 49 = .ok (.ifCond .eq 16, 3) := dc_153 rfl rfl rfl (sg_p rfl rfl)
theorem dX3_read_52 : decode cX3_read 52 = .ok (.aload_n 0, 1) := dc_42 rfl
theorem dX3_read_53 : decode cX3_read 53 = .ok (.iload_n 3, 1) := dc_29 rfl
theorem dX3_read_54 : decode cX3_read 54 = .ok (.invokevirtual 54, 3) := dc_182 rfl rfl rfl rfl
theorem dX3_read_57 : decode cX3_read 57 = .ok (.istore 4, 2) := dc_54 rfl rfl rfl
theorem dX3_read_59 : decode cX3_read 59 = .ok (.iinc 5 1, 3) := dc_132 rfl rfl rfl rfl (by decide)
theorem dX3_read_62 : decode cX3_read 62 = .ok (.goto (-23), 3) := dc_167 rfl rfl rfl (sg_n (k := 23) rfl rfl rfl)
theorem dX3_read_65 : decode cX3_read 65 = .ok (.iload_n 3, 1) := dc_29 rfl
theorem dX3_read_66 : decode cX3_read 66 = .ok (.ifCond .ne 14, 3) := dc_154 rfl rfl rfl (sg_p rfl rfl)
theorem dX3_read_69 : decode cX3_read 69 = .ok (.aload_n 0, 1) := dc_42 rfl
theorem dX3_read_70 : decode cX3_read 70 = .ok (.getfield 39, 3) := dc_180 rfl rfl rfl rfl
theorem dX3_read_73 : decode cX3_read 73 = .ok (.ifCond .ne 7, 3) := dc_154 rfl rfl rfl (sg_p rfl rfl)
theorem dX3_read_76 : decode cX3_read 76 = .ok (.aload_n 0, 1) := dc_42 rfl
theorem dX3_read_77 : decode cX3_read 77 = .ok (.invokevirtual 58, 3) := dc_182 rfl rfl rfl rfl
theorem dX3_read_80 : decode cX3_read 80 = .ok (.return_, 1) := dc_177 rfl
theorem dX7_numberFor_0 : decode cX7_numberFor 0 = .ok (.iload_n 1, 1) := dc_27 rfl
theorem dX7_numberFor_1 : decode cX7_numberFor 1 = .ok (.ifCond .eq 10, 3) := dc_153 rfl rfl rfl (sg_p rfl rfl)
theorem dX7_numberFor_4 : decode cX7_numberFor 4 = .ok (.iload_n 1, 1) := dc_27 rfl
theorem dX7_numberFor_5 : decode cX7_numberFor 5 = .ok (.iconst 1, 1) := dc_4 rfl
theorem dX7_numberFor_6 : decode cX7_numberFor 6 = .ok (.if_icmp .eq 5, 3) := dc_159 rfl rfl rfl (sg_p rfl rfl)
theorem dX7_numberFor_9 : decode cX7_numberFor 9 = .ok (.iconst (-1), 1) := dc_2 rfl
theorem dX7_numberFor_10 : decode cX7_numberFor 10 = .ok (.ireturn, 1) := dc_172 rfl
theorem dX7_numberFor_11 : decode cX7_numberFor 11 = .ok (.iload_n 1, 1) := dc_27 rfl
theorem dX7_numberFor_12 : decode cX7_numberFor 12 = .ok (.ifCond .ne 10, 3) := dc_154 rfl rfl rfl (sg_p rfl rfl)
theorem dX7_numberFor_15 : decode cX7_numberFor 15 = .ok (.aload_n 0, 1) := dc_42 rfl
theorem dX7_numberFor_16 : decode cX7_numberFor 16 = .ok (.getfield 31, 3) := dc_180 rfl rfl rfl rfl
theorem dX7_numberFor_19 : decode cX7_numberFor 19 = .ok (.goto 7, 3) := dc_167 rfl rfl rfl (sg_p rfl rfl)
theorem dX7_numberFor_22 : decode cX7_numberFor 22 = .ok (.aload_n 0, 1) := dc_42 rfl
theorem dX7_numberFor_23 : decode cX7_numberFor 23 = .ok (.getfield 40, 3) := dc_180 rfl rfl rfl rfl
theorem dX7_numberFor_26 : decode cX7_numberFor 26 = .ok (.istore_n 3, 1) := dc_62 rfl
theorem dX7_numberFor_27 : decode cX7_numberFor 27 = .ok (.iload_n 1, 1) := dc_27 rfl
theorem dX7_numberFor_28 : decode cX7_numberFor 28 = .ok (.ifCond .ne 7, 3) := dc_154 rfl rfl rfl (sg_p rfl rfl)
theorem dX7_numberFor_31 : decode cX7_numberFor 31 = .ok (.iconst 2, 1) := dc_5 rfl
theorem dX7_numberFor_32 : decode cX7_numberFor 32 = .ok (.goto 4, 3) := dc_167 rfl rfl rfl (sg_p rfl rfl)
theorem dX7_numberFor_35 : decode cX7_numberFor 35 = .ok (.iconst 3, 1) := dc_6 rfl
theorem dX7_numberFor_36 : decode cX7_numberFor 36 = .ok (.istore 4, 2) := dc_54 rfl rfl rfl
theorem dX7_numberFor_38 : decode cX7_numberFor 38 = .ok (.iload_n 2, 1) := dc_28 rfl
theorem dX7_numberFor_39 : decode cX7_numberFor 39 = .ok (.iconst (-1), 1) := dc_2 rfl
theorem dX7_numberFor_40 : decode cX7_numberFor 40 = .ok (.if_icmp .ne 15, 3) := dc_160 rfl rfl rfl (sg_p rfl rfl)
theorem dX7_numberFor_43 : decode cX7_numberFor 43 = .ok (.iload_n 3, 1) := dc_29 rfl
theorem dX7_numberFor_44 : decode cX7_numberFor 44 = .ok (.iload 4, 2) := dc_21 rfl rfl rfl
theorem dX7_numberFor_46 : decode cX7_numberFor 46 = .ok (.if_icmp .ge 7, 3) := dc_162 rfl rfl rfl (sg_p rfl rfl)
theorem dX7_numberFor_49 : decode cX7_numberFor 49 = .ok (.iload_n 3, 1) := dc_29 rfl
theorem dX7_numberFor_50 : decode cX7_numberFor 50 = .ok (.goto 4, 3) := dc_167 rfl rfl rfl (sg_p rfl rfl)
theorem dX7_numberFor_53 : decode cX7_numberFor 53 = .ok (.iconst (-1), 1) := dc_2 rfl
theorem dX7_numberFor_54 : decode cX7_numberFor 54 = .ok (.ireturn, 1) := dc_172 rfl
theorem dX7_numberFor_55 : decode cX7_numberFor 55 = .ok (.iload_n 2, 1) := dc_28 rfl
theorem dX7_numberFor_56 : decode cX7_numberFor 56 = .ok (.ifCond .lt 12, 3) := dc_155 rfl rfl rfl (sg_p rfl rfl)
theorem dX7_numberFor_59 : decode cX7_numberFor 59 = .ok (.iload_n 2, 1) := dc_28 rfl
theorem dX7_numberFor_60 : decode cX7_numberFor 60 = .ok (.iload_n 3, 1) := dc_29 rfl
theorem dX7_numberFor_61 : decode cX7_numberFor 61 = .ok (.if_icmp .ge 7, 3) := dc_162 rfl rfl rfl (sg_p rfl rfl)
theorem dX7_numberFor_64 : decode cX7_numberFor 64 = .ok (.iload_n 2, 1) := dc_28 rfl
theorem dX7_numberFor_65 : decode cX7_numberFor 65 = .ok (.goto 4, 3) := dc_167 rfl rfl rfl (sg_p rfl rfl)
theorem dX7_numberFor_68 : decode cX7_numberFor 68 = .ok (.iconst (-1), 1) := dc_2 rfl
theorem dX7_numberFor_69 : decode cX7_numberFor 69 = .ok (.ireturn, 1) := dc_172 rfl
theorem dX7_keep_0 : decode cX7_keep 0 = .ok (.iload_n 1, 1) := dc_27 rfl
theorem dX7_keep_1 : decode cX7_keep 1 = .ok (.ifCond .ne 33, 3) := dc_154 rfl rfl rfl (sg_p rfl rfl)
theorem dX7_keep_4 : decode cX7_keep 4 = .ok (.aload_n 0, 1) := dc_42 rfl
theorem dX7_keep_5 : decode cX7_keep 5 = .ok (.getfield 27, 3) := dc_180 rfl rfl rfl rfl
theorem dX7_keep_8 : decode cX7_keep 8 = .ok (.iload_n 2, 1) := dc_28 rfl
theorem dX7_keep_9 : decode cX7_keep 9 = .ok (.aaload, 1) := dc_50 rfl
theorem dX7_keep_10 : decode cX7_keep 10 = .ok (.aload_n 3, 1) := dc_45 rfl
theorem dX7_keep_11 : decode cX7_keep 11 = .ok (.getfield 45, 3) := dc_180 rfl rfl rfl rfl
theorem dX7_keep_14 : decode cX7_keep 14 = .ok (.invokevirtual 50, 3) := dc_182 rfl rfl rfl rfl
theorem dX7_keep_17 : decode cX7_keep 17 = .ok (.aload_n 0, 1) := dc_42 rfl
theorem dX7_keep_18 : decode cX7_keep 18 = .ok (.aload_n 0, 1) := dc_42 rfl
theorem dX7_keep_19 : decode cX7_keep 19 = .ok (.getfield 31, 3) := dc_180 rfl rfl rfl rfl
theorem dX7_keep_22 : decode cX7_keep 22 = .ok (.iload_n 2, 1) := dc_28 rfl
theorem dX7_keep_23 : decode cX7_keep 23 = .ok (.iconst 1, 1) := dc_4 rfl
theorem dX7_keep_24 : decode cX7_keep 24 = .ok (.iadd, 1) := dc_96 rfl
theorem dX7_keep_25 : decode cX7_keep 25 = .ok (.invokestatic 54, 3) := dc_184 rfl rfl rfl rfl
theorem dX7_keep_28 : decode cX7_keep 28 = .ok (.putfield 31, 3) := dc_181 rfl rfl rfl rfl
theorem dX7_keep_31 : decode cX7_keep 31 = .ok (.goto 30, 3) := dc_167 rfl rfl rfl (sg_p rfl rfl)
theorem dX7_keep_34 : decode cX7_keep 34 = .ok (.aload_n 0, 1) := dc_42 rfl
theorem dX7_keep_35 : decode cX7_keep 35 = .ok (.getfield 36, 3) := dc_180 rfl rfl rfl rfl
theorem dX7_keep_38 : decode cX7_keep 38 = .ok (.iload_n 2, 1) := dc_28 rfl
theorem dX7_keep_39 : decode cX7_keep 39 = .ok (.aaload, 1) := dc_50 rfl
theorem dX7_keep_40 : decode cX7_keep 40 = .ok (.aload_n 3, 1) := dc_45 rfl
theorem dX7_keep_41 : decode cX7_keep 41 = .ok (.getfield 60, 3) := dc_180 rfl rfl rfl rfl
theorem dX7_keep_44 : decode cX7_keep 44 = .ok (.invokevirtual 63, 3) := dc_182 rfl rfl rfl rfl
theorem dX7_keep_47 : decode cX7_keep 47 = .ok (.aload_n 0, 1) := dc_42 rfl
theorem dX7_keep_48 : decode cX7_keep 48 = .ok (.aload_n 0, 1) := dc_42 rfl
theorem dX7_keep_49 : decode cX7_keep 49 = .ok (.getfield 40, 3) := dc_180 rfl rfl rfl rfl
theorem dX7_keep_52 : decode cX7_keep 52 = .ok (.iload_n 2, 1) := dc_28 rfl
theorem dX7_keep_53 : decode cX7_keep 53 = .ok (.iconst 1, 1) := dc_4 rfl
theorem dX7_keep_54 : decode cX7_keep 54 = .ok (.iadd, 1) := dc_96 rfl
theorem dX7_keep_55 : decode cX7_keep 55 = .ok (.invokestatic 54, 3) := dc_184 rfl rfl rfl rfl
theorem dX7_keep_58 : decode cX7_keep 58 = .ok (.putfield 40, 3) := dc_181 rfl rfl rfl rfl
theorem dX7_keep_61 : decode cX7_keep 61 = .ok (.return_, 1) := dc_177 rfl
theorem dX10_text_0 : decode cX10_text 0 = .ok (.aload_n 0, 1) := dc_42 rfl
theorem dX10_text_1 : decode cX10_text 1 = .ok (.getfield 10, 3) := dc_180 rfl rfl rfl rfl
theorem dX10_text_4 : decode cX10_text 4 = .ok (.getfield 71, 3) := dc_180 rfl rfl rfl rfl
theorem dX10_text_7 : decode cX10_text 7 = .ok (.istore_n 3, 1) := dc_62 rfl
theorem dX10_text_8 : decode cX10_text 8 = .ok (.aload_n 0, 1) := dc_42 rfl
theorem dX10_text_9 : decode cX10_text 9 = .ok (.getfield 10, 3) := dc_180 rfl rfl rfl rfl
theorem dX10_text_12 : decode cX10_text 12 = .ok (.iconst 0, 1) := dc_3 rfl
theorem dX10_text_13 : decode cX10_text 13 = .ok (.putfield 71, 3) := dc_181 rfl rfl rfl rfl
theorem dX10_text_16 : decode cX10_text 16 = .ok (.aload_n 0, 1) := dc_42 rfl
theorem dX10_text_17 : decode cX10_text 17 = .ok (.getfield 10, 3) := dc_180 rfl rfl rfl rfl
theorem dX10_text_20 : decode cX10_text 20 = .ok (.iconst 0, 1) := dc_3 rfl
theorem dX10_text_21 : decode cX10_text 21 = .ok (.putfield 79, 3) := dc_181 rfl rfl rfl rfl
theorem dX10_text_24 : decode cX10_text 24 = .ok (.aload_n 0, 1) := dc_42 rfl
theorem dX10_text_25 : decode cX10_text 25 = .ok (.getfield 10, 3) := dc_180 rfl rfl rfl rfl
theorem dX10_text_28 : decode cX10_text 28 = .ok (.iconst (-1), 1) := dc_2 rfl
theorem dX10_text_29 : decode cX10_text 29 = .ok (.putfield 82, 3) := dc_181 rfl rfl rfl rfl
theorem dX10_text_32 : decode cX10_text 32 = .ok (.aload_n 0, 1) := dc_42 rfl
theorem dX10_text_33 : decode cX10_text 33 = .ok (.getfield 10, 3) := dc_180 rfl rfl rfl rfl
theorem dX10_text_36 : decode cX10_text 36 = .ok (.iload_n 1, 1) := dc_27 rfl
theorem dX10_text_37 : decode cX10_text 37 = .ok (.iload_n 2, 1) := dc_28 rfl
theorem dX10_text_38 : decode cX10_text 38 = .ok (.invokevirtual 85, 3) := dc_182 rfl rfl rfl rfl
theorem dX10_text_41 : decode cX10_text 41 = .ok (.istore 4, 2) := dc_54 rfl rfl rfl
theorem dX10_text_43 : decode cX10_text 43 = .ok (.iload 4, 2) := dc_21 rfl rfl rfl
theorem dX10_text_45 : decode cX10_text 45 = .ok (.iconst (-1), 1) := dc_2 rfl
theorem dX10_text_46 : decode cX10_text 46 = .ok (.if_icmp .ne 6, 3) := dc_160 rfl rfl rfl (sg_p rfl rfl)
theorem dX10_text_49 : decode cX10_text 49 = .ok (.bipush (-2), 2) := dc_16 rfl rfl (by decide)
theorem dX10_text_51 : decode cX10_text 51 = .ok (.ireturn, 1) := dc_172 rfl
theorem dX10_text_52 : decode cX10_text 52 = .ok (.aload_n 0, 1) := dc_42 rfl
theorem dX10_text_53 : decode cX10_text 53 = .ok (.getfield 27, 3) := dc_180 rfl rfl rfl rfl
theorem dX10_text_56 : decode cX10_text 56 = .ok (.aload_n 0, 1) := dc_42 rfl
theorem dX10_text_57 : decode cX10_text 57 = .ok (.getfield 10, 3) := dc_180 rfl rfl rfl rfl
theorem dX10_text_60 : decode cX10_text 60 = .ok (.getfield 89, 3) := dc_180 rfl rfl rfl rfl
theorem dX10_text_63 : decode cX10_text 63 = .ok (.iload_n 3, 1) := dc_29 rfl
theorem dX10_text_64 : decode cX10_text 64 = .ok (.iload_n 1, 1) := dc_27 rfl
theorem dX10_text_65 : decode cX10_text 65 = .ok (.invokevirtual 93, 3) := dc_182 rfl rfl rfl rfl
theorem dX10_text_68 : decode cX10_text 68 = .ok (.aload_n 0, 1) := dc_42 rfl
theorem dX10_text_69 : decode cX10_text 69 = .ok (.getfield 10, 3) := dc_180 rfl rfl rfl rfl
theorem dX10_text_72 : decode cX10_text 72 = .ok (.aload_n 0, 1) := dc_42 rfl
theorem dX10_text_73 : decode cX10_text 73 = .ok (.getfield 27, 3) := dc_180 rfl rfl rfl rfl
theorem dX10_text_76 : decode cX10_text 76 = .ok (.getfield 97, 3) := dc_180 rfl rfl rfl rfl
theorem dX10_text_79 : decode cX10_text 79 = .ok (.putfield 79, 3) := dc_181 rfl rfl rfl rfl
theorem dX10_text_82 : decode cX10_text 82 = .ok (.aload_n 0, 1) := dc_42 rfl
theorem dX10_text_83 : decode cX10_text 83 = .ok (.getfield 10, 3) := dc_180 rfl rfl rfl rfl
theorem dX10_text_86 : decode cX10_text 86 = .ok (.aload_n 0, 1) := dc_42 rfl
theorem dX10_text_87 : decode cX10_text 87 = .ok (.getfield 27, 3) := dc_180 rfl rfl rfl rfl
theorem dX10_text_90 : decode cX10_text 90 = .ok (.getfield 98, 3) := dc_180 rfl rfl rfl rfl
theorem dX10_text_93 : decode cX10_text 93 = .ok (.putfield 82, 3) := dc_181 rfl rfl rfl rfl
theorem dX10_text_96 : decode cX10_text 96 = .ok (.aload_n 0, 1) := dc_42 rfl
theorem dX10_text_97 : decode cX10_text 97 = .ok (.getfield 27, 3) := dc_180 rfl rfl rfl rfl
theorem dX10_text_100 : decode cX10_text 100 = .ok (.getfield 97, 3) := dc_180 rfl rfl rfl rfl
theorem dX10_text_103 : decode cX10_text 103 = .ok (.ifCond .eq 5, 3) := dc_153 rfl rfl rfl (sg_p rfl rfl)
theorem dX10_text_106 : decode cX10_text 106 = .ok (.iconst (-1), 1) := dc_2 rfl
theorem dX10_text_107 : decode cX10_text 107 = .ok (.ireturn, 1) := dc_172 rfl
theorem dX10_text_108 : decode cX10_text 108 = .ok (.aload_n 0, 1) := dc_42 rfl
theorem dX10_text_109 : decode cX10_text 109 = .ok (.getfield 10, 3) := dc_180 rfl rfl rfl rfl
theorem dX10_text_112 : decode cX10_text 112 = .ok (.iload_n 1, 1) := dc_27 rfl
theorem dX10_text_113 : decode cX10_text 113 = .ok (.iload 4, 2) := dc_21 rfl rfl rfl
theorem dX10_text_115 : decode cX10_text 115 = .ok (.aload_n 0, 1) := dc_42 rfl
theorem dX10_text_116 : decode cX10_text 116 = .ok (.getfield 27, 3) := dc_180 rfl rfl rfl rfl
theorem dX10_text_119 : decode cX10_text 119 = .ok (.invokevirtual 99, 3) := dc_182 rfl rfl rfl rfl
theorem dX10_text_122 : decode cX10_text 122 = .ok (.iload 4, 2) := dc_21 rfl rfl rfl
theorem dX10_text_124 : decode cX10_text 124 = .ok (.ireturn, 1) := dc_172 rfl
