theorem k553 : Cond.methodLink RX6 51 yJ0_length_8abf5 ∈ gt := gt_in 553 (by decide +kernel) (by decide +kernel)
theorem k554 : Cond.instanceMethod yJ0_length_8abf5 ∈ gt := gt_in 554 (by decide +kernel) (by decide +kernel)
theorem k555 : Cond.selects RJ0 yJ0_length_8abf5 yJ0_length_8abf5 ∈ gt := gt_in 555 (by decide +kernel) (by decide +kernel)
theorem k556 : Cond.code yJ0_length_8abf5 cJ0_length_8abf5 1 (some .int) ∈ gt := gt_in 556 (by decide +kernel) (by decide +kernel)
theorem np_J0_length_8abf5 : yJ0_length_8abf5.cls ≠ "java/lang/invoke/MethodHandle" ∧ yJ0_length_8abf5.cls ≠ "java/lang/invoke/VarHandle" ∧ (parseMethodDescriptor yJ0_length_8abf5.desc).map (fun d => d.parameters.length) = some 0 := by decide +kernel
theorem k563 : Cond.methodLink RX6 56 yJ0_charAt_5068e ∈ gt := gt_in 563 (by decide +kernel) (by decide +kernel)
theorem k564 : Cond.instanceMethod yJ0_charAt_5068e ∈ gt := gt_in 564 (by decide +kernel) (by decide +kernel)
theorem k565 : Cond.selects RJ0 yJ0_charAt_5068e yJ0_charAt_5068e ∈ gt := gt_in 565 (by decide +kernel) (by decide +kernel)
theorem k566 : Cond.code yJ0_charAt_5068e cJ0_charAt_5068e 2 (some .char) ∈ gt := gt_in 566 (by decide +kernel) (by decide +kernel)
theorem np_J0_charAt_5068e : yJ0_charAt_5068e.cls ≠ "java/lang/invoke/MethodHandle" ∧ yJ0_charAt_5068e.cls ≠ "java/lang/invoke/VarHandle" ∧ (parseMethodDescriptor yJ0_charAt_5068e.desc).map (fun d => d.parameters.length) = some 1 := by decide +kernel
theorem k543 : Cond.methodLink RX3 113 yX3_planWord ∈ gt := gt_in 543 (by decide +kernel) (by decide +kernel)
theorem k544 : Cond.static yX3_planWord ∈ gt := gt_in 544 (by decide +kernel) (by decide +kernel)
theorem k545 : Cond.code yX3_planWord cX3_planWord 1 (some (.object "java/lang/String")) ∈ gt := gt_in 545 (by decide +kernel) (by decide +kernel)
theorem np_X3_planWord : yX3_planWord.cls ≠ "java/lang/invoke/MethodHandle" ∧ yX3_planWord.cls ≠ "java/lang/invoke/VarHandle" ∧ (parseMethodDescriptor yX3_planWord.desc).map (fun d => d.parameters.length) = some 1 := by decide +kernel
theorem k549 : Cond.methodLink RX3 116 yX6_isWord ∈ gt := gt_in 549 (by decide +kernel) (by decide +kernel)
theorem k550 : Cond.instanceMethod yX6_isWord ∈ gt := gt_in 550 (by decide +kernel) (by decide +kernel)
theorem k551 : Cond.selects RX6 yX6_isWord yX6_isWord ∈ gt := gt_in 551 (by decide +kernel) (by decide +kernel)
theorem k552 : Cond.code yX6_isWord cX6_isWord 3 (some .boolean) ∈ gt := gt_in 552 (by decide +kernel) (by decide +kernel)
theorem np_X6_isWord : yX6_isWord.cls ≠ "java/lang/invoke/MethodHandle" ∧ yX6_isWord.cls ≠ "java/lang/invoke/VarHandle" ∧ (parseMethodDescriptor yX6_isWord.desc).map (fun d => d.parameters.length) = some 1 := by decide +kernel
theorem k525 : Cond.methodLink RX3 109 yX3_hillWord ∈ gt := gt_in 525 (by decide +kernel) (by decide +kernel)
theorem k526 : Cond.static yX3_hillWord ∈ gt := gt_in 526 (by decide +kernel) (by decide +kernel)
theorem k527 : Cond.code yX3_hillWord cX3_hillWord 1 (some (.object "java/lang/String")) ∈ gt := gt_in 527 (by decide +kernel) (by decide +kernel)
theorem np_X3_hillWord : yX3_hillWord.cls ≠ "java/lang/invoke/MethodHandle" ∧ yX3_hillWord.cls ≠ "java/lang/invoke/VarHandle" ∧ (parseMethodDescriptor yX3_hillWord.desc).map (fun d => d.parameters.length) = some 1 := by decide +kernel
theorem k239 : Cond.fieldLinkNest RX3 89 "PondStair$Tokens" "start" "I" "PondStair" ∈ nt := nt_in 239 (by decide +kernel) (by decide +kernel)
theorem k140 : Cond.fieldLinkNest RX3 61 "PondStair$Hill" "rains" "I" "PondStair" ∈ nt := nt_in 140 (by decide +kernel) (by decide +kernel)
theorem k135 : Cond.fieldLinkNest RX3 174 "PondStair$Hill" "ponds" "I" "PondStair" ∈ nt := nt_in 135 (by decide +kernel) (by decide +kernel)
theorem k625 : Cond.fieldLink RX3 177 "PondStair$Reader" "HILL_MOST" "[I" ∈ gt := gt_in 625 (by decide +kernel) (by decide +kernel)
theorem k631 : Cond.fieldLink RX3 180 "PondStair$Reader" "PLAN_LEAST" "[I" ∈ gt := gt_in 631 (by decide +kernel) (by decide +kernel)
theorem k633 : Cond.fieldLink RX3 183 "PondStair$Reader" "PLAN_MOST" "[I" ∈ gt := gt_in 633 (by decide +kernel) (by decide +kernel)
theorem k657 : Cond.fieldLink RX3 192 "PondStair$Reader" "HILL_COLUMN" "[I" ∈ gt := gt_in 657 (by decide +kernel) (by decide +kernel)
theorem k659 : Cond.methodLink RX3 195 yX1_put ∈ gt := gt_in 659 (by decide +kernel) (by decide +kernel)
theorem k147 : Cond.fieldLinkNest RX3 189 "PondStair$Hill" "days" "[I" "PondStair" ∈ nt := nt_in 147 (by decide +kernel) (by decide +kernel)
theorem k653 : Cond.methodLink RX3 64 yX1_addRain ∈ gt := gt_in 653 (by decide +kernel) (by decide +kernel)
theorem k639 : Cond.methodLink RX3 186 yX1_addPond ∈ gt := gt_in 639 (by decide +kernel) (by decide +kernel)
theorem k640 : Cond.instanceMethod yX1_addPond ∈ gt := gt_in 640 (by decide +kernel) (by decide +kernel)
theorem k641 : Cond.selects RX1 yX1_addPond yX1_addPond ∈ gt := gt_in 641 (by decide +kernel) (by decide +kernel)
theorem k642 : Cond.code yX1_addPond cX1_addPond 5 (some .boolean) ∈ gt := gt_in 642 (by decide +kernel) (by decide +kernel)
theorem np_X1_addPond : yX1_addPond.cls ≠ "java/lang/invoke/MethodHandle" ∧ yX1_addPond.cls ≠ "java/lang/invoke/VarHandle" ∧ (parseMethodDescriptor yX1_addPond.desc).map (fun d => d.parameters.length) = some 3 := by decide +kernel
theorem k170 : Cond.fieldLinkNest RX3 159 "PondStair$Works" "works" "I" "PondStair" ∈ nt := nt_in 170 (by decide +kernel) (by decide +kernel)
theorem k617 : Cond.methodLink RX3 75 yX3_remember ∈ gt := gt_in 617 (by decide +kernel) (by decide +kernel)
theorem k619 : Cond.instanceMethod yX3_remember ∈ gt := gt_in 619 (by decide +kernel) (by decide +kernel)
theorem k7 : Cond.selects RX3 yX3_remember yX3_remember ∈ gt := gt_in 7 (by decide +kernel) (by decide +kernel)
theorem k620 : Cond.code yX3_remember cX3_remember 3 none ∈ gt := gt_in 620 (by decide +kernel) (by decide +kernel)
theorem np_X3_remember : yX3_remember.cls ≠ "java/lang/invoke/MethodHandle" ∧ yX3_remember.cls ≠ "java/lang/invoke/VarHandle" ∧ (parseMethodDescriptor yX3_remember.desc).map (fun d => d.parameters.length) = some 2 := by decide +kernel
theorem k613 : Cond.methodLink RX3 156 yX3_isFull ∈ gt := gt_in 613 (by decide +kernel) (by decide +kernel)
theorem k615 : Cond.instanceMethod yX3_isFull ∈ gt := gt_in 615 (by decide +kernel) (by decide +kernel)
theorem k6 : Cond.selects RX3 yX3_isFull yX3_isFull ∈ gt := gt_in 6 (by decide +kernel) (by decide +kernel)
theorem k616 : Cond.code yX3_isFull cX3_isFull 2 (some .boolean) ∈ gt := gt_in 616 (by decide +kernel) (by decide +kernel)
theorem np_X3_isFull : yX3_isFull.cls ≠ "java/lang/invoke/MethodHandle" ∧ yX3_isFull.cls ≠ "java/lang/invoke/VarHandle" ∧ (parseMethodDescriptor yX3_isFull.desc).map (fun d => d.parameters.length) = some 1 := by decide +kernel
theorem k627 : Cond.methodLink RX3 164 yX3_canBeInPlan ∈ gt := gt_in 627 (by decide +kernel) (by decide +kernel)
theorem k629 : Cond.instanceMethod yX3_canBeInPlan ∈ gt := gt_in 629 (by decide +kernel) (by decide +kernel)
theorem k9 : Cond.selects RX3 yX3_canBeInPlan yX3_canBeInPlan ∈ gt := gt_in 9 (by decide +kernel) (by decide +kernel)
theorem k630 : Cond.code yX3_canBeInPlan cX3_canBeInPlan 4 (some .boolean) ∈ gt := gt_in 630 (by decide +kernel) (by decide +kernel)
theorem np_X3_canBeInPlan : yX3_canBeInPlan.cls ≠ "java/lang/invoke/MethodHandle" ∧ yX3_canBeInPlan.cls ≠ "java/lang/invoke/VarHandle" ∧ (parseMethodDescriptor yX3_canBeInPlan.desc).map (fun d => d.parameters.length) = some 2 := by decide +kernel
theorem k621 : Cond.methodLink RX3 161 yX3_canBeInHill ∈ gt := gt_in 621 (by decide +kernel) (by decide +kernel)
theorem k623 : Cond.instanceMethod yX3_canBeInHill ∈ gt := gt_in 623 (by decide +kernel) (by decide +kernel)
theorem k8 : Cond.selects RX3 yX3_canBeInHill yX3_canBeInHill ∈ gt := gt_in 8 (by decide +kernel) (by decide +kernel)
theorem k624 : Cond.code yX3_canBeInHill cX3_canBeInHill 4 (some .boolean) ∈ gt := gt_in 624 (by decide +kernel) (by decide +kernel)
theorem np_X3_canBeInHill : yX3_canBeInHill.cls ≠ "java/lang/invoke/MethodHandle" ∧ yX3_canBeInHill.cls ≠ "java/lang/invoke/VarHandle" ∧ (parseMethodDescriptor yX3_canBeInHill.desc).map (fun d => d.parameters.length) = some 2 := by decide +kernel
theorem k660 : Cond.methodLink RX3 170 yX8_add ∈ gt := gt_in 660 (by decide +kernel) (by decide +kernel)
theorem k661 : Cond.instanceMethod yX8_add ∈ gt := gt_in 661 (by decide +kernel) (by decide +kernel)
theorem k662 : Cond.selects RX8 yX8_add yX8_add ∈ gt := gt_in 662 (by decide +kernel) (by decide +kernel)
theorem k663 : Cond.code yX8_add cX8_add 4 (some .boolean) ∈ gt := gt_in 663 (by decide +kernel) (by decide +kernel)
theorem np_X8_add : yX8_add.cls ≠ "java/lang/invoke/MethodHandle" ∧ yX8_add.cls ≠ "java/lang/invoke/VarHandle" ∧ (parseMethodDescriptor yX8_add.desc).map (fun d => d.parameters.length) = some 3 := by decide +kernel
theorem k635 : Cond.methodLink RX3 167 yX3_takeForHill ∈ gt := gt_in 635 (by decide +kernel) (by decide +kernel)
theorem k637 : Cond.instanceMethod yX3_takeForHill ∈ gt := gt_in 637 (by decide +kernel) (by decide +kernel)
theorem k10 : Cond.selects RX3 yX3_takeForHill yX3_takeForHill ∈ gt := gt_in 10 (by decide +kernel) (by decide +kernel)
theorem k638 : Cond.code yX3_takeForHill cX3_takeForHill 3 none ∈ gt := gt_in 638 (by decide +kernel) (by decide +kernel)
theorem np_X3_takeForHill : yX3_takeForHill.cls ≠ "java/lang/invoke/MethodHandle" ∧ yX3_takeForHill.cls ≠ "java/lang/invoke/VarHandle" ∧ (parseMethodDescriptor yX3_takeForHill.desc).map (fun d => d.parameters.length) = some 2 := by decide +kernel
theorem k500 : Cond.methodLink RX3 79 yX6_advance ∈ gt := gt_in 500 (by decide +kernel) (by decide +kernel)
theorem k501 : Cond.instanceMethod yX6_advance ∈ gt := gt_in 501 (by decide +kernel) (by decide +kernel)
theorem k502 : Cond.selects RX6 yX6_advance yX6_advance ∈ gt := gt_in 502 (by decide +kernel) (by decide +kernel)
theorem k503 : Cond.code yX6_advance cX6_advance 1 none ∈ gt := gt_in 503 (by decide +kernel) (by decide +kernel)
theorem np_X6_advance : yX6_advance.cls ≠ "java/lang/invoke/MethodHandle" ∧ yX6_advance.cls ≠ "java/lang/invoke/VarHandle" ∧ (parseMethodDescriptor yX6_advance.desc).map (fun d => d.parameters.length) = some 0 := by decide +kernel
theorem k237 : Cond.fieldLinkNest RX3 82 "PondStair$Tokens" "kind" "I" "PondStair" ∈ nt := nt_in 237 (by decide +kernel) (by decide +kernel)
theorem k521 : Cond.methodLink RX3 85 yX3_lineOf ∈ gt := gt_in 521 (by decide +kernel) (by decide +kernel)
theorem k523 : Cond.instanceMethod yX3_lineOf ∈ gt := gt_in 523 (by decide +kernel) (by decide +kernel)
theorem k3 : Cond.selects RX3 yX3_lineOf yX3_lineOf ∈ gt := gt_in 3 (by decide +kernel) (by decide +kernel)
theorem k524 : Cond.code yX3_lineOf cX3_lineOf 4 (some .int) ∈ gt := gt_in 524 (by decide +kernel) (by decide +kernel)
theorem np_X3_lineOf : yX3_lineOf.cls ≠ "java/lang/invoke/MethodHandle" ∧ yX3_lineOf.cls ≠ "java/lang/invoke/VarHandle" ∧ (parseMethodDescriptor yX3_lineOf.desc).map (fun d => d.parameters.length) = some 1 := by decide +kernel
theorem k607 : Cond.fieldLink RX3 99 "PondStair$Reader" "PLAN_COUNT" "[I" ∈ gt := gt_in 607 (by decide +kernel) (by decide +kernel)
theorem k609 : Cond.methodLink RX3 105 yX3_take ∈ gt := gt_in 609 (by decide +kernel) (by decide +kernel)
theorem k611 : Cond.instanceMethod yX3_take ∈ gt := gt_in 611 (by decide +kernel) (by decide +kernel)
theorem k5 : Cond.selects RX3 yX3_take yX3_take ∈ gt := gt_in 5 (by decide +kernel) (by decide +kernel)
theorem k612 : Cond.code yX3_take cX3_take 6 none ∈ gt := gt_in 612 (by decide +kernel) (by decide +kernel)
theorem np_X3_take : yX3_take.cls ≠ "java/lang/invoke/MethodHandle" ∧ yX3_take.cls ≠ "java/lang/invoke/VarHandle" ∧ (parseMethodDescriptor yX3_take.desc).map (fun d => d.parameters.length) = some 4 := by decide +kernel
theorem k601 : Cond.methodLink RX3 92 yX3_breaksOff ∈ gt := gt_in 601 (by decide +kernel) (by decide +kernel)
theorem k603 : Cond.instanceMethod yX3_breaksOff ∈ gt := gt_in 603 (by decide +kernel) (by decide +kernel)
theorem k4 : Cond.selects RX3 yX3_breaksOff yX3_breaksOff ∈ gt := gt_in 4 (by decide +kernel) (by decide +kernel)
theorem k604 : Cond.code yX3_breaksOff cX3_breaksOff 1 (some .boolean) ∈ gt := gt_in 604 (by decide +kernel) (by decide +kernel)
theorem np_X3_breaksOff : yX3_breaksOff.cls ≠ "java/lang/invoke/MethodHandle" ∧ yX3_breaksOff.cls ≠ "java/lang/invoke/VarHandle" ∧ (parseMethodDescriptor yX3_breaksOff.desc).map (fun d => d.parameters.length) = some 0 := by decide +kernel
theorem k241 : Cond.fieldLinkNest RX3 102 "PondStair$Tokens" "value" "I" "PondStair" ∈ nt := nt_in 241 (by decide +kernel) (by decide +kernel)
theorem k605 : Cond.fieldLink RX3 96 "PondStair$Reader" "HILL_COUNT" "[I" ∈ gt := gt_in 605 (by decide +kernel) (by decide +kernel)
theorem k668 : Cond.methodLink RX3 68 yX1_chancesTogether ∈ gt := gt_in 668 (by decide +kernel) (by decide +kernel)
theorem k669 : Cond.instanceMethod yX1_chancesTogether ∈ gt := gt_in 669 (by decide +kernel) (by decide +kernel)
theorem k670 : Cond.selects RX1 yX1_chancesTogether yX1_chancesTogether ∈ gt := gt_in 670 (by decide +kernel) (by decide +kernel)
theorem k671 : Cond.code yX1_chancesTogether cX1_chancesTogether 3 (some .int) ∈ gt := gt_in 671 (by decide +kernel) (by decide +kernel)
theorem np_X1_chancesTogether : yX1_chancesTogether.cls ≠ "java/lang/invoke/MethodHandle" ∧ yX1_chancesTogether.cls ≠ "java/lang/invoke/VarHandle" ∧ (parseMethodDescriptor yX1_chancesTogether.desc).map (fun d => d.parameters.length) = some 0 := by decide +kernel
theorem k234 : Cond.fieldLinkNest RX3 72 "PondStair$Tokens" "length" "I" "PondStair" ∈ nt := nt_in 234 (by decide +kernel) (by decide +kernel)
theorem k478 : Cond.methodLink RX3 46 yX1_clear ∈ gt := gt_in 478 (by decide +kernel) (by decide +kernel)
theorem k479 : Cond.instanceMethod yX1_clear ∈ gt := gt_in 479 (by decide +kernel) (by decide +kernel)
theorem k480 : Cond.selects RX1 yX1_clear yX1_clear ∈ gt := gt_in 480 (by decide +kernel) (by decide +kernel)
theorem k481 : Cond.code yX1_clear cX1_clear 1 none ∈ gt := gt_in 481 (by decide +kernel) (by decide +kernel)
theorem np_X1_clear : yX1_clear.cls ≠ "java/lang/invoke/MethodHandle" ∧ yX1_clear.cls ≠ "java/lang/invoke/VarHandle" ∧ (parseMethodDescriptor yX1_clear.desc).map (fun d => d.parameters.length) = some 0 := by decide +kernel
theorem k485 : Cond.methodLink RX3 49 yX8_clear ∈ gt := gt_in 485 (by decide +kernel) (by decide +kernel)
theorem k486 : Cond.instanceMethod yX8_clear ∈ gt := gt_in 486 (by decide +kernel) (by decide +kernel)
theorem k487 : Cond.selects RX8 yX8_clear yX8_clear ∈ gt := gt_in 487 (by decide +kernel) (by decide +kernel)
theorem k488 : Cond.code yX8_clear cX8_clear 1 none ∈ gt := gt_in 488 (by decide +kernel) (by decide +kernel)
theorem np_X8_clear : yX8_clear.cls ≠ "java/lang/invoke/MethodHandle" ∧ yX8_clear.cls ≠ "java/lang/invoke/VarHandle" ∧ (parseMethodDescriptor yX8_clear.desc).map (fun d => d.parameters.length) = some 0 := by decide +kernel
theorem k489 : Cond.methodLink RX3 50 yX6_begin ∈ gt := gt_in 489 (by decide +kernel) (by decide +kernel)
theorem k490 : Cond.instanceMethod yX6_begin ∈ gt := gt_in 490 (by decide +kernel) (by decide +kernel)
theorem k491 : Cond.selects RX6 yX6_begin yX6_begin ∈ gt := gt_in 491 (by decide +kernel) (by decide +kernel)
theorem k492 : Cond.code yX6_begin cX6_begin 3 none ∈ gt := gt_in 492 (by decide +kernel) (by decide +kernel)
theorem np_X6_begin : yX6_begin.cls ≠ "java/lang/invoke/MethodHandle" ∧ yX6_begin.cls ≠ "java/lang/invoke/VarHandle" ∧ (parseMethodDescriptor yX6_begin.desc).map (fun d => d.parameters.length) = some 2 := by decide +kernel
theorem k496 : Cond.methodLink RX3 54 yX3_readLine ∈ gt := gt_in 496 (by decide +kernel) (by decide +kernel)
theorem k498 : Cond.instanceMethod yX3_readLine ∈ gt := gt_in 498 (by decide +kernel) (by decide +kernel)
theorem k0 : Cond.selects RX3 yX3_readLine yX3_readLine ∈ gt := gt_in 0 (by decide +kernel) (by decide +kernel)
theorem k499 : Cond.code yX3_readLine cX3_readLine 6 (some .boolean) ∈ gt := gt_in 499 (by decide +kernel) (by decide +kernel)
theorem np_X3_readLine : yX3_readLine.cls ≠ "java/lang/invoke/MethodHandle" ∧ yX3_readLine.cls ≠ "java/lang/invoke/VarHandle" ∧ (parseMethodDescriptor yX3_readLine.desc).map (fun d => d.parameters.length) = some 1 := by decide +kernel
theorem k664 : Cond.methodLink RX3 58 yX3_closeRains ∈ gt := gt_in 664 (by decide +kernel) (by decide +kernel)
theorem k666 : Cond.instanceMethod yX3_closeRains ∈ gt := gt_in 666 (by decide +kernel) (by decide +kernel)
theorem k11 : Cond.selects RX3 yX3_closeRains yX3_closeRains ∈ gt := gt_in 11 (by decide +kernel) (by decide +kernel)
theorem k667 : Cond.code yX3_closeRains cX3_closeRains 1 none ∈ gt := gt_in 667 (by decide +kernel) (by decide +kernel)
theorem np_X3_closeRains : yX3_closeRains.cls ≠ "java/lang/invoke/MethodHandle" ∧ yX3_closeRains.cls ≠ "java/lang/invoke/VarHandle" ∧ (parseMethodDescriptor yX3_closeRains.desc).map (fun d => d.parameters.length) = some 0 := by decide +kernel
theorem k262 : Cond.fieldLinkNest RX7 45 "PondStair$Reader" "hill" "LPondStair$Hill;" "PondStair" ∈ nt := nt_in 262 (by decide +kernel) (by decide +kernel)
theorem k687 : Cond.methodLink RX7 54 Lib.Math.max.name ∈ gt := gt_in 687 (by decide +kernel) (by decide +kernel)
theorem k264 : Cond.fieldLinkNest RX7 60 "PondStair$Reader" "works" "LPondStair$Works;" "PondStair" ∈ nt := nt_in 264 (by decide +kernel) (by decide +kernel)
theorem k470 : Cond.methodLink RX10 85 yX7_numberFor ∈ gt := gt_in 470 (by decide +kernel) (by decide +kernel)
theorem k471 : Cond.instanceMethod yX7_numberFor ∈ gt := gt_in 471 (by decide +kernel) (by decide +kernel)
theorem k472 : Cond.selects RX7 yX7_numberFor yX7_numberFor ∈ gt := gt_in 472 (by decide +kernel) (by decide +kernel)
theorem k473 : Cond.code yX7_numberFor cX7_numberFor 5 (some .int) ∈ gt := gt_in 473 (by decide +kernel) (by decide +kernel)
theorem np_X7_numberFor : yX7_numberFor.cls ≠ "java/lang/invoke/MethodHandle" ∧ yX7_numberFor.cls ≠ "java/lang/invoke/VarHandle" ∧ (parseMethodDescriptor yX7_numberFor.desc).map (fun d => d.parameters.length) = some 2 := by decide +kernel
theorem k187 : Cond.fieldLinkNest RX10 89 "PondStair$Told" "tape" "[B" "PondStair" ∈ nt := nt_in 187 (by decide +kernel) (by decide +kernel)
theorem k474 : Cond.methodLink RX10 93 yX3_read ∈ gt := gt_in 474 (by decide +kernel) (by decide +kernel)
theorem k475 : Cond.instanceMethod yX3_read ∈ gt := gt_in 475 (by decide +kernel) (by decide +kernel)
theorem k476 : Cond.selects RX3 yX3_read yX3_read ∈ gt := gt_in 476 (by decide +kernel) (by decide +kernel)
theorem k477 : Cond.code yX3_read cX3_read 6 none ∈ gt := gt_in 477 (by decide +kernel) (by decide +kernel)
theorem np_X3_read : yX3_read.cls ≠ "java/lang/invoke/MethodHandle" ∧ yX3_read.cls ≠ "java/lang/invoke/VarHandle" ∧ (parseMethodDescriptor yX3_read.desc).map (fun d => d.parameters.length) = some 3 := by decide +kernel
theorem k268 : Cond.fieldLinkNest RX10 97 "PondStair$Reader" "fault" "I" "PondStair" ∈ nt := nt_in 268 (by decide +kernel) (by decide +kernel)
theorem k270 : Cond.fieldLinkNest RX10 98 "PondStair$Reader" "place" "I" "PondStair" ∈ nt := nt_in 270 (by decide +kernel) (by decide +kernel)
theorem k676 : Cond.methodLink RX10 99 yX7_keep ∈ gt := gt_in 676 (by decide +kernel) (by decide +kernel)
theorem k677 : Cond.instanceMethod yX7_keep ∈ gt := gt_in 677 (by decide +kernel) (by decide +kernel)
theorem k678 : Cond.selects RX7 yX7_keep yX7_keep ∈ gt := gt_in 678 (by decide +kernel) (by decide +kernel)
theorem k679 : Cond.code yX7_keep cX7_keep 4 none ∈ gt := gt_in 679 (by decide +kernel) (by decide +kernel)
theorem np_X7_keep : yX7_keep.cls ≠ "java/lang/invoke/MethodHandle" ∧ yX7_keep.cls ≠ "java/lang/invoke/VarHandle" ∧ (parseMethodDescriptor yX7_keep.desc).map (fun d => d.parameters.length) = some 3 := by decide +kernel
theorem dX6_isWord_0 : decode cX6_isWord 0 = .ok (.aload_n 0, 1) := by decide +kernel
theorem dX6_isWord_1 : decode cX6_isWord 1 = .ok (.getfield 20, 3) := by decide +kernel
theorem dX6_isWord_4 : decode cX6_isWord 4 = .ok (.iconst 1, 1) := by decide +kernel
theorem dX6_isWord_5 : decode cX6_isWord 5 = .ok (.if_icmp .ne 19, 3) := by decide +kernel
theorem dX6_isWord_8 : decode cX6_isWord 8 = .ok (.aload_n 0, 1) := by decide +kernel
theorem dX6_isWord_9 : decode cX6_isWord 9 = .ok (.getfield 17, 3) := by decide +kernel
theorem dX6_isWord_12 : decode cX6_isWord 12 = .ok (.aload_n 0, 1) := by decide +kernel
theorem dX6_isWord_13 : decode cX6_isWord 13 = .ok (.getfield 23, 3) := by decide +kernel
theorem dX6_isWord_16 : decode cX6_isWord 16 = .ok (.isub, 1) := by decide +kernel
theorem dX6_isWord_17 : decode cX6_isWord 17 = .ok (.aload_n 1, 1) := by decide +kernel
theorem dX6_isWord_18 : decode cX6_isWord 18 = .ok (.invokevirtual 51, 3) := by decide +kernel
theorem dX6_isWord_21 : decode cX6_isWord 21 = .ok (.if_icmp .eq 5, 3) := by decide +kernel
theorem dX6_isWord_24 : decode cX6_isWord 24 = .ok (.iconst 0, 1) := by decide +kernel
theorem dX6_isWord_25 : decode cX6_isWord 25 = .ok (.ireturn, 1) := by decide +kernel
theorem dX6_isWord_26 : decode cX6_isWord 26 = .ok (.iconst 0, 1) := by decide +kernel
theorem dX6_isWord_27 : decode cX6_isWord 27 = .ok (.istore_n 2, 1) := by decide +kernel
theorem dX6_isWord_28 : decode cX6_isWord 28 = .ok (.iload_n 2, 1) := by decide +kernel
theorem dX6_isWord_29 : decode cX6_isWord 29 = .ok (.aload_n 1, 1) := by decide +kernel
theorem dX6_isWord_30 : decode cX6_isWord 30 = .ok (.invokevirtual 51, 3) := by decide +kernel
theorem dX6_isWord_33 : decode cX6_isWord 33 = .ok (.if_icmp .ge 43, 3) := by decide +kernel
theorem dX6_isWord_36 : decode cX6_isWord 36 = .ok (.aload_n 0, 1) := by decide +kernel
theorem dX6_isWord_37 : decode cX6_isWord 37 = .ok (.getfield 23, 3) := by decide +kernel
theorem dX6_isWord_40 : decode cX6_isWord 40 = .ok (.iload_n 2, 1) := by decide +kernel
theorem dX6_isWord_41 : decode cX6_isWord 41 = .ok (.iadd, 1) := by decide +kernel
theorem dX6_isWord_42 : decode cX6_isWord 42 = .ok (.aload_n 0, 1) := by decide +kernel
theorem dX6_isWord_43 : decode cX6_isWord 43 = .ok (.getfield 13, 3) := by decide +kernel
theorem dX6_isWord_46 : decode cX6_isWord 46 = .ok (.if_icmp .ge 30, 3) := by decide +kernel
theorem dX6_isWord_49 : decode cX6_isWord 49 = .ok (.aload_n 0, 1) := by decide +kernel
theorem dX6_isWord_50 : decode cX6_isWord 50 = .ok (.getfield 7, 3) := by decide +kernel
theorem dX6_isWord_53 : decode cX6_isWord 53 = .ok (.aload_n 0, 1) := by decide +kernel
theorem dX6_isWord_54 : decode cX6_isWord 54 = .ok (.getfield 23, 3) := by decide +kernel
theorem dX6_isWord_57 : decode cX6_isWord 57 = .ok (.iload_n 2, 1) := by decide +kernel
theorem dX6_isWord_58 : decode cX6_isWord 58 = .ok (.iadd, 1) := by decide +kernel
theorem dX6_isWord_59 : decode cX6_isWord 59 = .ok (.baload, 1) := by decide +kernel
theorem dX6_isWord_60 : decode cX6_isWord 60 = .ok (.aload_n 1, 1) := by decide +kernel
theorem dX6_isWord_61 : decode cX6_isWord 61 = .ok (.iload_n 2, 1) := by decide +kernel
theorem dX6_isWord_62 : decode cX6_isWord 62 = .ok (.invokevirtual 56, 3) := by decide +kernel
theorem dX6_isWord_65 : decode cX6_isWord 65 = .ok (.if_icmp .eq 5, 3) := by decide +kernel
theorem dX6_isWord_68 : decode cX6_isWord 68 = .ok (.iconst 0, 1) := by decide +kernel
theorem dX6_isWord_69 : decode cX6_isWord 69 = .ok (.ireturn, 1) := by decide +kernel
theorem dX6_isWord_70 : decode cX6_isWord 70 = .ok (.iinc 2 1, 3) := by decide +kernel
theorem dX6_isWord_73 : decode cX6_isWord 73 = .ok (.goto (-45), 3) := by decide +kernel
theorem dX6_isWord_76 : decode cX6_isWord 76 = .ok (.iconst 1, 1) := by decide +kernel
theorem dX6_isWord_77 : decode cX6_isWord 77 = .ok (.ireturn, 1) := by decide +kernel
theorem dX3_hillWord_0 : decode cX3_hillWord 0 = .ok (.iload_n 0, 1) := by decide +kernel
theorem dX3_hillWord_1 : decode cX3_hillWord 1 = .ok (.tableswitch 113 0 13 #[71, 74, 77, 80, 83, 86, 89, 92, 95, 98, 101, 104, 107, 110], 71) := by decide +kernel
theorem dX3_hillWord_72 : decode cX3_hillWord 72 = .ok (.ldc 120, 2) := by decide +kernel
theorem dX3_hillWord_74 : decode cX3_hillWord 74 = .ok (.areturn, 1) := by decide +kernel
theorem dX3_hillWord_75 : decode cX3_hillWord 75 = .ok (.ldc 122, 2) := by decide +kernel
theorem dX3_hillWord_77 : decode cX3_hillWord 77 = .ok (.areturn, 1) := by decide +kernel
theorem dX3_hillWord_78 : decode cX3_hillWord 78 = .ok (.ldc 124, 2) := by decide +kernel
theorem dX3_hillWord_80 : decode cX3_hillWord 80 = .ok (.areturn, 1) := by decide +kernel
theorem dX3_hillWord_81 : decode cX3_hillWord 81 = .ok (.ldc 126, 2) := by decide +kernel
theorem dX3_hillWord_83 : decode cX3_hillWord 83 = .ok (.areturn, 1) := by decide +kernel
theorem dX3_hillWord_84 : decode cX3_hillWord 84 = .ok (.ldc 128, 2) := by decide +kernel
theorem dX3_hillWord_86 : decode cX3_hillWord 86 = .ok (.areturn, 1) := by decide +kernel
theorem dX3_hillWord_87 : decode cX3_hillWord 87 = .ok (.ldc 130, 2) := by decide +kernel
theorem dX3_hillWord_89 : decode cX3_hillWord 89 = .ok (.areturn, 1) := by decide +kernel
theorem dX3_hillWord_90 : decode cX3_hillWord 90 = .ok (.ldc 132, 2) := by decide +kernel
theorem dX3_hillWord_92 : decode cX3_hillWord 92 = .ok (.areturn, 1) := by decide +kernel
theorem dX3_hillWord_93 : decode cX3_hillWord 93 = .ok (.ldc 134, 2) := by decide +kernel
theorem dX3_hillWord_95 : decode cX3_hillWord 95 = .ok (.areturn, 1) := by decide +kernel
theorem dX3_hillWord_96 : decode cX3_hillWord 96 = .ok (.ldc 136, 2) := by decide +kernel
theorem dX3_hillWord_98 : decode cX3_hillWord 98 = .ok (.areturn, 1) := by decide +kernel
theorem dX3_hillWord_99 : decode cX3_hillWord 99 = .ok (.ldc 138, 2) := by decide +kernel
theorem dX3_hillWord_101 : decode cX3_hillWord 101 = .ok (.areturn, 1) := by decide +kernel
theorem dX3_hillWord_102 : decode cX3_hillWord 102 = .ok (.ldc 140, 2) := by decide +kernel
theorem dX3_hillWord_104 : decode cX3_hillWord 104 = .ok (.areturn, 1) := by decide +kernel
theorem dX3_hillWord_105 : decode cX3_hillWord 105 = .ok (.ldc 142, 2) := by decide +kernel
theorem dX3_hillWord_107 : decode cX3_hillWord 107 = .ok (.areturn, 1) := by decide +kernel
theorem dX3_hillWord_108 : decode cX3_hillWord 108 = .ok (.ldc 144, 2) := by decide +kernel
theorem dX3_hillWord_110 : decode cX3_hillWord 110 = .ok (.areturn, 1) := by decide +kernel
theorem dX3_hillWord_111 : decode cX3_hillWord 111 = .ok (.ldc 146, 2) := by decide +kernel
theorem dX3_hillWord_113 : decode cX3_hillWord 113 = .ok (.areturn, 1) := by decide +kernel
theorem dX3_hillWord_114 : decode cX3_hillWord 114 = .ok (.ldc 148, 2) := by decide +kernel
theorem dX3_hillWord_116 : decode cX3_hillWord 116 = .ok (.areturn, 1) := by decide +kernel
theorem dX3_planWord_0 : decode cX3_planWord 0 = .ok (.iload_n 0, 1) := by decide +kernel
theorem dX3_planWord_1 : decode cX3_planWord 1 = .ok (.tableswitch 43 0 3 #[31, 34, 37, 40], 31) := by decide +kernel
theorem dX3_planWord_32 : decode cX3_planWord 32 = .ok (.ldc 144, 2) := by decide +kernel
theorem dX3_planWord_34 : decode cX3_planWord 34 = .ok (.areturn, 1) := by decide +kernel
theorem dX3_planWord_35 : decode cX3_planWord 35 = .ok (.ldc 150, 2) := by decide +kernel
theorem dX3_planWord_37 : decode cX3_planWord 37 = .ok (.areturn, 1) := by decide +kernel
theorem dX3_planWord_38 : decode cX3_planWord 38 = .ok (.ldc 152, 2) := by decide +kernel
theorem dX3_planWord_40 : decode cX3_planWord 40 = .ok (.areturn, 1) := by decide +kernel
theorem dX3_planWord_41 : decode cX3_planWord 41 = .ok (.ldc 148, 2) := by decide +kernel
theorem dX3_planWord_43 : decode cX3_planWord 43 = .ok (.areturn, 1) := by decide +kernel
theorem dX3_planWord_44 : decode cX3_planWord 44 = .ok (.ldc 154, 2) := by decide +kernel
theorem dX3_planWord_46 : decode cX3_planWord 46 = .ok (.areturn, 1) := by decide +kernel
theorem dX3_lineOf_0 : decode cX3_lineOf 0 = .ok (.iload_n 1, 1) := by decide +kernel
theorem dX3_lineOf_1 : decode cX3_lineOf 1 = .ok (.ifCond .ne 8, 3) := by decide +kernel
theorem dX3_lineOf_4 : decode cX3_lineOf 4 = .ok (.bipush 15, 2) := by decide +kernel
theorem dX3_lineOf_6 : decode cX3_lineOf 6 = .ok (.goto 4, 3) := by decide +kernel
theorem dX3_lineOf_9 : decode cX3_lineOf 9 = .ok (.iconst 5, 1) := by decide +kernel
theorem dX3_lineOf_10 : decode cX3_lineOf 10 = .ok (.istore_n 2, 1) := by decide +kernel
theorem dX3_lineOf_11 : decode cX3_lineOf 11 = .ok (.iconst 0, 1) := by decide +kernel
theorem dX3_lineOf_12 : decode cX3_lineOf 12 = .ok (.istore_n 3, 1) := by decide +kernel
theorem dX3_lineOf_13 : decode cX3_lineOf 13 = .ok (.iload_n 3, 1) := by decide +kernel
theorem dX3_lineOf_14 : decode cX3_lineOf 14 = .ok (.iload_n 2, 1) := by decide +kernel
theorem dX3_lineOf_15 : decode cX3_lineOf 15 = .ok (.if_icmp .ge 36, 3) := by decide +kernel
theorem dX3_lineOf_18 : decode cX3_lineOf 18 = .ok (.aload_n 0, 1) := by decide +kernel
theorem dX3_lineOf_19 : decode cX3_lineOf 19 = .ok (.getfield 12, 3) := by decide +kernel
theorem dX3_lineOf_22 : decode cX3_lineOf 22 = .ok (.iload_n 1, 1) := by decide +kernel
theorem dX3_lineOf_23 : decode cX3_lineOf 23 = .ok (.ifCond .ne 10, 3) := by decide +kernel
theorem dX3_lineOf_26 : decode cX3_lineOf 26 = .ok (.iload_n 3, 1) := by decide +kernel
theorem dX3_lineOf_27 : decode cX3_lineOf 27 = .ok (.invokestatic 109, 3) := by decide +kernel
theorem dX3_lineOf_30 : decode cX3_lineOf 30 = .ok (.goto 7, 3) := by decide +kernel
theorem dX3_lineOf_33 : decode cX3_lineOf 33 = .ok (.iload_n 3, 1) := by decide +kernel
theorem dX3_lineOf_34 : decode cX3_lineOf 34 = .ok (.invokestatic 113, 3) := by decide +kernel
theorem dX3_lineOf_37 : decode cX3_lineOf 37 = .ok (.invokevirtual 116, 3) := by decide +kernel
theorem dX3_lineOf_40 : decode cX3_lineOf 40 = .ok (.ifCond .eq 5, 3) := by decide +kernel
theorem dX3_lineOf_43 : decode cX3_lineOf 43 = .ok (.iload_n 3, 1) := by decide +kernel
theorem dX3_lineOf_44 : decode cX3_lineOf 44 = .ok (.ireturn, 1) := by decide +kernel
theorem dX3_lineOf_45 : decode cX3_lineOf 45 = .ok (.iinc 3 1, 3) := by decide +kernel
theorem dX3_lineOf_48 : decode cX3_lineOf 48 = .ok (.goto (-35), 3) := by decide +kernel
theorem dX3_lineOf_51 : decode cX3_lineOf 51 = .ok (.iconst (-1), 1) := by decide +kernel
theorem dX3_lineOf_52 : decode cX3_lineOf 52 = .ok (.ireturn, 1) := by decide +kernel
theorem dX3_breaksOff_0 : decode cX3_breaksOff 0 = .ok (.aload_n 0, 1) := by decide +kernel
theorem dX3_breaksOff_1 : decode cX3_breaksOff 1 = .ok (.iconst 1, 1) := by decide +kernel
theorem dX3_breaksOff_2 : decode cX3_breaksOff 2 = .ok (.putfield 39, 3) := by decide +kernel
theorem dX3_breaksOff_5 : decode cX3_breaksOff 5 = .ok (.aload_n 0, 1) := by decide +kernel
theorem dX3_breaksOff_6 : decode cX3_breaksOff 6 = .ok (.aload_n 0, 1) := by decide +kernel
theorem dX3_breaksOff_7 : decode cX3_breaksOff 7 = .ok (.getfield 12, 3) := by decide +kernel
theorem dX3_breaksOff_10 : decode cX3_breaksOff 10 = .ok (.getfield 89, 3) := by decide +kernel
theorem dX3_breaksOff_13 : decode cX3_breaksOff 13 = .ok (.putfield 43, 3) := by decide +kernel
theorem dX3_breaksOff_16 : decode cX3_breaksOff 16 = .ok (.iconst 0, 1) := by decide +kernel
theorem dX3_breaksOff_17 : decode cX3_breaksOff 17 = .ok (.ireturn, 1) := by decide +kernel
theorem dX3_remember_0 : decode cX3_remember 0 = .ok (.aload_n 0, 1) := by decide +kernel
theorem dX3_remember_1 : decode cX3_remember 1 = .ok (.getfield 39, 3) := by decide +kernel
theorem dX3_remember_4 : decode cX3_remember 4 = .ok (.ifCond .ne 13, 3) := by decide +kernel
theorem dX3_remember_7 : decode cX3_remember 7 = .ok (.aload_n 0, 1) := by decide +kernel
theorem dX3_remember_8 : decode cX3_remember 8 = .ok (.iload_n 1, 1) := by decide +kernel
theorem dX3_remember_9 : decode cX3_remember 9 = .ok (.putfield 39, 3) := by decide +kernel
theorem dX3_remember_12 : decode cX3_remember 12 = .ok (.aload_n 0, 1) := by decide +kernel
theorem dX3_remember_13 : decode cX3_remember 13 = .ok (.iload_n 2, 1) := by decide +kernel
theorem dX3_remember_14 : decode cX3_remember 14 = .ok (.putfield 43, 3) := by decide +kernel
theorem dX3_remember_17 : decode cX3_remember 17 = .ok (.return_, 1) := by decide +kernel
theorem dX3_isFull_0 : decode cX3_isFull 0 = .ok (.iload_n 1, 1) := by decide +kernel
theorem dX3_isFull_1 : decode cX3_isFull 1 = .ok (.ifCond .ne 15, 3) := by decide +kernel
theorem dX3_isFull_4 : decode cX3_isFull 4 = .ok (.aload_n 0, 1) := by decide +kernel
theorem dX3_isFull_5 : decode cX3_isFull 5 = .ok (.getfield 21, 3) := by decide +kernel
theorem dX3_isFull_8 : decode cX3_isFull 8 = .ok (.getfield 174, 3) := by decide +kernel
theorem dX3_isFull_11 : decode cX3_isFull 11 = .ok (.bipush 9, 2) := by decide +kernel
theorem dX3_isFull_13 : decode cX3_isFull 13 = .ok (.if_icmp .ge 20, 3) := by decide +kernel
theorem dX3_isFull_16 : decode cX3_isFull 16 = .ok (.iload_n 1, 1) := by decide +kernel
theorem dX3_isFull_17 : decode cX3_isFull 17 = .ok (.bipush 11, 2) := by decide +kernel
theorem dX3_isFull_19 : decode cX3_isFull 19 = .ok (.if_icmp .ne 18, 3) := by decide +kernel
theorem dX3_isFull_22 : decode cX3_isFull 22 = .ok (.aload_n 0, 1) := by decide +kernel
theorem dX3_isFull_23 : decode cX3_isFull 23 = .ok (.getfield 21, 3) := by decide +kernel
theorem dX3_isFull_26 : decode cX3_isFull 26 = .ok (.getfield 61, 3) := by decide +kernel
theorem dX3_isFull_29 : decode cX3_isFull 29 = .ok (.iconst 4, 1) := by decide +kernel
theorem dX3_isFull_30 : decode cX3_isFull 30 = .ok (.if_icmp .lt 7, 3) := by decide +kernel
theorem dX3_isFull_33 : decode cX3_isFull 33 = .ok (.iconst 1, 1) := by decide +kernel
theorem dX3_isFull_34 : decode cX3_isFull 34 = .ok (.goto 4, 3) := by decide +kernel
theorem dX3_isFull_37 : decode cX3_isFull 37 = .ok (.iconst 0, 1) := by decide +kernel
theorem dX3_isFull_38 : decode cX3_isFull 38 = .ok (.ireturn, 1) := by decide +kernel
theorem dX3_canBeInHill_0 : decode cX3_canBeInHill 0 = .ok (.aload_n 0, 1) := by decide +kernel
theorem dX3_canBeInHill_1 : decode cX3_canBeInHill 1 = .ok (.getfield 32, 3) := by decide +kernel
theorem dX3_canBeInHill_4 : decode cX3_canBeInHill 4 = .ok (.iload_n 2, 1) := by decide +kernel
theorem dX3_canBeInHill_5 : decode cX3_canBeInHill 5 = .ok (.iaload, 1) := by decide +kernel
theorem dX3_canBeInHill_6 : decode cX3_canBeInHill 6 = .ok (.istore_n 3, 1) := by decide +kernel
theorem dX3_canBeInHill_7 : decode cX3_canBeInHill 7 = .ok (.iload_n 3, 1) := by decide +kernel
theorem dX3_canBeInHill_8 : decode cX3_canBeInHill 8 = .ok (.getstatic 177, 3) := by decide +kernel
theorem dX3_canBeInHill_11 : decode cX3_canBeInHill 11 = .ok (.iconst 3, 1) := by decide +kernel
theorem dX3_canBeInHill_12 : decode cX3_canBeInHill 12 = .ok (.iload_n 1, 1) := by decide +kernel
theorem dX3_canBeInHill_13 : decode cX3_canBeInHill 13 = .ok (.imul, 1) := by decide +kernel
theorem dX3_canBeInHill_14 : decode cX3_canBeInHill 14 = .ok (.iload_n 2, 1) := by decide +kernel
theorem dX3_canBeInHill_15 : decode cX3_canBeInHill 15 = .ok (.iadd, 1) := by decide +kernel
theorem dX3_canBeInHill_16 : decode cX3_canBeInHill 16 = .ok (.iaload, 1) := by decide +kernel
theorem dX3_canBeInHill_17 : decode cX3_canBeInHill 17 = .ok (.if_icmp .le 5, 3) := by decide +kernel
theorem dX3_canBeInHill_20 : decode cX3_canBeInHill 20 = .ok (.iconst 0, 1) := by decide +kernel
theorem dX3_canBeInHill_21 : decode cX3_canBeInHill 21 = .ok (.ireturn, 1) := by decide +kernel
theorem dX3_canBeInHill_22 : decode cX3_canBeInHill 22 = .ok (.iload_n 1, 1) := by decide +kernel
theorem dX3_canBeInHill_23 : decode cX3_canBeInHill 23 = .ok (.ifCond .ne 24, 3) := by decide +kernel
theorem dX3_canBeInHill_26 : decode cX3_canBeInHill 26 = .ok (.iload_n 2, 1) := by decide +kernel
theorem dX3_canBeInHill_27 : decode cX3_canBeInHill 27 = .ok (.iconst 1, 1) := by decide +kernel
theorem dX3_canBeInHill_28 : decode cX3_canBeInHill 28 = .ok (.if_icmp .ne 13, 3) := by decide +kernel
theorem dX3_canBeInHill_31 : decode cX3_canBeInHill 31 = .ok (.iload_n 3, 1) := by decide +kernel
theorem dX3_canBeInHill_32 : decode cX3_canBeInHill 32 = .ok (.aload_n 0, 1) := by decide +kernel
theorem dX3_canBeInHill_33 : decode cX3_canBeInHill 33 = .ok (.getfield 32, 3) := by decide +kernel
theorem dX3_canBeInHill_36 : decode cX3_canBeInHill 36 = .ok (.iconst 0, 1) := by decide +kernel
theorem dX3_canBeInHill_37 : decode cX3_canBeInHill 37 = .ok (.iaload, 1) := by decide +kernel
theorem dX3_canBeInHill_38 : decode cX3_canBeInHill 38 = .ok (.if_icmp .gt 7, 3) := by decide +kernel
theorem dX3_canBeInHill_41 : decode cX3_canBeInHill 41 = .ok (.iconst 1, 1) := by decide +kernel
theorem dX3_canBeInHill_42 : decode cX3_canBeInHill 42 = .ok (.goto 4, 3) := by decide +kernel
theorem dX3_canBeInHill_45 : decode cX3_canBeInHill 45 = .ok (.iconst 0, 1) := by decide +kernel
theorem dX3_canBeInHill_46 : decode cX3_canBeInHill 46 = .ok (.ireturn, 1) := by decide +kernel
theorem dX3_canBeInHill_47 : decode cX3_canBeInHill 47 = .ok (.iload_n 1, 1) := by decide +kernel
theorem dX3_canBeInHill_48 : decode cX3_canBeInHill 48 = .ok (.bipush 10, 2) := by decide +kernel
theorem dX3_canBeInHill_50 : decode cX3_canBeInHill 50 = .ok (.if_icmp .le 5, 3) := by decide +kernel
theorem dX3_canBeInHill_53 : decode cX3_canBeInHill 53 = .ok (.iconst 1, 1) := by decide +kernel
theorem dX3_canBeInHill_54 : decode cX3_canBeInHill 54 = .ok (.ireturn, 1) := by decide +kernel
theorem dX3_canBeInHill_55 : decode cX3_canBeInHill 55 = .ok (.iload_n 2, 1) := by decide +kernel
theorem dX3_canBeInHill_56 : decode cX3_canBeInHill 56 = .ok (.ifCond .ne 20, 3) := by decide +kernel
theorem dX3_canBeInHill_59 : decode cX3_canBeInHill 59 = .ok (.iload_n 3, 1) := by decide +kernel
theorem dX3_canBeInHill_60 : decode cX3_canBeInHill 60 = .ok (.aload_n 0, 1) := by decide +kernel
theorem dX3_canBeInHill_61 : decode cX3_canBeInHill 61 = .ok (.getfield 21, 3) := by decide +kernel
theorem dX3_canBeInHill_64 : decode cX3_canBeInHill 64 = .ok (.getfield 174, 3) := by decide +kernel
theorem dX3_canBeInHill_67 : decode cX3_canBeInHill 67 = .ok (.if_icmp .ge 7, 3) := by decide +kernel
theorem dX3_canBeInHill_70 : decode cX3_canBeInHill 70 = .ok (.iconst 1, 1) := by decide +kernel
theorem dX3_canBeInHill_71 : decode cX3_canBeInHill 71 = .ok (.goto 4, 3) := by decide +kernel
theorem dX3_canBeInHill_74 : decode cX3_canBeInHill 74 = .ok (.iconst 0, 1) := by decide +kernel
theorem dX3_canBeInHill_75 : decode cX3_canBeInHill 75 = .ok (.ireturn, 1) := by decide +kernel
theorem dX3_canBeInHill_76 : decode cX3_canBeInHill 76 = .ok (.iload_n 2, 1) := by decide +kernel
theorem dX3_canBeInHill_77 : decode cX3_canBeInHill 77 = .ok (.iconst 1, 1) := by decide +kernel
theorem dX3_canBeInHill_78 : decode cX3_canBeInHill 78 = .ok (.if_icmp .gt 29, 3) := by decide +kernel
theorem dX3_canBeInHill_81 : decode cX3_canBeInHill 81 = .ok (.iload_n 1, 1) := by decide +kernel
theorem dX3_canBeInHill_82 : decode cX3_canBeInHill 82 = .ok (.iconst 2, 1) := by decide +kernel
theorem dX3_canBeInHill_83 : decode cX3_canBeInHill 83 = .ok (.if_icmp .gt 24, 3) := by decide +kernel
theorem dX3_canBeInHill_86 : decode cX3_canBeInHill 86 = .ok (.iload_n 3, 1) := by decide +kernel
theorem dX3_canBeInHill_87 : decode cX3_canBeInHill 87 = .ok (.aload_n 0, 1) := by decide +kernel
theorem dX3_canBeInHill_88 : decode cX3_canBeInHill 88 = .ok (.getfield 32, 3) := by decide +kernel
theorem dX3_canBeInHill_91 : decode cX3_canBeInHill 91 = .ok (.iconst 0, 1) := by decide +kernel
theorem dX3_canBeInHill_92 : decode cX3_canBeInHill 92 = .ok (.iaload, 1) := by decide +kernel
theorem dX3_canBeInHill_93 : decode cX3_canBeInHill 93 = .ok (.if_icmp .le 18, 3) := by decide +kernel
theorem dX3_canBeInHill_96 : decode cX3_canBeInHill 96 = .ok (.iload_n 3, 1) := by decide +kernel
theorem dX3_canBeInHill_97 : decode cX3_canBeInHill 97 = .ok (.aload_n 0, 1) := by decide +kernel
theorem dX3_canBeInHill_98 : decode cX3_canBeInHill 98 = .ok (.getfield 21, 3) := by decide +kernel
theorem dX3_canBeInHill_101 : decode cX3_canBeInHill 101 = .ok (.getfield 174, 3) := by decide +kernel
theorem dX3_canBeInHill_104 : decode cX3_canBeInHill 104 = .ok (.if_icmp .ge 7, 3) := by decide +kernel
theorem dX3_canBeInHill_107 : decode cX3_canBeInHill 107 = .ok (.iconst 1, 1) := by decide +kernel
theorem dX3_canBeInHill_108 : decode cX3_canBeInHill 108 = .ok (.goto 4, 3) := by decide +kernel
theorem dX3_canBeInHill_111 : decode cX3_canBeInHill 111 = .ok (.iconst 0, 1) := by decide +kernel
theorem dX3_canBeInHill_112 : decode cX3_canBeInHill 112 = .ok (.ireturn, 1) := by decide +kernel
theorem dX3_canBeInPlan_0 : decode cX3_canBeInPlan 0 = .ok (.iconst 3, 1) := by decide +kernel
theorem dX3_canBeInPlan_1 : decode cX3_canBeInPlan 1 = .ok (.iload_n 1, 1) := by decide +kernel
theorem dX3_canBeInPlan_2 : decode cX3_canBeInPlan 2 = .ok (.imul, 1) := by decide +kernel
theorem dX3_canBeInPlan_3 : decode cX3_canBeInPlan 3 = .ok (.iload_n 2, 1) := by decide +kernel
theorem dX3_canBeInPlan_4 : decode cX3_canBeInPlan 4 = .ok (.iadd, 1) := by decide +kernel
theorem dX3_canBeInPlan_5 : decode cX3_canBeInPlan 5 = .ok (.istore_n 3, 1) := by decide +kernel
theorem dX3_canBeInPlan_6 : decode cX3_canBeInPlan 6 = .ok (.aload_n 0, 1) := by decide +kernel
theorem dX3_canBeInPlan_7 : decode cX3_canBeInPlan 7 = .ok (.getfield 32, 3) := by decide +kernel
theorem dX3_canBeInPlan_10 : decode cX3_canBeInPlan 10 = .ok (.iload_n 2, 1) := by decide +kernel
theorem dX3_canBeInPlan_11 : decode cX3_canBeInPlan 11 = .ok (.iaload, 1) := by decide +kernel
theorem dX3_canBeInPlan_12 : decode cX3_canBeInPlan 12 = .ok (.getstatic 180, 3) := by decide +kernel
theorem dX3_canBeInPlan_15 : decode cX3_canBeInPlan 15 = .ok (.iload_n 3, 1) := by decide +kernel
theorem dX3_canBeInPlan_16 : decode cX3_canBeInPlan 16 = .ok (.iaload, 1) := by decide +kernel
theorem dX3_canBeInPlan_17 : decode cX3_canBeInPlan 17 = .ok (.if_icmp .lt 21, 3) := by decide +kernel
theorem dX3_canBeInPlan_20 : decode cX3_canBeInPlan 20 = .ok (.aload_n 0, 1) := by decide +kernel
theorem dX3_canBeInPlan_21 : decode cX3_canBeInPlan 21 = .ok (.getfield 32, 3) := by decide +kernel
theorem dX3_canBeInPlan_24 : decode cX3_canBeInPlan 24 = .ok (.iload_n 2, 1) := by decide +kernel
theorem dX3_canBeInPlan_25 : decode cX3_canBeInPlan 25 = .ok (.iaload, 1) := by decide +kernel
theorem dX3_canBeInPlan_26 : decode cX3_canBeInPlan 26 = .ok (.getstatic 183, 3) := by decide +kernel
theorem dX3_canBeInPlan_29 : decode cX3_canBeInPlan 29 = .ok (.iload_n 3, 1) := by decide +kernel
theorem dX3_canBeInPlan_30 : decode cX3_canBeInPlan 30 = .ok (.iaload, 1) := by decide +kernel
theorem dX3_canBeInPlan_31 : decode cX3_canBeInPlan 31 = .ok (.if_icmp .gt 7, 3) := by decide +kernel
theorem dX3_canBeInPlan_34 : decode cX3_canBeInPlan 34 = .ok (.iconst 1, 1) := by decide +kernel
theorem dX3_canBeInPlan_35 : decode cX3_canBeInPlan 35 = .ok (.goto 4, 3) := by decide +kernel
theorem dX3_canBeInPlan_38 : decode cX3_canBeInPlan 38 = .ok (.iconst 0, 1) := by decide +kernel
theorem dX3_canBeInPlan_39 : decode cX3_canBeInPlan 39 = .ok (.ireturn, 1) := by decide +kernel
theorem dX3_takeForHill_0 : decode cX3_takeForHill 0 = .ok (.iload_n 1, 1) := by decide +kernel
theorem dX3_takeForHill_1 : decode cX3_takeForHill 1 = .ok (.ifCond .ne 32, 3) := by decide +kernel
theorem dX3_takeForHill_4 : decode cX3_takeForHill 4 = .ok (.aload_n 0, 1) := by decide +kernel
theorem dX3_takeForHill_5 : decode cX3_takeForHill 5 = .ok (.getfield 21, 3) := by decide +kernel
theorem dX3_takeForHill_8 : decode cX3_takeForHill 8 = .ok (.aload_n 0, 1) := by decide +kernel
theorem dX3_takeForHill_9 : decode cX3_takeForHill 9 = .ok (.getfield 32, 3) := by decide +kernel
theorem dX3_takeForHill_12 : decode cX3_takeForHill 12 = .ok (.iconst 0, 1) := by decide +kernel
theorem dX3_takeForHill_13 : decode cX3_takeForHill 13 = .ok (.iaload, 1) := by decide +kernel
theorem dX3_takeForHill_14 : decode cX3_takeForHill 14 = .ok (.aload_n 0, 1) := by decide +kernel
theorem dX3_takeForHill_15 : decode cX3_takeForHill 15 = .ok (.getfield 32, 3) := by decide +kernel
theorem dX3_takeForHill_18 : decode cX3_takeForHill 18 = .ok (.iconst 1, 1) := by decide +kernel
theorem dX3_takeForHill_19 : decode cX3_takeForHill 19 = .ok (.iaload, 1) := by decide +kernel
theorem dX3_takeForHill_20 : decode cX3_takeForHill 20 = .ok (.aload_n 0, 1) := by decide +kernel
theorem dX3_takeForHill_21 : decode cX3_takeForHill 21 = .ok (.getfield 32, 3) := by decide +kernel
theorem dX3_takeForHill_24 : decode cX3_takeForHill 24 = .ok (.iconst 2, 1) := by decide +kernel
theorem dX3_takeForHill_25 : decode cX3_takeForHill 25 = .ok (.iaload, 1) := by decide +kernel
theorem dX3_takeForHill_26 : decode cX3_takeForHill 26 = .ok (.invokevirtual 186, 3) := by decide +kernel
theorem dX3_takeForHill_29 : decode cX3_takeForHill 29 = .ok (.pop, 1) := by decide +kernel
theorem dX3_takeForHill_30 : decode cX3_takeForHill 30 = .ok (.goto 114, 3) := by decide +kernel
theorem dX3_takeForHill_33 : decode cX3_takeForHill 33 = .ok (.iload_n 1, 1) := by decide +kernel
theorem dX3_takeForHill_34 : decode cX3_takeForHill 34 = .ok (.bipush 11, 2) := by decide +kernel
theorem dX3_takeForHill_36 : decode cX3_takeForHill 36 = .ok (.if_icmp .ne 26, 3) := by decide +kernel
theorem dX3_takeForHill_39 : decode cX3_takeForHill 39 = .ok (.aload_n 0, 1) := by decide +kernel
theorem dX3_takeForHill_40 : decode cX3_takeForHill 40 = .ok (.getfield 21, 3) := by decide +kernel
theorem dX3_takeForHill_43 : decode cX3_takeForHill 43 = .ok (.aload_n 0, 1) := by decide +kernel
theorem dX3_takeForHill_44 : decode cX3_takeForHill 44 = .ok (.getfield 32, 3) := by decide +kernel
theorem dX3_takeForHill_47 : decode cX3_takeForHill 47 = .ok (.iconst 0, 1) := by decide +kernel
theorem dX3_takeForHill_48 : decode cX3_takeForHill 48 = .ok (.iaload, 1) := by decide +kernel
theorem dX3_takeForHill_49 : decode cX3_takeForHill 49 = .ok (.aload_n 0, 1) := by decide +kernel
theorem dX3_takeForHill_50 : decode cX3_takeForHill 50 = .ok (.getfield 32, 3) := by decide +kernel
theorem dX3_takeForHill_53 : decode cX3_takeForHill 53 = .ok (.iconst 1, 1) := by decide +kernel
theorem dX3_takeForHill_54 : decode cX3_takeForHill 54 = .ok (.iaload, 1) := by decide +kernel
theorem dX3_takeForHill_55 : decode cX3_takeForHill 55 = .ok (.invokevirtual 64, 3) := by decide +kernel
theorem dX3_takeForHill_58 : decode cX3_takeForHill 58 = .ok (.pop, 1) := by decide +kernel
theorem dX3_takeForHill_59 : decode cX3_takeForHill 59 = .ok (.goto 85, 3) := by decide +kernel
theorem dX3_takeForHill_62 : decode cX3_takeForHill 62 = .ok (.iload_n 1, 1) := by decide +kernel
theorem dX3_takeForHill_63 : decode cX3_takeForHill 63 = .ok (.bipush 12, 2) := by decide +kernel
theorem dX3_takeForHill_65 : decode cX3_takeForHill 65 = .ok (.if_icmp .lt 24, 3) := by decide +kernel
theorem dX3_takeForHill_68 : decode cX3_takeForHill 68 = .ok (.aload_n 0, 1) := by decide +kernel
theorem dX3_takeForHill_69 : decode cX3_takeForHill 69 = .ok (.getfield 21, 3) := by decide +kernel
theorem dX3_takeForHill_72 : decode cX3_takeForHill 72 = .ok (.getfield 189, 3) := by decide +kernel
theorem dX3_takeForHill_75 : decode cX3_takeForHill 75 = .ok (.iload_n 1, 1) := by decide +kernel
theorem dX3_takeForHill_76 : decode cX3_takeForHill 76 = .ok (.bipush 12, 2) := by decide +kernel
theorem dX3_takeForHill_78 : decode cX3_takeForHill 78 = .ok (.isub, 1) := by decide +kernel
theorem dX3_takeForHill_79 : decode cX3_takeForHill 79 = .ok (.aload_n 0, 1) := by decide +kernel
theorem dX3_takeForHill_80 : decode cX3_takeForHill 80 = .ok (.getfield 32, 3) := by decide +kernel
theorem dX3_takeForHill_83 : decode cX3_takeForHill 83 = .ok (.iconst 0, 1) := by decide +kernel
theorem dX3_takeForHill_84 : decode cX3_takeForHill 84 = .ok (.iaload, 1) := by decide +kernel
theorem dX3_takeForHill_85 : decode cX3_takeForHill 85 = .ok (.iastore, 1) := by decide +kernel
theorem dX3_takeForHill_86 : decode cX3_takeForHill 86 = .ok (.goto 58, 3) := by decide +kernel
theorem dX3_takeForHill_89 : decode cX3_takeForHill 89 = .ok (.aload_n 0, 1) := by decide +kernel
theorem dX3_takeForHill_90 : decode cX3_takeForHill 90 = .ok (.getfield 21, 3) := by decide +kernel
theorem dX3_takeForHill_93 : decode cX3_takeForHill 93 = .ok (.aload_n 0, 1) := by decide +kernel
theorem dX3_takeForHill_94 : decode cX3_takeForHill 94 = .ok (.getfield 32, 3) := by decide +kernel
theorem dX3_takeForHill_97 : decode cX3_takeForHill 97 = .ok (.iconst 0, 1) := by decide +kernel
theorem dX3_takeForHill_98 : decode cX3_takeForHill 98 = .ok (.iaload, 1) := by decide +kernel
theorem dX3_takeForHill_99 : decode cX3_takeForHill 99 = .ok (.getstatic 192, 3) := by decide +kernel
theorem dX3_takeForHill_102 : decode cX3_takeForHill 102 = .ok (.iload_n 1, 1) := by decide +kernel
theorem dX3_takeForHill_103 : decode cX3_takeForHill 103 = .ok (.iaload, 1) := by decide +kernel
theorem dX3_takeForHill_104 : decode cX3_takeForHill 104 = .ok (.aload_n 0, 1) := by decide +kernel
theorem dX3_takeForHill_105 : decode cX3_takeForHill 105 = .ok (.getfield 32, 3) := by decide +kernel
theorem dX3_takeForHill_108 : decode cX3_takeForHill 108 = .ok (.iconst 1, 1) := by decide +kernel
theorem dX3_takeForHill_109 : decode cX3_takeForHill 109 = .ok (.iaload, 1) := by decide +kernel
theorem dX3_takeForHill_110 : decode cX3_takeForHill 110 = .ok (.invokevirtual 195, 3) := by decide +kernel
theorem dX3_takeForHill_113 : decode cX3_takeForHill 113 = .ok (.iload_n 2, 1) := by decide +kernel
theorem dX3_takeForHill_114 : decode cX3_takeForHill 114 = .ok (.iconst 3, 1) := by decide +kernel
theorem dX3_takeForHill_115 : decode cX3_takeForHill 115 = .ok (.if_icmp .ne 29, 3) := by decide +kernel
theorem dX3_takeForHill_118 : decode cX3_takeForHill 118 = .ok (.aload_n 0, 1) := by decide +kernel
theorem dX3_takeForHill_119 : decode cX3_takeForHill 119 = .ok (.getfield 21, 3) := by decide +kernel
theorem dX3_takeForHill_122 : decode cX3_takeForHill 122 = .ok (.aload_n 0, 1) := by decide +kernel
theorem dX3_takeForHill_123 : decode cX3_takeForHill 123 = .ok (.getfield 32, 3) := by decide +kernel
theorem dX3_takeForHill_126 : decode cX3_takeForHill 126 = .ok (.iconst 0, 1) := by decide +kernel
theorem dX3_takeForHill_127 : decode cX3_takeForHill 127 = .ok (.iaload, 1) := by decide +kernel
theorem dX3_takeForHill_128 : decode cX3_takeForHill 128 = .ok (.getstatic 192, 3) := by decide +kernel
theorem dX3_takeForHill_131 : decode cX3_takeForHill 131 = .ok (.iload_n 1, 1) := by decide +kernel
theorem dX3_takeForHill_132 : decode cX3_takeForHill 132 = .ok (.iaload, 1) := by decide +kernel
theorem dX3_takeForHill_133 : decode cX3_takeForHill 133 = .ok (.iconst 1, 1) := by decide +kernel
theorem dX3_takeForHill_134 : decode cX3_takeForHill 134 = .ok (.iadd, 1) := by decide +kernel
theorem dX3_takeForHill_135 : decode cX3_takeForHill 135 = .ok (.aload_n 0, 1) := by decide +kernel
theorem dX3_takeForHill_136 : decode cX3_takeForHill 136 = .ok (.getfield 32, 3) := by decide +kernel
theorem dX3_takeForHill_139 : decode cX3_takeForHill 139 = .ok (.iconst 2, 1) := by decide +kernel
theorem dX3_takeForHill_140 : decode cX3_takeForHill 140 = .ok (.iaload, 1) := by decide +kernel
theorem dX3_takeForHill_141 : decode cX3_takeForHill 141 = .ok (.invokevirtual 195, 3) := by decide +kernel
theorem dX3_takeForHill_144 : decode cX3_takeForHill 144 = .ok (.return_, 1) := by decide +kernel
theorem dX3_take_0 : decode cX3_take 0 = .ok (.iload_n 1, 1) := by decide +kernel
theorem dX3_take_1 : decode cX3_take 1 = .ok (.ifCond .ne 14, 3) := by decide +kernel
theorem dX3_take_4 : decode cX3_take 4 = .ok (.aload_n 0, 1) := by decide +kernel
theorem dX3_take_5 : decode cX3_take 5 = .ok (.iload_n 2, 1) := by decide +kernel
theorem dX3_take_6 : decode cX3_take 6 = .ok (.invokevirtual 156, 3) := by decide +kernel
theorem dX3_take_9 : decode cX3_take 9 = .ok (.ifCond .eq 24, 3) := by decide +kernel
theorem dX3_take_12 : decode cX3_take 12 = .ok (.goto 15, 3) := by decide +kernel
theorem dX3_take_15 : decode cX3_take 15 = .ok (.aload_n 0, 1) := by decide +kernel
theorem dX3_take_16 : decode cX3_take 16 = .ok (.getfield 28, 3) := by decide +kernel
theorem dX3_take_19 : decode cX3_take 19 = .ok (.getfield 159, 3) := by decide +kernel
theorem dX3_take_22 : decode cX3_take 22 = .ok (.bipush 12, 2) := by decide +kernel
theorem dX3_take_24 : decode cX3_take 24 = .ok (.if_icmp .lt 9, 3) := by decide +kernel
theorem dX3_take_27 : decode cX3_take 27 = .ok (.aload_n 0, 1) := by decide +kernel
theorem dX3_take_28 : decode cX3_take 28 = .ok (.iconst 3, 1) := by decide +kernel
theorem dX3_take_29 : decode cX3_take 29 = .ok (.iload_n 3, 1) := by decide +kernel
theorem dX3_take_30 : decode cX3_take 30 = .ok (.invokevirtual 75, 3) := by decide +kernel
theorem dX3_take_33 : decode cX3_take 33 = .ok (.iconst 0, 1) := by decide +kernel
theorem dX3_take_34 : decode cX3_take 34 = .ok (.istore 5, 2) := by decide +kernel
theorem dX3_take_36 : decode cX3_take 36 = .ok (.iload 5, 2) := by decide +kernel
theorem dX3_take_38 : decode cX3_take 38 = .ok (.iload 4, 2) := by decide +kernel
theorem dX3_take_40 : decode cX3_take 40 = .ok (.if_icmp .ge 48, 3) := by decide +kernel
theorem dX3_take_43 : decode cX3_take 43 = .ok (.iload_n 1, 1) := by decide +kernel
theorem dX3_take_44 : decode cX3_take 44 = .ok (.ifCond .ne 16, 3) := by decide +kernel
theorem dX3_take_47 : decode cX3_take 47 = .ok (.aload_n 0, 1) := by decide +kernel
theorem dX3_take_48 : decode cX3_take 48 = .ok (.iload_n 2, 1) := by decide +kernel
theorem dX3_take_49 : decode cX3_take 49 = .ok (.iload 5, 2) := by decide +kernel
theorem dX3_take_51 : decode cX3_take 51 = .ok (.invokevirtual 161, 3) := by decide +kernel
theorem dX3_take_54 : decode cX3_take 54 = .ok (.ifCond .eq 16, 3) := by decide +kernel
theorem dX3_take_57 : decode cX3_take 57 = .ok (.goto 25, 3) := by decide +kernel
theorem dX3_take_60 : decode cX3_take 60 = .ok (.aload_n 0, 1) := by decide +kernel
theorem dX3_take_61 : decode cX3_take 61 = .ok (.iload_n 2, 1) := by decide +kernel
theorem dX3_take_62 : decode cX3_take 62 = .ok (.iload 5, 2) := by decide +kernel
theorem dX3_take_64 : decode cX3_take 64 = .ok (.invokevirtual 164, 3) := by decide +kernel
theorem dX3_take_67 : decode cX3_take 67 = .ok (.ifCond .ne 15, 3) := by decide +kernel
theorem dX3_take_70 : decode cX3_take 70 = .ok (.aload_n 0, 1) := by decide +kernel
theorem dX3_take_71 : decode cX3_take 71 = .ok (.iconst 2, 1) := by decide +kernel
theorem dX3_take_72 : decode cX3_take 72 = .ok (.aload_n 0, 1) := by decide +kernel
theorem dX3_take_73 : decode cX3_take 73 = .ok (.getfield 36, 3) := by decide +kernel
theorem dX3_take_76 : decode cX3_take 76 = .ok (.iload 5, 2) := by decide +kernel
theorem dX3_take_78 : decode cX3_take 78 = .ok (.iaload, 1) := by decide +kernel
theorem dX3_take_79 : decode cX3_take 79 = .ok (.invokevirtual 75, 3) := by decide +kernel
theorem dX3_take_82 : decode cX3_take 82 = .ok (.iinc 5 1, 3) := by decide +kernel
theorem dX3_take_85 : decode cX3_take 85 = .ok (.goto (-49), 3) := by decide +kernel
theorem dX3_take_88 : decode cX3_take 88 = .ok (.iload_n 1, 1) := by decide +kernel
theorem dX3_take_89 : decode cX3_take 89 = .ok (.ifCond .ne 13, 3) := by decide +kernel
theorem dX3_take_92 : decode cX3_take 92 = .ok (.aload_n 0, 1) := by decide +kernel
theorem dX3_take_93 : decode cX3_take 93 = .ok (.iload_n 2, 1) := by decide +kernel
theorem dX3_take_94 : decode cX3_take 94 = .ok (.iload 4, 2) := by decide +kernel
theorem dX3_take_96 : decode cX3_take 96 = .ok (.invokevirtual 167, 3) := by decide +kernel
theorem dX3_take_99 : decode cX3_take 99 = .ok (.goto 34, 3) := by decide +kernel
theorem dX3_take_102 : decode cX3_take 102 = .ok (.aload_n 0, 1) := by decide +kernel
theorem dX3_take_103 : decode cX3_take 103 = .ok (.getfield 28, 3) := by decide +kernel
theorem dX3_take_106 : decode cX3_take 106 = .ok (.iload_n 2, 1) := by decide +kernel
theorem dX3_take_107 : decode cX3_take 107 = .ok (.aload_n 0, 1) := by decide +kernel
theorem dX3_take_108 : decode cX3_take 108 = .ok (.getfield 32, 3) := by decide +kernel
theorem dX3_take_111 : decode cX3_take 111 = .ok (.iconst 0, 1) := by decide +kernel
theorem dX3_take_112 : decode cX3_take 112 = .ok (.iaload, 1) := by decide +kernel
theorem dX3_take_113 : decode cX3_take 113 = .ok (.iload 4, 2) := by decide +kernel
theorem dX3_take_115 : decode cX3_take 115 = .ok (.iconst 1, 1) := by decide +kernel
theorem dX3_take_116 : decode cX3_take 116 = .ok (.if_icmp .le 12, 3) := by decide +kernel
theorem dX3_take_119 : decode cX3_take 119 = .ok (.aload_n 0, 1) := by decide +kernel
theorem dX3_take_120 : decode cX3_take 120 = .ok (.getfield 32, 3) := by decide +kernel
theorem dX3_take_123 : decode cX3_take 123 = .ok (.iconst 1, 1) := by decide +kernel
theorem dX3_take_124 : decode cX3_take 124 = .ok (.iaload, 1) := by decide +kernel
theorem dX3_take_125 : decode cX3_take 125 = .ok (.goto 4, 3) := by decide +kernel
theorem dX3_take_128 : decode cX3_take 128 = .ok (.iconst (-1), 1) := by decide +kernel
theorem dX3_take_129 : decode cX3_take 129 = .ok (.invokevirtual 170, 3) := by decide +kernel
theorem dX3_take_132 : decode cX3_take 132 = .ok (.pop, 1) := by decide +kernel
theorem dX3_take_133 : decode cX3_take 133 = .ok (.return_, 1) := by decide +kernel
theorem dX3_readLine_0 : decode cX3_readLine 0 = .ok (.aload_n 0, 1) := by decide +kernel
theorem dX3_readLine_1 : decode cX3_readLine 1 = .ok (.getfield 12, 3) := by decide +kernel
theorem dX3_readLine_4 : decode cX3_readLine 4 = .ok (.invokevirtual 79, 3) := by decide +kernel
theorem dX3_readLine_7 : decode cX3_readLine 7 = .ok (.aload_n 0, 1) := by decide +kernel
theorem dX3_readLine_8 : decode cX3_readLine 8 = .ok (.getfield 12, 3) := by decide +kernel
theorem dX3_readLine_11 : decode cX3_readLine 11 = .ok (.getfield 82, 3) := by decide +kernel
theorem dX3_readLine_14 : decode cX3_readLine 14 = .ok (.ifCond .ne 5, 3) := by decide +kernel
theorem dX3_readLine_17 : decode cX3_readLine 17 = .ok (.iconst 0, 1) := by decide +kernel
theorem dX3_readLine_18 : decode cX3_readLine 18 = .ok (.ireturn, 1) := by decide +kernel
theorem dX3_readLine_19 : decode cX3_readLine 19 = .ok (.aload_n 0, 1) := by decide +kernel
theorem dX3_readLine_20 : decode cX3_readLine 20 = .ok (.iload_n 1, 1) := by decide +kernel
theorem dX3_readLine_21 : decode cX3_readLine 21 = .ok (.invokevirtual 85, 3) := by decide +kernel
theorem dX3_readLine_24 : decode cX3_readLine 24 = .ok (.istore_n 2, 1) := by decide +kernel
theorem dX3_readLine_25 : decode cX3_readLine 25 = .ok (.aload_n 0, 1) := by decide +kernel
theorem dX3_readLine_26 : decode cX3_readLine 26 = .ok (.getfield 12, 3) := by decide +kernel
theorem dX3_readLine_29 : decode cX3_readLine 29 = .ok (.getfield 89, 3) := by decide +kernel
theorem dX3_readLine_32 : decode cX3_readLine 32 = .ok (.istore_n 3, 1) := by decide +kernel
theorem dX3_readLine_33 : decode cX3_readLine 33 = .ok (.iload_n 2, 1) := by decide +kernel
theorem dX3_readLine_34 : decode cX3_readLine 34 = .ok (.iconst (-1), 1) := by decide +kernel
theorem dX3_readLine_35 : decode cX3_readLine 35 = .ok (.if_icmp .ne 8, 3) := by decide +kernel
theorem dX3_readLine_38 : decode cX3_readLine 38 = .ok (.aload_n 0, 1) := by decide +kernel
theorem dX3_readLine_39 : decode cX3_readLine 39 = .ok (.invokevirtual 92, 3) := by decide +kernel
theorem dX3_readLine_42 : decode cX3_readLine 42 = .ok (.ireturn, 1) := by decide +kernel
theorem dX3_readLine_43 : decode cX3_readLine 43 = .ok (.iload_n 1, 1) := by decide +kernel
theorem dX3_readLine_44 : decode cX3_readLine 44 = .ok (.ifCond .ne 11, 3) := by decide +kernel
theorem dX3_readLine_47 : decode cX3_readLine 47 = .ok (.getstatic 96, 3) := by decide +kernel
theorem dX3_readLine_50 : decode cX3_readLine 50 = .ok (.iload_n 2, 1) := by decide +kernel
theorem dX3_readLine_51 : decode cX3_readLine 51 = .ok (.iaload, 1) := by decide +kernel
theorem dX3_readLine_52 : decode cX3_readLine 52 = .ok (.goto 8, 3) := by decide +kernel
theorem dX3_readLine_55 : decode cX3_readLine 55 = .ok (.getstatic 99, 3) := by decide +kernel
theorem dX3_readLine_58 : decode cX3_readLine 58 = .ok (.iload_n 2, 1) := by decide +kernel
theorem dX3_readLine_59 : decode cX3_readLine 59 = .ok (.iaload, 1) := by decide +kernel
theorem dX3_readLine_60 : decode cX3_readLine 60 = .ok (.istore 4, 2) := by decide +kernel
theorem dX3_readLine_62 : decode cX3_readLine 62 = .ok (.iconst 0, 1) := by decide +kernel
theorem dX3_readLine_63 : decode cX3_readLine 63 = .ok (.istore 5, 2) := by decide +kernel
theorem dX3_readLine_65 : decode cX3_readLine 65 = .ok (.iload 5, 2) := by decide +kernel
theorem dX3_readLine_67 : decode cX3_readLine 67 = .ok (.iload 4, 2) := by decide +kernel
theorem dX3_readLine_69 : decode cX3_readLine 69 = .ok (.if_icmp .ge 60, 3) := by decide +kernel
theorem dX3_readLine_72 : decode cX3_readLine 72 = .ok (.aload_n 0, 1) := by decide +kernel
theorem dX3_readLine_73 : decode cX3_readLine 73 = .ok (.getfield 12, 3) := by decide +kernel
theorem dX3_readLine_76 : decode cX3_readLine 76 = .ok (.invokevirtual 79, 3) := by decide +kernel
theorem dX3_readLine_79 : decode cX3_readLine 79 = .ok (.aload_n 0, 1) := by decide +kernel
theorem dX3_readLine_80 : decode cX3_readLine 80 = .ok (.getfield 12, 3) := by decide +kernel
theorem dX3_readLine_83 : decode cX3_readLine 83 = .ok (.getfield 82, 3) := by decide +kernel
theorem dX3_readLine_86 : decode cX3_readLine 86 = .ok (.iconst 2, 1) := by decide +kernel
theorem dX3_readLine_87 : decode cX3_readLine 87 = .ok (.if_icmp .eq 8, 3) := by decide +kernel
theorem dX3_readLine_90 : decode cX3_readLine 90 = .ok (.aload_n 0, 1) := by decide +kernel
theorem dX3_readLine_91 : decode cX3_readLine 91 = .ok (.invokevirtual 92, 3) := by decide +kernel
theorem dX3_readLine_94 : decode cX3_readLine 94 = .ok (.ireturn, 1) := by decide +kernel
theorem dX3_readLine_95 : decode cX3_readLine 95 = .ok (.aload_n 0, 1) := by decide +kernel
theorem dX3_readLine_96 : decode cX3_readLine 96 = .ok (.getfield 32, 3) := by decide +kernel
theorem dX3_readLine_99 : decode cX3_readLine 99 = .ok (.iload 5, 2) := by decide +kernel
theorem dX3_readLine_101 : decode cX3_readLine 101 = .ok (.aload_n 0, 1) := by decide +kernel
theorem dX3_readLine_102 : decode cX3_readLine 102 = .ok (.getfield 12, 3) := by decide +kernel
theorem dX3_readLine_105 : decode cX3_readLine 105 = .ok (.getfield 102, 3) := by decide +kernel
theorem dX3_readLine_108 : decode cX3_readLine 108 = .ok (.iastore, 1) := by decide +kernel
theorem dX3_readLine_109 : decode cX3_readLine 109 = .ok (.aload_n 0, 1) := by decide +kernel
theorem dX3_readLine_110 : decode cX3_readLine 110 = .ok (.getfield 36, 3) := by decide +kernel
theorem dX3_readLine_113 : decode cX3_readLine 113 = .ok (.iload 5, 2) := by decide +kernel
theorem dX3_readLine_115 : decode cX3_readLine 115 = .ok (.aload_n 0, 1) := by decide +kernel
theorem dX3_readLine_116 : decode cX3_readLine 116 = .ok (.getfield 12, 3) := by decide +kernel
theorem dX3_readLine_119 : decode cX3_readLine 119 = .ok (.getfield 89, 3) := by decide +kernel
theorem dX3_readLine_122 : decode cX3_readLine 122 = .ok (.iastore, 1) := by decide +kernel
theorem dX3_readLine_123 : decode cX3_readLine 123 = .ok (.iinc 5 1, 3) := by decide +kernel
theorem dX3_readLine_126 : decode cX3_readLine 126 = .ok (.goto (-61), 3) := by decide +kernel
theorem dX3_readLine_129 : decode cX3_readLine 129 = .ok (.aload_n 0, 1) := by decide +kernel
theorem dX3_readLine_130 : decode cX3_readLine 130 = .ok (.getfield 12, 3) := by decide +kernel
theorem dX3_readLine_133 : decode cX3_readLine 133 = .ok (.invokevirtual 79, 3) := by decide +kernel
theorem dX3_readLine_136 : decode cX3_readLine 136 = .ok (.aload_n 0, 1) := by decide +kernel
theorem dX3_readLine_137 : decode cX3_readLine 137 = .ok (.getfield 12, 3) := by decide +kernel
theorem dX3_readLine_140 : decode cX3_readLine 140 = .ok (.getfield 82, 3) := by decide +kernel
theorem dX3_readLine_143 : decode cX3_readLine 143 = .ok (.iconst 3, 1) := by decide +kernel
theorem dX3_readLine_144 : decode cX3_readLine 144 = .ok (.if_icmp .eq 8, 3) := by decide +kernel
theorem dX3_readLine_147 : decode cX3_readLine 147 = .ok (.aload_n 0, 1) := by decide +kernel
theorem dX3_readLine_148 : decode cX3_readLine 148 = .ok (.invokevirtual 92, 3) := by decide +kernel
theorem dX3_readLine_151 : decode cX3_readLine 151 = .ok (.ireturn, 1) := by decide +kernel
theorem dX3_readLine_152 : decode cX3_readLine 152 = .ok (.aload_n 0, 1) := by decide +kernel
theorem dX3_readLine_153 : decode cX3_readLine 153 = .ok (.iload_n 1, 1) := by decide +kernel
theorem dX3_readLine_154 : decode cX3_readLine 154 = .ok (.iload_n 2, 1) := by decide +kernel
theorem dX3_readLine_155 : decode cX3_readLine 155 = .ok (.iload_n 3, 1) := by decide +kernel
theorem dX3_readLine_156 : decode cX3_readLine 156 = .ok (.iload 4, 2) := by decide +kernel
theorem dX3_readLine_158 : decode cX3_readLine 158 = .ok (.invokevirtual 105, 3) := by decide +kernel
theorem dX3_readLine_161 : decode cX3_readLine 161 = .ok (.iconst 1, 1) := by decide +kernel
theorem dX3_readLine_162 : decode cX3_readLine 162 = .ok (.ireturn, 1) := by decide +kernel
theorem dX3_closeRains_0 : decode cX3_closeRains 0 = .ok (.aload_n 0, 1) := by decide +kernel
theorem dX3_closeRains_1 : decode cX3_closeRains 1 = .ok (.getfield 21, 3) := by decide +kernel
theorem dX3_closeRains_4 : decode cX3_closeRains 4 = .ok (.getfield 61, 3) := by decide +kernel
theorem dX3_closeRains_7 : decode cX3_closeRains 7 = .ok (.ifCond .ne 17, 3) := by decide +kernel
theorem dX3_closeRains_10 : decode cX3_closeRains 10 = .ok (.aload_n 0, 1) := by decide +kernel
theorem dX3_closeRains_11 : decode cX3_closeRains 11 = .ok (.getfield 21, 3) := by decide +kernel
theorem dX3_closeRains_14 : decode cX3_closeRains 14 = .ok (.iconst 0, 1) := by decide +kernel
theorem dX3_closeRains_15 : decode cX3_closeRains 15 = .ok (.bipush 100, 2) := by decide +kernel
theorem dX3_closeRains_17 : decode cX3_closeRains 17 = .ok (.invokevirtual 64, 3) := by decide +kernel
theorem dX3_closeRains_20 : decode cX3_closeRains 20 = .ok (.pop, 1) := by decide +kernel
theorem dX3_closeRains_21 : decode cX3_closeRains 21 = .ok (.goto 27, 3) := by decide +kernel
theorem dX3_closeRains_24 : decode cX3_closeRains 24 = .ok (.aload_n 0, 1) := by decide +kernel
theorem dX3_closeRains_25 : decode cX3_closeRains 25 = .ok (.getfield 21, 3) := by decide +kernel
theorem dX3_closeRains_28 : decode cX3_closeRains 28 = .ok (.invokevirtual 68, 3) := by decide +kernel
theorem dX3_closeRains_31 : decode cX3_closeRains 31 = .ok (.bipush 100, 2) := by decide +kernel
theorem dX3_closeRains_33 : decode cX3_closeRains 33 = .ok (.if_icmp .eq 15, 3) := by decide +kernel
theorem dX3_closeRains_36 : decode cX3_closeRains 36 = .ok (.aload_n 0, 1) := by decide +kernel
theorem dX3_closeRains_37 : decode cX3_closeRains 37 = .ok (.iconst 4, 1) := by decide +kernel
theorem dX3_closeRains_38 : decode cX3_closeRains 38 = .ok (.aload_n 0, 1) := by decide +kernel
theorem dX3_closeRains_39 : decode cX3_closeRains 39 = .ok (.getfield 12, 3) := by decide +kernel
theorem dX3_closeRains_42 : decode cX3_closeRains 42 = .ok (.getfield 72, 3) := by decide +kernel
theorem dX3_closeRains_45 : decode cX3_closeRains 45 = .ok (.invokevirtual 75, 3) := by decide +kernel
theorem dX3_closeRains_48 : decode cX3_closeRains 48 = .ok (.return_, 1) := by decide +kernel
theorem dX3_read_0 : decode cX3_read 0 = .ok (.aload_n 0, 1) := by decide +kernel
theorem dX3_read_1 : decode cX3_read 1 = .ok (.iconst 0, 1) := by decide +kernel
theorem dX3_read_2 : decode cX3_read 2 = .ok (.putfield 39, 3) := by decide +kernel
theorem dX3_read_5 : decode cX3_read 5 = .ok (.aload_n 0, 1) := by decide +kernel
theorem dX3_read_6 : decode cX3_read 6 = .ok (.iconst (-1), 1) := by decide +kernel
theorem dX3_read_7 : decode cX3_read 7 = .ok (.putfield 43, 3) := by decide +kernel
theorem dX3_read_10 : decode cX3_read 10 = .ok (.aload_n 0, 1) := by decide +kernel
theorem dX3_read_11 : decode cX3_read 11 = .ok (.getfield 21, 3) := by decide +kernel
theorem dX3_read_14 : decode cX3_read 14 = .ok (.invokevirtual 46, 3) := by decide +kernel
theorem dX3_read_17 : decode cX3_read 17 = .ok (.aload_n 0, 1) := by decide +kernel
theorem dX3_read_18 : decode cX3_read 18 = .ok (.getfield 28, 3) := by decide +kernel
theorem dX3_read_21 : decode cX3_read 21 = .ok (.invokevirtual 49, 3) := by decide +kernel
theorem dX3_read_24 : decode cX3_read 24 = .ok (.aload_n 0, 1) := by decide +kernel
theorem dX3_read_25 : decode cX3_read 25 = .ok (.getfield 12, 3) := by decide +kernel
theorem dX3_read_28 : decode cX3_read 28 = .ok (.aload_n 1, 1) := by decide +kernel
theorem dX3_read_29 : decode cX3_read 29 = .ok (.iload_n 2, 1) := by decide +kernel
theorem dX3_read_30 : decode cX3_read 30 = .ok (.invokevirtual 50, 3) := by decide +kernel
theorem dX3_read_33 : decode cX3_read 33 = .ok (.iconst 1, 1) := by decide +kernel
theorem dX3_read_34 : decode cX3_read 34 = .ok (.istore 4, 2) := by decide +kernel
theorem dX3_read_36 : decode cX3_read 36 = .ok (.iconst 0, 1) := by decide +kernel
theorem dX3_read_37 : decode cX3_read 37 = .ok (.istore 5, 2) := by decide +kernel
theorem dX3_read_39 : decode cX3_read 39 = .ok (.iload 5, 2) := by decide +kernel
theorem dX3_read_41 : decode cX3_read 41 = .ok (.sipush 600, 3) := by decide +kernel
theorem dX3_read_44 : decode cX3_read 44 = .ok (.if_icmp .gt 21, 3) := by decide +kernel
theorem dX3_read_47 : decode cX3_read 47 = .ok (.iload 4, 2) := by decide +kernel
theorem dX3_read_49 : decode cX3_read 49 = .ok (.ifCond .eq 16, 3) := by decide +kernel
theorem dX3_read_52 : decode cX3_read 52 = .ok (.aload_n 0, 1) := by decide +kernel
theorem dX3_read_53 : decode cX3_read 53 = .ok (.iload_n 3, 1) := by decide +kernel
theorem dX3_read_54 : decode cX3_read 54 = .ok (.invokevirtual 54, 3) := by decide +kernel
theorem dX3_read_57 : decode cX3_read 57 = .ok (.istore 4, 2) := by decide +kernel
theorem dX3_read_59 : decode cX3_read 59 = .ok (.iinc 5 1, 3) := by decide +kernel
theorem dX3_read_62 : decode cX3_read 62 = .ok (.goto (-23), 3) := by decide +kernel
theorem dX3_read_65 : decode cX3_read 65 = .ok (.iload_n 3, 1) := by decide +kernel
theorem dX3_read_66 : decode cX3_read 66 = .ok (.ifCond .ne 14, 3) := by decide +kernel
theorem dX3_read_69 : decode cX3_read 69 = .ok (.aload_n 0, 1) := by decide +kernel
theorem dX3_read_70 : decode cX3_read 70 = .ok (.getfield 39, 3) := by decide +kernel
theorem dX3_read_73 : decode cX3_read 73 = .ok (.ifCond .ne 7, 3) := by decide +kernel
theorem dX3_read_76 : decode cX3_read 76 = .ok (.aload_n 0, 1) := by decide +kernel
theorem dX3_read_77 : decode cX3_read 77 = .ok (.invokevirtual 58, 3) := by decide +kernel
theorem dX3_read_80 : decode cX3_read 80 = .ok (.return_, 1) := by decide +kernel
theorem dX7_numberFor_0 : decode cX7_numberFor 0 = .ok (.iload_n 1, 1) := by decide +kernel
theorem dX7_numberFor_1 : decode cX7_numberFor 1 = .ok (.ifCond .eq 10, 3) := by decide +kernel
theorem dX7_numberFor_4 : decode cX7_numberFor 4 = .ok (.iload_n 1, 1) := by decide +kernel
theorem dX7_numberFor_5 : decode cX7_numberFor 5 = .ok (.iconst 1, 1) := by decide +kernel
theorem dX7_numberFor_6 : decode cX7_numberFor 6 = .ok (.if_icmp .eq 5, 3) := by decide +kernel
theorem dX7_numberFor_9 : decode cX7_numberFor 9 = .ok (.iconst (-1), 1) := by decide +kernel
theorem dX7_numberFor_10 : decode cX7_numberFor 10 = .ok (.ireturn, 1) := by decide +kernel
theorem dX7_numberFor_11 : decode cX7_numberFor 11 = .ok (.iload_n 1, 1) := by decide +kernel
theorem dX7_numberFor_12 : decode cX7_numberFor 12 = .ok (.ifCond .ne 10, 3) := by decide +kernel
theorem dX7_numberFor_15 : decode cX7_numberFor 15 = .ok (.aload_n 0, 1) := by decide +kernel
theorem dX7_numberFor_16 : decode cX7_numberFor 16 = .ok (.getfield 31, 3) := by decide +kernel
theorem dX7_numberFor_19 : decode cX7_numberFor 19 = .ok (.goto 7, 3) := by decide +kernel
theorem dX7_numberFor_22 : decode cX7_numberFor 22 = .ok (.aload_n 0, 1) := by decide +kernel
theorem dX7_numberFor_23 : decode cX7_numberFor 23 = .ok (.getfield 40, 3) := by decide +kernel
theorem dX7_numberFor_26 : decode cX7_numberFor 26 = .ok (.istore_n 3, 1) := by decide +kernel
theorem dX7_numberFor_27 : decode cX7_numberFor 27 = .ok (.iload_n 1, 1) := by decide +kernel
theorem dX7_numberFor_28 : decode cX7_numberFor 28 = .ok (.ifCond .ne 7, 3) := by decide +kernel
theorem dX7_numberFor_31 : decode cX7_numberFor 31 = .ok (.iconst 2, 1) := by decide +kernel
theorem dX7_numberFor_32 : decode cX7_numberFor 32 = .ok (.goto 4, 3) := by decide +kernel
theorem dX7_numberFor_35 : decode cX7_numberFor 35 = .ok (.iconst 3, 1) := by decide +kernel
theorem dX7_numberFor_36 : decode cX7_numberFor 36 = .ok (.istore 4, 2) := by decide +kernel
theorem dX7_numberFor_38 : decode cX7_numberFor 38 = .ok (.iload_n 2, 1) := by decide +kernel
theorem dX7_numberFor_39 : decode cX7_numberFor 39 = .ok (.iconst (-1), 1) := by decide +kernel
theorem dX7_numberFor_40 : decode cX7_numberFor 40 = .ok (.if_icmp .ne 15, 3) := by decide +kernel
theorem dX7_numberFor_43 : decode cX7_numberFor 43 = .ok (.iload_n 3, 1) := by decide +kernel
theorem dX7_numberFor_44 : decode cX7_numberFor 44 = .ok (.iload 4, 2) := by decide +kernel
theorem dX7_numberFor_46 : decode cX7_numberFor 46 = .ok (.if_icmp .ge 7, 3) := by decide +kernel
theorem dX7_numberFor_49 : decode cX7_numberFor 49 = .ok (.iload_n 3, 1) := by decide +kernel
theorem dX7_numberFor_50 : decode cX7_numberFor 50 = .ok (.goto 4, 3) := by decide +kernel
theorem dX7_numberFor_53 : decode cX7_numberFor 53 = .ok (.iconst (-1), 1) := by decide +kernel
theorem dX7_numberFor_54 : decode cX7_numberFor 54 = .ok (.ireturn, 1) := by decide +kernel
theorem dX7_numberFor_55 : decode cX7_numberFor 55 = .ok (.iload_n 2, 1) := by decide +kernel
theorem dX7_numberFor_56 : decode cX7_numberFor 56 = .ok (.ifCond .lt 12, 3) := by decide +kernel
theorem dX7_numberFor_59 : decode cX7_numberFor 59 = .ok (.iload_n 2, 1) := by decide +kernel
theorem dX7_numberFor_60 : decode cX7_numberFor 60 = .ok (.iload_n 3, 1) := by decide +kernel
theorem dX7_numberFor_61 : decode cX7_numberFor 61 = .ok (.if_icmp .ge 7, 3) := by decide +kernel
theorem dX7_numberFor_64 : decode cX7_numberFor 64 = .ok (.iload_n 2, 1) := by decide +kernel
theorem dX7_numberFor_65 : decode cX7_numberFor 65 = .ok (.goto 4, 3) := by decide +kernel
theorem dX7_numberFor_68 : decode cX7_numberFor 68 = .ok (.iconst (-1), 1) := by decide +kernel
theorem dX7_numberFor_69 : decode cX7_numberFor 69 = .ok (.ireturn, 1) := by decide +kernel
theorem dX7_keep_0 : decode cX7_keep 0 = .ok (.iload_n 1, 1) := by decide +kernel
theorem dX7_keep_1 : decode cX7_keep 1 = .ok (.ifCond .ne 33, 3) := by decide +kernel
theorem dX7_keep_4 : decode cX7_keep 4 = .ok (.aload_n 0, 1) := by decide +kernel
theorem dX7_keep_5 : decode cX7_keep 5 = .ok (.getfield 27, 3) := by decide +kernel
theorem dX7_keep_8 : decode cX7_keep 8 = .ok (.iload_n 2, 1) := by decide +kernel
theorem dX7_keep_9 : decode cX7_keep 9 = .ok (.aaload, 1) := by decide +kernel
theorem dX7_keep_10 : decode cX7_keep 10 = .ok (.aload_n 3, 1) := by decide +kernel
theorem dX7_keep_11 : decode cX7_keep 11 = .ok (.getfield 45, 3) := by decide +kernel
theorem dX7_keep_14 : decode cX7_keep 14 = .ok (.invokevirtual 50, 3) := by decide +kernel
theorem dX7_keep_17 : decode cX7_keep 17 = .ok (.aload_n 0, 1) := by decide +kernel
theorem dX7_keep_18 : decode cX7_keep 18 = .ok (.aload_n 0, 1) := by decide +kernel
theorem dX7_keep_19 : decode cX7_keep 19 = .ok (.getfield 31, 3) := by decide +kernel
theorem dX7_keep_22 : decode cX7_keep 22 = .ok (.iload_n 2, 1) := by decide +kernel
theorem dX7_keep_23 : decode cX7_keep 23 = .ok (.iconst 1, 1) := by decide +kernel
theorem dX7_keep_24 : decode cX7_keep 24 = .ok (.iadd, 1) := by decide +kernel
theorem dX7_keep_25 : decode cX7_keep 25 = .ok (.invokestatic 54, 3) := by decide +kernel
theorem dX7_keep_28 : decode cX7_keep 28 = .ok (.putfield 31, 3) := by decide +kernel
theorem dX7_keep_31 : decode cX7_keep 31 = .ok (.goto 30, 3) := by decide +kernel
theorem dX7_keep_34 : decode cX7_keep 34 = .ok (.aload_n 0, 1) := by decide +kernel
theorem dX7_keep_35 : decode cX7_keep 35 = .ok (.getfield 36, 3) := by decide +kernel
theorem dX7_keep_38 : decode cX7_keep 38 = .ok (.iload_n 2, 1) := by decide +kernel
theorem dX7_keep_39 : decode cX7_keep 39 = .ok (.aaload, 1) := by decide +kernel
theorem dX7_keep_40 : decode cX7_keep 40 = .ok (.aload_n 3, 1) := by decide +kernel
theorem dX7_keep_41 : decode cX7_keep 41 = .ok (.getfield 60, 3) := by decide +kernel
theorem dX7_keep_44 : decode cX7_keep 44 = .ok (.invokevirtual 63, 3) := by decide +kernel
theorem dX7_keep_47 : decode cX7_keep 47 = .ok (.aload_n 0, 1) := by decide +kernel
theorem dX7_keep_48 : decode cX7_keep 48 = .ok (.aload_n 0, 1) := by decide +kernel
theorem dX7_keep_49 : decode cX7_keep 49 = .ok (.getfield 40, 3) := by decide +kernel
theorem dX7_keep_52 : decode cX7_keep 52 = .ok (.iload_n 2, 1) := by decide +kernel
theorem dX7_keep_53 : decode cX7_keep 53 = .ok (.iconst 1, 1) := by decide +kernel
theorem dX7_keep_54 : decode cX7_keep 54 = .ok (.iadd, 1) := by decide +kernel
theorem dX7_keep_55 : decode cX7_keep 55 = .ok (.invokestatic 54, 3) := by decide +kernel
theorem dX7_keep_58 : decode cX7_keep 58 = .ok (.putfield 40, 3) := by decide +kernel
theorem dX7_keep_61 : decode cX7_keep 61 = .ok (.return_, 1) := by decide +kernel
theorem dX10_text_0 : decode cX10_text 0 = .ok (.aload_n 0, 1) := by decide +kernel
theorem dX10_text_1 : decode cX10_text 1 = .ok (.getfield 10, 3) := by decide +kernel
theorem dX10_text_4 : decode cX10_text 4 = .ok (.getfield 71, 3) := by decide +kernel
theorem dX10_text_7 : decode cX10_text 7 = .ok (.istore_n 3, 1) := by decide +kernel
theorem dX10_text_8 : decode cX10_text 8 = .ok (.aload_n 0, 1) := by decide +kernel
theorem dX10_text_9 : decode cX10_text 9 = .ok (.getfield 10, 3) := by decide +kernel
theorem dX10_text_12 : decode cX10_text 12 = .ok (.iconst 0, 1) := by decide +kernel
theorem dX10_text_13 : decode cX10_text 13 = .ok (.putfield 71, 3) := by decide +kernel
theorem dX10_text_16 : decode cX10_text 16 = .ok (.aload_n 0, 1) := by decide +kernel
theorem dX10_text_17 : decode cX10_text 17 = .ok (.getfield 10, 3) := by decide +kernel
theorem dX10_text_20 : decode cX10_text 20 = .ok (.iconst 0, 1) := by decide +kernel
theorem dX10_text_21 : decode cX10_text 21 = .ok (.putfield 79, 3) := by decide +kernel
theorem dX10_text_24 : decode cX10_text 24 = .ok (.aload_n 0, 1) := by decide +kernel
theorem dX10_text_25 : decode cX10_text 25 = .ok (.getfield 10, 3) := by decide +kernel
theorem dX10_text_28 : decode cX10_text 28 = .ok (.iconst (-1), 1) := by decide +kernel
theorem dX10_text_29 : decode cX10_text 29 = .ok (.putfield 82, 3) := by decide +kernel
theorem dX10_text_32 : decode cX10_text 32 = .ok (.aload_n 0, 1) := by decide +kernel
theorem dX10_text_33 : decode cX10_text 33 = .ok (.getfield 10, 3) := by decide +kernel
theorem dX10_text_36 : decode cX10_text 36 = .ok (.iload_n 1, 1) := by decide +kernel
theorem dX10_text_37 : decode cX10_text 37 = .ok (.iload_n 2, 1) := by decide +kernel
theorem dX10_text_38 : decode cX10_text 38 = .ok (.invokevirtual 85, 3) := by decide +kernel
theorem dX10_text_41 : decode cX10_text 41 = .ok (.istore 4, 2) := by decide +kernel
theorem dX10_text_43 : decode cX10_text 43 = .ok (.iload 4, 2) := by decide +kernel
theorem dX10_text_45 : decode cX10_text 45 = .ok (.iconst (-1), 1) := by decide +kernel
theorem dX10_text_46 : decode cX10_text 46 = .ok (.if_icmp .ne 6, 3) := by decide +kernel
theorem dX10_text_49 : decode cX10_text 49 = .ok (.bipush (-2), 2) := by decide +kernel
theorem dX10_text_51 : decode cX10_text 51 = .ok (.ireturn, 1) := by decide +kernel
theorem dX10_text_52 : decode cX10_text 52 = .ok (.aload_n 0, 1) := by decide +kernel
theorem dX10_text_53 : decode cX10_text 53 = .ok (.getfield 27, 3) := by decide +kernel
theorem dX10_text_56 : decode cX10_text 56 = .ok (.aload_n 0, 1) := by decide +kernel
theorem dX10_text_57 : decode cX10_text 57 = .ok (.getfield 10, 3) := by decide +kernel
theorem dX10_text_60 : decode cX10_text 60 = .ok (.getfield 89, 3) := by decide +kernel
theorem dX10_text_63 : decode cX10_text 63 = .ok (.iload_n 3, 1) := by decide +kernel
theorem dX10_text_64 : decode cX10_text 64 = .ok (.iload_n 1, 1) := by decide +kernel
theorem dX10_text_65 : decode cX10_text 65 = .ok (.invokevirtual 93, 3) := by decide +kernel
theorem dX10_text_68 : decode cX10_text 68 = .ok (.aload_n 0, 1) := by decide +kernel
theorem dX10_text_69 : decode cX10_text 69 = .ok (.getfield 10, 3) := by decide +kernel
theorem dX10_text_72 : decode cX10_text 72 = .ok (.aload_n 0, 1) := by decide +kernel
theorem dX10_text_73 : decode cX10_text 73 = .ok (.getfield 27, 3) := by decide +kernel
theorem dX10_text_76 : decode cX10_text 76 = .ok (.getfield 97, 3) := by decide +kernel
theorem dX10_text_79 : decode cX10_text 79 = .ok (.putfield 79, 3) := by decide +kernel
theorem dX10_text_82 : decode cX10_text 82 = .ok (.aload_n 0, 1) := by decide +kernel
theorem dX10_text_83 : decode cX10_text 83 = .ok (.getfield 10, 3) := by decide +kernel
theorem dX10_text_86 : decode cX10_text 86 = .ok (.aload_n 0, 1) := by decide +kernel
theorem dX10_text_87 : decode cX10_text 87 = .ok (.getfield 27, 3) := by decide +kernel
theorem dX10_text_90 : decode cX10_text 90 = .ok (.getfield 98, 3) := by decide +kernel
theorem dX10_text_93 : decode cX10_text 93 = .ok (.putfield 82, 3) := by decide +kernel
theorem dX10_text_96 : decode cX10_text 96 = .ok (.aload_n 0, 1) := by decide +kernel
theorem dX10_text_97 : decode cX10_text 97 = .ok (.getfield 27, 3) := by decide +kernel
theorem dX10_text_100 : decode cX10_text 100 = .ok (.getfield 97, 3) := by decide +kernel
theorem dX10_text_103 : decode cX10_text 103 = .ok (.ifCond .eq 5, 3) := by decide +kernel
theorem dX10_text_106 : decode cX10_text 106 = .ok (.iconst (-1), 1) := by decide +kernel
theorem dX10_text_107 : decode cX10_text 107 = .ok (.ireturn, 1) := by decide +kernel
theorem dX10_text_108 : decode cX10_text 108 = .ok (.aload_n 0, 1) := by decide +kernel
theorem dX10_text_109 : decode cX10_text 109 = .ok (.getfield 10, 3) := by decide +kernel
theorem dX10_text_112 : decode cX10_text 112 = .ok (.iload_n 1, 1) := by decide +kernel
theorem dX10_text_113 : decode cX10_text 113 = .ok (.iload 4, 2) := by decide +kernel
theorem dX10_text_115 : decode cX10_text 115 = .ok (.aload_n 0, 1) := by decide +kernel
theorem dX10_text_116 : decode cX10_text 116 = .ok (.getfield 27, 3) := by decide +kernel
theorem dX10_text_119 : decode cX10_text 119 = .ok (.invokevirtual 99, 3) := by decide +kernel
theorem dX10_text_122 : decode cX10_text 122 = .ok (.iload 4, 2) := by decide +kernel
theorem dX10_text_124 : decode cX10_text 124 = .ok (.ireturn, 1) := by decide +kernel
set_option maxHeartbeats 4000000 in
set_option maxRecDepth 100000 in
theorem c_Tk_isWord {d : Nat} {u : Nat → Nat → Int32} {g : Nat → Nat → Int64} {ex : List MC} {i : Nat} (hd : 4 ≤ d) (hi_i : i < 18) (hp0 : (u 30 0) = 1) (hp1 : Bd 0 600 (u 30 1)) (hp2 : Bd 0 600 (u 30 2)) (hp3 : Bd 0 600 (u 30 4)) : CT con0 d 0 0 yX6_isWord cX6_isWord 3 (some .boolean) [.ref 30, .retAddr (10 + i)] (Wd u g ex) (fun r h2 => ∃ (z : Bool), r = some (.int (bI z)) ∧ h2 = Wd u g ex) := by
  refine CT_of (by decide) (Nat.le_of_ble_eq_true rfl) (fun x hq => ?_)
  show J x yX6_isWord cX6_isWord 3 (some .boolean) d 0 0 (Wd u g ex).length 0 [(0, .ref 30), (1, .retAddr (10 + i))] [] (Wd u g ex) 0 0
  refine J_aload_n (i := 0) (j := 0) dX6_isWord_0 rfl rfl ?_
  refine J_get (C := RX6) (T := TX6) (Z := 6) (ci := 6) (f := 3) dX6_isWord_1 inG6 rfl (by decide) k236 wc_30 rfl ?_
  refine J_iconst (v := 1) dX6_isWord_4 (by decide) ?_
  refine J_icmp_ne (tgt := 24) dX6_isWord_5 (by decide) (fun c1 => ?_) (fun c1 => ?_)
  · refine J_iconst (v := 0) dX6_isWord_24 (by decide) ?_
    exact J_zret hq dX6_isWord_25 rfl rfl wlen (Nat.le_refl _) (Nat.le_refl _) ⟨false, rfl, rfl⟩
  · refine J_aload_n (i := 0) (j := 0) dX6_isWord_8 rfl rfl ?_
    refine J_get (C := RX6) (T := TX6) (Z := 6) (ci := 6) (f := 2) dX6_isWord_9 inG6 rfl (by decide) k235 wc_30 rfl ?_
    refine J_aload_n (i := 0) (j := 0) dX6_isWord_12 rfl rfl ?_
    refine J_get (C := RX6) (T := TX6) (Z := 6) (ci := 6) (f := 4) dX6_isWord_13 inG6 rfl (by decide) k238 wc_30 rfl ?_
    refine J_isub dX6_isWord_16 ?_
    refine J_aload_nC (i := 1) (j := 1) dX6_isWord_17 rfl rfl ?_
    refine J_callVC (i := i) (As := []) (rest := [.int ((u 30 2) - (u 30 4))]) dX6_isWord_18 (c_St_length (d := 1) (u := u) (g := g) (ex := ex)  (i := i)  (by decide) hi_i) hq.n k553 k554 k555 hi_i rfl k100 k556 np_J0_length_8abf5 (Nat.le_trans (by decide) hd) (by decide) (Nat.le_refl _) (Nat.le_refl _) wlen rfl (Nat.le_of_ble_eq_true rfl) (fun r_ h_ p2 => ?_)
    obtain ⟨rfl, rfl⟩ := p2
    refine J_icmp_eq (tgt := 26) dX6_isWord_21 (by decide) (fun c3 => ?_) (fun c3 => ?_)
    · refine J_iconst (v := 0) dX6_isWord_26 (by decide) ?_
      refine J_istore_n (i := 2) (lw := [(2, .int 0), (0, .ref 30), (1, .retAddr (10 + i))]) dX6_isWord_27 rfl (by decide) rfl ?_
      have lp35 : ∀ (n36 : Nat) (w27 : Int32), Bd 0 5 w27 → (5 - w27.toInt).toNat < n36 → J x yX6_isWord cX6_isWord 3 (some .boolean) d 0 0 (Wd u g ex).length 28 [(0, .ref 30), (1, .retAddr (10 + i)), (2, .int w27)] [] (Wd u g ex) 0 0 := by
        intro n36
        induction n36 with
        | zero => intro w27 bw27 hm38; exact absurd hm38 (Nat.not_lt_zero _)
        | succ n36 ih37 =>
          intro w27 bw27 hm38
          refine J_iload_n (i := 2) (j := 2) dX6_isWord_28 rfl rfl ?_
          refine J_aload_nC (i := 1) (j := 1) dX6_isWord_29 rfl rfl ?_
          refine J_callVC (i := i) (As := []) (rest := [.int w27]) dX6_isWord_30 (c_St_length (d := 1) (u := u) (g := g) (ex := ex)  (i := i)  (by decide) hi_i) hq.n k553 k554 k555 hi_i rfl k100 k556 np_J0_length_8abf5 (Nat.le_trans (by decide) hd) (by decide) (Nat.le_refl _) (Nat.le_refl _) wlen rfl (Nat.le_of_ble_eq_true rfl) (fun r_ h_ p39 => ?_)
          obtain ⟨rfl, rfl⟩ := p39
          refine J_icmp_ge (tgt := 76) dX6_isWord_33 (by decide) (fun c40 => ?_) (fun c40 => ?_)
          · refine J_iconst (v := 1) dX6_isWord_76 (by decide) ?_
            exact J_zret hq dX6_isWord_77 rfl rfl wlen (Nat.le_refl _) (Nat.le_refl _) ⟨true, rfl, rfl⟩
          · refine J_aload_n (i := 0) (j := 0) dX6_isWord_36 rfl rfl ?_
            refine J_get (C := RX6) (T := TX6) (Z := 6) (ci := 6) (f := 4) dX6_isWord_37 inG6 rfl (by decide) k238 wc_30 rfl ?_
            refine J_iload_n (i := 2) (j := 2) dX6_isWord_40 rfl rfl ?_
            refine J_iadd dX6_isWord_41 ?_
            refine J_aload_n (i := 0) (j := 0) dX6_isWord_42 rfl rfl ?_
            refine J_get (C := RX6) (T := TX6) (Z := 6) (ci := 6) (f := 1) dX6_isWord_43 inG6 rfl (by decide) k233 wc_30 rfl ?_
            refine J_icmp_ge (tgt := 76) dX6_isWord_46 (by decide) (fun c41 => ?_) (fun c41 => ?_)
            · refine J_iconst (v := 1) dX6_isWord_76 (by decide) ?_
              exact J_zret hq dX6_isWord_77 rfl rfl wlen (Nat.le_refl _) (Nat.le_refl _) ⟨true, rfl, rfl⟩
            · refine J_aload_n (i := 0) (j := 0) dX6_isWord_49 rfl rfl ?_
              refine J_get (C := RX6) (T := TX6) (Z := 6) (ci := 6) (f := 0) dX6_isWord_50 inG6 rfl (by decide) k232 wc_30 rfl ?_
              refine J_cr (v := 2) (by rw [hp0]; rfl) ?_
              refine J_aload_n (i := 0) (j := 0) dX6_isWord_53 rfl rfl ?_
              refine J_get (C := RX6) (T := TX6) (Z := 6) (ci := 6) (f := 4) dX6_isWord_54 inG6 rfl (by decide) k238 wc_30 rfl ?_
              refine J_iload_n (i := 2) (j := 2) dX6_isWord_57 rfl rfl ?_
              refine J_iadd dX6_isWord_58 ?_
              refine J_bald dX6_isWord_59 wc_2 (vin (bd_lt_hi (bd_add (l := 0) (h := 604) hp3 (bd_lt_hi bw27 (i_nle c40) (sln_b i)) (by decide)) (i_nle c41) hp1) (by decide)) ?_
              refine J_topi (fun v42 qv42 => ?_)
              refine J_aload_nC (i := 1) (j := 1) dX6_isWord_60 rfl rfl ?_
              refine J_iload_n (i := 2) (j := 2) dX6_isWord_61 rfl rfl ?_
              refine J_callVC (i := i) (As := [.int w27]) (rest := [.int v42]) dX6_isWord_62 (c_St_charAt (d := 3) (u := u) (g := g) (ex := ex) (k := w27) (i := i)  (by decide) hi_i (sl_vin (bd_lt_hi bw27 (i_nle c40) (sln_b i)) (by decide) (i_nle c40))) hq.n k563 k564 k565 hi_i rfl k100 k566 np_J0_charAt_5068e (Nat.le_trans (by decide) hd) (by decide) (Nat.le_refl _) (Nat.le_refl _) wlen rfl (Nat.le_of_ble_eq_true rfl) (fun r_ h_ p43 => ?_)
              obtain ⟨v44, rfl, rfl⟩ := p43
              refine J_icmp_eq (tgt := 70) dX6_isWord_65 (by decide) (fun c45 => ?_) (fun c45 => ?_)
              · refine J_iinc (i := 2) (j := 2) (v := (w27 + 1)) (lw := [(2, .int (w27 + 1)), (0, .ref 30), (1, .retAddr (10 + i))]) dX6_isWord_70 rfl rfl (by decide) rfl ?_
                refine J_goto (tgt := 28) dX6_isWord_73 (by decide) ?_
                refine J_lv [1, 2, 0] rfl ?_
                exact ih37 (w27 + 1) (bd_w (l := 0) (h := 5) (bd_add (l := 1) (h := 5) (bd_lt_hi bw27 (i_nle c40) (sln_b i)) (bd_c (v := 1) (lo := 1) (hi := 1) (by decide)) (by decide)) (by decide)) (mu_up 1 bw27 rfl (by decide) (bd_w (l := 1) (h := 5) (bd_add (l := 1) (h := 5) (bd_lt_hi bw27 (i_nle c40) (sln_b i)) (bd_c (v := 1) (lo := 1) (hi := 1) (by decide)) (by decide)) (by decide)) hm38)
              · refine J_iconst (v := 0) dX6_isWord_68 (by decide) ?_
                exact J_zret hq dX6_isWord_69 rfl rfl wlen (Nat.le_refl _) (Nat.le_refl _) ⟨false, rfl, rfl⟩
      refine J_lv [1, 2, 0] rfl ?_
      exact lp35 _ (0 : Int32) (bd_w (l := 0) (h := 5) (bd_c (v := 0) (lo := 0) (hi := 0) (by decide)) (by decide)) (Nat.lt_succ_self _)
    · refine J_iconst (v := 0) dX6_isWord_24 (by decide) ?_
      exact J_zret hq dX6_isWord_25 rfl rfl wlen (Nat.le_refl _) (Nat.le_refl _) ⟨false, rfl, rfl⟩
set_option maxHeartbeats 4000000 in
set_option maxRecDepth 100000 in
theorem c_Rd_hillWord {d : Nat} {u : Nat → Nat → Int32} {g : Nat → Nat → Int64} {ex : List MC} {line : Int32} (hd : 0 ≤ d)  : CT con0 d 0 0 yX3_hillWord cX3_hillWord 1 (some (.object "java/lang/String")) [.int line] (Wd u g ex) (fun r h2 => ∃ (z : Nat), r = some (.retAddr (10 + z)) ∧ h2 = Wd u g ex ∧ z < 18) := by
  refine CT_of (by decide) (Nat.le_of_ble_eq_true rfl) (fun x hq => ?_)
  show J x yX3_hillWord cX3_hillWord 1 (some (.object "java/lang/String")) d 0 0 (Wd u g ex).length 0 [(0, .int line)] [] (Wd u g ex) 0 0
  refine J_iload_n (i := 0) (j := 0) dX3_hillWord_0 rfl rfl ?_
  by_cases c1 : line = 0
  · refine J_ci (v := 0) c1 ?_
    refine J_tableIn (tgt := 72) (off := 71) dX3_hillWord_1 (by decide) (by decide) (by decide) (by decide) ?_
    refine J_ldcS (i := 0) dX3_hillWord_72 (by decide) rfl rfl ?_
    exact J_aretC hq dX3_hillWord_74 rfl wlen (Nat.le_refl _) (Nat.le_refl _) ⟨0, rfl, rfl, (by decide)⟩
  by_cases c2 : line = 1
  · refine J_ci (v := 1) c2 ?_
    refine J_tableIn (tgt := 75) (off := 74) dX3_hillWord_1 (by decide) (by decide) (by decide) (by decide) ?_
    refine J_ldcS (i := 1) dX3_hillWord_75 (by decide) rfl rfl ?_
    exact J_aretC hq dX3_hillWord_77 rfl wlen (Nat.le_refl _) (Nat.le_refl _) ⟨1, rfl, rfl, (by decide)⟩
  by_cases c3 : line = 2
  · refine J_ci (v := 2) c3 ?_
    refine J_tableIn (tgt := 78) (off := 77) dX3_hillWord_1 (by decide) (by decide) (by decide) (by decide) ?_
    refine J_ldcS (i := 2) dX3_hillWord_78 (by decide) rfl rfl ?_
    exact J_aretC hq dX3_hillWord_80 rfl wlen (Nat.le_refl _) (Nat.le_refl _) ⟨2, rfl, rfl, (by decide)⟩
  by_cases c4 : line = 3
  · refine J_ci (v := 3) c4 ?_
    refine J_tableIn (tgt := 81) (off := 80) dX3_hillWord_1 (by decide) (by decide) (by decide) (by decide) ?_
    refine J_ldcS (i := 3) dX3_hillWord_81 (by decide) rfl rfl ?_
    exact J_aretC hq dX3_hillWord_83 rfl wlen (Nat.le_refl _) (Nat.le_refl _) ⟨3, rfl, rfl, (by decide)⟩
  by_cases c5 : line = 4
  · refine J_ci (v := 4) c5 ?_
    refine J_tableIn (tgt := 84) (off := 83) dX3_hillWord_1 (by decide) (by decide) (by decide) (by decide) ?_
    refine J_ldcS (i := 4) dX3_hillWord_84 (by decide) rfl rfl ?_
    exact J_aretC hq dX3_hillWord_86 rfl wlen (Nat.le_refl _) (Nat.le_refl _) ⟨4, rfl, rfl, (by decide)⟩
  by_cases c6 : line = 5
  · refine J_ci (v := 5) c6 ?_
    refine J_tableIn (tgt := 87) (off := 86) dX3_hillWord_1 (by decide) (by decide) (by decide) (by decide) ?_
    refine J_ldcS (i := 5) dX3_hillWord_87 (by decide) rfl rfl ?_
    exact J_aretC hq dX3_hillWord_89 rfl wlen (Nat.le_refl _) (Nat.le_refl _) ⟨5, rfl, rfl, (by decide)⟩
  by_cases c7 : line = 6
  · refine J_ci (v := 6) c7 ?_
    refine J_tableIn (tgt := 90) (off := 89) dX3_hillWord_1 (by decide) (by decide) (by decide) (by decide) ?_
    refine J_ldcS (i := 6) dX3_hillWord_90 (by decide) rfl rfl ?_
    exact J_aretC hq dX3_hillWord_92 rfl wlen (Nat.le_refl _) (Nat.le_refl _) ⟨6, rfl, rfl, (by decide)⟩
  by_cases c8 : line = 7
  · refine J_ci (v := 7) c8 ?_
    refine J_tableIn (tgt := 93) (off := 92) dX3_hillWord_1 (by decide) (by decide) (by decide) (by decide) ?_
    refine J_ldcS (i := 7) dX3_hillWord_93 (by decide) rfl rfl ?_
    exact J_aretC hq dX3_hillWord_95 rfl wlen (Nat.le_refl _) (Nat.le_refl _) ⟨7, rfl, rfl, (by decide)⟩
  by_cases c9 : line = 8
  · refine J_ci (v := 8) c9 ?_
    refine J_tableIn (tgt := 96) (off := 95) dX3_hillWord_1 (by decide) (by decide) (by decide) (by decide) ?_
    refine J_ldcS (i := 8) dX3_hillWord_96 (by decide) rfl rfl ?_
    exact J_aretC hq dX3_hillWord_98 rfl wlen (Nat.le_refl _) (Nat.le_refl _) ⟨8, rfl, rfl, (by decide)⟩
  by_cases c10 : line = 9
  · refine J_ci (v := 9) c10 ?_
    refine J_tableIn (tgt := 99) (off := 98) dX3_hillWord_1 (by decide) (by decide) (by decide) (by decide) ?_
    refine J_ldcS (i := 9) dX3_hillWord_99 (by decide) rfl rfl ?_
    exact J_aretC hq dX3_hillWord_101 rfl wlen (Nat.le_refl _) (Nat.le_refl _) ⟨9, rfl, rfl, (by decide)⟩
  by_cases c11 : line = 10
  · refine J_ci (v := 10) c11 ?_
    refine J_tableIn (tgt := 102) (off := 101) dX3_hillWord_1 (by decide) (by decide) (by decide) (by decide) ?_
    refine J_ldcS (i := 10) dX3_hillWord_102 (by decide) rfl rfl ?_
    exact J_aretC hq dX3_hillWord_104 rfl wlen (Nat.le_refl _) (Nat.le_refl _) ⟨10, rfl, rfl, (by decide)⟩
  by_cases c12 : line = 11
  · refine J_ci (v := 11) c12 ?_
    refine J_tableIn (tgt := 105) (off := 104) dX3_hillWord_1 (by decide) (by decide) (by decide) (by decide) ?_
    refine J_ldcS (i := 11) dX3_hillWord_105 (by decide) rfl rfl ?_
    exact J_aretC hq dX3_hillWord_107 rfl wlen (Nat.le_refl _) (Nat.le_refl _) ⟨11, rfl, rfl, (by decide)⟩
  by_cases c13 : line = 12
  · refine J_ci (v := 12) c13 ?_
    refine J_tableIn (tgt := 108) (off := 107) dX3_hillWord_1 (by decide) (by decide) (by decide) (by decide) ?_
    refine J_ldcS (i := 12) dX3_hillWord_108 (by decide) rfl rfl ?_
    exact J_aretC hq dX3_hillWord_110 rfl wlen (Nat.le_refl _) (Nat.le_refl _) ⟨12, rfl, rfl, (by decide)⟩
  by_cases c14 : line = 13
  · refine J_ci (v := 13) c14 ?_
    refine J_tableIn (tgt := 111) (off := 110) dX3_hillWord_1 (by decide) (by decide) (by decide) (by decide) ?_
    refine J_ldcS (i := 13) dX3_hillWord_111 (by decide) rfl rfl ?_
    exact J_aretC hq dX3_hillWord_113 rfl wlen (Nat.le_refl _) (Nat.le_refl _) ⟨13, rfl, rfl, (by decide)⟩
  · refine J_tableOut (tgt := 114) dX3_hillWord_1 (by have e0 := int_ne (k := 0) c1 (by decide); have e1 := int_ne (k := 1) c2 (by decide); have e2 := int_ne (k := 2) c3 (by decide); have e3 := int_ne (k := 3) c4 (by decide); have e4 := int_ne (k := 4) c5 (by decide); have e5 := int_ne (k := 5) c6 (by decide); have e6 := int_ne (k := 6) c7 (by decide); have e7 := int_ne (k := 7) c8 (by decide); have e8 := int_ne (k := 8) c9 (by decide); have e9 := int_ne (k := 9) c10 (by decide); have e10 := int_ne (k := 10) c11 (by decide); have e11 := int_ne (k := 11) c12 (by decide); have e12 := int_ne (k := 12) c13 (by decide); have e13 := int_ne (k := 13) c14 (by decide); omega) (by decide) ?_
    refine J_ldcS (i := 14) dX3_hillWord_114 (by decide) rfl rfl ?_
    exact J_aretC hq dX3_hillWord_116 rfl wlen (Nat.le_refl _) (Nat.le_refl _) ⟨14, rfl, rfl, (by decide)⟩
set_option maxHeartbeats 4000000 in
set_option maxRecDepth 100000 in
theorem c_Rd_planWord {d : Nat} {u : Nat → Nat → Int32} {g : Nat → Nat → Int64} {ex : List MC} {line : Int32} (hd : 0 ≤ d)  : CT con0 d 0 0 yX3_planWord cX3_planWord 1 (some (.object "java/lang/String")) [.int line] (Wd u g ex) (fun r h2 => ∃ (z : Nat), r = some (.retAddr (10 + z)) ∧ h2 = Wd u g ex ∧ z < 18) := by
  refine CT_of (by decide) (Nat.le_of_ble_eq_true rfl) (fun x hq => ?_)
  show J x yX3_planWord cX3_planWord 1 (some (.object "java/lang/String")) d 0 0 (Wd u g ex).length 0 [(0, .int line)] [] (Wd u g ex) 0 0
  refine J_iload_n (i := 0) (j := 0) dX3_planWord_0 rfl rfl ?_
  by_cases c1 : line = 0
  · refine J_ci (v := 0) c1 ?_
    refine J_tableIn (tgt := 32) (off := 31) dX3_planWord_1 (by decide) (by decide) (by decide) (by decide) ?_
    refine J_ldcS (i := 12) dX3_planWord_32 (by decide) rfl rfl ?_
    exact J_aretC hq dX3_planWord_34 rfl wlen (Nat.le_refl _) (Nat.le_refl _) ⟨12, rfl, rfl, (by decide)⟩
  by_cases c2 : line = 1
  · refine J_ci (v := 1) c2 ?_
    refine J_tableIn (tgt := 35) (off := 34) dX3_planWord_1 (by decide) (by decide) (by decide) (by decide) ?_
    refine J_ldcS (i := 15) dX3_planWord_35 (by decide) rfl rfl ?_
    exact J_aretC hq dX3_planWord_37 rfl wlen (Nat.le_refl _) (Nat.le_refl _) ⟨15, rfl, rfl, (by decide)⟩
  by_cases c3 : line = 2
  · refine J_ci (v := 2) c3 ?_
    refine J_tableIn (tgt := 38) (off := 37) dX3_planWord_1 (by decide) (by decide) (by decide) (by decide) ?_
    refine J_ldcS (i := 16) dX3_planWord_38 (by decide) rfl rfl ?_
    exact J_aretC hq dX3_planWord_40 rfl wlen (Nat.le_refl _) (Nat.le_refl _) ⟨16, rfl, rfl, (by decide)⟩
  by_cases c4 : line = 3
  · refine J_ci (v := 3) c4 ?_
    refine J_tableIn (tgt := 41) (off := 40) dX3_planWord_1 (by decide) (by decide) (by decide) (by decide) ?_
    refine J_ldcS (i := 14) dX3_planWord_41 (by decide) rfl rfl ?_
    exact J_aretC hq dX3_planWord_43 rfl wlen (Nat.le_refl _) (Nat.le_refl _) ⟨14, rfl, rfl, (by decide)⟩
  · refine J_tableOut (tgt := 44) dX3_planWord_1 (by have e0 := int_ne (k := 0) c1 (by decide); have e1 := int_ne (k := 1) c2 (by decide); have e2 := int_ne (k := 2) c3 (by decide); have e3 := int_ne (k := 3) c4 (by decide); omega) (by decide) ?_
    refine J_ldcS (i := 17) dX3_planWord_44 (by decide) rfl rfl ?_
    exact J_aretC hq dX3_planWord_46 rfl wlen (Nat.le_refl _) (Nat.le_refl _) ⟨17, rfl, rfl, (by decide)⟩
set_option maxHeartbeats 4000000 in
set_option maxRecDepth 100000 in
theorem c_Rd_lineOf {d : Nat} {u : Nat → Nat → Int32} {g : Nat → Nat → Int64} {ex : List MC} {sort : Int32} (hd : 5 ≤ d) (hp0 : (u 30 0) = 1) (hp1 : Bd 0 600 (u 30 1)) (hp2 : Bd 0 600 (u 30 2)) (hp3 : Bd 0 600 (u 30 4)) : CT con0 d 0 0 yX3_lineOf cX3_lineOf 4 (some .int) [.ref 29, .int sort] (Wd u g ex) (fun r h2 => ∃ (z : Int32), r = some (.int z) ∧ h2 = Wd u g ex ∧ Bd (-1) 14 z ∧ (sort = 0 ∨ Bd (-1) 4 z)) := by
  refine CT_of (by decide) (Nat.le_of_ble_eq_true rfl) (fun x hq => ?_)
  show J x yX3_lineOf cX3_lineOf 4 (some .int) d 0 0 (Wd u g ex).length 0 [(0, .ref 29), (1, .int sort)] [] (Wd u g ex) 0 0
  refine J_iload_n (i := 1) (j := 1) dX3_lineOf_0 rfl rfl ?_
  refine J_if_ne (tgt := 9) dX3_lineOf_1 (by decide) (fun c1 => ?_) (fun c1 => ?_)
  · refine J_iconst (v := 5) dX3_lineOf_9 (by decide) ?_
    refine J_istore_n (i := 2) (lw := [(2, .int 5), (0, .ref 29), (1, .int sort)]) dX3_lineOf_10 rfl (by decide) rfl ?_
    refine J_iconst (v := 0) dX3_lineOf_11 (by decide) ?_
    refine J_istore_n (i := 3) (lw := [(3, .int 0), (2, .int 5), (0, .ref 29), (1, .int sort)]) dX3_lineOf_12 rfl (by decide) rfl ?_
    have lp48 : ∀ (n49 : Nat) (w36 : Int32), Bd 0 5 w36 → (5 - w36.toInt).toNat < n49 → J x yX3_lineOf cX3_lineOf 4 (some .int) d 0 0 (Wd u g ex).length 13 [(0, .ref 29), (1, .int sort), (2, .int 5), (3, .int w36)] [] (Wd u g ex) 0 0 := by
      intro n49
      induction n49 with
      | zero => intro w36 bw36 hm51; exact absurd hm51 (Nat.not_lt_zero _)
      | succ n49 ih50 =>
        intro w36 bw36 hm51
        refine J_iload_n (i := 3) (j := 3) dX3_lineOf_13 rfl rfl ?_
        refine J_iload_n (i := 2) (j := 2) dX3_lineOf_14 rfl rfl ?_
        refine J_icmp_ge (tgt := 51) dX3_lineOf_15 (by decide) (fun c52 => ?_) (fun c52 => ?_)
        · refine J_iconst (v := (-1)) dX3_lineOf_51 (by decide) ?_
          exact J_iret hq dX3_lineOf_52 rfl wlen (Nat.le_refl _) (Nat.le_refl _) ⟨((-1) : Int32), rfl, rfl, (bd_w (l := (-1)) (h := 14) (bd_c (v := (-1)) (lo := (-1)) (hi := (-1)) (by decide)) (by decide)), (Or.inr (bd_w (l := (-1)) (h := 4) (bd_c (v := (-1)) (lo := (-1)) (hi := (-1)) (by decide)) (by decide)))⟩
        · refine J_aload_n (i := 0) (j := 0) dX3_lineOf_18 rfl rfl ?_
          refine J_get (C := RX3) (T := TX3) (Z := 7) (ci := 3) (f := 0) dX3_lineOf_19 inG3 rfl (by decide) k260 wc_29 rfl ?_
          refine J_iload_n (i := 1) (j := 1) dX3_lineOf_22 rfl rfl ?_
          refine J_if_ne (tgt := 33) dX3_lineOf_23 (by decide) (fun c53 => ?_) (fun c53 => ?_)
          · refine J_iload_n (i := 3) (j := 3) dX3_lineOf_33 rfl rfl ?_
            refine J_callS (As := [.int w36]) (rest := [.ref 30]) dX3_lineOf_34 (c_Rd_planWord (d := 0) (u := u) (g := g) (ex := ex) (line := w36)  (by decide) ) hq.n k543 k544 k91 k545 np_X3_planWord (Nat.le_trans (by decide) hd) (by decide) (Nat.le_refl _) (Nat.le_refl _) wlen rfl (Nat.le_of_ble_eq_true rfl) (fun r_ h_ p57 => ?_)
            obtain ⟨i58, rfl, rfl, h59⟩ := p57
            refine J_callV (As := [.retAddr (10 + i58)]) (rest := []) dX3_lineOf_37 (c_Tk_isWord (d := 4) (u := u) (g := g) (ex := ex)  (i := i58)  (by decide) h59 hp0 hp1 hp2 hp3) hq.n k549 k550 k551 wc_30 rfl rfl k92 k552 np_X6_isWord (Nat.le_trans (by decide) hd) (by decide) (Nat.le_refl _) (Nat.le_refl _) wlen rfl (Nat.le_of_ble_eq_true rfl) (fun r_ h_ p60 => ?_)
            obtain ⟨t61, rfl, rfl⟩ := p60
            refine J_ifB_eq (tgt := 45) dX3_lineOf_40 (by decide) (fun c62 => ?_) (fun c62 => ?_)
            · refine J_iinc (i := 3) (j := 3) (v := (w36 + 1)) (lw := [(3, .int (w36 + 1)), (0, .ref 29), (1, .int sort), (2, .int 5)]) dX3_lineOf_45 rfl rfl (by decide) rfl ?_
              refine J_goto (tgt := 13) dX3_lineOf_48 (by decide) ?_
              refine J_lv [1, 2, 3, 0] rfl ?_
              exact ih50 (w36 + 1) (bd_w (l := 0) (h := 5) (bd_add (l := 1) (h := 5) (bd_lt_hi bw36 (i_nle c52) (bd_c (v := 5) (lo := 5) (hi := 5) (by decide))) (bd_c (v := 1) (lo := 1) (hi := 1) (by decide)) (by decide)) (by decide)) (mu_up 1 bw36 rfl (by decide) (bd_w (l := 1) (h := 5) (bd_add (l := 1) (h := 5) (bd_lt_hi bw36 (i_nle c52) (bd_c (v := 5) (lo := 5) (hi := 5) (by decide))) (bd_c (v := 1) (lo := 1) (hi := 1) (by decide)) (by decide)) (by decide)) hm51)
            · refine J_iload_n (i := 3) (j := 3) dX3_lineOf_43 rfl rfl ?_
              exact J_iret hq dX3_lineOf_44 rfl wlen (Nat.le_refl _) (Nat.le_refl _) ⟨w36, rfl, rfl, (bd_w (l := (-1)) (h := 14) (bd_lt_hi bw36 (i_nle c52) (bd_c (v := 5) (lo := 5) (hi := 5) (by decide))) (by decide)), (Or.inr (bd_w (l := (-1)) (h := 4) (bd_lt_hi bw36 (i_nle c52) (bd_c (v := 5) (lo := 5) (hi := 5) (by decide))) (by decide)))⟩
          · exact absurd c53 c1
    refine J_lv [2, 3, 1, 0] rfl ?_
    exact lp48 _ (0 : Int32) (bd_w (l := 0) (h := 5) (bd_c (v := 0) (lo := 0) (hi := 0) (by decide)) (by decide)) (Nat.lt_succ_self _)
  · refine J_bipush (v := 15) dX3_lineOf_4 (by decide) ?_
    refine J_goto (tgt := 10) dX3_lineOf_6 (by decide) ?_
    refine J_istore_n (i := 2) (lw := [(2, .int 15), (0, .ref 29), (1, .int sort)]) dX3_lineOf_10 rfl (by decide) rfl ?_
    refine J_iconst (v := 0) dX3_lineOf_11 (by decide) ?_
    refine J_istore_n (i := 3) (lw := [(3, .int 0), (2, .int 15), (0, .ref 29), (1, .int sort)]) dX3_lineOf_12 rfl (by decide) rfl ?_
    have lp121 : ∀ (n122 : Nat) (w109 : Int32), Bd 0 15 w109 → (15 - w109.toInt).toNat < n122 → J x yX3_lineOf cX3_lineOf 4 (some .int) d 0 0 (Wd u g ex).length 13 [(0, .ref 29), (1, .int sort), (2, .int 15), (3, .int w109)] [] (Wd u g ex) 0 0 := by
      intro n122
      induction n122 with
      | zero => intro w109 bw109 hm124; exact absurd hm124 (Nat.not_lt_zero _)
      | succ n122 ih123 =>
        intro w109 bw109 hm124
        refine J_iload_n (i := 3) (j := 3) dX3_lineOf_13 rfl rfl ?_
        refine J_iload_n (i := 2) (j := 2) dX3_lineOf_14 rfl rfl ?_
        refine J_icmp_ge (tgt := 51) dX3_lineOf_15 (by decide) (fun c125 => ?_) (fun c125 => ?_)
        · refine J_iconst (v := (-1)) dX3_lineOf_51 (by decide) ?_
          exact J_iret hq dX3_lineOf_52 rfl wlen (Nat.le_refl _) (Nat.le_refl _) ⟨((-1) : Int32), rfl, rfl, (bd_w (l := (-1)) (h := 14) (bd_c (v := (-1)) (lo := (-1)) (hi := (-1)) (by decide)) (by decide)), (Or.inl c1)⟩
        · refine J_aload_n (i := 0) (j := 0) dX3_lineOf_18 rfl rfl ?_
          refine J_get (C := RX3) (T := TX3) (Z := 7) (ci := 3) (f := 0) dX3_lineOf_19 inG3 rfl (by decide) k260 wc_29 rfl ?_
          refine J_iload_n (i := 1) (j := 1) dX3_lineOf_22 rfl rfl ?_
          refine J_if_ne (tgt := 33) dX3_lineOf_23 (by decide) (fun c126 => ?_) (fun c126 => ?_)
          · exact (bd_no (bd_ne_lo (bd_r c1 (bd_c (v := 0) (lo := 0) (hi := 0) (by decide))) c126 (by decide)) (by decide)).elim
          · refine J_iload_n (i := 3) (j := 3) dX3_lineOf_26 rfl rfl ?_
            refine J_callS (As := [.int w109]) (rest := [.ref 30]) dX3_lineOf_27 (c_Rd_hillWord (d := 0) (u := u) (g := g) (ex := ex) (line := w109)  (by decide) ) hq.n k525 k526 k91 k527 np_X3_hillWord (Nat.le_trans (by decide) hd) (by decide) (Nat.le_refl _) (Nat.le_refl _) wlen rfl (Nat.le_of_ble_eq_true rfl) (fun r_ h_ p130 => ?_)
            obtain ⟨i131, rfl, rfl, h132⟩ := p130
            refine J_goto (tgt := 37) dX3_lineOf_30 (by decide) ?_
            refine J_callV (As := [.retAddr (10 + i131)]) (rest := []) dX3_lineOf_37 (c_Tk_isWord (d := 4) (u := u) (g := g) (ex := ex)  (i := i131)  (by decide) h132 hp0 hp1 hp2 hp3) hq.n k549 k550 k551 wc_30 rfl rfl k92 k552 np_X6_isWord (Nat.le_trans (by decide) hd) (by decide) (Nat.le_refl _) (Nat.le_refl _) wlen rfl (Nat.le_of_ble_eq_true rfl) (fun r_ h_ p133 => ?_)
            obtain ⟨t134, rfl, rfl⟩ := p133
            refine J_ifB_eq (tgt := 45) dX3_lineOf_40 (by decide) (fun c135 => ?_) (fun c135 => ?_)
            · refine J_iinc (i := 3) (j := 3) (v := (w109 + 1)) (lw := [(3, .int (w109 + 1)), (0, .ref 29), (1, .int sort), (2, .int 15)]) dX3_lineOf_45 rfl rfl (by decide) rfl ?_
              refine J_goto (tgt := 13) dX3_lineOf_48 (by decide) ?_
              refine J_lv [1, 2, 3, 0] rfl ?_
              exact ih123 (w109 + 1) (bd_w (l := 0) (h := 15) (bd_add (l := 1) (h := 15) (bd_lt_hi bw109 (i_nle c125) (bd_c (v := 15) (lo := 15) (hi := 15) (by decide))) (bd_c (v := 1) (lo := 1) (hi := 1) (by decide)) (by decide)) (by decide)) (mu_up 1 bw109 rfl (by decide) (bd_w (l := 1) (h := 15) (bd_add (l := 1) (h := 15) (bd_lt_hi bw109 (i_nle c125) (bd_c (v := 15) (lo := 15) (hi := 15) (by decide))) (bd_c (v := 1) (lo := 1) (hi := 1) (by decide)) (by decide)) (by decide)) hm124)
            · refine J_iload_n (i := 3) (j := 3) dX3_lineOf_43 rfl rfl ?_
              exact J_iret hq dX3_lineOf_44 rfl wlen (Nat.le_refl _) (Nat.le_refl _) ⟨w109, rfl, rfl, (bd_w (l := (-1)) (h := 14) (bd_lt_hi bw109 (i_nle c125) (bd_c (v := 15) (lo := 15) (hi := 15) (by decide))) (by decide)), (Or.inl c1)⟩
    refine J_lv [2, 3, 1, 0] rfl ?_
    exact lp121 _ (0 : Int32) (bd_w (l := 0) (h := 15) (bd_c (v := 0) (lo := 0) (hi := 0) (by decide)) (by decide)) (Nat.lt_succ_self _)
set_option maxHeartbeats 4000000 in
set_option maxRecDepth 100000 in
theorem c_Rd_breaksOff {d : Nat} {u : Nat → Nat → Int32} {g : Nat → Nat → Int64} {ex : List MC}  (hd : 0 ≤ d)  : CT con0 d 0 0 yX3_breaksOff cX3_breaksOff 1 (some .boolean) [.ref 29] (Wd u g ex) (fun r h2 => ∃ (z : Bool) (u2 : Nat → Nat → Int32), r = some (.int (bI z)) ∧ h2 = Wd u2 g ex ∧ (∀ c, c ≠ 29 → u2 c = u c) ∧ (∀ j, j ≠ 5 → j ≠ 6 → u2 29 j = u 29 j)) := by
  refine CT_of (by decide) (Nat.le_of_ble_eq_true rfl) (fun x hq => ?_)
  show J x yX3_breaksOff cX3_breaksOff 1 (some .boolean) d 0 0 (Wd u g ex).length 0 [(0, .ref 29)] [] (Wd u g ex) 0 0
  refine J_aload_n (i := 0) (j := 0) dX3_breaksOff_0 rfl rfl ?_
  refine J_iconst (v := 1) dX3_breaksOff_1 (by decide) ?_
  obtain ⟨u1, e2⟩ : ∃ z, z = ms u 29 5 1 := ⟨_, rfl⟩
  refine J_put (C := RX3) (T := TX3) (Z := 7) (ci := 3) (f := 5) (ty0 := tyX3) dX3_breaksOff_2 inG3 rfl tyX3_ok nmX3 (by decide) k267 rfl rfl wc_29 (Nat.le_of_ble_eq_true rfl) (fun _ _ => ⟨rfl, rfl⟩) (ws e2 wk_29 rfl) ?_
  refine J_aload_n (i := 0) (j := 0) dX3_breaksOff_5 rfl rfl ?_
  refine J_aload_n (i := 0) (j := 0) dX3_breaksOff_6 rfl rfl ?_
  refine J_get (C := RX3) (T := TX3) (Z := 7) (ci := 3) (f := 0) dX3_breaksOff_7 inG3 rfl (by decide) k260 wc_29 rfl ?_
  refine J_getN (C := RX6) (T := TX6) (Z := 6) (ci := 6) (f := 4) dX3_breaksOff_10 inG6 rfl (by decide) k239 wc_30 rfl ?_
  refine J_ci (v := u 30 4) (congrFun (ms_c e2 (by decide)) 4) ?_
  obtain ⟨u3, e4⟩ : ∃ z, z = ms u1 29 6 (u 30 4) := ⟨_, rfl⟩
  refine J_put (C := RX3) (T := TX3) (Z := 7) (ci := 3) (f := 6) (ty0 := tyX3) dX3_breaksOff_13 inG3 rfl tyX3_ok nmX3 (by decide) k269 rfl rfl wc_29 (Nat.le_of_ble_eq_true rfl) (fun _ _ => ⟨rfl, rfl⟩) (ws e4 wk_29 rfl) ?_
  refine J_iconst (v := 0) dX3_breaksOff_16 (by decide) ?_
  exact J_zret hq dX3_breaksOff_17 rfl rfl wlen (Nat.le_refl _) (Nat.le_refl _) ⟨false, u3, rfl, rfl, (fun c k0_ => ((ms_c e4 k0_).trans (ms_c e2 k0_))), (fun j k5_ k6_ => ((ms_i e4 k6_).trans (ms_i e2 k5_)))⟩
set_option maxHeartbeats 4000000 in
set_option maxRecDepth 100000 in
theorem c_Rd_remember {d : Nat} {u : Nat → Nat → Int32} {g : Nat → Nat → Int64} {ex : List MC} {newFault : Int32} {newPlace : Int32} (hd : 0 ≤ d)  : CT con0 d 0 0 yX3_remember cX3_remember 3 none [.ref 29, .int newFault, .int newPlace] (Wd u g ex) (fun r h2 => ∃ (u2 : Nat → Nat → Int32), r = none ∧ h2 = Wd u2 g ex ∧ (∀ c, c ≠ 29 → u2 c = u c) ∧ (∀ j, j ≠ 5 → j ≠ 6 → u2 29 j = u 29 j)) := by
  refine CT_of (by decide) (Nat.le_of_ble_eq_true rfl) (fun x hq => ?_)
  show J x yX3_remember cX3_remember 3 none d 0 0 (Wd u g ex).length 0 [(0, .ref 29), (1, .int newFault), (2, .int newPlace)] [] (Wd u g ex) 0 0
  refine J_aload_n (i := 0) (j := 0) dX3_remember_0 rfl rfl ?_
  refine J_get (C := RX3) (T := TX3) (Z := 7) (ci := 3) (f := 5) dX3_remember_1 inG3 rfl (by decide) k267 wc_29 rfl ?_
  refine J_if_ne (tgt := 17) dX3_remember_4 (by decide) (fun c1 => ?_) (fun c1 => ?_)
  · exact J_vret hq dX3_remember_17 rfl wlen (Nat.le_refl _) (Nat.le_refl _) ⟨u, rfl, rfl, (fun c k0_ => rfl), (fun j k5_ k6_ => rfl)⟩
  · refine J_aload_n (i := 0) (j := 0) dX3_remember_7 rfl rfl ?_
    refine J_iload_n (i := 1) (j := 1) dX3_remember_8 rfl rfl ?_
    obtain ⟨u2, e3⟩ : ∃ z, z = ms u 29 5 newFault := ⟨_, rfl⟩
    refine J_put (C := RX3) (T := TX3) (Z := 7) (ci := 3) (f := 5) (ty0 := tyX3) dX3_remember_9 inG3 rfl tyX3_ok nmX3 (by decide) k267 rfl rfl wc_29 (Nat.le_of_ble_eq_true rfl) (fun _ _ => ⟨rfl, rfl⟩) (ws e3 wk_29 rfl) ?_
    refine J_aload_n (i := 0) (j := 0) dX3_remember_12 rfl rfl ?_
    refine J_iload_n (i := 2) (j := 2) dX3_remember_13 rfl rfl ?_
    obtain ⟨u4, e5⟩ : ∃ z, z = ms u2 29 6 newPlace := ⟨_, rfl⟩
    refine J_put (C := RX3) (T := TX3) (Z := 7) (ci := 3) (f := 6) (ty0 := tyX3) dX3_remember_14 inG3 rfl tyX3_ok nmX3 (by decide) k269 rfl rfl wc_29 (Nat.le_of_ble_eq_true rfl) (fun _ _ => ⟨rfl, rfl⟩) (ws e5 wk_29 rfl) ?_
    exact J_vret hq dX3_remember_17 rfl wlen (Nat.le_refl _) (Nat.le_refl _) ⟨u4, rfl, rfl, (fun c k0_ => ((ms_c e5 k0_).trans (ms_c e3 k0_))), (fun j k5_ k6_ => ((ms_i e5 k6_).trans (ms_i e3 k5_)))⟩
set_option maxHeartbeats 4000000 in
set_option maxRecDepth 100000 in
theorem c_Rd_isFull {d : Nat} {u : Nat → Nat → Int32} {g : Nat → Nat → Int64} {ex : List MC} {line : Int32} (hd : 0 ≤ d)  : CT con0 d 0 0 yX3_isFull cX3_isFull 2 (some .boolean) [.ref 29, .int line] (Wd u g ex) (fun r h2 => ∃ (z : Bool), r = some (.int (bI z)) ∧ h2 = Wd u g ex) := by
  refine CT_of (by decide) (Nat.le_of_ble_eq_true rfl) (fun x hq => ?_)
  show J x yX3_isFull cX3_isFull 2 (some .boolean) d 0 0 (Wd u g ex).length 0 [(0, .ref 29), (1, .int line)] [] (Wd u g ex) 0 0
  refine J_iload_n (i := 1) (j := 1) dX3_isFull_0 rfl rfl ?_
  refine J_if_ne (tgt := 16) dX3_isFull_1 (by decide) (fun c1 => ?_) (fun c1 => ?_)
  · refine J_iload_n (i := 1) (j := 1) dX3_isFull_16 rfl rfl ?_
    refine J_bipush (v := 11) dX3_isFull_17 (by decide) ?_
    refine J_icmp_ne (tgt := 37) dX3_isFull_19 (by decide) (fun c2 => ?_) (fun c2 => ?_)
    · refine J_iconst (v := 0) dX3_isFull_37 (by decide) ?_
      exact J_zret hq dX3_isFull_38 rfl rfl wlen (Nat.le_refl _) (Nat.le_refl _) ⟨false, rfl, rfl⟩
    · refine J_aload_n (i := 0) (j := 0) dX3_isFull_22 rfl rfl ?_
      refine J_get (C := RX3) (T := TX3) (Z := 7) (ci := 3) (f := 1) dX3_isFull_23 inG3 rfl (by decide) k261 wc_29 rfl ?_
      refine J_getN (C := RX1) (T := TX1) (Z := 6) (ci := 1) (f := 2) dX3_isFull_26 inG1 rfl (by decide) k140 wc_32 rfl ?_
      refine J_iconst (v := 4) dX3_isFull_29 (by decide) ?_
      refine J_icmp_lt (tgt := 37) dX3_isFull_30 (by decide) (fun c3 => ?_) (fun c3 => ?_)
      · refine J_iconst (v := 0) dX3_isFull_37 (by decide) ?_
        exact J_zret hq dX3_isFull_38 rfl rfl wlen (Nat.le_refl _) (Nat.le_refl _) ⟨false, rfl, rfl⟩
      · refine J_iconst (v := 1) dX3_isFull_33 (by decide) ?_
        refine J_goto (tgt := 38) dX3_isFull_34 (by decide) ?_
        exact J_zret hq dX3_isFull_38 rfl rfl wlen (Nat.le_refl _) (Nat.le_refl _) ⟨true, rfl, rfl⟩
  · refine J_aload_n (i := 0) (j := 0) dX3_isFull_4 rfl rfl ?_
    refine J_get (C := RX3) (T := TX3) (Z := 7) (ci := 3) (f := 1) dX3_isFull_5 inG3 rfl (by decide) k261 wc_29 rfl ?_
    refine J_getN (C := RX1) (T := TX1) (Z := 6) (ci := 1) (f := 0) dX3_isFull_8 inG1 rfl (by decide) k135 wc_32 rfl ?_
    refine J_bipush (v := 9) dX3_isFull_11 (by decide) ?_
    refine J_icmp_ge (tgt := 33) dX3_isFull_13 (by decide) (fun c4 => ?_) (fun c4 => ?_)
    · refine J_iconst (v := 1) dX3_isFull_33 (by decide) ?_
      refine J_goto (tgt := 38) dX3_isFull_34 (by decide) ?_
      exact J_zret hq dX3_isFull_38 rfl rfl wlen (Nat.le_refl _) (Nat.le_refl _) ⟨true, rfl, rfl⟩
    · refine J_iload_n (i := 1) (j := 1) dX3_isFull_16 rfl rfl ?_
      refine J_bipush (v := 11) dX3_isFull_17 (by decide) ?_
      refine J_icmp_ne (tgt := 37) dX3_isFull_19 (by decide) (fun c5 => ?_) (fun c5 => ?_)
      · refine J_iconst (v := 0) dX3_isFull_37 (by decide) ?_
        exact J_zret hq dX3_isFull_38 rfl rfl wlen (Nat.le_refl _) (Nat.le_refl _) ⟨false, rfl, rfl⟩
      · exact (bd_neq c5 (bd_r c1 (bd_c (v := 0) (lo := 0) (hi := 0) (by decide))) (bd_c (v := 11) (lo := 11) (hi := 11) (by decide)) (by decide)).elim
set_option maxHeartbeats 4000000 in
set_option maxRecDepth 100000 in
theorem c_Rd_canBeInHill {d : Nat} {u : Nat → Nat → Int32} {g : Nat → Nat → Int64} {ex : List MC} {line : Int32} {i : Int32} (hd : 0 ≤ d) (hp0 : Bd 0 14 line) (hp1 : Bd 0 2 i) (hp2 : AB u 41 0 999) : CT con0 d 0 0 yX3_canBeInHill cX3_canBeInHill 4 (some .boolean) [.ref 29, .int line, .int i] (Wd u g ex) (fun r h2 => ∃ (z : Bool), r = some (.int (bI z)) ∧ h2 = Wd u g ex) := by
  refine CT_of (by decide) (Nat.le_of_ble_eq_true rfl) (fun x hq => ?_)
  show J x yX3_canBeInHill cX3_canBeInHill 4 (some .boolean) d 0 0 (Wd u g ex).length 0 [(0, .ref 29), (1, .int line), (2, .int i)] [] (Wd u g ex) 0 0
  refine J_aload_n (i := 0) (j := 0) dX3_canBeInHill_0 rfl rfl ?_
  refine J_get (C := RX3) (T := TX3) (Z := 7) (ci := 3) (f := 3) dX3_canBeInHill_1 inG3 rfl (by decide) k265 wc_29 rfl ?_
  refine J_iload_n (i := 2) (j := 2) dX3_canBeInHill_4 rfl rfl ?_
  refine J_iald dX3_canBeInHill_5 wc_41 (vin hp1 (by decide)) ?_
  refine J_topi (fun v1 qv1 => ?_)
  refine J_istore_n (i := 3) (lw := [(3, .int v1), (0, .ref 29), (1, .int line), (2, .int i)]) dX3_canBeInHill_6 rfl (by decide) rfl ?_
  refine J_iload_n (i := 3) (j := 0) dX3_canBeInHill_7 rfl rfl ?_
  refine J_gets (i := 2) dX3_canBeInHill_8 (by decide) rfl k625 ?_
  refine J_iconst (v := 3) dX3_canBeInHill_11 (by decide) ?_
  refine J_iload_n (i := 1) (j := 2) dX3_canBeInHill_12 rfl rfl ?_
  refine J_imul dX3_canBeInHill_13 ?_
  refine J_iload_n (i := 2) (j := 3) dX3_canBeInHill_14 rfl rfl ?_
  refine J_iadd dX3_canBeInHill_15 ?_
  refine J_sald (i := 2) dX3_canBeInHill_16 (by decide) (vin (bd_add (l := 0) (h := 44) (bd_mul (l := 0) (h := 42) (bd_c (v := 3) (lo := 3) (hi := 3) (by decide)) hp0 (by decide)) hp1 (by decide)) (by decide)) ?_
  refine J_topi (fun v2 qv2 => ?_)
  refine J_icmp_le (tgt := 22) dX3_canBeInHill_17 (by decide) (fun c3 => ?_) (fun c3 => ?_)
  · refine J_iload_n (i := 1) (j := 2) dX3_canBeInHill_22 rfl rfl ?_
    refine J_if_ne (tgt := 47) dX3_canBeInHill_23 (by decide) (fun c4 => ?_) (fun c4 => ?_)
    · refine J_iload_n (i := 1) (j := 2) dX3_canBeInHill_47 rfl rfl ?_
      refine J_bipush (v := 10) dX3_canBeInHill_48 (by decide) ?_
      refine J_icmp_le (tgt := 55) dX3_canBeInHill_50 (by decide) (fun c5 => ?_) (fun c5 => ?_)
      · refine J_iload_n (i := 2) (j := 3) dX3_canBeInHill_55 rfl rfl ?_
        refine J_if_ne (tgt := 76) dX3_canBeInHill_56 (by decide) (fun c6 => ?_) (fun c6 => ?_)
        · refine J_iload_n (i := 2) (j := 3) dX3_canBeInHill_76 rfl rfl ?_
          refine J_iconst (v := 1) dX3_canBeInHill_77 (by decide) ?_
          refine J_icmp_gt (tgt := 107) dX3_canBeInHill_78 (by decide) (fun c7 => ?_) (fun c7 => ?_)
          · refine J_iconst (v := 1) dX3_canBeInHill_107 (by decide) ?_
            refine J_goto (tgt := 112) dX3_canBeInHill_108 (by decide) ?_
            exact J_zret hq dX3_canBeInHill_112 rfl rfl wlen (Nat.le_refl _) (Nat.le_refl _) ⟨true, rfl, rfl⟩
          · refine J_iload_n (i := 1) (j := 2) dX3_canBeInHill_81 rfl rfl ?_
            refine J_iconst (v := 2) dX3_canBeInHill_82 (by decide) ?_
            refine J_icmp_gt (tgt := 107) dX3_canBeInHill_83 (by decide) (fun c8 => ?_) (fun c8 => ?_)
            · refine J_iconst (v := 1) dX3_canBeInHill_107 (by decide) ?_
              refine J_goto (tgt := 112) dX3_canBeInHill_108 (by decide) ?_
              exact J_zret hq dX3_canBeInHill_112 rfl rfl wlen (Nat.le_refl _) (Nat.le_refl _) ⟨true, rfl, rfl⟩
            · refine J_iload_n (i := 3) (j := 0) dX3_canBeInHill_86 rfl rfl ?_
              refine J_aload_n (i := 0) (j := 1) dX3_canBeInHill_87 rfl rfl ?_
              refine J_get (C := RX3) (T := TX3) (Z := 7) (ci := 3) (f := 3) dX3_canBeInHill_88 inG3 rfl (by decide) k265 wc_29 rfl ?_
              refine J_iconst (v := 0) dX3_canBeInHill_91 (by decide) ?_
              refine J_iald dX3_canBeInHill_92 wc_41 (vin (bd_c (v := 0) (lo := 0) (hi := 0) (by decide)) (by decide)) ?_
              refine J_ci (v := u 41 0) rfl ?_
              refine J_icmp_le (tgt := 111) dX3_canBeInHill_93 (by decide) (fun c9 => ?_) (fun c9 => ?_)
              · refine J_iconst (v := 0) dX3_canBeInHill_111 (by decide) ?_
                exact J_zret hq dX3_canBeInHill_112 rfl rfl wlen (Nat.le_refl _) (Nat.le_refl _) ⟨false, rfl, rfl⟩
              · refine J_iload_n (i := 3) (j := 0) dX3_canBeInHill_96 rfl rfl ?_
                refine J_aload_n (i := 0) (j := 1) dX3_canBeInHill_97 rfl rfl ?_
                refine J_get (C := RX3) (T := TX3) (Z := 7) (ci := 3) (f := 1) dX3_canBeInHill_98 inG3 rfl (by decide) k261 wc_29 rfl ?_
                refine J_getN (C := RX1) (T := TX1) (Z := 6) (ci := 1) (f := 0) dX3_canBeInHill_101 inG1 rfl (by decide) k135 wc_32 rfl ?_
                refine J_icmp_ge (tgt := 111) dX3_canBeInHill_104 (by decide) (fun c10 => ?_) (fun c10 => ?_)
                · refine J_iconst (v := 0) dX3_canBeInHill_111 (by decide) ?_
                  exact J_zret hq dX3_canBeInHill_112 rfl rfl wlen (Nat.le_refl _) (Nat.le_refl _) ⟨false, rfl, rfl⟩
                · refine J_iconst (v := 1) dX3_canBeInHill_107 (by decide) ?_
                  refine J_goto (tgt := 112) dX3_canBeInHill_108 (by decide) ?_
                  exact J_zret hq dX3_canBeInHill_112 rfl rfl wlen (Nat.le_refl _) (Nat.le_refl _) ⟨true, rfl, rfl⟩
        · refine J_iload_n (i := 3) (j := 0) dX3_canBeInHill_59 rfl rfl ?_
          refine J_aload_n (i := 0) (j := 1) dX3_canBeInHill_60 rfl rfl ?_
          refine J_get (C := RX3) (T := TX3) (Z := 7) (ci := 3) (f := 1) dX3_canBeInHill_61 inG3 rfl (by decide) k261 wc_29 rfl ?_
          refine J_getN (C := RX1) (T := TX1) (Z := 6) (ci := 1) (f := 0) dX3_canBeInHill_64 inG1 rfl (by decide) k135 wc_32 rfl ?_
          refine J_icmp_ge (tgt := 74) dX3_canBeInHill_67 (by decide) (fun c11 => ?_) (fun c11 => ?_)
          · refine J_iconst (v := 0) dX3_canBeInHill_74 (by decide) ?_
            exact J_zret hq dX3_canBeInHill_75 rfl rfl wlen (Nat.le_refl _) (Nat.le_refl _) ⟨false, rfl, rfl⟩
          · refine J_iconst (v := 1) dX3_canBeInHill_70 (by decide) ?_
            refine J_goto (tgt := 75) dX3_canBeInHill_71 (by decide) ?_
            exact J_zret hq dX3_canBeInHill_75 rfl rfl wlen (Nat.le_refl _) (Nat.le_refl _) ⟨true, rfl, rfl⟩
      · refine J_iconst (v := 1) dX3_canBeInHill_53 (by decide) ?_
        exact J_zret hq dX3_canBeInHill_54 rfl rfl wlen (Nat.le_refl _) (Nat.le_refl _) ⟨true, rfl, rfl⟩
    · refine J_iload_n (i := 2) (j := 3) dX3_canBeInHill_26 rfl rfl ?_
      refine J_iconst (v := 1) dX3_canBeInHill_27 (by decide) ?_
      refine J_icmp_ne (tgt := 41) dX3_canBeInHill_28 (by decide) (fun c12 => ?_) (fun c12 => ?_)
      · refine J_iconst (v := 1) dX3_canBeInHill_41 (by decide) ?_
        refine J_goto (tgt := 46) dX3_canBeInHill_42 (by decide) ?_
        exact J_zret hq dX3_canBeInHill_46 rfl rfl wlen (Nat.le_refl _) (Nat.le_refl _) ⟨true, rfl, rfl⟩
      · refine J_iload_n (i := 3) (j := 0) dX3_canBeInHill_31 rfl rfl ?_
        refine J_aload_n (i := 0) (j := 1) dX3_canBeInHill_32 rfl rfl ?_
        refine J_get (C := RX3) (T := TX3) (Z := 7) (ci := 3) (f := 3) dX3_canBeInHill_33 inG3 rfl (by decide) k265 wc_29 rfl ?_
        refine J_iconst (v := 0) dX3_canBeInHill_36 (by decide) ?_
        refine J_iald dX3_canBeInHill_37 wc_41 (vin (bd_c (v := 0) (lo := 0) (hi := 0) (by decide)) (by decide)) ?_
        refine J_ci (v := u 41 0) rfl ?_
        refine J_icmp_gt (tgt := 45) dX3_canBeInHill_38 (by decide) (fun c13 => ?_) (fun c13 => ?_)
        · refine J_iconst (v := 0) dX3_canBeInHill_45 (by decide) ?_
          exact J_zret hq dX3_canBeInHill_46 rfl rfl wlen (Nat.le_refl _) (Nat.le_refl _) ⟨false, rfl, rfl⟩
        · refine J_iconst (v := 1) dX3_canBeInHill_41 (by decide) ?_
          refine J_goto (tgt := 46) dX3_canBeInHill_42 (by decide) ?_
          exact J_zret hq dX3_canBeInHill_46 rfl rfl wlen (Nat.le_refl _) (Nat.le_refl _) ⟨true, rfl, rfl⟩
  · refine J_iconst (v := 0) dX3_canBeInHill_20 (by decide) ?_
    exact J_zret hq dX3_canBeInHill_21 rfl rfl wlen (Nat.le_refl _) (Nat.le_refl _) ⟨false, rfl, rfl⟩
set_option maxHeartbeats 4000000 in
set_option maxRecDepth 100000 in
theorem c_Rd_canBeInPlan {d : Nat} {u : Nat → Nat → Int32} {g : Nat → Nat → Int64} {ex : List MC} {line : Int32} {i : Int32} (hd : 0 ≤ d) (hp0 : Bd 0 4 line) (hp1 : Bd 0 2 i) (hp2 : AB u 41 0 999) : CT con0 d 0 0 yX3_canBeInPlan cX3_canBeInPlan 4 (some .boolean) [.ref 29, .int line, .int i] (Wd u g ex) (fun r h2 => ∃ (z : Bool), r = some (.int (bI z)) ∧ h2 = Wd u g ex) := by
  refine CT_of (by decide) (Nat.le_of_ble_eq_true rfl) (fun x hq => ?_)
  show J x yX3_canBeInPlan cX3_canBeInPlan 4 (some .boolean) d 0 0 (Wd u g ex).length 0 [(0, .ref 29), (1, .int line), (2, .int i)] [] (Wd u g ex) 0 0
  refine J_iconst (v := 3) dX3_canBeInPlan_0 (by decide) ?_
  refine J_iload_n (i := 1) (j := 1) dX3_canBeInPlan_1 rfl rfl ?_
  refine J_imul dX3_canBeInPlan_2 ?_
  refine J_iload_n (i := 2) (j := 2) dX3_canBeInPlan_3 rfl rfl ?_
  refine J_iadd dX3_canBeInPlan_4 ?_
  refine J_istore_n (i := 3) (lw := [(3, .int (((3 : Int32) * line) + i)), (0, .ref 29), (1, .int line), (2, .int i)]) dX3_canBeInPlan_5 rfl (by decide) rfl ?_
  refine J_aload_n (i := 0) (j := 1) dX3_canBeInPlan_6 rfl rfl ?_
  refine J_get (C := RX3) (T := TX3) (Z := 7) (ci := 3) (f := 3) dX3_canBeInPlan_7 inG3 rfl (by decide) k265 wc_29 rfl ?_
  refine J_iload_n (i := 2) (j := 3) dX3_canBeInPlan_10 rfl rfl ?_
  refine J_iald dX3_canBeInPlan_11 wc_41 (vin hp1 (by decide)) ?_
  refine J_topi (fun v1 qv1 => ?_)
  refine J_gets (i := 4) dX3_canBeInPlan_12 (by decide) rfl k631 ?_
  refine J_iload_n (i := 3) (j := 0) dX3_canBeInPlan_15 rfl rfl ?_
  refine J_sald (i := 4) dX3_canBeInPlan_16 (by decide) (vin (bd_add (l := 0) (h := 14) (bd_mul (l := 0) (h := 12) (bd_c (v := 3) (lo := 3) (hi := 3) (by decide)) hp0 (by decide)) hp1 (by decide)) (by decide)) ?_
  refine J_topi (fun v2 qv2 => ?_)
  refine J_icmp_lt (tgt := 38) dX3_canBeInPlan_17 (by decide) (fun c3 => ?_) (fun c3 => ?_)
  · refine J_iconst (v := 0) dX3_canBeInPlan_38 (by decide) ?_
    exact J_zret hq dX3_canBeInPlan_39 rfl rfl wlen (Nat.le_refl _) (Nat.le_refl _) ⟨false, rfl, rfl⟩
  · refine J_aload_n (i := 0) (j := 1) dX3_canBeInPlan_20 rfl rfl ?_
    refine J_get (C := RX3) (T := TX3) (Z := 7) (ci := 3) (f := 3) dX3_canBeInPlan_21 inG3 rfl (by decide) k265 wc_29 rfl ?_
    refine J_iload_n (i := 2) (j := 3) dX3_canBeInPlan_24 rfl rfl ?_
    refine J_iald dX3_canBeInPlan_25 wc_41 (vin hp1 (by decide)) ?_
    refine J_topi (fun v4 qv4 => ?_)
    refine J_gets (i := 5) dX3_canBeInPlan_26 (by decide) rfl k633 ?_
    refine J_iload_n (i := 3) (j := 0) dX3_canBeInPlan_29 rfl rfl ?_
    refine J_sald (i := 5) dX3_canBeInPlan_30 (by decide) (vin (bd_add (l := 0) (h := 14) (bd_mul (l := 0) (h := 12) (bd_c (v := 3) (lo := 3) (hi := 3) (by decide)) hp0 (by decide)) hp1 (by decide)) (by decide)) ?_
    refine J_topi (fun v5 qv5 => ?_)
    refine J_icmp_gt (tgt := 38) dX3_canBeInPlan_31 (by decide) (fun c6 => ?_) (fun c6 => ?_)
    · refine J_iconst (v := 0) dX3_canBeInPlan_38 (by decide) ?_
      exact J_zret hq dX3_canBeInPlan_39 rfl rfl wlen (Nat.le_refl _) (Nat.le_refl _) ⟨false, rfl, rfl⟩
    · refine J_iconst (v := 1) dX3_canBeInPlan_34 (by decide) ?_
      refine J_goto (tgt := 39) dX3_canBeInPlan_35 (by decide) ?_
      exact J_zret hq dX3_canBeInPlan_39 rfl rfl wlen (Nat.le_refl _) (Nat.le_refl _) ⟨true, rfl, rfl⟩
set_option maxHeartbeats 4000000 in
set_option maxRecDepth 100000 in
theorem c_Rd_takeForHill {d : Nat} {u : Nat → Nat → Int32} {g : Nat → Nat → Int64} {ex : List MC} {line : Int32} {count : Int32} (hd : 3 ≤ d) (hp0 : Bd 0 14 line) (hp1 : Bd 0 3 count) (hp2 : Bd 0 9 (u 32 0)) (hp3 : Bd 0 4 (u 32 2)) (hp4 : AB u 33 (-1) 999) (hp5 : AB u 41 0 999) : CT con0 d 0 0 yX3_takeForHill cX3_takeForHill 3 none [.ref 29, .int line, .int count] (Wd u g ex) (fun r h2 => ∃ (u2 : Nat → Nat → Int32), r = none ∧ h2 = Wd u2 g ex ∧ Bd 0 9 (u2 32 0) ∧ Bd 0 4 (u2 32 2) ∧ AB u2 33 (-1) 999 ∧ (∀ c, c ≠ 32 → c ≠ 33 → c ≠ 34 → c ≠ 35 → c ≠ 36 → u2 c = u c) ∧ (∀ j, j ≠ 0 → j ≠ 2 → u2 32 j = u 32 j)) := by
  refine CT_of (by decide) (Nat.le_of_ble_eq_true rfl) (fun x hq => ?_)
  show J x yX3_takeForHill cX3_takeForHill 3 none d 0 0 (Wd u g ex).length 0 [(0, .ref 29), (1, .int line), (2, .int count)] [] (Wd u g ex) 0 0
  refine J_iload_n (i := 1) (j := 1) dX3_takeForHill_0 rfl rfl ?_
  refine J_if_ne (tgt := 33) dX3_takeForHill_1 (by decide) (fun c1 => ?_) (fun c1 => ?_)
  · refine J_iload_n (i := 1) (j := 1) dX3_takeForHill_33 rfl rfl ?_
    refine J_bipush (v := 11) dX3_takeForHill_34 (by decide) ?_
    refine J_icmp_ne (tgt := 62) dX3_takeForHill_36 (by decide) (fun c2 => ?_) (fun c2 => ?_)
    · refine J_iload_n (i := 1) (j := 1) dX3_takeForHill_62 rfl rfl ?_
      refine J_bipush (v := 12) dX3_takeForHill_63 (by decide) ?_
      refine J_icmp_lt (tgt := 89) dX3_takeForHill_65 (by decide) (fun c3 => ?_) (fun c3 => ?_)
      · refine J_aload_n (i := 0) (j := 0) dX3_takeForHill_89 rfl rfl ?_
        refine J_get (C := RX3) (T := TX3) (Z := 7) (ci := 3) (f := 1) dX3_takeForHill_90 inG3 rfl (by decide) k261 wc_29 rfl ?_
        refine J_aload_n (i := 0) (j := 0) dX3_takeForHill_93 rfl rfl ?_
        refine J_get (C := RX3) (T := TX3) (Z := 7) (ci := 3) (f := 3) dX3_takeForHill_94 inG3 rfl (by decide) k265 wc_29 rfl ?_
        refine J_iconst (v := 0) dX3_takeForHill_97 (by decide) ?_
        refine J_iald dX3_takeForHill_98 wc_41 (vin (bd_c (v := 0) (lo := 0) (hi := 0) (by decide)) (by decide)) ?_
        refine J_ci (v := u 41 0) rfl ?_
        refine J_gets (i := 1) dX3_takeForHill_99 (by decide) rfl k657 ?_
        refine J_iload_n (i := 1) (j := 1) dX3_takeForHill_102 rfl rfl ?_
        refine J_sald (i := 1) dX3_takeForHill_103 (by decide) (vin (bd_lt_hi (bd_ne_lo hp0 c1 (by decide)) c3 (bd_c (v := 12) (lo := 12) (hi := 12) (by decide))) (by decide)) ?_
        refine J_topi (fun v4 qv4 => ?_)
        refine J_aload_n (i := 0) (j := 0) dX3_takeForHill_104 rfl rfl ?_
        refine J_get (C := RX3) (T := TX3) (Z := 7) (ci := 3) (f := 3) dX3_takeForHill_105 inG3 rfl (by decide) k265 wc_29 rfl ?_
        refine J_iconst (v := 1) dX3_takeForHill_108 (by decide) ?_
        refine J_iald dX3_takeForHill_109 wc_41 (vin (bd_c (v := 1) (lo := 1) (hi := 1) (by decide)) (by decide)) ?_
        refine J_ci (v := u 41 1) rfl ?_
        refine J_callV (As := [.int (u 41 0), .int v4, .int (u 41 1)]) (rest := []) dX3_takeForHill_110 (c_H_putB (d := 0) (u := u) (g := g) (ex := ex) (pond := u 41 0) (column := v4) (value := u 41 1) (t := 32) (by decide) (by decide) hp4 (bd_w (l := (-1)) (h := 999) (hp5 1) (by decide))) hq.n k659 k650 k651 wc_32 rfl rfl k89 k652 np_X1_put (Nat.le_trans (by decide) hd) (by decide) (Nat.le_refl _) (Nat.le_refl _) wlen rfl (Nat.le_of_ble_eq_true rfl) (fun r_ h_ p5 => ?_)
        obtain ⟨u6, rfl, rfl, h7, fr8⟩ := p5
        refine J_iload_n (i := 2) (j := 2) dX3_takeForHill_113 rfl rfl ?_
        refine J_iconst (v := 3) dX3_takeForHill_114 (by decide) ?_
        refine J_icmp_ne (tgt := 144) dX3_takeForHill_115 (by decide) (fun c9 => ?_) (fun c9 => ?_)
        · exact J_vret hq dX3_takeForHill_144 rfl wlen (Nat.le_refl _) (Nat.le_refl _) ⟨u6, rfl, rfl, (bd_r (congrFun (fr8 32 (by decide)) 0) hp2), (bd_r (congrFun (fr8 32 (by decide)) 2) hp3), h7, (fun c k0_ k1_ k2_ k3_ k4_ => (fr8 c k1_)), (fun j k0_ k2_ => (congrFun (fr8 32 (by decide)) j))⟩
        · refine J_aload_n (i := 0) (j := 0) dX3_takeForHill_118 rfl rfl ?_
          refine J_get (C := RX3) (T := TX3) (Z := 7) (ci := 3) (f := 1) dX3_takeForHill_119 inG3 rfl (by decide) k261 wc_29 rfl ?_
          refine J_aload_n (i := 0) (j := 0) dX3_takeForHill_122 rfl rfl ?_
          refine J_get (C := RX3) (T := TX3) (Z := 7) (ci := 3) (f := 3) dX3_takeForHill_123 inG3 rfl (by decide) k265 wc_29 rfl ?_
          refine J_iconst (v := 0) dX3_takeForHill_126 (by decide) ?_
          refine J_iald dX3_takeForHill_127 wc_41 (vin (bd_c (v := 0) (lo := 0) (hi := 0) (by decide)) (by decide)) ?_
          refine J_ci (v := u 41 0) (congrFun (fr8 41 (by decide)) 0) ?_
          refine J_gets (i := 1) dX3_takeForHill_128 (by decide) rfl k657 ?_
          refine J_iload_n (i := 1) (j := 1) dX3_takeForHill_131 rfl rfl ?_
          refine J_sald (i := 1) dX3_takeForHill_132 (by decide) (vin (bd_lt_hi (bd_ne_lo hp0 c1 (by decide)) c3 (bd_c (v := 12) (lo := 12) (hi := 12) (by decide))) (by decide)) ?_
          refine J_topi (fun v10 qv10 => ?_)
          refine J_iconst (v := 1) dX3_takeForHill_133 (by decide) ?_
          refine J_iadd dX3_takeForHill_134 ?_
          refine J_aload_n (i := 0) (j := 0) dX3_takeForHill_135 rfl rfl ?_
          refine J_get (C := RX3) (T := TX3) (Z := 7) (ci := 3) (f := 3) dX3_takeForHill_136 inG3 rfl (by decide) k265 wc_29 rfl ?_
          refine J_iconst (v := 2) dX3_takeForHill_139 (by decide) ?_
          refine J_iald dX3_takeForHill_140 wc_41 (vin (bd_c (v := 2) (lo := 2) (hi := 2) (by decide)) (by decide)) ?_
          refine J_ci (v := u 41 2) (congrFun (fr8 41 (by decide)) 2) ?_
          refine J_callV (As := [.int (u 41 0), .int (v10 + 1), .int (u 41 2)]) (rest := []) dX3_takeForHill_141 (c_H_putB (d := 0) (u := u6) (g := g) (ex := ex) (pond := u 41 0) (column := (v10 + 1)) (value := u 41 2) (t := 32) (by decide) (by decide) h7 (bd_w (l := (-1)) (h := 999) (hp5 2) (by decide))) hq.n k659 k650 k651 wc_32 rfl rfl k89 k652 np_X1_put (Nat.le_trans (by decide) hd) (by decide) (Nat.le_refl _) (Nat.le_refl _) wlen rfl (Nat.le_of_ble_eq_true rfl) (fun r_ h_ p11 => ?_)
          obtain ⟨u12, rfl, rfl, h13, fr14⟩ := p11
          exact J_vret hq dX3_takeForHill_144 rfl wlen (Nat.le_refl _) (Nat.le_refl _) ⟨u12, rfl, rfl, (bd_r ((congrFun (fr14 32 (by decide)) 0).trans (congrFun (fr8 32 (by decide)) 0)) hp2), (bd_r ((congrFun (fr14 32 (by decide)) 2).trans (congrFun (fr8 32 (by decide)) 2)) hp3), h13, (fun c k0_ k1_ k2_ k3_ k4_ => ((fr14 c k1_).trans (fr8 c k1_))), (fun j k0_ k2_ => ((congrFun (fr14 32 (by decide)) j).trans (congrFun (fr8 32 (by decide)) j)))⟩
      · refine J_aload_n (i := 0) (j := 0) dX3_takeForHill_68 rfl rfl ?_
        refine J_get (C := RX3) (T := TX3) (Z := 7) (ci := 3) (f := 1) dX3_takeForHill_69 inG3 rfl (by decide) k261 wc_29 rfl ?_
        refine J_getN (C := RX1) (T := TX1) (Z := 6) (ci := 1) (f := 5) dX3_takeForHill_72 inG1 rfl (by decide) k147 wc_32 rfl ?_
        refine J_iload_n (i := 1) (j := 1) dX3_takeForHill_75 rfl rfl ?_
        refine J_bipush (v := 12) dX3_takeForHill_76 (by decide) ?_
        refine J_isub dX3_takeForHill_78 ?_
        refine J_aload_n (i := 0) (j := 0) dX3_takeForHill_79 rfl rfl ?_
        refine J_get (C := RX3) (T := TX3) (Z := 7) (ci := 3) (f := 3) dX3_takeForHill_80 inG3 rfl (by decide) k265 wc_29 rfl ?_
        refine J_iconst (v := 0) dX3_takeForHill_83 (by decide) ?_
        refine J_iald dX3_takeForHill_84 wc_41 (vin (bd_c (v := 0) (lo := 0) (hi := 0) (by decide)) (by decide)) ?_
        refine J_ci (v := u 41 0) rfl ?_
        obtain ⟨u15, e16⟩ : ∃ z, z = ms u 36 ((line - 12).toNatClampNeg) (u 41 0) := ⟨_, rfl⟩
        refine J_iast dX3_takeForHill_85 wc_36 (vin (bd_sub (l := 0) (h := 2) (bd_le_lo (bd_ne_lo hp0 c1 (by decide)) (i_nlt c3) (bd_c (v := 12) (lo := 12) (hi := 12) (by decide))) (bd_c (v := 12) (lo := 12) (hi := 12) (by decide)) (by decide)) (by decide)) (ws e16 wk_36 rfl) ?_
        refine J_goto (tgt := 144) dX3_takeForHill_86 (by decide) ?_
        exact J_vret hq dX3_takeForHill_144 rfl wlen (Nat.le_refl _) (Nat.le_refl _) ⟨u15, rfl, rfl, (bd_r (congrFun (ms_c e16 (by decide)) 0) hp2), (bd_r (congrFun (ms_c e16 (by decide)) 2) hp3), (ab_c (ms_c e16 (by decide)) hp4), (fun c k0_ k1_ k2_ k3_ k4_ => (ms_c e16 k4_)), (fun j k0_ k2_ => (congrFun (ms_c e16 (by decide)) j))⟩
    · refine J_aload_n (i := 0) (j := 0) dX3_takeForHill_39 rfl rfl ?_
      refine J_get (C := RX3) (T := TX3) (Z := 7) (ci := 3) (f := 1) dX3_takeForHill_40 inG3 rfl (by decide) k261 wc_29 rfl ?_
      refine J_aload_n (i := 0) (j := 0) dX3_takeForHill_43 rfl rfl ?_
      refine J_get (C := RX3) (T := TX3) (Z := 7) (ci := 3) (f := 3) dX3_takeForHill_44 inG3 rfl (by decide) k265 wc_29 rfl ?_
      refine J_iconst (v := 0) dX3_takeForHill_47 (by decide) ?_
      refine J_iald dX3_takeForHill_48 wc_41 (vin (bd_c (v := 0) (lo := 0) (hi := 0) (by decide)) (by decide)) ?_
      refine J_ci (v := u 41 0) rfl ?_
      refine J_aload_n (i := 0) (j := 0) dX3_takeForHill_49 rfl rfl ?_
      refine J_get (C := RX3) (T := TX3) (Z := 7) (ci := 3) (f := 3) dX3_takeForHill_50 inG3 rfl (by decide) k265 wc_29 rfl ?_
      refine J_iconst (v := 1) dX3_takeForHill_53 (by decide) ?_
      refine J_iald dX3_takeForHill_54 wc_41 (vin (bd_c (v := 1) (lo := 1) (hi := 1) (by decide)) (by decide)) ?_
      refine J_ci (v := u 41 1) rfl ?_
      refine J_callV (As := [.int (u 41 0), .int (u 41 1)]) (rest := []) dX3_takeForHill_55 (c_H_addRain (d := 0) (u := u) (g := g) (ex := ex) (steps := u 41 0) (chance := u 41 1) (t := 32) (by decide) (by decide) hp2 hp3) hq.n k653 k654 k655 wc_32 rfl rfl k89 k656 np_X1_addRain (Nat.le_trans (by decide) hd) (by decide) (Nat.le_refl _) (Nat.le_refl _) wlen rfl (Nat.le_of_ble_eq_true rfl) (fun r_ h_ p17 => ?_)
      obtain ⟨t18, u19, rfl, rfl, h20, fr21, fc22⟩ := p17
      refine J_pop dX3_takeForHill_58 rfl ?_
      refine J_goto (tgt := 144) dX3_takeForHill_59 (by decide) ?_
      exact J_vret hq dX3_takeForHill_144 rfl wlen (Nat.le_refl _) (Nat.le_refl _) ⟨u19, rfl, rfl, (bd_r (fc22 0 (by decide)) hp2), h20, (ab_c (fr21 33 (by decide) (by decide) (by decide)) hp4), (fun c k0_ k1_ k2_ k3_ k4_ => (fr21 c k0_ k2_ k3_)), (fun j k0_ k2_ => (fc22 j k2_))⟩
  · refine J_aload_n (i := 0) (j := 0) dX3_takeForHill_4 rfl rfl ?_
    refine J_get (C := RX3) (T := TX3) (Z := 7) (ci := 3) (f := 1) dX3_takeForHill_5 inG3 rfl (by decide) k261 wc_29 rfl ?_
    refine J_aload_n (i := 0) (j := 0) dX3_takeForHill_8 rfl rfl ?_
    refine J_get (C := RX3) (T := TX3) (Z := 7) (ci := 3) (f := 3) dX3_takeForHill_9 inG3 rfl (by decide) k265 wc_29 rfl ?_
    refine J_iconst (v := 0) dX3_takeForHill_12 (by decide) ?_
    refine J_iald dX3_takeForHill_13 wc_41 (vin (bd_c (v := 0) (lo := 0) (hi := 0) (by decide)) (by decide)) ?_
    refine J_ci (v := u 41 0) rfl ?_
    refine J_aload_n (i := 0) (j := 0) dX3_takeForHill_14 rfl rfl ?_
    refine J_get (C := RX3) (T := TX3) (Z := 7) (ci := 3) (f := 3) dX3_takeForHill_15 inG3 rfl (by decide) k265 wc_29 rfl ?_
    refine J_iconst (v := 1) dX3_takeForHill_18 (by decide) ?_
    refine J_iald dX3_takeForHill_19 wc_41 (vin (bd_c (v := 1) (lo := 1) (hi := 1) (by decide)) (by decide)) ?_
    refine J_ci (v := u 41 1) rfl ?_
    refine J_aload_n (i := 0) (j := 0) dX3_takeForHill_20 rfl rfl ?_
    refine J_get (C := RX3) (T := TX3) (Z := 7) (ci := 3) (f := 3) dX3_takeForHill_21 inG3 rfl (by decide) k265 wc_29 rfl ?_
    refine J_iconst (v := 2) dX3_takeForHill_24 (by decide) ?_
    refine J_iald dX3_takeForHill_25 wc_41 (vin (bd_c (v := 2) (lo := 2) (hi := 2) (by decide)) (by decide)) ?_
    refine J_ci (v := u 41 2) rfl ?_
    refine J_callV (As := [.int (u 41 0), .int (u 41 1), .int (u 41 2)]) (rest := []) dX3_takeForHill_26 (c_H_addPond32 (d := 2) (u := u) (g := g) (ex := ex) (holds := u 41 0) (level := u 41 1) (take := u 41 2)  (by decide) hp2 hp3 hp4 (bd_w (l := (-1)) (h := 999) (hp5 0) (by decide)) (bd_w (l := (-1)) (h := 999) (hp5 1) (by decide)) (bd_w (l := (-1)) (h := 999) (hp5 2) (by decide))) hq.n k639 k640 k641 wc_32 rfl rfl k89 k642 np_X1_addPond (Nat.le_trans (by decide) hd) (by decide) (Nat.le_refl _) (Nat.le_refl _) wlen rfl (Nat.le_of_ble_eq_true rfl) (fun r_ h_ p23 => ?_)
    obtain ⟨t24, u25, rfl, rfl, h26, h27, fr28, fc29⟩ := p23
    refine J_pop dX3_takeForHill_29 rfl ?_
    refine J_goto (tgt := 144) dX3_takeForHill_30 (by decide) ?_
    exact J_vret hq dX3_takeForHill_144 rfl wlen (Nat.le_refl _) (Nat.le_refl _) ⟨u25, rfl, rfl, h26, (bd_r (fc29 2 (by decide)) hp3), h27, (fun c k0_ k1_ k2_ k3_ k4_ => (fr28 c k0_ k1_)), (fun j k0_ k2_ => (fc29 j k0_))⟩
set_option maxHeartbeats 4000000 in
set_option maxRecDepth 100000 in
theorem c_W_addK {d : Nat} {u : Nat → Nat → Int32} {g : Nat → Nat → Int64} {ex : List MC} {kind : Int32} {pond : Int32} {much : Int32} (hd : 0 ≤ d) (hp0 : Bd 0 12 (u 37 0)) (hp1 : (KM u 37)) (hp2 : (kind = 4 ∨ Bd 0 999 much)) : CT con0 d 0 0 yX8_add cX8_add 4 (some .boolean) [.ref 37, .int kind, .int pond, .int much] (Wd u g ex) (fun r h2 => ∃ (z : Bool) (u2 : Nat → Nat → Int32), r = some (.int (bI z)) ∧ h2 = Wd u2 g ex ∧ Bd 0 12 (u2 37 0) ∧ (KM u2 37) ∧ (∀ c, c ≠ 37 → c ≠ 38 → c ≠ 39 → c ≠ 40 → u2 c = u c) ∧ (∀ j, j ≠ 0 → u2 37 j = u 37 j)) := by
  refine CT_of (by decide) (Nat.le_of_ble_eq_true rfl) (fun x hq => ?_)
  show J x yX8_add cX8_add 4 (some .boolean) d 0 0 (Wd u g ex).length 0 [(0, .ref 37), (1, .int kind), (2, .int pond), (3, .int much)] [] (Wd u g ex) 0 0
  refine J_aload_n (i := 0) (j := 0) dX8_add_0 rfl rfl ?_
  refine J_get (C := RX8) (T := TX8) (Z := 4) (ci := 8) (f := 0) dX8_add_1 inG8 rfl (by decide) k168 wc_37 rfl ?_
  refine J_bipush (v := 12) dX8_add_4 (by decide) ?_
  refine J_icmp_lt (tgt := 11) dX8_add_6 (by decide) (fun c1 => ?_) (fun c1 => ?_)
  · refine J_aload_n (i := 0) (j := 0) dX8_add_11 rfl rfl ?_
    refine J_get (C := RX8) (T := TX8) (Z := 4) (ci := 8) (f := 1) dX8_add_12 inG8 rfl (by decide) k171 wc_37 rfl ?_
    refine J_aload_n (i := 0) (j := 0) dX8_add_15 rfl rfl ?_
    refine J_get (C := RX8) (T := TX8) (Z := 4) (ci := 8) (f := 0) dX8_add_16 inG8 rfl (by decide) k168 wc_37 rfl ?_
    refine J_iload_n (i := 1) (j := 1) dX8_add_19 rfl rfl ?_
    obtain ⟨u2, e3⟩ : ∃ z, z = ms u 38 ((u 37 0).toNatClampNeg) kind := ⟨_, rfl⟩
    refine J_iast dX8_add_20 wc_38 (vin (bd_lt_hi hp0 c1 (bd_c (v := 12) (lo := 12) (hi := 12) (by decide))) (by decide)) (ws e3 wk_38 rfl) ?_
    refine J_aload_n (i := 0) (j := 0) dX8_add_21 rfl rfl ?_
    refine J_get (C := RX8) (T := TX8) (Z := 4) (ci := 8) (f := 2) dX8_add_22 inG8 rfl (by decide) k173 wc_37 rfl ?_
    refine J_aload_n (i := 0) (j := 0) dX8_add_25 rfl rfl ?_
    refine J_get (C := RX8) (T := TX8) (Z := 4) (ci := 8) (f := 0) dX8_add_26 inG8 rfl (by decide) k168 wc_37 rfl ?_
    refine J_ci (v := u 37 0) (congrFun (ms_c e3 (by decide)) 0) ?_
    refine J_iload_n (i := 2) (j := 2) dX8_add_29 rfl rfl ?_
    obtain ⟨u4, e5⟩ : ∃ z, z = ms u2 39 ((u 37 0).toNatClampNeg) pond := ⟨_, rfl⟩
    refine J_iast dX8_add_30 wc_39 (vin (bd_lt_hi hp0 c1 (bd_c (v := 12) (lo := 12) (hi := 12) (by decide))) (by decide)) (ws e5 wk_39 rfl) ?_
    refine J_aload_n (i := 0) (j := 0) dX8_add_31 rfl rfl ?_
    refine J_get (C := RX8) (T := TX8) (Z := 4) (ci := 8) (f := 3) dX8_add_32 inG8 rfl (by decide) k175 wc_37 rfl ?_
    refine J_aload_n (i := 0) (j := 0) dX8_add_35 rfl rfl ?_
    refine J_get (C := RX8) (T := TX8) (Z := 4) (ci := 8) (f := 0) dX8_add_36 inG8 rfl (by decide) k168 wc_37 rfl ?_
    refine J_ci (v := u 37 0) ((congrFun (ms_c e5 (by decide)) 0).trans (congrFun (ms_c e3 (by decide)) 0)) ?_
    refine J_iload_n (i := 3) (j := 3) dX8_add_39 rfl rfl ?_
    obtain ⟨u6, e7⟩ : ∃ z, z = ms u4 40 ((u 37 0).toNatClampNeg) much := ⟨_, rfl⟩
    refine J_iast dX8_add_40 wc_40 (vin (bd_lt_hi hp0 c1 (bd_c (v := 12) (lo := 12) (hi := 12) (by decide))) (by decide)) (ws e7 wk_40 rfl) ?_
    refine J_aload_n (i := 0) (j := 0) dX8_add_41 rfl rfl ?_
    refine J_dup dX8_add_42 rfl ?_
    refine J_get (C := RX8) (T := TX8) (Z := 4) (ci := 8) (f := 0) dX8_add_43 inG8 rfl (by decide) k168 wc_37 rfl ?_
    refine J_ci (v := u 37 0) ((congrFun (ms_c e7 (by decide)) 0).trans ((congrFun (ms_c e5 (by decide)) 0).trans (congrFun (ms_c e3 (by decide)) 0))) ?_
    refine J_iconst (v := 1) dX8_add_46 (by decide) ?_
    refine J_iadd dX8_add_47 ?_
    obtain ⟨u8, e9⟩ : ∃ z, z = ms u6 37 0 ((u 37 0) + 1) := ⟨_, rfl⟩
    refine J_put (C := RX8) (T := TX8) (Z := 4) (ci := 8) (f := 0) (ty0 := tyX8) dX8_add_48 inG8 rfl tyX8_ok nmX8 (by decide) k168 rfl rfl wc_37 (Nat.le_of_ble_eq_true rfl) (fun _ _ => ⟨rfl, rfl⟩) (ws e9 wk_37 rfl) ?_
    refine J_iconst (v := 1) dX8_add_51 (by decide) ?_
    exact J_zret hq dX8_add_52 rfl rfl wlen (Nat.le_refl _) (Nat.le_refl _) ⟨true, u8, rfl, rfl, (bd_r (ms_e e9) (bd_w (l := 0) (h := 12) (bd_add (l := 1) (h := 12) (bd_lt_hi hp0 c1 (bd_c (v := 12) (lo := 12) (hi := 12) (by decide))) (bd_c (v := 1) (lo := 1) (hi := 1) (by decide)) (by decide)) (by decide))), (km_s (u := u) (w := 37) (show u8 38 = upd (u 38) ((u 37 0).toNatClampNeg) kind by rw [((ms_c e9 (by decide)).trans ((ms_c e7 (by decide)).trans (ms_c e5 (by decide)))), ms_a e3]) (show u8 40 = upd (u 40) ((u 37 0).toNatClampNeg) much by rw [(ms_c e9 (by decide)), ms_a e7, ((ms_c e5 (by decide)).trans (ms_c e3 (by decide)))]) hp1 hp2), (fun c k0_ k1_ k2_ k3_ => ((ms_c e9 k0_).trans ((ms_c e7 k3_).trans ((ms_c e5 k2_).trans (ms_c e3 k1_))))), (fun j k0_ => ((ms_i e9 k0_).trans ((congrFun (ms_c e7 (by decide)) j).trans ((congrFun (ms_c e5 (by decide)) j).trans (congrFun (ms_c e3 (by decide)) j)))))⟩
  · refine J_iconst (v := 0) dX8_add_9 (by decide) ?_
    exact J_zret hq dX8_add_10 rfl rfl wlen (Nat.le_refl _) (Nat.le_refl _) ⟨false, u, rfl, rfl, (bd_w (l := 0) (h := 12) (bd_le_lo hp0 (i_nlt c1) (bd_c (v := 12) (lo := 12) (hi := 12) (by decide))) (by decide)), hp1, (fun c k0_ k1_ k2_ k3_ => rfl), (fun j k0_ => rfl)⟩
set_option maxHeartbeats 4000000 in
set_option maxRecDepth 100000 in
theorem c_Rd_take {d : Nat} {u : Nat → Nat → Int32} {g : Nat → Nat → Int64} {ex : List MC} {sort : Int32} {line : Int32} {first : Int32} {count : Int32} (hd : 4 ≤ d) (hp0 : Bd 0 14 line) (hp1 : Bd 0 3 count) (hp2 : (sort = 0 ∨ Bd (-1) 4 line)) (hp3 : (sort = 0 ∨ 1 < count ∨ line = 4)) (hp4 : Bd 0 9 (u 32 0)) (hp5 : Bd 0 4 (u 32 2)) (hp6 : AB u 33 (-1) 999) (hp7 : Bd 0 12 (u 37 0)) (hp8 : (KM u 37)) (hp9 : AB u 41 0 999) : CT con0 d 0 0 yX3_take cX3_take 6 none [.ref 29, .int sort, .int line, .int first, .int count] (Wd u g ex) (fun r h2 => ∃ (u2 : Nat → Nat → Int32), r = none ∧ h2 = Wd u2 g ex ∧ Bd 0 9 (u2 32 0) ∧ Bd 0 4 (u2 32 2) ∧ AB u2 33 (-1) 999 ∧ Bd 0 12 (u2 37 0) ∧ (KM u2 37) ∧ (∀ c, c ≠ 29 → c ≠ 32 → c ≠ 33 → c ≠ 34 → c ≠ 35 → c ≠ 36 → c ≠ 37 → c ≠ 38 → c ≠ 39 → c ≠ 40 → u2 c = u c) ∧ (∀ j, j ≠ 5 → j ≠ 6 → u2 29 j = u 29 j) ∧ (∀ j, j ≠ 0 → j ≠ 2 → u2 32 j = u 32 j) ∧ (∀ j, j ≠ 0 → u2 37 j = u 37 j)) := by
  refine CT_of (by decide) (Nat.le_of_ble_eq_true rfl) (fun x hq => ?_)
  show J x yX3_take cX3_take 6 none d 0 0 (Wd u g ex).length 0 [(0, .ref 29), (1, .int sort), (2, .int line), (3, .int first), (4, .int count)] [] (Wd u g ex) 0 0
  refine J_iload_n (i := 1) (j := 1) dX3_take_0 rfl rfl ?_
  have jn17 : ∀ (u14 : Nat → Nat → Int32), (∀ c, c ≠ 29 → u14 c = u c) → (∀ j, j ≠ 5 → j ≠ 6 → u14 29 j = u 29 j) → J x yX3_take cX3_take 6 none d 0 0 (Wd u g ex).length 33 [(0, .ref 29), (1, .int sort), (2, .int line), (4, .int count)] [] (Wd u14 g ex) 0 0 := by
    intro u14 fr15 fc16
    refine J_iconst (v := 0) dX3_take_33 (by decide) ?_
    refine J_istore (i := 5) (lw := [(5, .int 0), (0, .ref 29), (1, .int sort), (2, .int line), (4, .int count)]) dX3_take_34 (by decide) rfl ?_
    have lp400 : ∀ (n401 : Nat) (w298 : Int32) (u299 : Nat → Nat → Int32), Bd 0 3 w298 → (∀ c, c ≠ 29 → u299 c = u14 c) → (∀ j, j ≠ 5 → j ≠ 6 → u299 29 j = u14 29 j) → (3 - w298.toInt).toNat < n401 → J x yX3_take cX3_take 6 none d 0 0 (Wd u g ex).length 36 [(0, .ref 29), (1, .int sort), (2, .int line), (4, .int count), (5, .int w298)] [] (Wd u299 g ex) 0 0 := by
      intro n401
      induction n401 with
      | zero => intro w298 u299 bw298 fr300 fc301 hm403; exact absurd hm403 (Nat.not_lt_zero _)
      | succ n401 ih402 =>
        intro w298 u299 bw298 fr300 fc301 hm403
        refine J_iload (i := 5) (j := 4) dX3_take_36 rfl ?_
        refine J_iload (i := 4) (j := 3) dX3_take_38 rfl ?_
        refine J_icmp_ge (tgt := 88) dX3_take_40 (by decide) (fun c404 => ?_) (fun c404 => ?_)
        · refine J_iload_n (i := 1) (j := 1) dX3_take_88 rfl rfl ?_
          refine J_if_ne (tgt := 102) dX3_take_89 (by decide) (fun c442 => ?_) (fun c442 => ?_)
          · refine J_aload_n (i := 0) (j := 0) dX3_take_102 rfl rfl ?_
            refine J_get (C := RX3) (T := TX3) (Z := 7) (ci := 3) (f := 2) dX3_take_103 inG3 rfl (by decide) k263 wc_29 rfl ?_
            refine J_iload_n (i := 2) (j := 2) dX3_take_106 rfl rfl ?_
            refine J_aload_n (i := 0) (j := 0) dX3_take_107 rfl rfl ?_
            refine J_get (C := RX3) (T := TX3) (Z := 7) (ci := 3) (f := 3) dX3_take_108 inG3 rfl (by decide) k265 wc_29 rfl ?_
            refine J_iconst (v := 0) dX3_take_111 (by decide) ?_
            refine J_iald dX3_take_112 wc_41 (vin (bd_c (v := 0) (lo := 0) (hi := 0) (by decide)) (by decide)) ?_
            refine J_ci (v := u 41 0) ((congrFun (fr300 41 (by decide)) 0).trans (congrFun (fr15 41 (by decide)) 0)) ?_
            refine J_iload (i := 4) (j := 3) dX3_take_113 rfl ?_
            refine J_iconst (v := 1) dX3_take_115 (by decide) ?_
            refine J_icmp_le (tgt := 128) dX3_take_116 (by decide) (fun c443 => ?_) (fun c443 => ?_)
            · refine J_iconst (v := (-1)) dX3_take_128 (by decide) ?_
              refine J_callV (As := [.int line, .int (u 41 0), .int (-1)]) (rest := []) dX3_take_129 (c_W_addK (d := 0) (u := u299) (g := g) (ex := ex) (kind := line) (pond := u 41 0) (much := (-1))  (by decide) (bd_r ((congrFun (fr300 37 (by decide)) 0).trans (congrFun (fr15 37 (by decide)) 0)) hp7) (km_c ((fr300 38 (by decide)).trans (fr15 38 (by decide))) ((fr300 40 (by decide)).trans (fr15 40 (by decide))) hp8) (Or.inl ((hp3.resolve_left c442).resolve_left (fun q => lt_le_no q c443)))) hq.n k660 k661 k662 wc_37 rfl rfl k90 k663 np_X8_add (Nat.le_trans (by decide) hd) (by decide) (Nat.le_refl _) (Nat.le_refl _) wlen rfl (Nat.le_of_ble_eq_true rfl) (fun r_ h_ p444 => ?_)
              obtain ⟨t445, u446, rfl, rfl, h447, h448, fr449, fc450⟩ := p444
              refine J_pop dX3_take_132 rfl ?_
              exact J_vret hq dX3_take_133 rfl wlen (Nat.le_refl _) (Nat.le_refl _) ⟨u446, rfl, rfl, (bd_r ((congrFun (fr449 32 (by decide) (by decide) (by decide) (by decide)) 0).trans ((congrFun (fr300 32 (by decide)) 0).trans (congrFun (fr15 32 (by decide)) 0))) hp4), (bd_r ((congrFun (fr449 32 (by decide) (by decide) (by decide) (by decide)) 2).trans ((congrFun (fr300 32 (by decide)) 2).trans (congrFun (fr15 32 (by decide)) 2))) hp5), (ab_c ((fr449 33 (by decide) (by decide) (by decide) (by decide)).trans ((fr300 33 (by decide)).trans (fr15 33 (by decide)))) hp6), h447, h448, (fun c k0_ k1_ k2_ k3_ k4_ k5_ k6_ k7_ k8_ k9_ => ((fr449 c k6_ k7_ k8_ k9_).trans ((fr300 c k0_).trans (fr15 c k0_)))), (fun j k5_ k6_ => ((congrFun (fr449 29 (by decide) (by decide) (by decide) (by decide)) j).trans ((fc301 j k5_ k6_).trans (fc16 j k5_ k6_)))), (fun j k0_ k2_ => ((congrFun (fr449 32 (by decide) (by decide) (by decide) (by decide)) j).trans ((congrFun (fr300 32 (by decide)) j).trans (congrFun (fr15 32 (by decide)) j)))), (fun j k0_ => ((fc450 j k0_).trans ((congrFun (fr300 37 (by decide)) j).trans (congrFun (fr15 37 (by decide)) j))))⟩
            · refine J_aload_n (i := 0) (j := 0) dX3_take_119 rfl rfl ?_
              refine J_get (C := RX3) (T := TX3) (Z := 7) (ci := 3) (f := 3) dX3_take_120 inG3 rfl (by decide) k265 wc_29 rfl ?_
              refine J_iconst (v := 1) dX3_take_123 (by decide) ?_
              refine J_iald dX3_take_124 wc_41 (vin (bd_c (v := 1) (lo := 1) (hi := 1) (by decide)) (by decide)) ?_
              refine J_ci (v := u 41 1) ((congrFun (fr300 41 (by decide)) 1).trans (congrFun (fr15 41 (by decide)) 1)) ?_
              refine J_goto (tgt := 129) dX3_take_125 (by decide) ?_
              refine J_callV (As := [.int line, .int (u 41 0), .int (u 41 1)]) (rest := []) dX3_take_129 (c_W_addK (d := 0) (u := u299) (g := g) (ex := ex) (kind := line) (pond := u 41 0) (much := u 41 1)  (by decide) (bd_r ((congrFun (fr300 37 (by decide)) 0).trans (congrFun (fr15 37 (by decide)) 0)) hp7) (km_c ((fr300 38 (by decide)).trans (fr15 38 (by decide))) ((fr300 40 (by decide)).trans (fr15 40 (by decide))) hp8) (Or.inr (hp9 1))) hq.n k660 k661 k662 wc_37 rfl rfl k90 k663 np_X8_add (Nat.le_trans (by decide) hd) (by decide) (Nat.le_refl _) (Nat.le_refl _) wlen rfl (Nat.le_of_ble_eq_true rfl) (fun r_ h_ p451 => ?_)
              obtain ⟨t452, u453, rfl, rfl, h454, h455, fr456, fc457⟩ := p451
              refine J_pop dX3_take_132 rfl ?_
              exact J_vret hq dX3_take_133 rfl wlen (Nat.le_refl _) (Nat.le_refl _) ⟨u453, rfl, rfl, (bd_r ((congrFun (fr456 32 (by decide) (by decide) (by decide) (by decide)) 0).trans ((congrFun (fr300 32 (by decide)) 0).trans (congrFun (fr15 32 (by decide)) 0))) hp4), (bd_r ((congrFun (fr456 32 (by decide) (by decide) (by decide) (by decide)) 2).trans ((congrFun (fr300 32 (by decide)) 2).trans (congrFun (fr15 32 (by decide)) 2))) hp5), (ab_c ((fr456 33 (by decide) (by decide) (by decide) (by decide)).trans ((fr300 33 (by decide)).trans (fr15 33 (by decide)))) hp6), h454, h455, (fun c k0_ k1_ k2_ k3_ k4_ k5_ k6_ k7_ k8_ k9_ => ((fr456 c k6_ k7_ k8_ k9_).trans ((fr300 c k0_).trans (fr15 c k0_)))), (fun j k5_ k6_ => ((congrFun (fr456 29 (by decide) (by decide) (by decide) (by decide)) j).trans ((fc301 j k5_ k6_).trans (fc16 j k5_ k6_)))), (fun j k0_ k2_ => ((congrFun (fr456 32 (by decide) (by decide) (by decide) (by decide)) j).trans ((congrFun (fr300 32 (by decide)) j).trans (congrFun (fr15 32 (by decide)) j)))), (fun j k0_ => ((fc457 j k0_).trans ((congrFun (fr300 37 (by decide)) j).trans (congrFun (fr15 37 (by decide)) j))))⟩
          · refine J_aload_n (i := 0) (j := 0) dX3_take_92 rfl rfl ?_
            refine J_iload_n (i := 2) (j := 2) dX3_take_93 rfl rfl ?_
            refine J_iload (i := 4) (j := 3) dX3_take_94 rfl ?_
            refine J_callV (As := [.int line, .int count]) (rest := []) dX3_take_96 (c_Rd_takeForHill (d := 3) (u := u299) (g := g) (ex := ex) (line := line) (count := count)  (by decide) hp0 hp1 (bd_r ((congrFun (fr300 32 (by decide)) 0).trans (congrFun (fr15 32 (by decide)) 0)) hp4) (bd_r ((congrFun (fr300 32 (by decide)) 2).trans (congrFun (fr15 32 (by decide)) 2)) hp5) (ab_c ((fr300 33 (by decide)).trans (fr15 33 (by decide))) hp6) (ab_c ((fr300 41 (by decide)).trans (fr15 41 (by decide))) hp9)) hq.n k635 k637 k10 wc_29 rfl rfl k91 k638 np_X3_takeForHill (Nat.le_trans (by decide) hd) (by decide) (Nat.le_refl _) (Nat.le_refl _) wlen rfl (Nat.le_of_ble_eq_true rfl) (fun r_ h_ p458 => ?_)
            obtain ⟨u459, rfl, rfl, h460, h461, h462, fr463, fc464⟩ := p458
            refine J_goto (tgt := 133) dX3_take_99 (by decide) ?_
            exact J_vret hq dX3_take_133 rfl wlen (Nat.le_refl _) (Nat.le_refl _) ⟨u459, rfl, rfl, h460, h461, h462, (bd_r ((congrFun (fr463 37 (by decide) (by decide) (by decide) (by decide) (by decide)) 0).trans ((congrFun (fr300 37 (by decide)) 0).trans (congrFun (fr15 37 (by decide)) 0))) hp7), (km_c ((fr463 38 (by decide) (by decide) (by decide) (by decide) (by decide)).trans ((fr300 38 (by decide)).trans (fr15 38 (by decide)))) ((fr463 40 (by decide) (by decide) (by decide) (by decide) (by decide)).trans ((fr300 40 (by decide)).trans (fr15 40 (by decide)))) hp8), (fun c k0_ k1_ k2_ k3_ k4_ k5_ k6_ k7_ k8_ k9_ => ((fr463 c k1_ k2_ k3_ k4_ k5_).trans ((fr300 c k0_).trans (fr15 c k0_)))), (fun j k5_ k6_ => ((congrFun (fr463 29 (by decide) (by decide) (by decide) (by decide) (by decide)) j).trans ((fc301 j k5_ k6_).trans (fc16 j k5_ k6_)))), (fun j k0_ k2_ => ((fc464 j k0_ k2_).trans ((congrFun (fr300 32 (by decide)) j).trans (congrFun (fr15 32 (by decide)) j)))), (fun j k0_ => ((congrFun (fr463 37 (by decide) (by decide) (by decide) (by decide) (by decide)) j).trans ((congrFun (fr300 37 (by decide)) j).trans (congrFun (fr15 37 (by decide)) j))))⟩
        · refine J_iload_n (i := 1) (j := 1) dX3_take_43 rfl rfl ?_
          have jn485 : ∀ (u482 : Nat → Nat → Int32), (∀ c, c ≠ 29 → u482 c = u299 c) → (∀ j, j ≠ 5 → j ≠ 6 → u482 29 j = u299 29 j) → J x yX3_take cX3_take 6 none d 0 0 (Wd u g ex).length 82 [(0, .ref 29), (1, .int sort), (2, .int line), (4, .int count), (5, .int w298)] [] (Wd u482 g ex) 0 0 := by
            intro u482 fr483 fc484
            refine J_iinc (i := 5) (j := 4) (v := (w298 + 1)) (lw := [(5, .int (w298 + 1)), (0, .ref 29), (1, .int sort), (2, .int line), (4, .int count)]) dX3_take_82 rfl rfl (by decide) rfl ?_
            refine J_goto (tgt := 36) dX3_take_85 (by decide) ?_
            refine J_lv [1, 2, 3, 4, 0] rfl ?_
            exact ih402 (w298 + 1) u482 (bd_w (l := 0) (h := 3) (bd_add (l := 1) (h := 3) (bd_lt_hi bw298 (i_nle c404) hp1) (bd_c (v := 1) (lo := 1) (hi := 1) (by decide)) (by decide)) (by decide)) (fun c k0_ => ((fr483 c k0_).trans (fr300 c k0_))) (fun j k5_ k6_ => ((fc484 j k5_ k6_).trans (fc301 j k5_ k6_))) (mu_up 1 bw298 rfl (by decide) (bd_w (l := 1) (h := 3) (bd_add (l := 1) (h := 3) (bd_lt_hi bw298 (i_nle c404) hp1) (bd_c (v := 1) (lo := 1) (hi := 1) (by decide)) (by decide)) (by decide)) hm403)
          refine J_if_ne (tgt := 60) dX3_take_44 (by decide) (fun c465 => ?_) (fun c465 => ?_)
          · refine J_aload_n (i := 0) (j := 0) dX3_take_60 rfl rfl ?_
            refine J_iload_n (i := 2) (j := 2) dX3_take_61 rfl rfl ?_
            refine J_iload (i := 5) (j := 4) dX3_take_62 rfl ?_
            refine J_callV (As := [.int line, .int w298]) (rest := []) dX3_take_64 (c_Rd_canBeInPlan (d := 0) (u := u299) (g := g) (ex := ex) (line := line) (i := w298)  (by decide) (bd_in (l := 0) (h := 4) hp0 (hp2.resolve_left c465) (by decide)) (bd_lt_hi bw298 (i_nle c404) hp1) (ab_c ((fr300 41 (by decide)).trans (fr15 41 (by decide))) hp9)) hq.n k627 k629 k9 wc_29 rfl rfl k91 k630 np_X3_canBeInPlan (Nat.le_trans (by decide) hd) (by decide) (Nat.le_refl _) (Nat.le_refl _) wlen rfl (Nat.le_of_ble_eq_true rfl) (fun r_ h_ p486 => ?_)
            obtain ⟨t487, rfl, rfl⟩ := p486
            refine J_ifB_ne (tgt := 82) dX3_take_67 (by decide) (fun c488 => ?_) (fun c488 => ?_)
            · refine J_lv [0, 1, 2, 3, 4] rfl ?_
              exact jn485 u299 (fun c k0_ => rfl) (fun j k5_ k6_ => rfl)
            · refine J_aload_n (i := 0) (j := 0) dX3_take_70 rfl rfl ?_
              refine J_iconst (v := 2) dX3_take_71 (by decide) ?_
              refine J_aload_n (i := 0) (j := 0) dX3_take_72 rfl rfl ?_
              refine J_get (C := RX3) (T := TX3) (Z := 7) (ci := 3) (f := 4) dX3_take_73 inG3 rfl (by decide) k266 wc_29 rfl ?_
              refine J_iload (i := 5) (j := 4) dX3_take_76 rfl ?_
              refine J_iald dX3_take_78 wc_42 (vin (bd_lt_hi bw298 (i_nle c404) hp1) (by decide)) ?_
              refine J_topi (fun v489 qv489 => ?_)
              refine J_callV (As := [.int 2, .int v489]) (rest := []) dX3_take_79 (c_Rd_remember (d := 0) (u := u299) (g := g) (ex := ex) (newFault := 2) (newPlace := v489)  (by decide) ) hq.n k617 k619 k7 wc_29 rfl rfl k91 k620 np_X3_remember (Nat.le_trans (by decide) hd) (by decide) (Nat.le_refl _) (Nat.le_refl _) wlen rfl (Nat.le_of_ble_eq_true rfl) (fun r_ h_ p490 => ?_)
              obtain ⟨u491, rfl, rfl, fr492, fc493⟩ := p490
              refine J_lv [0, 1, 2, 3, 4] rfl ?_
              exact jn485 u491 (fun c k0_ => (fr492 c k0_)) (fun j k5_ k6_ => (fc493 j k5_ k6_))
          · refine J_aload_n (i := 0) (j := 0) dX3_take_47 rfl rfl ?_
            refine J_iload_n (i := 2) (j := 2) dX3_take_48 rfl rfl ?_
            refine J_iload (i := 5) (j := 4) dX3_take_49 rfl ?_
            refine J_callV (As := [.int line, .int w298]) (rest := []) dX3_take_51 (c_Rd_canBeInHill (d := 0) (u := u299) (g := g) (ex := ex) (line := line) (i := w298)  (by decide) hp0 (bd_lt_hi bw298 (i_nle c404) hp1) (ab_c ((fr300 41 (by decide)).trans (fr15 41 (by decide))) hp9)) hq.n k621 k623 k8 wc_29 rfl rfl k91 k624 np_X3_canBeInHill (Nat.le_trans (by decide) hd) (by decide) (Nat.le_refl _) (Nat.le_refl _) wlen rfl (Nat.le_of_ble_eq_true rfl) (fun r_ h_ p494 => ?_)
            obtain ⟨t495, rfl, rfl⟩ := p494
            refine J_ifB_eq (tgt := 70) dX3_take_54 (by decide) (fun c496 => ?_) (fun c496 => ?_)
            · refine J_aload_n (i := 0) (j := 0) dX3_take_70 rfl rfl ?_
              refine J_iconst (v := 2) dX3_take_71 (by decide) ?_
              refine J_aload_n (i := 0) (j := 0) dX3_take_72 rfl rfl ?_
              refine J_get (C := RX3) (T := TX3) (Z := 7) (ci := 3) (f := 4) dX3_take_73 inG3 rfl (by decide) k266 wc_29 rfl ?_
              refine J_iload (i := 5) (j := 4) dX3_take_76 rfl ?_
              refine J_iald dX3_take_78 wc_42 (vin (bd_lt_hi bw298 (i_nle c404) hp1) (by decide)) ?_
              refine J_topi (fun v497 qv497 => ?_)
              refine J_callV (As := [.int 2, .int v497]) (rest := []) dX3_take_79 (c_Rd_remember (d := 0) (u := u299) (g := g) (ex := ex) (newFault := 2) (newPlace := v497)  (by decide) ) hq.n k617 k619 k7 wc_29 rfl rfl k91 k620 np_X3_remember (Nat.le_trans (by decide) hd) (by decide) (Nat.le_refl _) (Nat.le_refl _) wlen rfl (Nat.le_of_ble_eq_true rfl) (fun r_ h_ p498 => ?_)
              obtain ⟨u499, rfl, rfl, fr500, fc501⟩ := p498
              refine J_lv [0, 1, 2, 3, 4] rfl ?_
              exact jn485 u499 (fun c k0_ => (fr500 c k0_)) (fun j k5_ k6_ => (fc501 j k5_ k6_))
            · refine J_goto (tgt := 82) dX3_take_57 (by decide) ?_
              refine J_lv [0, 1, 2, 3, 4] rfl ?_
              exact jn485 u299 (fun c k0_ => rfl) (fun j k5_ k6_ => rfl)
    refine J_lv [1, 2, 3, 4, 0] rfl ?_
    exact lp400 _ (0 : Int32) u14 (bd_w (l := 0) (h := 3) (bd_c (v := 0) (lo := 0) (hi := 0) (by decide)) (by decide)) (fun c k0_ => rfl) (fun j k5_ k6_ => rfl) (Nat.lt_succ_self _)
  refine J_if_ne (tgt := 15) dX3_take_1 (by decide) (fun c1 => ?_) (fun c1 => ?_)
  · refine J_aload_n (i := 0) (j := 0) dX3_take_15 rfl rfl ?_
    refine J_get (C := RX3) (T := TX3) (Z := 7) (ci := 3) (f := 2) dX3_take_16 inG3 rfl (by decide) k263 wc_29 rfl ?_
    refine J_getN (C := RX8) (T := TX8) (Z := 4) (ci := 8) (f := 0) dX3_take_19 inG8 rfl (by decide) k170 wc_37 rfl ?_
    refine J_bipush (v := 12) dX3_take_22 (by decide) ?_
    refine J_icmp_lt (tgt := 33) dX3_take_24 (by decide) (fun c502 => ?_) (fun c502 => ?_)
    · refine J_lv [0, 1, 2, 4] rfl ?_
      exact jn17 u (fun c k0_ => rfl) (fun j k5_ k6_ => rfl)
    · refine J_aload_n (i := 0) (j := 0) dX3_take_27 rfl rfl ?_
      refine J_iconst (v := 3) dX3_take_28 (by decide) ?_
      refine J_iload_n (i := 3) (j := 3) dX3_take_29 rfl rfl ?_
      refine J_callV (As := [.int 3, .int first]) (rest := []) dX3_take_30 (c_Rd_remember (d := 0) (u := u) (g := g) (ex := ex) (newFault := 3) (newPlace := first)  (by decide) ) hq.n k617 k619 k7 wc_29 rfl rfl k91 k620 np_X3_remember (Nat.le_trans (by decide) hd) (by decide) (Nat.le_refl _) (Nat.le_refl _) wlen rfl (Nat.le_of_ble_eq_true rfl) (fun r_ h_ p503 => ?_)
      obtain ⟨u504, rfl, rfl, fr505, fc506⟩ := p503
      refine J_lv [0, 1, 2, 4] rfl ?_
      exact jn17 u504 (fun c k0_ => (fr505 c k0_)) (fun j k5_ k6_ => (fc506 j k5_ k6_))
  · refine J_aload_n (i := 0) (j := 0) dX3_take_4 rfl rfl ?_
    refine J_iload_n (i := 2) (j := 2) dX3_take_5 rfl rfl ?_
    refine J_callV (As := [.int line]) (rest := []) dX3_take_6 (c_Rd_isFull (d := 0) (u := u) (g := g) (ex := ex) (line := line)  (by decide) ) hq.n k613 k615 k6 wc_29 rfl rfl k91 k616 np_X3_isFull (Nat.le_trans (by decide) hd) (by decide) (Nat.le_refl _) (Nat.le_refl _) wlen rfl (Nat.le_of_ble_eq_true rfl) (fun r_ h_ p507 => ?_)
    obtain ⟨t508, rfl, rfl⟩ := p507
    refine J_ifB_eq (tgt := 33) dX3_take_9 (by decide) (fun c509 => ?_) (fun c509 => ?_)
    · refine J_lv [0, 1, 2, 4] rfl ?_
      exact jn17 u (fun c k0_ => rfl) (fun j k5_ k6_ => rfl)
    · refine J_goto (tgt := 27) dX3_take_12 (by decide) ?_
      refine J_aload_n (i := 0) (j := 0) dX3_take_27 rfl rfl ?_
      refine J_iconst (v := 3) dX3_take_28 (by decide) ?_
      refine J_iload_n (i := 3) (j := 3) dX3_take_29 rfl rfl ?_
      refine J_callV (As := [.int 3, .int first]) (rest := []) dX3_take_30 (c_Rd_remember (d := 0) (u := u) (g := g) (ex := ex) (newFault := 3) (newPlace := first)  (by decide) ) hq.n k617 k619 k7 wc_29 rfl rfl k91 k620 np_X3_remember (Nat.le_trans (by decide) hd) (by decide) (Nat.le_refl _) (Nat.le_refl _) wlen rfl (Nat.le_of_ble_eq_true rfl) (fun r_ h_ p510 => ?_)
      obtain ⟨u511, rfl, rfl, fr512, fc513⟩ := p510
      refine J_lv [0, 1, 2, 4] rfl ?_
      exact jn17 u511 (fun c k0_ => (fr512 c k0_)) (fun j k5_ k6_ => (fc513 j k5_ k6_))
set_option maxHeartbeats 4000000 in
set_option maxRecDepth 100000 in
theorem c_Rd_readLine {d : Nat} {u : Nat → Nat → Int32} {g : Nat → Nat → Int64} {ex : List MC} {sort : Int32} (hd : 6 ≤ d) (hp0 : (u 30 0) = 1) (hp1 : Bd 0 600 (u 30 1)) (hp2 : Bd 0 600 (u 30 2)) (hp3 : Bd 0 9 (u 32 0)) (hp4 : Bd 0 4 (u 32 2)) (hp5 : AB u 33 (-1) 999) (hp6 : Bd 0 12 (u 37 0)) (hp7 : (KM u 37)) (hp8 : AB u 41 0 999) : CT con0 d 0 0 yX3_readLine cX3_readLine 6 (some .boolean) [.ref 29, .int sort] (Wd u g ex) (fun r h2 => ∃ (z : Bool) (u2 : Nat → Nat → Int32), r = some (.int (bI z)) ∧ h2 = Wd u2 g ex ∧ Bd 0 600 (u2 30 2) ∧ Bd 0 9 (u2 32 0) ∧ Bd 0 4 (u2 32 2) ∧ AB u2 33 (-1) 999 ∧ Bd 0 12 (u2 37 0) ∧ (KM u2 37) ∧ AB u2 41 0 999 ∧ (∀ c, c ≠ 29 → c ≠ 30 → c ≠ 32 → c ≠ 33 → c ≠ 34 → c ≠ 35 → c ≠ 36 → c ≠ 37 → c ≠ 38 → c ≠ 39 → c ≠ 40 → c ≠ 41 → c ≠ 42 → u2 c = u c) ∧ (∀ j, j ≠ 5 → j ≠ 6 → u2 29 j = u 29 j) ∧ (∀ j, j ≠ 2 → j ≠ 3 → j ≠ 4 → j ≠ 5 → u2 30 j = u 30 j) ∧ (∀ j, j ≠ 0 → j ≠ 2 → u2 32 j = u 32 j) ∧ (∀ j, j ≠ 0 → u2 37 j = u 37 j)) := by
  refine CT_of (by decide) (Nat.le_of_ble_eq_true rfl) (fun x hq => ?_)
  show J x yX3_readLine cX3_readLine 6 (some .boolean) d 0 0 (Wd u g ex).length 0 [(0, .ref 29), (1, .int sort)] [] (Wd u g ex) 0 0
  refine J_aload_n (i := 0) (j := 0) dX3_readLine_0 rfl rfl ?_
  refine J_get (C := RX3) (T := TX3) (Z := 7) (ci := 3) (f := 0) dX3_readLine_1 inG3 rfl (by decide) k260 wc_29 rfl ?_
  refine J_callV (As := []) (rest := []) dX3_readLine_4 (c_Tk_advance (d := 2) (u := u) (g := g) (ex := ex)   (by decide) hp0 hp1 hp2) hq.n k500 k501 k502 wc_30 rfl rfl k92 k503 np_X6_advance (Nat.le_trans (by decide) hd) (by decide) (Nat.le_refl _) (Nat.le_refl _) wlen rfl (Nat.le_of_ble_eq_true rfl) (fun r_ h_ p1 => ?_)
  obtain ⟨u2, rfl, rfl, h3, h4, h5, fr6, fc7⟩ := p1
  refine J_aload_n (i := 0) (j := 0) dX3_readLine_7 rfl rfl ?_
  refine J_get (C := RX3) (T := TX3) (Z := 7) (ci := 3) (f := 0) dX3_readLine_8 inG3 rfl (by decide) k260 wc_29 rfl ?_
  refine J_getN (C := RX6) (T := TX6) (Z := 6) (ci := 6) (f := 3) dX3_readLine_11 inG6 rfl (by decide) k237 wc_30 rfl ?_
  refine J_if_ne (tgt := 19) dX3_readLine_14 (by decide) (fun c8 => ?_) (fun c8 => ?_)
  · refine J_aload_n (i := 0) (j := 0) dX3_readLine_19 rfl rfl ?_
    refine J_iload_n (i := 1) (j := 1) dX3_readLine_20 rfl rfl ?_
    refine J_callV (As := [.int sort]) (rest := []) dX3_readLine_21 (c_Rd_lineOf (d := 5) (u := u2) (g := g) (ex := ex) (sort := sort)  (by decide) ((fc7 0 (by decide) (by decide) (by decide) (by decide)).trans hp0) (bd_r (fc7 1 (by decide) (by decide) (by decide) (by decide)) hp1) h3 h4) hq.n k521 k523 k3 wc_29 rfl rfl k91 k524 np_X3_lineOf (Nat.le_trans (by decide) hd) (by decide) (Nat.le_refl _) (Nat.le_refl _) wlen rfl (Nat.le_of_ble_eq_true rfl) (fun r_ h_ p9 => ?_)
    obtain ⟨v10, rfl, rfl, h11, h12⟩ := p9
    refine J_istore_n (i := 2) (lw := [(2, .int v10), (0, .ref 29), (1, .int sort)]) dX3_readLine_24 rfl (by decide) rfl ?_
    refine J_aload_n (i := 0) (j := 1) dX3_readLine_25 rfl rfl ?_
    refine J_get (C := RX3) (T := TX3) (Z := 7) (ci := 3) (f := 0) dX3_readLine_26 inG3 rfl (by decide) k260 wc_29 rfl ?_
    refine J_getN (C := RX6) (T := TX6) (Z := 6) (ci := 6) (f := 4) dX3_readLine_29 inG6 rfl (by decide) k239 wc_30 rfl ?_
    refine J_istore_n (i := 3) (lw := [(3, .int (u2 30 4)), (2, .int v10), (0, .ref 29), (1, .int sort)]) dX3_readLine_32 rfl (by decide) rfl ?_
    refine J_iload_n (i := 2) (j := 1) dX3_readLine_33 rfl rfl ?_
    refine J_iconst (v := (-1)) dX3_readLine_34 (by decide) ?_
    refine J_icmp_ne (tgt := 43) dX3_readLine_35 (by decide) (fun c13 => ?_) (fun c13 => ?_)
    · refine J_iload_n (i := 1) (j := 3) dX3_readLine_43 rfl rfl ?_
      refine J_if_ne (tgt := 55) dX3_readLine_44 (by decide) (fun c14 => ?_) (fun c14 => ?_)
      · refine J_gets (i := 3) dX3_readLine_55 (by decide) rfl k607 ?_
        refine J_iload_n (i := 2) (j := 1) dX3_readLine_58 rfl rfl ?_
        refine J_sald (i := 3) dX3_readLine_59 (by decide) (vin (bd_in (l := 0) (h := 4) (bd_ne_lo h11 c13 (by decide)) (h12.resolve_left c14) (by decide)) (by decide)) ?_
        refine J_topi (fun v15 qv15 => ?_)
        refine J_istore (i := 4) (lw := [(4, .int v15), (3, .int (u2 30 4)), (2, .int v10), (0, .ref 29), (1, .int sort)]) dX3_readLine_60 (by decide) rfl ?_
        refine J_iconst (v := 0) dX3_readLine_62 (by decide) ?_
        refine J_istore (i := 5) (lw := [(5, .int 0), (4, .int v15), (3, .int (u2 30 4)), (2, .int v10), (0, .ref 29), (1, .int sort)]) dX3_readLine_63 (by decide) rfl ?_
        have lp205 : ∀ (n206 : Nat) (w156 : Int32) (u157 : Nat → Nat → Int32), Bd 0 2 w156 → (∀ c, c ≠ 30 → c ≠ 41 → c ≠ 42 → u157 c = u2 c) → (∀ j, j ≠ 2 → j ≠ 3 → j ≠ 4 → j ≠ 5 → u157 30 j = u2 30 j) → Bd 0 600 (u157 30 2) → Bd 0 600 (u157 30 4) → AB u157 41 0 999 → (2 - w156.toInt).toNat < n206 → J x yX3_readLine cX3_readLine 6 (some .boolean) d 0 0 (Wd u g ex).length 65 [(0, .ref 29), (1, .int sort), (2, .int v10), (3, .int (u2 30 4)), (4, .int v15), (5, .int w156)] [] (Wd u157 g ex) 0 0 := by
          intro n206
          induction n206 with
          | zero => intro w156 u157 bw156 fr158 fc159 bm160 bm161 ab162 hm208; exact absurd hm208 (Nat.not_lt_zero _)
          | succ n206 ih207 =>
            intro w156 u157 bw156 fr158 fc159 bm160 bm161 ab162 hm208
            refine J_iload (i := 5) (j := 5) dX3_readLine_65 rfl ?_
            refine J_iload (i := 4) (j := 4) dX3_readLine_67 rfl ?_
            refine J_icmp_ge (tgt := 129) dX3_readLine_69 (by decide) (fun c209 => ?_) (fun c209 => ?_)
            · refine J_aload_n (i := 0) (j := 0) dX3_readLine_129 rfl rfl ?_
              refine J_get (C := RX3) (T := TX3) (Z := 7) (ci := 3) (f := 0) dX3_readLine_130 inG3 rfl (by decide) k260 wc_29 rfl ?_
              refine J_callV (As := []) (rest := []) dX3_readLine_133 (c_Tk_advance (d := 2) (u := u157) (g := g) (ex := ex)   (by decide) (((fc159 0 (by decide) (by decide) (by decide) (by decide)).trans (fc7 0 (by decide) (by decide) (by decide) (by decide))).trans hp0) (bd_r ((fc159 1 (by decide) (by decide) (by decide) (by decide)).trans (fc7 1 (by decide) (by decide) (by decide) (by decide))) hp1) bm160) hq.n k500 k501 k502 wc_30 rfl rfl k92 k503 np_X6_advance (Nat.le_trans (by decide) hd) (by decide) (Nat.le_refl _) (Nat.le_refl _) wlen rfl (Nat.le_of_ble_eq_true rfl) (fun r_ h_ p210 => ?_)
              obtain ⟨u211, rfl, rfl, h212, h213, h214, fr215, fc216⟩ := p210
              refine J_aload_n (i := 0) (j := 0) dX3_readLine_136 rfl rfl ?_
              refine J_get (C := RX3) (T := TX3) (Z := 7) (ci := 3) (f := 0) dX3_readLine_137 inG3 rfl (by decide) k260 wc_29 rfl ?_
              refine J_getN (C := RX6) (T := TX6) (Z := 6) (ci := 6) (f := 3) dX3_readLine_140 inG6 rfl (by decide) k237 wc_30 rfl ?_
              refine J_iconst (v := 3) dX3_readLine_143 (by decide) ?_
              refine J_icmp_eq (tgt := 152) dX3_readLine_144 (by decide) (fun c217 => ?_) (fun c217 => ?_)
              · refine J_aload_n (i := 0) (j := 0) dX3_readLine_152 rfl rfl ?_
                refine J_iload_n (i := 1) (j := 1) dX3_readLine_153 rfl rfl ?_
                refine J_iload_n (i := 2) (j := 2) dX3_readLine_154 rfl rfl ?_
                refine J_iload_n (i := 3) (j := 3) dX3_readLine_155 rfl rfl ?_
                refine J_iload (i := 4) (j := 4) dX3_readLine_156 rfl ?_
                refine J_callV (As := [.int sort, .int v10, .int (u2 30 4), .int v15]) (rest := []) dX3_readLine_158 (c_Rd_take (d := 4) (u := u211) (g := g) (ex := ex) (sort := sort) (line := v10) (first := u2 30 4) (count := v15)  (by decide) (bd_w (l := 0) (h := 14) (bd_in (l := 0) (h := 4) (bd_ne_lo h11 c13 (by decide)) (h12.resolve_left c14) (by decide)) (by decide)) (bd_w (l := 0) (h := 3) (bd_r qv15 (sar_b (l := sAr 3) (lo := 0) (hi := 2) (by decide) _)) (by decide)) h12 (Or.inr (plan_count (bd_in (l := 0) (h := 4) (bd_ne_lo h11 c13 (by decide)) (h12.resolve_left c14) (by decide)) qv15)) (bd_r ((congrFun (fr215 32 (by decide)) 0).trans ((congrFun (fr158 32 (by decide) (by decide) (by decide)) 0).trans (congrFun (fr6 32 (by decide)) 0))) hp3) (bd_r ((congrFun (fr215 32 (by decide)) 2).trans ((congrFun (fr158 32 (by decide) (by decide) (by decide)) 2).trans (congrFun (fr6 32 (by decide)) 2))) hp4) (ab_c ((fr215 33 (by decide)).trans ((fr158 33 (by decide) (by decide) (by decide)).trans (fr6 33 (by decide)))) hp5) (bd_r ((congrFun (fr215 37 (by decide)) 0).trans ((congrFun (fr158 37 (by decide) (by decide) (by decide)) 0).trans (congrFun (fr6 37 (by decide)) 0))) hp6) (km_c ((fr215 38 (by decide)).trans ((fr158 38 (by decide) (by decide) (by decide)).trans (fr6 38 (by decide)))) ((fr215 40 (by decide)).trans ((fr158 40 (by decide) (by decide) (by decide)).trans (fr6 40 (by decide)))) hp7) (ab_c (fr215 41 (by decide)) ab162)) hq.n k609 k611 k5 wc_29 rfl rfl k91 k612 np_X3_take (Nat.le_trans (by decide) hd) (by decide) (Nat.le_refl _) (Nat.le_refl _) wlen rfl (Nat.le_of_ble_eq_true rfl) (fun r_ h_ p218 => ?_)
                obtain ⟨u219, rfl, rfl, h220, h221, h222, h223, h224, fr225, fc226, fc227, fc228⟩ := p218
                refine J_iconst (v := 1) dX3_readLine_161 (by decide) ?_
                exact J_zret hq dX3_readLine_162 rfl rfl wlen (Nat.le_refl _) (Nat.le_refl _) ⟨true, u219, rfl, rfl, (bd_r (congrFun (fr225 30 (by decide) (by decide) (by decide) (by decide) (by decide) (by decide) (by decide) (by decide) (by decide) (by decide)) 2) h212), h220, h221, h222, h223, h224, (ab_c ((fr225 41 (by decide) (by decide) (by decide) (by decide) (by decide) (by decide) (by decide) (by decide) (by decide) (by decide)).trans (fr215 41 (by decide))) ab162), (fun c k0_ k1_ k2_ k3_ k4_ k5_ k6_ k7_ k8_ k9_ k10_ k11_ k12_ => ((fr225 c k0_ k2_ k3_ k4_ k5_ k6_ k7_ k8_ k9_ k10_).trans ((fr215 c k1_).trans ((fr158 c k1_ k11_ k12_).trans (fr6 c k1_))))), (fun j k5_ k6_ => ((fc226 j k5_ k6_).trans ((congrFun (fr215 29 (by decide)) j).trans ((congrFun (fr158 29 (by decide) (by decide) (by decide)) j).trans (congrFun (fr6 29 (by decide)) j))))), (fun j k2_ k3_ k4_ k5_ => ((congrFun (fr225 30 (by decide) (by decide) (by decide) (by decide) (by decide) (by decide) (by decide) (by decide) (by decide) (by decide)) j).trans ((fc216 j k2_ k3_ k4_ k5_).trans ((fc159 j k2_ k3_ k4_ k5_).trans (fc7 j k2_ k3_ k4_ k5_))))), (fun j k0_ k2_ => ((fc227 j k0_ k2_).trans ((congrFun (fr215 32 (by decide)) j).trans ((congrFun (fr158 32 (by decide) (by decide) (by decide)) j).trans (congrFun (fr6 32 (by decide)) j))))), (fun j k0_ => ((fc228 j k0_).trans ((congrFun (fr215 37 (by decide)) j).trans ((congrFun (fr158 37 (by decide) (by decide) (by decide)) j).trans (congrFun (fr6 37 (by decide)) j)))))⟩
              · refine J_aload_n (i := 0) (j := 0) dX3_readLine_147 rfl rfl ?_
                refine J_callV (As := []) (rest := []) dX3_readLine_148 (c_Rd_breaksOff (d := 0) (u := u211) (g := g) (ex := ex)   (by decide) ) hq.n k601 k603 k4 wc_29 rfl rfl k91 k604 np_X3_breaksOff (Nat.le_trans (by decide) hd) (by decide) (Nat.le_refl _) (Nat.le_refl _) wlen rfl (Nat.le_of_ble_eq_true rfl) (fun r_ h_ p229 => ?_)
                obtain ⟨t230, u231, rfl, rfl, fr232, fc233⟩ := p229
                exact J_zret hq dX3_readLine_151 rfl (bI_n _) wlen (Nat.le_refl _) (Nat.le_refl _) ⟨t230, u231, rfl, rfl, (bd_r (congrFun (fr232 30 (by decide)) 2) h212), (bd_r ((congrFun (fr232 32 (by decide)) 0).trans ((congrFun (fr215 32 (by decide)) 0).trans ((congrFun (fr158 32 (by decide) (by decide) (by decide)) 0).trans (congrFun (fr6 32 (by decide)) 0)))) hp3), (bd_r ((congrFun (fr232 32 (by decide)) 2).trans ((congrFun (fr215 32 (by decide)) 2).trans ((congrFun (fr158 32 (by decide) (by decide) (by decide)) 2).trans (congrFun (fr6 32 (by decide)) 2)))) hp4), (ab_c ((fr232 33 (by decide)).trans ((fr215 33 (by decide)).trans ((fr158 33 (by decide) (by decide) (by decide)).trans (fr6 33 (by decide))))) hp5), (bd_r ((congrFun (fr232 37 (by decide)) 0).trans ((congrFun (fr215 37 (by decide)) 0).trans ((congrFun (fr158 37 (by decide) (by decide) (by decide)) 0).trans (congrFun (fr6 37 (by decide)) 0)))) hp6), (km_c ((fr232 38 (by decide)).trans ((fr215 38 (by decide)).trans ((fr158 38 (by decide) (by decide) (by decide)).trans (fr6 38 (by decide))))) ((fr232 40 (by decide)).trans ((fr215 40 (by decide)).trans ((fr158 40 (by decide) (by decide) (by decide)).trans (fr6 40 (by decide))))) hp7), (ab_c ((fr232 41 (by decide)).trans (fr215 41 (by decide))) ab162), (fun c k0_ k1_ k2_ k3_ k4_ k5_ k6_ k7_ k8_ k9_ k10_ k11_ k12_ => ((fr232 c k0_).trans ((fr215 c k1_).trans ((fr158 c k1_ k11_ k12_).trans (fr6 c k1_))))), (fun j k5_ k6_ => ((fc233 j k5_ k6_).trans ((congrFun (fr215 29 (by decide)) j).trans ((congrFun (fr158 29 (by decide) (by decide) (by decide)) j).trans (congrFun (fr6 29 (by decide)) j))))), (fun j k2_ k3_ k4_ k5_ => ((congrFun (fr232 30 (by decide)) j).trans ((fc216 j k2_ k3_ k4_ k5_).trans ((fc159 j k2_ k3_ k4_ k5_).trans (fc7 j k2_ k3_ k4_ k5_))))), (fun j k0_ k2_ => ((congrFun (fr232 32 (by decide)) j).trans ((congrFun (fr215 32 (by decide)) j).trans ((congrFun (fr158 32 (by decide) (by decide) (by decide)) j).trans (congrFun (fr6 32 (by decide)) j))))), (fun j k0_ => ((congrFun (fr232 37 (by decide)) j).trans ((congrFun (fr215 37 (by decide)) j).trans ((congrFun (fr158 37 (by decide) (by decide) (by decide)) j).trans (congrFun (fr6 37 (by decide)) j)))))⟩
            · refine J_aload_n (i := 0) (j := 0) dX3_readLine_72 rfl rfl ?_
              refine J_get (C := RX3) (T := TX3) (Z := 7) (ci := 3) (f := 0) dX3_readLine_73 inG3 rfl (by decide) k260 wc_29 rfl ?_
              refine J_callV (As := []) (rest := []) dX3_readLine_76 (c_Tk_advance (d := 2) (u := u157) (g := g) (ex := ex)   (by decide) (((fc159 0 (by decide) (by decide) (by decide) (by decide)).trans (fc7 0 (by decide) (by decide) (by decide) (by decide))).trans hp0) (bd_r ((fc159 1 (by decide) (by decide) (by decide) (by decide)).trans (fc7 1 (by decide) (by decide) (by decide) (by decide))) hp1) bm160) hq.n k500 k501 k502 wc_30 rfl rfl k92 k503 np_X6_advance (Nat.le_trans (by decide) hd) (by decide) (Nat.le_refl _) (Nat.le_refl _) wlen rfl (Nat.le_of_ble_eq_true rfl) (fun r_ h_ p234 => ?_)
              obtain ⟨u235, rfl, rfl, h236, h237, h238, fr239, fc240⟩ := p234
              refine J_aload_n (i := 0) (j := 0) dX3_readLine_79 rfl rfl ?_
              refine J_get (C := RX3) (T := TX3) (Z := 7) (ci := 3) (f := 0) dX3_readLine_80 inG3 rfl (by decide) k260 wc_29 rfl ?_
              refine J_getN (C := RX6) (T := TX6) (Z := 6) (ci := 6) (f := 3) dX3_readLine_83 inG6 rfl (by decide) k237 wc_30 rfl ?_
              refine J_iconst (v := 2) dX3_readLine_86 (by decide) ?_
              refine J_icmp_eq (tgt := 95) dX3_readLine_87 (by decide) (fun c241 => ?_) (fun c241 => ?_)
              · refine J_aload_n (i := 0) (j := 0) dX3_readLine_95 rfl rfl ?_
                refine J_get (C := RX3) (T := TX3) (Z := 7) (ci := 3) (f := 3) dX3_readLine_96 inG3 rfl (by decide) k265 wc_29 rfl ?_
                refine J_iload (i := 5) (j := 5) dX3_readLine_99 rfl ?_
                refine J_aload_n (i := 0) (j := 0) dX3_readLine_101 rfl rfl ?_
                refine J_get (C := RX3) (T := TX3) (Z := 7) (ci := 3) (f := 0) dX3_readLine_102 inG3 rfl (by decide) k260 wc_29 rfl ?_
                refine J_getN (C := RX6) (T := TX6) (Z := 6) (ci := 6) (f := 5) dX3_readLine_105 inG6 rfl (by decide) k241 wc_30 rfl ?_
                obtain ⟨u242, e243⟩ : ∃ z, z = ms u235 41 w156.toNatClampNeg (u235 30 5) := ⟨_, rfl⟩
                refine J_iast dX3_readLine_108 wc_41 (vin (bd_lt_hi bw156 (i_nle c209) (bd_r qv15 (sar_b (l := sAr 3) (lo := 0) (hi := 2) (by decide) _))) (by decide)) (ws e243 wk_41 rfl) ?_
                refine J_aload_n (i := 0) (j := 0) dX3_readLine_109 rfl rfl ?_
                refine J_get (C := RX3) (T := TX3) (Z := 7) (ci := 3) (f := 4) dX3_readLine_110 inG3 rfl (by decide) k266 wc_29 rfl ?_
                refine J_iload (i := 5) (j := 5) dX3_readLine_113 rfl ?_
                refine J_aload_n (i := 0) (j := 0) dX3_readLine_115 rfl rfl ?_
                refine J_get (C := RX3) (T := TX3) (Z := 7) (ci := 3) (f := 0) dX3_readLine_116 inG3 rfl (by decide) k260 wc_29 rfl ?_
                refine J_getN (C := RX6) (T := TX6) (Z := 6) (ci := 6) (f := 4) dX3_readLine_119 inG6 rfl (by decide) k239 wc_30 rfl ?_
                refine J_ci (v := u235 30 4) (congrFun (ms_c e243 (by decide)) 4) ?_
                obtain ⟨u244, e245⟩ : ∃ z, z = ms u242 42 w156.toNatClampNeg (u235 30 4) := ⟨_, rfl⟩
                refine J_iast dX3_readLine_122 wc_42 (vin (bd_lt_hi bw156 (i_nle c209) (bd_r qv15 (sar_b (l := sAr 3) (lo := 0) (hi := 2) (by decide) _))) (by decide)) (ws e245 wk_42 rfl) ?_
                refine J_iinc (i := 5) (j := 5) (v := (w156 + 1)) (lw := [(5, .int (w156 + 1)), (0, .ref 29), (1, .int sort), (2, .int v10), (3, .int (u2 30 4)), (4, .int v15)]) dX3_readLine_123 rfl rfl (by decide) rfl ?_
                refine J_goto (tgt := 65) dX3_readLine_126 (by decide) ?_
                refine J_lv [1, 2, 3, 4, 5, 0] rfl ?_
                exact ih207 (w156 + 1) u244 (bd_w (l := 0) (h := 2) (bd_add (l := 1) (h := 2) (bd_lt_hi bw156 (i_nle c209) (bd_r qv15 (sar_b (l := sAr 3) (lo := 0) (hi := 2) (by decide) _))) (bd_c (v := 1) (lo := 1) (hi := 1) (by decide)) (by decide)) (by decide)) (fun c k0_ k1_ k2_ => ((ms_c e245 k2_).trans ((ms_c e243 k1_).trans ((fr239 c k0_).trans (fr158 c k0_ k1_ k2_))))) (fun j k2_ k3_ k4_ k5_ => ((congrFun (ms_c e245 (by decide)) j).trans ((congrFun (ms_c e243 (by decide)) j).trans ((fc240 j k2_ k3_ k4_ k5_).trans (fc159 j k2_ k3_ k4_ k5_))))) (bd_r ((congrFun (ms_c e245 (by decide)) 2).trans (congrFun (ms_c e243 (by decide)) 2)) h236) (bd_r ((congrFun (ms_c e245 (by decide)) 4).trans (congrFun (ms_c e243 (by decide)) 4)) h237) (ab_c (ms_c e245 (by decide)) (ab_s e243 (ab_c (fr239 41 (by decide)) ab162) (h238 c241))) (mu_up 1 bw156 rfl (by decide) (bd_w (l := 1) (h := 2) (bd_add (l := 1) (h := 2) (bd_lt_hi bw156 (i_nle c209) (bd_r qv15 (sar_b (l := sAr 3) (lo := 0) (hi := 2) (by decide) _))) (bd_c (v := 1) (lo := 1) (hi := 1) (by decide)) (by decide)) (by decide)) hm208)
              · refine J_aload_n (i := 0) (j := 0) dX3_readLine_90 rfl rfl ?_
                refine J_callV (As := []) (rest := []) dX3_readLine_91 (c_Rd_breaksOff (d := 0) (u := u235) (g := g) (ex := ex)   (by decide) ) hq.n k601 k603 k4 wc_29 rfl rfl k91 k604 np_X3_breaksOff (Nat.le_trans (by decide) hd) (by decide) (Nat.le_refl _) (Nat.le_refl _) wlen rfl (Nat.le_of_ble_eq_true rfl) (fun r_ h_ p246 => ?_)
                obtain ⟨t247, u248, rfl, rfl, fr249, fc250⟩ := p246
                exact J_zret hq dX3_readLine_94 rfl (bI_n _) wlen (Nat.le_refl _) (Nat.le_refl _) ⟨t247, u248, rfl, rfl, (bd_r (congrFun (fr249 30 (by decide)) 2) h236), (bd_r ((congrFun (fr249 32 (by decide)) 0).trans ((congrFun (fr239 32 (by decide)) 0).trans ((congrFun (fr158 32 (by decide) (by decide) (by decide)) 0).trans (congrFun (fr6 32 (by decide)) 0)))) hp3), (bd_r ((congrFun (fr249 32 (by decide)) 2).trans ((congrFun (fr239 32 (by decide)) 2).trans ((congrFun (fr158 32 (by decide) (by decide) (by decide)) 2).trans (congrFun (fr6 32 (by decide)) 2)))) hp4), (ab_c ((fr249 33 (by decide)).trans ((fr239 33 (by decide)).trans ((fr158 33 (by decide) (by decide) (by decide)).trans (fr6 33 (by decide))))) hp5), (bd_r ((congrFun (fr249 37 (by decide)) 0).trans ((congrFun (fr239 37 (by decide)) 0).trans ((congrFun (fr158 37 (by decide) (by decide) (by decide)) 0).trans (congrFun (fr6 37 (by decide)) 0)))) hp6), (km_c ((fr249 38 (by decide)).trans ((fr239 38 (by decide)).trans ((fr158 38 (by decide) (by decide) (by decide)).trans (fr6 38 (by decide))))) ((fr249 40 (by decide)).trans ((fr239 40 (by decide)).trans ((fr158 40 (by decide) (by decide) (by decide)).trans (fr6 40 (by decide))))) hp7), (ab_c ((fr249 41 (by decide)).trans (fr239 41 (by decide))) ab162), (fun c k0_ k1_ k2_ k3_ k4_ k5_ k6_ k7_ k8_ k9_ k10_ k11_ k12_ => ((fr249 c k0_).trans ((fr239 c k1_).trans ((fr158 c k1_ k11_ k12_).trans (fr6 c k1_))))), (fun j k5_ k6_ => ((fc250 j k5_ k6_).trans ((congrFun (fr239 29 (by decide)) j).trans ((congrFun (fr158 29 (by decide) (by decide) (by decide)) j).trans (congrFun (fr6 29 (by decide)) j))))), (fun j k2_ k3_ k4_ k5_ => ((congrFun (fr249 30 (by decide)) j).trans ((fc240 j k2_ k3_ k4_ k5_).trans ((fc159 j k2_ k3_ k4_ k5_).trans (fc7 j k2_ k3_ k4_ k5_))))), (fun j k0_ k2_ => ((congrFun (fr249 32 (by decide)) j).trans ((congrFun (fr239 32 (by decide)) j).trans ((congrFun (fr158 32 (by decide) (by decide) (by decide)) j).trans (congrFun (fr6 32 (by decide)) j))))), (fun j k0_ => ((congrFun (fr249 37 (by decide)) j).trans ((congrFun (fr239 37 (by decide)) j).trans ((congrFun (fr158 37 (by decide) (by decide) (by decide)) j).trans (congrFun (fr6 37 (by decide)) j)))))⟩
        refine J_lv [4, 5, 3, 2, 1, 0] rfl ?_
        exact lp205 _ (0 : Int32) u2 (bd_w (l := 0) (h := 2) (bd_c (v := 0) (lo := 0) (hi := 0) (by decide)) (by decide)) (fun c k0_ k1_ k2_ => rfl) (fun j k2_ k3_ k4_ k5_ => rfl) h3 h4 (ab_c (fr6 41 (by decide)) hp8) (Nat.lt_succ_self _)
      · refine J_gets (i := 0) dX3_readLine_47 (by decide) rfl k605 ?_
        refine J_iload_n (i := 2) (j := 1) dX3_readLine_50 rfl rfl ?_
        refine J_sald (i := 0) dX3_readLine_51 (by decide) (vin (bd_ne_lo h11 c13 (by decide)) (by decide)) ?_
        refine J_topi (fun v251 qv251 => ?_)
        refine J_goto (tgt := 60) dX3_readLine_52 (by decide) ?_
        refine J_istore (i := 4) (lw := [(4, .int v251), (3, .int (u2 30 4)), (2, .int v10), (0, .ref 29), (1, .int sort)]) dX3_readLine_60 (by decide) rfl ?_
        refine J_iconst (v := 0) dX3_readLine_62 (by decide) ?_
        refine J_istore (i := 5) (lw := [(5, .int 0), (4, .int v251), (3, .int (u2 30 4)), (2, .int v10), (0, .ref 29), (1, .int sort)]) dX3_readLine_63 (by decide) rfl ?_
        have lp441 : ∀ (n442 : Nat) (w392 : Int32) (u393 : Nat → Nat → Int32), Bd 0 3 w392 → (∀ c, c ≠ 30 → c ≠ 41 → c ≠ 42 → u393 c = u2 c) → (∀ j, j ≠ 2 → j ≠ 3 → j ≠ 4 → j ≠ 5 → u393 30 j = u2 30 j) → Bd 0 600 (u393 30 2) → Bd 0 600 (u393 30 4) → AB u393 41 0 999 → (3 - w392.toInt).toNat < n442 → J x yX3_readLine cX3_readLine 6 (some .boolean) d 0 0 (Wd u g ex).length 65 [(0, .ref 29), (1, .int sort), (2, .int v10), (3, .int (u2 30 4)), (4, .int v251), (5, .int w392)] [] (Wd u393 g ex) 0 0 := by
          intro n442
          induction n442 with
          | zero => intro w392 u393 bw392 fr394 fc395 bm396 bm397 ab398 hm444; exact absurd hm444 (Nat.not_lt_zero _)
          | succ n442 ih443 =>
            intro w392 u393 bw392 fr394 fc395 bm396 bm397 ab398 hm444
            refine J_iload (i := 5) (j := 5) dX3_readLine_65 rfl ?_
            refine J_iload (i := 4) (j := 4) dX3_readLine_67 rfl ?_
            refine J_icmp_ge (tgt := 129) dX3_readLine_69 (by decide) (fun c445 => ?_) (fun c445 => ?_)
            · refine J_aload_n (i := 0) (j := 0) dX3_readLine_129 rfl rfl ?_
              refine J_get (C := RX3) (T := TX3) (Z := 7) (ci := 3) (f := 0) dX3_readLine_130 inG3 rfl (by decide) k260 wc_29 rfl ?_
              refine J_callV (As := []) (rest := []) dX3_readLine_133 (c_Tk_advance (d := 2) (u := u393) (g := g) (ex := ex)   (by decide) (((fc395 0 (by decide) (by decide) (by decide) (by decide)).trans (fc7 0 (by decide) (by decide) (by decide) (by decide))).trans hp0) (bd_r ((fc395 1 (by decide) (by decide) (by decide) (by decide)).trans (fc7 1 (by decide) (by decide) (by decide) (by decide))) hp1) bm396) hq.n k500 k501 k502 wc_30 rfl rfl k92 k503 np_X6_advance (Nat.le_trans (by decide) hd) (by decide) (Nat.le_refl _) (Nat.le_refl _) wlen rfl (Nat.le_of_ble_eq_true rfl) (fun r_ h_ p446 => ?_)
              obtain ⟨u447, rfl, rfl, h448, h449, h450, fr451, fc452⟩ := p446
              refine J_aload_n (i := 0) (j := 0) dX3_readLine_136 rfl rfl ?_
              refine J_get (C := RX3) (T := TX3) (Z := 7) (ci := 3) (f := 0) dX3_readLine_137 inG3 rfl (by decide) k260 wc_29 rfl ?_
              refine J_getN (C := RX6) (T := TX6) (Z := 6) (ci := 6) (f := 3) dX3_readLine_140 inG6 rfl (by decide) k237 wc_30 rfl ?_
              refine J_iconst (v := 3) dX3_readLine_143 (by decide) ?_
              refine J_icmp_eq (tgt := 152) dX3_readLine_144 (by decide) (fun c453 => ?_) (fun c453 => ?_)
              · refine J_aload_n (i := 0) (j := 0) dX3_readLine_152 rfl rfl ?_
                refine J_iload_n (i := 1) (j := 1) dX3_readLine_153 rfl rfl ?_
                refine J_iload_n (i := 2) (j := 2) dX3_readLine_154 rfl rfl ?_
                refine J_iload_n (i := 3) (j := 3) dX3_readLine_155 rfl rfl ?_
                refine J_iload (i := 4) (j := 4) dX3_readLine_156 rfl ?_
                refine J_callV (As := [.int sort, .int v10, .int (u2 30 4), .int v251]) (rest := []) dX3_readLine_158 (c_Rd_take (d := 4) (u := u447) (g := g) (ex := ex) (sort := sort) (line := v10) (first := u2 30 4) (count := v251)  (by decide) (bd_ne_lo h11 c13 (by decide)) (bd_r qv251 (sar_b (l := sAr 0) (lo := 0) (hi := 3) (by decide) _)) (Or.inl c14) (Or.inl c14) (bd_r ((congrFun (fr451 32 (by decide)) 0).trans ((congrFun (fr394 32 (by decide) (by decide) (by decide)) 0).trans (congrFun (fr6 32 (by decide)) 0))) hp3) (bd_r ((congrFun (fr451 32 (by decide)) 2).trans ((congrFun (fr394 32 (by decide) (by decide) (by decide)) 2).trans (congrFun (fr6 32 (by decide)) 2))) hp4) (ab_c ((fr451 33 (by decide)).trans ((fr394 33 (by decide) (by decide) (by decide)).trans (fr6 33 (by decide)))) hp5) (bd_r ((congrFun (fr451 37 (by decide)) 0).trans ((congrFun (fr394 37 (by decide) (by decide) (by decide)) 0).trans (congrFun (fr6 37 (by decide)) 0))) hp6) (km_c ((fr451 38 (by decide)).trans ((fr394 38 (by decide) (by decide) (by decide)).trans (fr6 38 (by decide)))) ((fr451 40 (by decide)).trans ((fr394 40 (by decide) (by decide) (by decide)).trans (fr6 40 (by decide)))) hp7) (ab_c (fr451 41 (by decide)) ab398)) hq.n k609 k611 k5 wc_29 rfl rfl k91 k612 np_X3_take (Nat.le_trans (by decide) hd) (by decide) (Nat.le_refl _) (Nat.le_refl _) wlen rfl (Nat.le_of_ble_eq_true rfl) (fun r_ h_ p454 => ?_)
                obtain ⟨u455, rfl, rfl, h456, h457, h458, h459, h460, fr461, fc462, fc463, fc464⟩ := p454
                refine J_iconst (v := 1) dX3_readLine_161 (by decide) ?_
                exact J_zret hq dX3_readLine_162 rfl rfl wlen (Nat.le_refl _) (Nat.le_refl _) ⟨true, u455, rfl, rfl, (bd_r (congrFun (fr461 30 (by decide) (by decide) (by decide) (by decide) (by decide) (by decide) (by decide) (by decide) (by decide) (by decide)) 2) h448), h456, h457, h458, h459, h460, (ab_c ((fr461 41 (by decide) (by decide) (by decide) (by decide) (by decide) (by decide) (by decide) (by decide) (by decide) (by decide)).trans (fr451 41 (by decide))) ab398), (fun c k0_ k1_ k2_ k3_ k4_ k5_ k6_ k7_ k8_ k9_ k10_ k11_ k12_ => ((fr461 c k0_ k2_ k3_ k4_ k5_ k6_ k7_ k8_ k9_ k10_).trans ((fr451 c k1_).trans ((fr394 c k1_ k11_ k12_).trans (fr6 c k1_))))), (fun j k5_ k6_ => ((fc462 j k5_ k6_).trans ((congrFun (fr451 29 (by decide)) j).trans ((congrFun (fr394 29 (by decide) (by decide) (by decide)) j).trans (congrFun (fr6 29 (by decide)) j))))), (fun j k2_ k3_ k4_ k5_ => ((congrFun (fr461 30 (by decide) (by decide) (by decide) (by decide) (by decide) (by decide) (by decide) (by decide) (by decide) (by decide)) j).trans ((fc452 j k2_ k3_ k4_ k5_).trans ((fc395 j k2_ k3_ k4_ k5_).trans (fc7 j k2_ k3_ k4_ k5_))))), (fun j k0_ k2_ => ((fc463 j k0_ k2_).trans ((congrFun (fr451 32 (by decide)) j).trans ((congrFun (fr394 32 (by decide) (by decide) (by decide)) j).trans (congrFun (fr6 32 (by decide)) j))))), (fun j k0_ => ((fc464 j k0_).trans ((congrFun (fr451 37 (by decide)) j).trans ((congrFun (fr394 37 (by decide) (by decide) (by decide)) j).trans (congrFun (fr6 37 (by decide)) j)))))⟩
              · refine J_aload_n (i := 0) (j := 0) dX3_readLine_147 rfl rfl ?_
                refine J_callV (As := []) (rest := []) dX3_readLine_148 (c_Rd_breaksOff (d := 0) (u := u447) (g := g) (ex := ex)   (by decide) ) hq.n k601 k603 k4 wc_29 rfl rfl k91 k604 np_X3_breaksOff (Nat.le_trans (by decide) hd) (by decide) (Nat.le_refl _) (Nat.le_refl _) wlen rfl (Nat.le_of_ble_eq_true rfl) (fun r_ h_ p465 => ?_)
                obtain ⟨t466, u467, rfl, rfl, fr468, fc469⟩ := p465
                exact J_zret hq dX3_readLine_151 rfl (bI_n _) wlen (Nat.le_refl _) (Nat.le_refl _) ⟨t466, u467, rfl, rfl, (bd_r (congrFun (fr468 30 (by decide)) 2) h448), (bd_r ((congrFun (fr468 32 (by decide)) 0).trans ((congrFun (fr451 32 (by decide)) 0).trans ((congrFun (fr394 32 (by decide) (by decide) (by decide)) 0).trans (congrFun (fr6 32 (by decide)) 0)))) hp3), (bd_r ((congrFun (fr468 32 (by decide)) 2).trans ((congrFun (fr451 32 (by decide)) 2).trans ((congrFun (fr394 32 (by decide) (by decide) (by decide)) 2).trans (congrFun (fr6 32 (by decide)) 2)))) hp4), (ab_c ((fr468 33 (by decide)).trans ((fr451 33 (by decide)).trans ((fr394 33 (by decide) (by decide) (by decide)).trans (fr6 33 (by decide))))) hp5), (bd_r ((congrFun (fr468 37 (by decide)) 0).trans ((congrFun (fr451 37 (by decide)) 0).trans ((congrFun (fr394 37 (by decide) (by decide) (by decide)) 0).trans (congrFun (fr6 37 (by decide)) 0)))) hp6), (km_c ((fr468 38 (by decide)).trans ((fr451 38 (by decide)).trans ((fr394 38 (by decide) (by decide) (by decide)).trans (fr6 38 (by decide))))) ((fr468 40 (by decide)).trans ((fr451 40 (by decide)).trans ((fr394 40 (by decide) (by decide) (by decide)).trans (fr6 40 (by decide))))) hp7), (ab_c ((fr468 41 (by decide)).trans (fr451 41 (by decide))) ab398), (fun c k0_ k1_ k2_ k3_ k4_ k5_ k6_ k7_ k8_ k9_ k10_ k11_ k12_ => ((fr468 c k0_).trans ((fr451 c k1_).trans ((fr394 c k1_ k11_ k12_).trans (fr6 c k1_))))), (fun j k5_ k6_ => ((fc469 j k5_ k6_).trans ((congrFun (fr451 29 (by decide)) j).trans ((congrFun (fr394 29 (by decide) (by decide) (by decide)) j).trans (congrFun (fr6 29 (by decide)) j))))), (fun j k2_ k3_ k4_ k5_ => ((congrFun (fr468 30 (by decide)) j).trans ((fc452 j k2_ k3_ k4_ k5_).trans ((fc395 j k2_ k3_ k4_ k5_).trans (fc7 j k2_ k3_ k4_ k5_))))), (fun j k0_ k2_ => ((congrFun (fr468 32 (by decide)) j).trans ((congrFun (fr451 32 (by decide)) j).trans ((congrFun (fr394 32 (by decide) (by decide) (by decide)) j).trans (congrFun (fr6 32 (by decide)) j))))), (fun j k0_ => ((congrFun (fr468 37 (by decide)) j).trans ((congrFun (fr451 37 (by decide)) j).trans ((congrFun (fr394 37 (by decide) (by decide) (by decide)) j).trans (congrFun (fr6 37 (by decide)) j)))))⟩
            · refine J_aload_n (i := 0) (j := 0) dX3_readLine_72 rfl rfl ?_
              refine J_get (C := RX3) (T := TX3) (Z := 7) (ci := 3) (f := 0) dX3_readLine_73 inG3 rfl (by decide) k260 wc_29 rfl ?_
              refine J_callV (As := []) (rest := []) dX3_readLine_76 (c_Tk_advance (d := 2) (u := u393) (g := g) (ex := ex)   (by decide) (((fc395 0 (by decide) (by decide) (by decide) (by decide)).trans (fc7 0 (by decide) (by decide) (by decide) (by decide))).trans hp0) (bd_r ((fc395 1 (by decide) (by decide) (by decide) (by decide)).trans (fc7 1 (by decide) (by decide) (by decide) (by decide))) hp1) bm396) hq.n k500 k501 k502 wc_30 rfl rfl k92 k503 np_X6_advance (Nat.le_trans (by decide) hd) (by decide) (Nat.le_refl _) (Nat.le_refl _) wlen rfl (Nat.le_of_ble_eq_true rfl) (fun r_ h_ p470 => ?_)
              obtain ⟨u471, rfl, rfl, h472, h473, h474, fr475, fc476⟩ := p470
              refine J_aload_n (i := 0) (j := 0) dX3_readLine_79 rfl rfl ?_
              refine J_get (C := RX3) (T := TX3) (Z := 7) (ci := 3) (f := 0) dX3_readLine_80 inG3 rfl (by decide) k260 wc_29 rfl ?_
              refine J_getN (C := RX6) (T := TX6) (Z := 6) (ci := 6) (f := 3) dX3_readLine_83 inG6 rfl (by decide) k237 wc_30 rfl ?_
              refine J_iconst (v := 2) dX3_readLine_86 (by decide) ?_
              refine J_icmp_eq (tgt := 95) dX3_readLine_87 (by decide) (fun c477 => ?_) (fun c477 => ?_)
              · refine J_aload_n (i := 0) (j := 0) dX3_readLine_95 rfl rfl ?_
                refine J_get (C := RX3) (T := TX3) (Z := 7) (ci := 3) (f := 3) dX3_readLine_96 inG3 rfl (by decide) k265 wc_29 rfl ?_
                refine J_iload (i := 5) (j := 5) dX3_readLine_99 rfl ?_
                refine J_aload_n (i := 0) (j := 0) dX3_readLine_101 rfl rfl ?_
                refine J_get (C := RX3) (T := TX3) (Z := 7) (ci := 3) (f := 0) dX3_readLine_102 inG3 rfl (by decide) k260 wc_29 rfl ?_
                refine J_getN (C := RX6) (T := TX6) (Z := 6) (ci := 6) (f := 5) dX3_readLine_105 inG6 rfl (by decide) k241 wc_30 rfl ?_
                obtain ⟨u478, e479⟩ : ∃ z, z = ms u471 41 w392.toNatClampNeg (u471 30 5) := ⟨_, rfl⟩
                refine J_iast dX3_readLine_108 wc_41 (vin (bd_lt_hi bw392 (i_nle c445) (bd_r qv251 (sar_b (l := sAr 0) (lo := 0) (hi := 3) (by decide) _))) (by decide)) (ws e479 wk_41 rfl) ?_
                refine J_aload_n (i := 0) (j := 0) dX3_readLine_109 rfl rfl ?_
                refine J_get (C := RX3) (T := TX3) (Z := 7) (ci := 3) (f := 4) dX3_readLine_110 inG3 rfl (by decide) k266 wc_29 rfl ?_
                refine J_iload (i := 5) (j := 5) dX3_readLine_113 rfl ?_
                refine J_aload_n (i := 0) (j := 0) dX3_readLine_115 rfl rfl ?_
                refine J_get (C := RX3) (T := TX3) (Z := 7) (ci := 3) (f := 0) dX3_readLine_116 inG3 rfl (by decide) k260 wc_29 rfl ?_
                refine J_getN (C := RX6) (T := TX6) (Z := 6) (ci := 6) (f := 4) dX3_readLine_119 inG6 rfl (by decide) k239 wc_30 rfl ?_
                refine J_ci (v := u471 30 4) (congrFun (ms_c e479 (by decide)) 4) ?_
                obtain ⟨u480, e481⟩ : ∃ z, z = ms u478 42 w392.toNatClampNeg (u471 30 4) := ⟨_, rfl⟩
                refine J_iast dX3_readLine_122 wc_42 (vin (bd_lt_hi bw392 (i_nle c445) (bd_r qv251 (sar_b (l := sAr 0) (lo := 0) (hi := 3) (by decide) _))) (by decide)) (ws e481 wk_42 rfl) ?_
                refine J_iinc (i := 5) (j := 5) (v := (w392 + 1)) (lw := [(5, .int (w392 + 1)), (0, .ref 29), (1, .int sort), (2, .int v10), (3, .int (u2 30 4)), (4, .int v251)]) dX3_readLine_123 rfl rfl (by decide) rfl ?_
                refine J_goto (tgt := 65) dX3_readLine_126 (by decide) ?_
                refine J_lv [1, 2, 3, 4, 5, 0] rfl ?_
                exact ih443 (w392 + 1) u480 (bd_w (l := 0) (h := 3) (bd_add (l := 1) (h := 3) (bd_lt_hi bw392 (i_nle c445) (bd_r qv251 (sar_b (l := sAr 0) (lo := 0) (hi := 3) (by decide) _))) (bd_c (v := 1) (lo := 1) (hi := 1) (by decide)) (by decide)) (by decide)) (fun c k0_ k1_ k2_ => ((ms_c e481 k2_).trans ((ms_c e479 k1_).trans ((fr475 c k0_).trans (fr394 c k0_ k1_ k2_))))) (fun j k2_ k3_ k4_ k5_ => ((congrFun (ms_c e481 (by decide)) j).trans ((congrFun (ms_c e479 (by decide)) j).trans ((fc476 j k2_ k3_ k4_ k5_).trans (fc395 j k2_ k3_ k4_ k5_))))) (bd_r ((congrFun (ms_c e481 (by decide)) 2).trans (congrFun (ms_c e479 (by decide)) 2)) h472) (bd_r ((congrFun (ms_c e481 (by decide)) 4).trans (congrFun (ms_c e479 (by decide)) 4)) h473) (ab_c (ms_c e481 (by decide)) (ab_s e479 (ab_c (fr475 41 (by decide)) ab398) (h474 c477))) (mu_up 1 bw392 rfl (by decide) (bd_w (l := 1) (h := 3) (bd_add (l := 1) (h := 3) (bd_lt_hi bw392 (i_nle c445) (bd_r qv251 (sar_b (l := sAr 0) (lo := 0) (hi := 3) (by decide) _))) (bd_c (v := 1) (lo := 1) (hi := 1) (by decide)) (by decide)) (by decide)) hm444)
              · refine J_aload_n (i := 0) (j := 0) dX3_readLine_90 rfl rfl ?_
                refine J_callV (As := []) (rest := []) dX3_readLine_91 (c_Rd_breaksOff (d := 0) (u := u471) (g := g) (ex := ex)   (by decide) ) hq.n k601 k603 k4 wc_29 rfl rfl k91 k604 np_X3_breaksOff (Nat.le_trans (by decide) hd) (by decide) (Nat.le_refl _) (Nat.le_refl _) wlen rfl (Nat.le_of_ble_eq_true rfl) (fun r_ h_ p482 => ?_)
                obtain ⟨t483, u484, rfl, rfl, fr485, fc486⟩ := p482
                exact J_zret hq dX3_readLine_94 rfl (bI_n _) wlen (Nat.le_refl _) (Nat.le_refl _) ⟨t483, u484, rfl, rfl, (bd_r (congrFun (fr485 30 (by decide)) 2) h472), (bd_r ((congrFun (fr485 32 (by decide)) 0).trans ((congrFun (fr475 32 (by decide)) 0).trans ((congrFun (fr394 32 (by decide) (by decide) (by decide)) 0).trans (congrFun (fr6 32 (by decide)) 0)))) hp3), (bd_r ((congrFun (fr485 32 (by decide)) 2).trans ((congrFun (fr475 32 (by decide)) 2).trans ((congrFun (fr394 32 (by decide) (by decide) (by decide)) 2).trans (congrFun (fr6 32 (by decide)) 2)))) hp4), (ab_c ((fr485 33 (by decide)).trans ((fr475 33 (by decide)).trans ((fr394 33 (by decide) (by decide) (by decide)).trans (fr6 33 (by decide))))) hp5), (bd_r ((congrFun (fr485 37 (by decide)) 0).trans ((congrFun (fr475 37 (by decide)) 0).trans ((congrFun (fr394 37 (by decide) (by decide) (by decide)) 0).trans (congrFun (fr6 37 (by decide)) 0)))) hp6), (km_c ((fr485 38 (by decide)).trans ((fr475 38 (by decide)).trans ((fr394 38 (by decide) (by decide) (by decide)).trans (fr6 38 (by decide))))) ((fr485 40 (by decide)).trans ((fr475 40 (by decide)).trans ((fr394 40 (by decide) (by decide) (by decide)).trans (fr6 40 (by decide))))) hp7), (ab_c ((fr485 41 (by decide)).trans (fr475 41 (by decide))) ab398), (fun c k0_ k1_ k2_ k3_ k4_ k5_ k6_ k7_ k8_ k9_ k10_ k11_ k12_ => ((fr485 c k0_).trans ((fr475 c k1_).trans ((fr394 c k1_ k11_ k12_).trans (fr6 c k1_))))), (fun j k5_ k6_ => ((fc486 j k5_ k6_).trans ((congrFun (fr475 29 (by decide)) j).trans ((congrFun (fr394 29 (by decide) (by decide) (by decide)) j).trans (congrFun (fr6 29 (by decide)) j))))), (fun j k2_ k3_ k4_ k5_ => ((congrFun (fr485 30 (by decide)) j).trans ((fc476 j k2_ k3_ k4_ k5_).trans ((fc395 j k2_ k3_ k4_ k5_).trans (fc7 j k2_ k3_ k4_ k5_))))), (fun j k0_ k2_ => ((congrFun (fr485 32 (by decide)) j).trans ((congrFun (fr475 32 (by decide)) j).trans ((congrFun (fr394 32 (by decide) (by decide) (by decide)) j).trans (congrFun (fr6 32 (by decide)) j))))), (fun j k0_ => ((congrFun (fr485 37 (by decide)) j).trans ((congrFun (fr475 37 (by decide)) j).trans ((congrFun (fr394 37 (by decide) (by decide) (by decide)) j).trans (congrFun (fr6 37 (by decide)) j)))))⟩
        refine J_lv [4, 5, 3, 2, 1, 0] rfl ?_
        exact lp441 _ (0 : Int32) u2 (bd_w (l := 0) (h := 3) (bd_c (v := 0) (lo := 0) (hi := 0) (by decide)) (by decide)) (fun c k0_ k1_ k2_ => rfl) (fun j k2_ k3_ k4_ k5_ => rfl) h3 h4 (ab_c (fr6 41 (by decide)) hp8) (Nat.lt_succ_self _)
    · refine J_aload_n (i := 0) (j := 2) dX3_readLine_38 rfl rfl ?_
      refine J_callV (As := []) (rest := []) dX3_readLine_39 (c_Rd_breaksOff (d := 0) (u := u2) (g := g) (ex := ex)   (by decide) ) hq.n k601 k603 k4 wc_29 rfl rfl k91 k604 np_X3_breaksOff (Nat.le_trans (by decide) hd) (by decide) (Nat.le_refl _) (Nat.le_refl _) wlen rfl (Nat.le_of_ble_eq_true rfl) (fun r_ h_ p487 => ?_)
      obtain ⟨t488, u489, rfl, rfl, fr490, fc491⟩ := p487
      exact J_zret hq dX3_readLine_42 rfl (bI_n _) wlen (Nat.le_refl _) (Nat.le_refl _) ⟨t488, u489, rfl, rfl, (bd_r (congrFun (fr490 30 (by decide)) 2) h3), (bd_r ((congrFun (fr490 32 (by decide)) 0).trans (congrFun (fr6 32 (by decide)) 0)) hp3), (bd_r ((congrFun (fr490 32 (by decide)) 2).trans (congrFun (fr6 32 (by decide)) 2)) hp4), (ab_c ((fr490 33 (by decide)).trans (fr6 33 (by decide))) hp5), (bd_r ((congrFun (fr490 37 (by decide)) 0).trans (congrFun (fr6 37 (by decide)) 0)) hp6), (km_c ((fr490 38 (by decide)).trans (fr6 38 (by decide))) ((fr490 40 (by decide)).trans (fr6 40 (by decide))) hp7), (ab_c ((fr490 41 (by decide)).trans (fr6 41 (by decide))) hp8), (fun c k0_ k1_ k2_ k3_ k4_ k5_ k6_ k7_ k8_ k9_ k10_ k11_ k12_ => ((fr490 c k0_).trans (fr6 c k1_))), (fun j k5_ k6_ => ((fc491 j k5_ k6_).trans (congrFun (fr6 29 (by decide)) j))), (fun j k2_ k3_ k4_ k5_ => ((congrFun (fr490 30 (by decide)) j).trans (fc7 j k2_ k3_ k4_ k5_))), (fun j k0_ k2_ => ((congrFun (fr490 32 (by decide)) j).trans (congrFun (fr6 32 (by decide)) j))), (fun j k0_ => ((congrFun (fr490 37 (by decide)) j).trans (congrFun (fr6 37 (by decide)) j)))⟩
  · refine J_iconst (v := 0) dX3_readLine_17 (by decide) ?_
    exact J_zret hq dX3_readLine_18 rfl rfl wlen (Nat.le_refl _) (Nat.le_refl _) ⟨false, u2, rfl, rfl, h3, (bd_r (congrFun (fr6 32 (by decide)) 0) hp3), (bd_r (congrFun (fr6 32 (by decide)) 2) hp4), (ab_c (fr6 33 (by decide)) hp5), (bd_r (congrFun (fr6 37 (by decide)) 0) hp6), (km_c (fr6 38 (by decide)) (fr6 40 (by decide)) hp7), (ab_c (fr6 41 (by decide)) hp8), (fun c k0_ k1_ k2_ k3_ k4_ k5_ k6_ k7_ k8_ k9_ k10_ k11_ k12_ => (fr6 c k1_)), (fun j k5_ k6_ => (congrFun (fr6 29 (by decide)) j)), (fun j k2_ k3_ k4_ k5_ => (fc7 j k2_ k3_ k4_ k5_)), (fun j k0_ k2_ => (congrFun (fr6 32 (by decide)) j)), (fun j k0_ => (congrFun (fr6 37 (by decide)) j))⟩
set_option maxHeartbeats 4000000 in
set_option maxRecDepth 100000 in
theorem c_Rd_closeRains {d : Nat} {u : Nat → Nat → Int32} {g : Nat → Nat → Int64} {ex : List MC}  (hd : 2 ≤ d) (hp0 : Bd 0 9 (u 32 0)) (hp1 : Bd 0 4 (u 32 2)) : CT con0 d 0 0 yX3_closeRains cX3_closeRains 1 none [.ref 29] (Wd u g ex) (fun r h2 => ∃ (u2 : Nat → Nat → Int32), r = none ∧ h2 = Wd u2 g ex ∧ Bd 0 9 (u2 32 0) ∧ Bd 0 4 (u2 32 2) ∧ (∀ c, c ≠ 29 → c ≠ 32 → c ≠ 34 → c ≠ 35 → u2 c = u c) ∧ (∀ j, j ≠ 5 → j ≠ 6 → u2 29 j = u 29 j) ∧ (∀ j, j ≠ 2 → u2 32 j = u 32 j)) := by
  refine CT_of (by decide) (Nat.le_of_ble_eq_true rfl) (fun x hq => ?_)
  show J x yX3_closeRains cX3_closeRains 1 none d 0 0 (Wd u g ex).length 0 [(0, .ref 29)] [] (Wd u g ex) 0 0
  refine J_aload_n (i := 0) (j := 0) dX3_closeRains_0 rfl rfl ?_
  refine J_get (C := RX3) (T := TX3) (Z := 7) (ci := 3) (f := 1) dX3_closeRains_1 inG3 rfl (by decide) k261 wc_29 rfl ?_
  refine J_getN (C := RX1) (T := TX1) (Z := 6) (ci := 1) (f := 2) dX3_closeRains_4 inG1 rfl (by decide) k140 wc_32 rfl ?_
  refine J_if_ne (tgt := 24) dX3_closeRains_7 (by decide) (fun c1 => ?_) (fun c1 => ?_)
  · refine J_aload_n (i := 0) (j := 0) dX3_closeRains_24 rfl rfl ?_
    refine J_get (C := RX3) (T := TX3) (Z := 7) (ci := 3) (f := 1) dX3_closeRains_25 inG3 rfl (by decide) k261 wc_29 rfl ?_
    refine J_callV (As := []) (rest := []) dX3_closeRains_28 (c_H_chances (d := 1) (u := u) (g := g) (ex := ex)  (t := 32) (by decide) (by decide) hp0 (bd_w (l := 0) (h := 4) (bd_ne_lo hp1 c1 (by decide)) (by decide))) hq.n k668 k669 k670 wc_32 rfl rfl k89 k671 np_X1_chancesTogether (Nat.le_trans (by decide) hd) (by decide) (Nat.le_refl _) (Nat.le_refl _) wlen rfl (Nat.le_of_ble_eq_true rfl) (fun r_ h_ p2 => ?_)
    obtain ⟨v3, rfl, rfl⟩ := p2
    refine J_bipush (v := 100) dX3_closeRains_31 (by decide) ?_
    refine J_icmp_eq (tgt := 48) dX3_closeRains_33 (by decide) (fun c4 => ?_) (fun c4 => ?_)
    · exact J_vret hq dX3_closeRains_48 rfl wlen (Nat.le_refl _) (Nat.le_refl _) ⟨u, rfl, rfl, hp0, (bd_w (l := 0) (h := 4) (bd_ne_lo hp1 c1 (by decide)) (by decide)), (fun c k0_ k1_ k2_ k3_ => rfl), (fun j k5_ k6_ => rfl), (fun j k2_ => rfl)⟩
    · refine J_aload_n (i := 0) (j := 0) dX3_closeRains_36 rfl rfl ?_
      refine J_iconst (v := 4) dX3_closeRains_37 (by decide) ?_
      refine J_aload_n (i := 0) (j := 0) dX3_closeRains_38 rfl rfl ?_
      refine J_get (C := RX3) (T := TX3) (Z := 7) (ci := 3) (f := 0) dX3_closeRains_39 inG3 rfl (by decide) k260 wc_29 rfl ?_
      refine J_getN (C := RX6) (T := TX6) (Z := 6) (ci := 6) (f := 1) dX3_closeRains_42 inG6 rfl (by decide) k234 wc_30 rfl ?_
      refine J_callV (As := [.int 4, .int (u 30 1)]) (rest := []) dX3_closeRains_45 (c_Rd_remember (d := 0) (u := u) (g := g) (ex := ex) (newFault := 4) (newPlace := u 30 1)  (by decide) ) hq.n k617 k619 k7 wc_29 rfl rfl k91 k620 np_X3_remember (Nat.le_trans (by decide) hd) (by decide) (Nat.le_refl _) (Nat.le_refl _) wlen rfl (Nat.le_of_ble_eq_true rfl) (fun r_ h_ p5 => ?_)
      obtain ⟨u6, rfl, rfl, fr7, fc8⟩ := p5
      exact J_vret hq dX3_closeRains_48 rfl wlen (Nat.le_refl _) (Nat.le_refl _) ⟨u6, rfl, rfl, (bd_r (congrFun (fr7 32 (by decide)) 0) hp0), (bd_r (congrFun (fr7 32 (by decide)) 2) (bd_w (l := 0) (h := 4) (bd_ne_lo hp1 c1 (by decide)) (by decide))), (fun c k0_ k1_ k2_ k3_ => (fr7 c k0_)), (fun j k5_ k6_ => (fc8 j k5_ k6_)), (fun j k2_ => (congrFun (fr7 32 (by decide)) j))⟩
  · refine J_aload_n (i := 0) (j := 0) dX3_closeRains_10 rfl rfl ?_
    refine J_get (C := RX3) (T := TX3) (Z := 7) (ci := 3) (f := 1) dX3_closeRains_11 inG3 rfl (by decide) k261 wc_29 rfl ?_
    refine J_iconst (v := 0) dX3_closeRains_14 (by decide) ?_
    refine J_bipush (v := 100) dX3_closeRains_15 (by decide) ?_
    refine J_callV (As := [.int 0, .int 100]) (rest := []) dX3_closeRains_17 (c_H_addRain (d := 0) (u := u) (g := g) (ex := ex) (steps := 0) (chance := 100) (t := 32) (by decide) (by decide) hp0 (bd_w (l := 0) (h := 4) (bd_r c1 (bd_c (v := 0) (lo := 0) (hi := 0) (by decide))) (by decide))) hq.n k653 k654 k655 wc_32 rfl rfl k89 k656 np_X1_addRain (Nat.le_trans (by decide) hd) (by decide) (Nat.le_refl _) (Nat.le_refl _) wlen rfl (Nat.le_of_ble_eq_true rfl) (fun r_ h_ p9 => ?_)
    obtain ⟨t10, u11, rfl, rfl, h12, fr13, fc14⟩ := p9
    refine J_pop dX3_closeRains_20 rfl ?_
    refine J_goto (tgt := 48) dX3_closeRains_21 (by decide) ?_
    exact J_vret hq dX3_closeRains_48 rfl wlen (Nat.le_refl _) (Nat.le_refl _) ⟨u11, rfl, rfl, (bd_r (fc14 0 (by decide)) hp0), h12, (fun c k0_ k1_ k2_ k3_ => (fr13 c k1_ k2_ k3_)), (fun j k5_ k6_ => (congrFun (fr13 29 (by decide) (by decide) (by decide)) j)), (fun j k2_ => (fc14 j k2_))⟩
set_option maxHeartbeats 4000000 in
set_option maxRecDepth 100000 in
theorem c_Rd_read {d : Nat} {u : Nat → Nat → Int32} {g : Nat → Nat → Int64} {ex : List MC} {length : Int32} {sort : Int32} (hd : 7 ≤ d) (hp0 : Bd 0 600 length) (hp1 : AB u 33 (-1) 999) (hp2 : (KM u 37)) (hp3 : AB u 41 0 999) : CT con0 d 0 0 yX3_read cX3_read 6 none [.ref 29, .ref 2, .int length, .int sort] (Wd u g ex) (fun r h2 => ∃ (u2 : Nat → Nat → Int32), r = none ∧ h2 = Wd u2 g ex ∧ Bd 0 9 (u2 32 0) ∧ Bd 0 4 (u2 32 2) ∧ AB u2 33 (-1) 999 ∧ Bd 0 12 (u2 37 0) ∧ (KM u2 37) ∧ AB u2 41 0 999 ∧ (∀ c, c ≠ 29 → c ≠ 30 → c ≠ 32 → c ≠ 33 → c ≠ 34 → c ≠ 35 → c ≠ 36 → c ≠ 37 → c ≠ 38 → c ≠ 39 → c ≠ 40 → c ≠ 41 → c ≠ 42 → u2 c = u c) ∧ (∀ j, j ≠ 5 → j ≠ 6 → u2 29 j = u 29 j) ∧ (∀ j, j ≠ 0 → j ≠ 1 → j ≠ 2 → j ≠ 3 → j ≠ 4 → j ≠ 5 → u2 30 j = u 30 j) ∧ (∀ j, j ≠ 0 → j ≠ 2 → u2 32 j = u 32 j) ∧ (∀ j, j ≠ 0 → u2 37 j = u 37 j)) := by
  refine CT_of (by decide) (Nat.le_of_ble_eq_true rfl) (fun x hq => ?_)
  show J x yX3_read cX3_read 6 none d 0 0 (Wd u g ex).length 0 [(0, .ref 29), (1, .ref 2), (2, .int length), (3, .int sort)] [] (Wd u g ex) 0 0
  refine J_aload_n (i := 0) (j := 0) dX3_read_0 rfl rfl ?_
  refine J_iconst (v := 0) dX3_read_1 (by decide) ?_
  obtain ⟨u1, e2⟩ : ∃ z, z = ms u 29 5 0 := ⟨_, rfl⟩
  refine J_put (C := RX3) (T := TX3) (Z := 7) (ci := 3) (f := 5) (ty0 := tyX3) dX3_read_2 inG3 rfl tyX3_ok nmX3 (by decide) k267 rfl rfl wc_29 (Nat.le_of_ble_eq_true rfl) (fun _ _ => ⟨rfl, rfl⟩) (ws e2 wk_29 rfl) ?_
  refine J_aload_n (i := 0) (j := 0) dX3_read_5 rfl rfl ?_
  refine J_iconst (v := (-1)) dX3_read_6 (by decide) ?_
  obtain ⟨u3, e4⟩ : ∃ z, z = ms u1 29 6 (-1) := ⟨_, rfl⟩
  refine J_put (C := RX3) (T := TX3) (Z := 7) (ci := 3) (f := 6) (ty0 := tyX3) dX3_read_7 inG3 rfl tyX3_ok nmX3 (by decide) k269 rfl rfl wc_29 (Nat.le_of_ble_eq_true rfl) (fun _ _ => ⟨rfl, rfl⟩) (ws e4 wk_29 rfl) ?_
  refine J_aload_n (i := 0) (j := 0) dX3_read_10 rfl rfl ?_
  refine J_get (C := RX3) (T := TX3) (Z := 7) (ci := 3) (f := 1) dX3_read_11 inG3 rfl (by decide) k261 wc_29 rfl ?_
  refine J_callV (As := []) (rest := []) dX3_read_14 (c_H_clear32 (d := 1) (u := u3) (g := g) (ex := ex)   (by decide) ) hq.n k478 k479 k480 wc_32 rfl rfl k89 k481 np_X1_clear (Nat.le_trans (by decide) hd) (by decide) (Nat.le_refl _) (Nat.le_refl _) wlen rfl (Nat.le_of_ble_eq_true rfl) (fun r_ h_ p5 => ?_)
  obtain ⟨u6, rfl, rfl, h7, h8, fr9, fc10⟩ := p5
  refine J_aload_n (i := 0) (j := 0) dX3_read_17 rfl rfl ?_
  refine J_get (C := RX3) (T := TX3) (Z := 7) (ci := 3) (f := 2) dX3_read_18 inG3 rfl (by decide) k263 wc_29 rfl ?_
  refine J_callV (As := []) (rest := []) dX3_read_21 (c_W_clear (d := 0) (u := u6) (g := g) (ex := ex)  (w := 37) (by decide) (by decide)) hq.n k485 k486 k487 wc_37 rfl rfl k90 k488 np_X8_clear (Nat.le_trans (by decide) hd) (by decide) (Nat.le_refl _) (Nat.le_refl _) wlen rfl (Nat.le_of_ble_eq_true rfl) (fun r_ h_ p11 => ?_)
  obtain ⟨u12, rfl, rfl, h13, fr14, fc15⟩ := p11
  refine J_aload_n (i := 0) (j := 0) dX3_read_24 rfl rfl ?_
  refine J_get (C := RX3) (T := TX3) (Z := 7) (ci := 3) (f := 0) dX3_read_25 inG3 rfl (by decide) k260 wc_29 rfl ?_
  refine J_aload_n (i := 1) (j := 1) dX3_read_28 rfl rfl ?_
  refine J_iload_n (i := 2) (j := 2) dX3_read_29 rfl rfl ?_
  refine J_callV (As := [.ref 2, .int length]) (rest := []) dX3_read_30 (c_Tk_begin (d := 1) (u := u12) (g := g) (ex := ex) (count := length)  (by decide) hp0) hq.n k489 k490 k491 wc_30 rfl rfl k92 k492 np_X6_begin (Nat.le_trans (by decide) hd) (by decide) (Nat.le_refl _) (Nat.le_refl _) wlen rfl (Nat.le_of_ble_eq_true rfl) (fun r_ h_ p16 => ?_)
  obtain ⟨u17, rfl, rfl, h18, h19, h20, fr21, fc22⟩ := p16
  refine J_iconst (v := 1) dX3_read_33 (by decide) ?_
  refine J_istore (i := 4) (lw := [(4, .int 1), (0, .ref 29), (1, .ref 2), (2, .int length), (3, .int sort)]) dX3_read_34 (by decide) rfl ?_
  refine J_iconst (v := 0) dX3_read_36 (by decide) ?_
  refine J_istore (i := 5) (lw := [(5, .int 0), (4, .int 1), (0, .ref 29), (1, .ref 2), (2, .int length), (3, .int sort)]) dX3_read_37 (by decide) rfl ?_
  have lp658 : ∀ (n659 : Nat) (w600 : Int32) (w601 : Int32) (u602 : Nat → Nat → Int32), Bd 0 1 w600 → Bd 0 601 w601 → (∀ c, c ≠ 29 → c ≠ 30 → c ≠ 32 → c ≠ 33 → c ≠ 34 → c ≠ 35 → c ≠ 36 → c ≠ 37 → c ≠ 38 → c ≠ 39 → c ≠ 40 → c ≠ 41 → c ≠ 42 → u602 c = u17 c) → (∀ j, j ≠ 5 → j ≠ 6 → u602 29 j = u17 29 j) → (∀ j, j ≠ 2 → j ≠ 3 → j ≠ 4 → j ≠ 5 → u602 30 j = u17 30 j) → Bd 0 600 (u602 30 2) → (∀ j, j ≠ 0 → j ≠ 2 → u602 32 j = u17 32 j) → Bd 0 9 (u602 32 0) → Bd 0 4 (u602 32 2) → AB u602 33 (-1) 999 → (∀ j, j ≠ 0 → u602 37 j = u17 37 j) → Bd 0 12 (u602 37 0) → AB u602 41 0 999 → KM u602 37 → (601 - w601.toInt).toNat < n659 → J x yX3_read cX3_read 6 none d 0 0 (Wd u g ex).length 39 [(0, .ref 29), (3, .int sort), (4, .int w600), (5, .int w601)] [] (Wd u602 g ex) 0 0 := by
    intro n659
    induction n659 with
    | zero => intro w600 w601 u602 bw600 bw601 fr603 fc604 fc605 bm606 fc607 bm608 bm609 ab610 fc611 bm612 ab613 km614 hm661; exact absurd hm661 (Nat.not_lt_zero _)
    | succ n659 ih660 =>
      intro w600 w601 u602 bw600 bw601 fr603 fc604 fc605 bm606 fc607 bm608 bm609 ab610 fc611 bm612 ab613 km614 hm661
      refine J_iload (i := 5) (j := 3) dX3_read_39 rfl ?_
      refine J_sipush (v := 600) dX3_read_41 (by decide) ?_
      have jn679 : ∀ (_ : Unit), J x yX3_read cX3_read 6 none d 0 0 (Wd u g ex).length 65 [(0, .ref 29), (3, .int sort)] [] (Wd u602 g ex) 0 0 := by
        intro _
        refine J_iload_n (i := 3) (j := 1) dX3_read_65 rfl rfl ?_
        refine J_if_ne (tgt := 80) dX3_read_66 (by decide) (fun c680 => ?_) (fun c680 => ?_)
        · exact J_vret hq dX3_read_80 rfl wlen (Nat.le_refl _) (Nat.le_refl _) ⟨u602, rfl, rfl, bm608, bm609, ab610, bm612, km614, ab613, (fun c k0_ k1_ k2_ k3_ k4_ k5_ k6_ k7_ k8_ k9_ k10_ k11_ k12_ => ((fr603 c k0_ k1_ k2_ k3_ k4_ k5_ k6_ k7_ k8_ k9_ k10_ k11_ k12_).trans ((fr21 c k1_).trans ((fr14 c k7_).trans ((fr9 c k2_ k6_).trans ((ms_c e4 k0_).trans (ms_c e2 k0_))))))), (fun j k5_ k6_ => ((fc604 j k5_ k6_).trans ((congrFun (fr21 29 (by decide)) j).trans ((congrFun (fr14 29 (by decide)) j).trans ((congrFun (fr9 29 (by decide) (by decide)) j).trans ((ms_i e4 k6_).trans (ms_i e2 k5_))))))), (fun j k0_ k1_ k2_ k3_ k4_ k5_ => ((fc605 j k2_ k3_ k4_ k5_).trans ((fc22 j k0_ k1_ k2_).trans ((congrFun (fr14 30 (by decide)) j).trans ((congrFun (fr9 30 (by decide) (by decide)) j).trans ((congrFun (ms_c e4 (by decide)) j).trans (congrFun (ms_c e2 (by decide)) j))))))), (fun j k0_ k2_ => ((fc607 j k0_ k2_).trans ((congrFun (fr21 32 (by decide)) j).trans ((congrFun (fr14 32 (by decide)) j).trans ((fc10 j k0_ k2_).trans ((congrFun (ms_c e4 (by decide)) j).trans (congrFun (ms_c e2 (by decide)) j))))))), (fun j k0_ => ((fc611 j k0_).trans ((congrFun (fr21 37 (by decide)) j).trans ((fc15 j k0_).trans ((congrFun (fr9 37 (by decide) (by decide)) j).trans ((congrFun (ms_c e4 (by decide)) j).trans (congrFun (ms_c e2 (by decide)) j)))))))⟩
        · refine J_aload_n (i := 0) (j := 0) dX3_read_69 rfl rfl ?_
          refine J_get (C := RX3) (T := TX3) (Z := 7) (ci := 3) (f := 5) dX3_read_70 inG3 rfl (by decide) k267 wc_29 rfl ?_
          refine J_if_ne (tgt := 80) dX3_read_73 (by decide) (fun c681 => ?_) (fun c681 => ?_)
          · exact J_vret hq dX3_read_80 rfl wlen (Nat.le_refl _) (Nat.le_refl _) ⟨u602, rfl, rfl, bm608, bm609, ab610, bm612, km614, ab613, (fun c k0_ k1_ k2_ k3_ k4_ k5_ k6_ k7_ k8_ k9_ k10_ k11_ k12_ => ((fr603 c k0_ k1_ k2_ k3_ k4_ k5_ k6_ k7_ k8_ k9_ k10_ k11_ k12_).trans ((fr21 c k1_).trans ((fr14 c k7_).trans ((fr9 c k2_ k6_).trans ((ms_c e4 k0_).trans (ms_c e2 k0_))))))), (fun j k5_ k6_ => ((fc604 j k5_ k6_).trans ((congrFun (fr21 29 (by decide)) j).trans ((congrFun (fr14 29 (by decide)) j).trans ((congrFun (fr9 29 (by decide) (by decide)) j).trans ((ms_i e4 k6_).trans (ms_i e2 k5_))))))), (fun j k0_ k1_ k2_ k3_ k4_ k5_ => ((fc605 j k2_ k3_ k4_ k5_).trans ((fc22 j k0_ k1_ k2_).trans ((congrFun (fr14 30 (by decide)) j).trans ((congrFun (fr9 30 (by decide) (by decide)) j).trans ((congrFun (ms_c e4 (by decide)) j).trans (congrFun (ms_c e2 (by decide)) j))))))), (fun j k0_ k2_ => ((fc607 j k0_ k2_).trans ((congrFun (fr21 32 (by decide)) j).trans ((congrFun (fr14 32 (by decide)) j).trans ((fc10 j k0_ k2_).trans ((congrFun (ms_c e4 (by decide)) j).trans (congrFun (ms_c e2 (by decide)) j))))))), (fun j k0_ => ((fc611 j k0_).trans ((congrFun (fr21 37 (by decide)) j).trans ((fc15 j k0_).trans ((congrFun (fr9 37 (by decide) (by decide)) j).trans ((congrFun (ms_c e4 (by decide)) j).trans (congrFun (ms_c e2 (by decide)) j)))))))⟩
          · refine J_aload_n (i := 0) (j := 0) dX3_read_76 rfl rfl ?_
            refine J_callV (As := []) (rest := []) dX3_read_77 (c_Rd_closeRains (d := 2) (u := u602) (g := g) (ex := ex)   (by decide) bm608 bm609) hq.n k664 k666 k11 wc_29 rfl rfl k91 k667 np_X3_closeRains (Nat.le_trans (by decide) hd) (by decide) (Nat.le_refl _) (Nat.le_refl _) wlen rfl (Nat.le_of_ble_eq_true rfl) (fun r_ h_ p682 => ?_)
            obtain ⟨u683, rfl, rfl, h684, h685, fr686, fc687, fc688⟩ := p682
            exact J_vret hq dX3_read_80 rfl wlen (Nat.le_refl _) (Nat.le_refl _) ⟨u683, rfl, rfl, (bd_r (fc688 0 (by decide)) bm608), h685, (ab_c (fr686 33 (by decide) (by decide) (by decide) (by decide)) ab610), (bd_r (congrFun (fr686 37 (by decide) (by decide) (by decide) (by decide)) 0) bm612), (km_c (fr686 38 (by decide) (by decide) (by decide) (by decide)) (fr686 40 (by decide) (by decide) (by decide) (by decide)) km614), (ab_c (fr686 41 (by decide) (by decide) (by decide) (by decide)) ab613), (fun c k0_ k1_ k2_ k3_ k4_ k5_ k6_ k7_ k8_ k9_ k10_ k11_ k12_ => ((fr686 c k0_ k2_ k4_ k5_).trans ((fr603 c k0_ k1_ k2_ k3_ k4_ k5_ k6_ k7_ k8_ k9_ k10_ k11_ k12_).trans ((fr21 c k1_).trans ((fr14 c k7_).trans ((fr9 c k2_ k6_).trans ((ms_c e4 k0_).trans (ms_c e2 k0_)))))))), (fun j k5_ k6_ => ((fc687 j k5_ k6_).trans ((fc604 j k5_ k6_).trans ((congrFun (fr21 29 (by decide)) j).trans ((congrFun (fr14 29 (by decide)) j).trans ((congrFun (fr9 29 (by decide) (by decide)) j).trans ((ms_i e4 k6_).trans (ms_i e2 k5_)))))))), (fun j k0_ k1_ k2_ k3_ k4_ k5_ => ((congrFun (fr686 30 (by decide) (by decide) (by decide) (by decide)) j).trans ((fc605 j k2_ k3_ k4_ k5_).trans ((fc22 j k0_ k1_ k2_).trans ((congrFun (fr14 30 (by decide)) j).trans ((congrFun (fr9 30 (by decide) (by decide)) j).trans ((congrFun (ms_c e4 (by decide)) j).trans (congrFun (ms_c e2 (by decide)) j)))))))), (fun j k0_ k2_ => ((fc688 j k2_).trans ((fc607 j k0_ k2_).trans ((congrFun (fr21 32 (by decide)) j).trans ((congrFun (fr14 32 (by decide)) j).trans ((fc10 j k0_ k2_).trans ((congrFun (ms_c e4 (by decide)) j).trans (congrFun (ms_c e2 (by decide)) j)))))))), (fun j k0_ => ((congrFun (fr686 37 (by decide) (by decide) (by decide) (by decide)) j).trans ((fc611 j k0_).trans ((congrFun (fr21 37 (by decide)) j).trans ((fc15 j k0_).trans ((congrFun (fr9 37 (by decide) (by decide)) j).trans ((congrFun (ms_c e4 (by decide)) j).trans (congrFun (ms_c e2 (by decide)) j))))))))⟩
      refine J_icmp_gt (tgt := 65) dX3_read_44 (by decide) (fun c662 => ?_) (fun c662 => ?_)
      · refine J_lv [0, 1] rfl ?_
        exact jn679 () 
      · refine J_iload (i := 4) (j := 2) dX3_read_47 rfl ?_
        refine J_if_eq (tgt := 65) dX3_read_49 (by decide) (fun c689 => ?_) (fun c689 => ?_)
        · refine J_lv [0, 1] rfl ?_
          exact jn679 () 
        · refine J_aload_n (i := 0) (j := 0) dX3_read_52 rfl rfl ?_
          refine J_iload_n (i := 3) (j := 1) dX3_read_53 rfl rfl ?_
          refine J_callV (As := [.int sort]) (rest := []) dX3_read_54 (c_Rd_readLine (d := 6) (u := u602) (g := g) (ex := ex) (sort := sort)  (by decide) ((fc605 0 (by decide) (by decide) (by decide) (by decide)).trans h18) (bd_r (fc605 1 (by decide) (by decide) (by decide) (by decide)) h19) bm606 bm608 bm609 ab610 bm612 km614 ab613) hq.n k496 k498 k0 wc_29 rfl rfl k91 k499 np_X3_readLine (Nat.le_trans (by decide) hd) (by decide) (Nat.le_refl _) (Nat.le_refl _) wlen rfl (Nat.le_of_ble_eq_true rfl) (fun r_ h_ p690 => ?_)
          obtain ⟨t691, u692, rfl, rfl, h693, h694, h695, h696, h697, h698, h699, fr700, fc701, fc702, fc703, fc704⟩ := p690
          refine J_istore (i := 4) (lw := [(4, .int (bI t691)), (0, .ref 29), (3, .int sort), (5, .int w601)]) dX3_read_57 (by decide) rfl ?_
          refine J_iinc (i := 5) (j := 3) (v := (w601 + 1)) (lw := [(5, .int (w601 + 1)), (4, .int (bI t691)), (0, .ref 29), (3, .int sort)]) dX3_read_59 rfl rfl (by decide) rfl ?_
          refine J_goto (tgt := 39) dX3_read_62 (by decide) ?_
          refine J_lv [2, 3, 1, 0] rfl ?_
          exact ih660 (bI t691) (w601 + 1) u692 (bd_bI t691) (bd_w (l := 0) (h := 601) (bd_add (l := 1) (h := 601) (bd_le_hi bw601 (i_nlt c662) (bd_c (v := 600) (lo := 600) (hi := 600) (by decide))) (bd_c (v := 1) (lo := 1) (hi := 1) (by decide)) (by decide)) (by decide)) (fun c k0_ k1_ k2_ k3_ k4_ k5_ k6_ k7_ k8_ k9_ k10_ k11_ k12_ => ((fr700 c k0_ k1_ k2_ k3_ k4_ k5_ k6_ k7_ k8_ k9_ k10_ k11_ k12_).trans (fr603 c k0_ k1_ k2_ k3_ k4_ k5_ k6_ k7_ k8_ k9_ k10_ k11_ k12_))) (fun j k5_ k6_ => ((fc701 j k5_ k6_).trans (fc604 j k5_ k6_))) (fun j k2_ k3_ k4_ k5_ => ((fc702 j k2_ k3_ k4_ k5_).trans (fc605 j k2_ k3_ k4_ k5_))) h693 (fun j k0_ k2_ => ((fc703 j k0_ k2_).trans (fc607 j k0_ k2_))) h694 h695 h696 (fun j k0_ => ((fc704 j k0_).trans (fc611 j k0_))) h697 h699 h698 (mu_up 1 bw601 rfl (by decide) (bd_w (l := 1) (h := 601) (bd_add (l := 1) (h := 601) (bd_le_hi bw601 (i_nlt c662) (bd_c (v := 600) (lo := 600) (hi := 600) (by decide))) (bd_c (v := 1) (lo := 1) (hi := 1) (by decide)) (by decide)) (by decide)) hm661)
  refine J_lv [2, 5, 1, 0] rfl ?_
  exact lp658 _ (1 : Int32) (0 : Int32) u17 (bd_w (l := 0) (h := 1) (bd_c (v := 1) (lo := 1) (hi := 1) (by decide)) (by decide)) (bd_w (l := 0) (h := 601) (bd_c (v := 0) (lo := 0) (hi := 0) (by decide)) (by decide)) (fun c k0_ k1_ k2_ k3_ k4_ k5_ k6_ k7_ k8_ k9_ k10_ k11_ k12_ => rfl) (fun j k5_ k6_ => rfl) (fun j k2_ k3_ k4_ k5_ => rfl) (bd_w (l := 0) (h := 600) h20 (by decide)) (fun j k0_ k2_ => rfl) (bd_r ((congrFun (fr21 32 (by decide)) 0).trans (congrFun (fr14 32 (by decide)) 0)) h7) (bd_r ((congrFun (fr21 32 (by decide)) 2).trans (congrFun (fr14 32 (by decide)) 2)) h8) (ab_c ((fr21 33 (by decide)).trans ((fr14 33 (by decide)).trans ((fr9 33 (by decide) (by decide)).trans ((ms_c e4 (by decide)).trans (ms_c e2 (by decide)))))) hp1) (fun j k0_ => rfl) (bd_r (congrFun (fr21 37 (by decide)) 0) (bd_w (l := 0) (h := 12) h13 (by decide))) (ab_c ((fr21 41 (by decide)).trans ((fr14 41 (by decide)).trans ((fr9 41 (by decide) (by decide)).trans ((ms_c e4 (by decide)).trans (ms_c e2 (by decide)))))) hp3) (km_c ((fr21 38 (by decide)).trans ((fr14 38 (by decide)).trans ((fr9 38 (by decide) (by decide)).trans ((ms_c e4 (by decide)).trans (ms_c e2 (by decide)))))) ((fr21 40 (by decide)).trans ((fr14 40 (by decide)).trans ((fr9 40 (by decide) (by decide)).trans ((ms_c e4 (by decide)).trans (ms_c e2 (by decide)))))) hp2) (Nat.lt_succ_self _)
set_option maxHeartbeats 4000000 in
set_option maxRecDepth 100000 in
theorem c_T_numberFor {d : Nat} {u : Nat → Nat → Int32} {g : Nat → Nat → Int64} {ex : List MC} {sort : Int32} {at0 : Int32} (hd : 0 ≤ d) (hp0 : Bd 0 2 (u 1 5)) (hp1 : Bd 0 3 (u 1 7)) : CT con0 d 0 0 yX7_numberFor cX7_numberFor 5 (some .int) [.ref 1, .int sort, .int at0] (Wd u g ex) (fun r h2 => ∃ (z : Int32), r = some (.int z) ∧ h2 = Wd u g ex ∧ (z = -1 ∨ (sort = 0 ∧ Bd 0 1 z) ∨ (sort = 1 ∧ Bd 0 2 z))) := by
  refine CT_of (by decide) (Nat.le_of_ble_eq_true rfl) (fun x hq => ?_)
  show J x yX7_numberFor cX7_numberFor 5 (some .int) d 0 0 (Wd u g ex).length 0 [(0, .ref 1), (1, .int sort), (2, .int at0)] [] (Wd u g ex) 0 0
  refine J_iload_n (i := 1) (j := 1) dX7_numberFor_0 rfl rfl ?_
  refine J_if_eq (tgt := 11) dX7_numberFor_1 (by decide) (fun c1 => ?_) (fun c1 => ?_)
  · refine J_iload_n (i := 1) (j := 1) dX7_numberFor_11 rfl rfl ?_
    refine J_if_ne (tgt := 22) dX7_numberFor_12 (by decide) (fun c2 => ?_) (fun c2 => ?_)
    · exact (bd_no (bd_ne_lo (bd_r c1 (bd_c (v := 0) (lo := 0) (hi := 0) (by decide))) c2 (by decide)) (by decide)).elim
    · refine J_aload_n (i := 0) (j := 0) dX7_numberFor_15 rfl rfl ?_
      refine J_get (C := RX7) (T := TX7) (Z := 8) (ci := 7) (f := 5) dX7_numberFor_16 inG7 rfl (by decide) k196 wc_1 rfl ?_
      refine J_goto (tgt := 26) dX7_numberFor_19 (by decide) ?_
      refine J_istore_n (i := 3) (lw := [(3, .int (u 1 5)), (0, .ref 1), (1, .int sort), (2, .int at0)]) dX7_numberFor_26 rfl (by decide) rfl ?_
      refine J_iload_n (i := 1) (j := 2) dX7_numberFor_27 rfl rfl ?_
      refine J_if_ne (tgt := 35) dX7_numberFor_28 (by decide) (fun c3 => ?_) (fun c3 => ?_)
      · exact (bd_no (bd_ne_lo (bd_r c1 (bd_c (v := 0) (lo := 0) (hi := 0) (by decide))) c3 (by decide)) (by decide)).elim
      · refine J_iconst (v := 2) dX7_numberFor_31 (by decide) ?_
        refine J_goto (tgt := 36) dX7_numberFor_32 (by decide) ?_
        refine J_istore (i := 4) (lw := [(4, .int 2), (3, .int (u 1 5)), (0, .ref 1), (1, .int sort), (2, .int at0)]) dX7_numberFor_36 (by decide) rfl ?_
        refine J_iload_n (i := 2) (j := 4) dX7_numberFor_38 rfl rfl ?_
        refine J_iconst (v := (-1)) dX7_numberFor_39 (by decide) ?_
        refine J_icmp_ne (tgt := 55) dX7_numberFor_40 (by decide) (fun c4 => ?_) (fun c4 => ?_)
        · refine J_iload_n (i := 2) (j := 4) dX7_numberFor_55 rfl rfl ?_
          refine J_if_lt (tgt := 68) dX7_numberFor_56 (by decide) (fun c5 => ?_) (fun c5 => ?_)
          · refine J_iconst (v := (-1)) dX7_numberFor_68 (by decide) ?_
            exact J_iret hq dX7_numberFor_69 rfl wlen (Nat.le_refl _) (Nat.le_refl _) ⟨((-1) : Int32), rfl, rfl, (Or.inl rfl)⟩
          · refine J_iload_n (i := 2) (j := 4) dX7_numberFor_59 rfl rfl ?_
            refine J_iload_n (i := 3) (j := 1) dX7_numberFor_60 rfl rfl ?_
            refine J_icmp_ge (tgt := 68) dX7_numberFor_61 (by decide) (fun c6 => ?_) (fun c6 => ?_)
            · refine J_iconst (v := (-1)) dX7_numberFor_68 (by decide) ?_
              exact J_iret hq dX7_numberFor_69 rfl wlen (Nat.le_refl _) (Nat.le_refl _) ⟨((-1) : Int32), rfl, rfl, (Or.inl rfl)⟩
            · refine J_iload_n (i := 2) (j := 4) dX7_numberFor_64 rfl rfl ?_
              refine J_goto (tgt := 69) dX7_numberFor_65 (by decide) ?_
              exact J_iret hq dX7_numberFor_69 rfl wlen (Nat.le_refl _) (Nat.le_refl _) ⟨at0, rfl, rfl, (Or.inr (Or.inl ⟨c1, (bd_lt_hi (bd_le_lo (bd_any at0) (i_nlt c5) (bd_c (v := 0) (lo := 0) (hi := 0) (by decide))) (i_nle c6) hp0)⟩))⟩
        · refine J_iload_n (i := 3) (j := 1) dX7_numberFor_43 rfl rfl ?_
          refine J_iload (i := 4) (j := 0) dX7_numberFor_44 rfl ?_
          refine J_icmp_ge (tgt := 53) dX7_numberFor_46 (by decide) (fun c7 => ?_) (fun c7 => ?_)
          · refine J_iconst (v := (-1)) dX7_numberFor_53 (by decide) ?_
            exact J_iret hq dX7_numberFor_54 rfl wlen (Nat.le_refl _) (Nat.le_refl _) ⟨((-1) : Int32), rfl, rfl, (Or.inl rfl)⟩
          · refine J_iload_n (i := 3) (j := 1) dX7_numberFor_49 rfl rfl ?_
            refine J_goto (tgt := 54) dX7_numberFor_50 (by decide) ?_
            exact J_iret hq dX7_numberFor_54 rfl wlen (Nat.le_refl _) (Nat.le_refl _) ⟨(u 1 5), rfl, rfl, (Or.inr (Or.inl ⟨c1, (bd_lt_hi hp0 (i_nle c7) (bd_c (v := 2) (lo := 2) (hi := 2) (by decide)))⟩))⟩
  · refine J_iload_n (i := 1) (j := 1) dX7_numberFor_4 rfl rfl ?_
    refine J_iconst (v := 1) dX7_numberFor_5 (by decide) ?_
    refine J_icmp_eq (tgt := 11) dX7_numberFor_6 (by decide) (fun c8 => ?_) (fun c8 => ?_)
    · refine J_iload_n (i := 1) (j := 1) dX7_numberFor_11 rfl rfl ?_
      refine J_if_ne (tgt := 22) dX7_numberFor_12 (by decide) (fun c9 => ?_) (fun c9 => ?_)
      · refine J_aload_n (i := 0) (j := 0) dX7_numberFor_22 rfl rfl ?_
        refine J_get (C := RX7) (T := TX7) (Z := 8) (ci := 7) (f := 7) dX7_numberFor_23 inG7 rfl (by decide) k200 wc_1 rfl ?_
        refine J_istore_n (i := 3) (lw := [(3, .int (u 1 7)), (0, .ref 1), (1, .int sort), (2, .int at0)]) dX7_numberFor_26 rfl (by decide) rfl ?_
        refine J_iload_n (i := 1) (j := 2) dX7_numberFor_27 rfl rfl ?_
        refine J_if_ne (tgt := 35) dX7_numberFor_28 (by decide) (fun c10 => ?_) (fun c10 => ?_)
        · refine J_iconst (v := 3) dX7_numberFor_35 (by decide) ?_
          refine J_istore (i := 4) (lw := [(4, .int 3), (3, .int (u 1 7)), (0, .ref 1), (1, .int sort), (2, .int at0)]) dX7_numberFor_36 (by decide) rfl ?_
          refine J_iload_n (i := 2) (j := 4) dX7_numberFor_38 rfl rfl ?_
          refine J_iconst (v := (-1)) dX7_numberFor_39 (by decide) ?_
          refine J_icmp_ne (tgt := 55) dX7_numberFor_40 (by decide) (fun c11 => ?_) (fun c11 => ?_)
          · refine J_iload_n (i := 2) (j := 4) dX7_numberFor_55 rfl rfl ?_
            refine J_if_lt (tgt := 68) dX7_numberFor_56 (by decide) (fun c12 => ?_) (fun c12 => ?_)
            · refine J_iconst (v := (-1)) dX7_numberFor_68 (by decide) ?_
              exact J_iret hq dX7_numberFor_69 rfl wlen (Nat.le_refl _) (Nat.le_refl _) ⟨((-1) : Int32), rfl, rfl, (Or.inl rfl)⟩
            · refine J_iload_n (i := 2) (j := 4) dX7_numberFor_59 rfl rfl ?_
              refine J_iload_n (i := 3) (j := 1) dX7_numberFor_60 rfl rfl ?_
              refine J_icmp_ge (tgt := 68) dX7_numberFor_61 (by decide) (fun c13 => ?_) (fun c13 => ?_)
              · refine J_iconst (v := (-1)) dX7_numberFor_68 (by decide) ?_
                exact J_iret hq dX7_numberFor_69 rfl wlen (Nat.le_refl _) (Nat.le_refl _) ⟨((-1) : Int32), rfl, rfl, (Or.inl rfl)⟩
              · refine J_iload_n (i := 2) (j := 4) dX7_numberFor_64 rfl rfl ?_
                refine J_goto (tgt := 69) dX7_numberFor_65 (by decide) ?_
                exact J_iret hq dX7_numberFor_69 rfl wlen (Nat.le_refl _) (Nat.le_refl _) ⟨at0, rfl, rfl, (Or.inr (Or.inr ⟨c8, (bd_lt_hi (bd_le_lo (bd_any at0) (i_nlt c12) (bd_c (v := 0) (lo := 0) (hi := 0) (by decide))) (i_nle c13) hp1)⟩))⟩
          · refine J_iload_n (i := 3) (j := 1) dX7_numberFor_43 rfl rfl ?_
            refine J_iload (i := 4) (j := 0) dX7_numberFor_44 rfl ?_
            refine J_icmp_ge (tgt := 53) dX7_numberFor_46 (by decide) (fun c14 => ?_) (fun c14 => ?_)
            · refine J_iconst (v := (-1)) dX7_numberFor_53 (by decide) ?_
              exact J_iret hq dX7_numberFor_54 rfl wlen (Nat.le_refl _) (Nat.le_refl _) ⟨((-1) : Int32), rfl, rfl, (Or.inl rfl)⟩
            · refine J_iload_n (i := 3) (j := 1) dX7_numberFor_49 rfl rfl ?_
              refine J_goto (tgt := 54) dX7_numberFor_50 (by decide) ?_
              exact J_iret hq dX7_numberFor_54 rfl wlen (Nat.le_refl _) (Nat.le_refl _) ⟨(u 1 7), rfl, rfl, (Or.inr (Or.inr ⟨c8, (bd_lt_hi hp1 (i_nle c14) (bd_c (v := 3) (lo := 3) (hi := 3) (by decide)))⟩))⟩
        · exact (bd_neq c10 (bd_r c8 (bd_c (v := 1) (lo := 1) (hi := 1) (by decide))) (bd_c (v := 0) (lo := 0) (hi := 0) (by decide)) (by decide)).elim
      · exact (bd_neq c9 (bd_r c8 (bd_c (v := 1) (lo := 1) (hi := 1) (by decide))) (bd_c (v := 0) (lo := 0) (hi := 0) (by decide)) (by decide)).elim
    · refine J_iconst (v := (-1)) dX7_numberFor_9 (by decide) ?_
      exact J_iret hq dX7_numberFor_10 rfl wlen (Nat.le_refl _) (Nat.le_refl _) ⟨((-1) : Int32), rfl, rfl, (Or.inl rfl)⟩
set_option maxHeartbeats 4000000 in
set_option maxRecDepth 100000 in
theorem c_T_keep {d : Nat} {u : Nat → Nat → Int32} {g : Nat → Nat → Int64} {ex : List MC} {sort : Int32} {number : Int32} (hd : 2 ≤ d) (hp0 : Bd 0 600 (u 1 1)) (hp1 : Bd 0 2 (u 1 5)) (hp2 : Bd 0 3 (u 1 7)) (hp3 : BF u 2) (hp4 : Bd 0 9 (u 5 0)) (hp5 : Bd 0 4 (u 5 2)) (hp6 : Bd 0 9 (u 10 0)) (hp7 : Bd 0 4 (u 10 2)) (hp8 : AB u 6 (-1) 999) (hp9 : AB u 11 (-1) 999) (hp10 : Bd 0 12 (u 15 0)) (hp11 : Bd 0 12 (u 19 0)) (hp12 : Bd 0 12 (u 23 0)) (hp13 : (KM u 15)) (hp14 : (KM u 19)) (hp15 : (KM u 23)) (hp16 : Bd 0 9 (u 32 0)) (hp17 : Bd 0 4 (u 32 2)) (hp18 : AB u 33 (-1) 999) (hp19 : Bd 0 12 (u 37 0)) (hp20 : (KM u 37)) (hp21 : ((sort = 0 ∧ Bd 0 1 number) ∨ (sort = 1 ∧ Bd 0 2 number))) : CT con0 d 0 0 yX7_keep cX7_keep 4 none [.ref 1, .int sort, .int number, .ref 29] (Wd u g ex) (fun r h2 => ∃ (u2 : Nat → Nat → Int32), r = none ∧ h2 = Wd u2 g ex ∧ Bd 0 2 (u2 1 5) ∧ Bd 0 3 (u2 1 7) ∧ Bd 0 9 (u2 5 0) ∧ Bd 0 4 (u2 5 2) ∧ Bd 0 9 (u2 10 0) ∧ Bd 0 4 (u2 10 2) ∧ AB u2 6 (-1) 999 ∧ AB u2 11 (-1) 999 ∧ Bd 0 12 (u2 15 0) ∧ Bd 0 12 (u2 19 0) ∧ Bd 0 12 (u2 23 0) ∧ (KM u2 15) ∧ (KM u2 19) ∧ (KM u2 23) ∧ (∀ c, c ≠ 1 → c ≠ 5 → c ≠ 6 → c ≠ 7 → c ≠ 8 → c ≠ 9 → c ≠ 10 → c ≠ 11 → c ≠ 12 → c ≠ 13 → c ≠ 14 → c ≠ 15 → c ≠ 16 → c ≠ 17 → c ≠ 18 → c ≠ 19 → c ≠ 20 → c ≠ 21 → c ≠ 22 → c ≠ 23 → c ≠ 24 → c ≠ 25 → c ≠ 26 → u2 c = u c) ∧ (∀ j, j ≠ 5 → j ≠ 7 → u2 1 j = u 1 j) ∧ (∀ j, j ≠ 0 → j ≠ 2 → u2 5 j = u 5 j) ∧ (∀ j, j ≠ 0 → j ≠ 2 → u2 10 j = u 10 j) ∧ (∀ j, j ≠ 0 → u2 15 j = u 15 j) ∧ (∀ j, j ≠ 0 → u2 19 j = u 19 j) ∧ (∀ j, j ≠ 0 → u2 23 j = u 23 j)) := by
  refine CT_of (by decide) (Nat.le_of_ble_eq_true rfl) (fun x hq => ?_)
  show J x yX7_keep cX7_keep 4 none d 0 0 (Wd u g ex).length 0 [(0, .ref 1), (1, .int sort), (2, .int number), (3, .ref 29)] [] (Wd u g ex) 0 0
  rcases hp21 with ⟨he, hb⟩ | ⟨he, hb⟩
  · refine J_iload_n (i := 1) (j := 1) dX7_keep_0 rfl rfl ?_
    refine J_if_ne (tgt := 34) dX7_keep_1 (by decide) (fun c1 => ?_) (fun c1 => ?_)
    · exact (bd_no (bd_ne_lo (bd_r he (bd_c (v := 0) (lo := 0) (hi := 0) (by decide))) c1 (by decide)) (by decide)).elim
    · refine J_aload_n (i := 0) (j := 0) dX7_keep_4 rfl rfl ?_
      refine J_get (C := RX7) (T := TX7) (Z := 8) (ci := 7) (f := 4) dX7_keep_5 inG7 rfl (by decide) k194 wc_1 rfl ?_
      refine J_iload_n (i := 2) (j := 2) dX7_keep_8 rfl rfl ?_
      have h2 := bd_cases2 hb
      rcases h2 with h2_0 | h2_1
      · refine J_aald (q := 5) dX7_keep_9 wc_3 (fun _ => rfl) (vin hb (by decide)) (by rw [h2_0]; rfl) ?_
        refine J_aload_n (i := 3) (j := 3) dX7_keep_10 rfl rfl ?_
        refine J_getN (C := RX3) (T := TX3) (Z := 7) (ci := 3) (f := 1) dX7_keep_11 inG3 rfl (by decide) k262 wc_29 rfl ?_
        refine J_callV (As := [.ref 32]) (rest := []) dX7_keep_14 (c_H_copyB (d := 1) (u := u) (g := g) (ex := ex)  (t := 5) (f := 32) (by decide) (by decide) (by decide) (by decide) hp16 hp17 hp8 hp18) hq.n k680 k681 k682 wc_5 rfl rfl k89 k683 np_X1_copy (Nat.le_trans (by decide) hd) (by decide) (Nat.le_refl _) (Nat.le_refl _) wlen rfl (Nat.le_of_ble_eq_true rfl) (fun r_ h_ p3 => ?_)
        obtain ⟨u4, rfl, rfl, h5, h6, h7, fr8, fc9⟩ := p3
        refine J_aload_n (i := 0) (j := 0) dX7_keep_17 rfl rfl ?_
        refine J_aload_n (i := 0) (j := 0) dX7_keep_18 rfl rfl ?_
        refine J_get (C := RX7) (T := TX7) (Z := 8) (ci := 7) (f := 5) dX7_keep_19 inG7 rfl (by decide) k196 wc_1 rfl ?_
        refine J_ci (v := u 1 5) (congrFun (fr8 1 (by decide) (by decide) (by decide) (by decide) (by decide)) 5) ?_
        refine J_iload_n (i := 2) (j := 2) dX7_keep_22 rfl rfl ?_
        refine J_iconst (v := 1) dX7_keep_23 (by decide) ?_
        refine J_iadd dX7_keep_24 ?_
        refine J_mmax dX7_keep_25 k687 k688 k99 k689 (Nat.le_trans (by decide) hd) (Nat.le_of_ble_eq_true rfl) (Nat.zero_le _) (Nat.zero_le _) ?_
        refine J_topi (fun v10 qv10 => ?_)
        obtain ⟨u11, e12⟩ : ∃ z, z = ms u4 1 5 v10 := ⟨_, rfl⟩
        refine J_put (C := RX7) (T := TX7) (Z := 8) (ci := 7) (f := 5) (ty0 := tyX7) dX7_keep_28 inG7 rfl tyX7_ok nmX7 (by decide) k196 rfl rfl wc_1 (Nat.le_of_ble_eq_true rfl) (fun _ _ => ⟨rfl, rfl⟩) (ws e12 wk_1 rfl) ?_
        refine J_goto (tgt := 61) dX7_keep_31 (by decide) ?_
        exact J_vret hq dX7_keep_61 rfl wlen (Nat.le_refl _) (Nat.le_refl _) ⟨u11, rfl, rfl, (bd_r (ms_e e12) (bd_w (l := 0) (h := 2) (bd_r qv10 (bd_max (l := 1) (h := 2) hp1 (bd_add (l := 1) (h := 1) (bd_r h2_0 (bd_c (v := 0) (lo := 0) (hi := 0) (by decide))) (bd_c (v := 1) (lo := 1) (hi := 1) (by decide)) (by decide)) (by decide))) (by decide))), (bd_r ((ms_i e12 (by decide)).trans (congrFun (fr8 1 (by decide) (by decide) (by decide) (by decide) (by decide)) 7)) hp2), (bd_r (congrFun (ms_c e12 (by decide)) 0) h5), (bd_r (congrFun (ms_c e12 (by decide)) 2) h6), (bd_r ((congrFun (ms_c e12 (by decide)) 0).trans (congrFun (fr8 10 (by decide) (by decide) (by decide) (by decide) (by decide)) 0)) hp6), (bd_r ((congrFun (ms_c e12 (by decide)) 2).trans (congrFun (fr8 10 (by decide) (by decide) (by decide) (by decide) (by decide)) 2)) hp7), (ab_c (ms_c e12 (by decide)) h7), (ab_c ((ms_c e12 (by decide)).trans (fr8 11 (by decide) (by decide) (by decide) (by decide) (by decide))) hp9), (bd_r ((congrFun (ms_c e12 (by decide)) 0).trans (congrFun (fr8 15 (by decide) (by decide) (by decide) (by decide) (by decide)) 0)) hp10), (bd_r ((congrFun (ms_c e12 (by decide)) 0).trans (congrFun (fr8 19 (by decide) (by decide) (by decide) (by decide) (by decide)) 0)) hp11), (bd_r ((congrFun (ms_c e12 (by decide)) 0).trans (congrFun (fr8 23 (by decide) (by decide) (by decide) (by decide) (by decide)) 0)) hp12), (km_c ((ms_c e12 (by decide)).trans (fr8 16 (by decide) (by decide) (by decide) (by decide) (by decide))) ((ms_c e12 (by decide)).trans (fr8 18 (by decide) (by decide) (by decide) (by decide) (by decide))) hp13), (km_c ((ms_c e12 (by decide)).trans (fr8 20 (by decide) (by decide) (by decide) (by decide) (by decide))) ((ms_c e12 (by decide)).trans (fr8 22 (by decide) (by decide) (by decide) (by decide) (by decide))) hp14), (km_c ((ms_c e12 (by decide)).trans (fr8 24 (by decide) (by decide) (by decide) (by decide) (by decide))) ((ms_c e12 (by decide)).trans (fr8 26 (by decide) (by decide) (by decide) (by decide) (by decide))) hp15), (fun c k0_ k1_ k2_ k3_ k4_ k5_ k6_ k7_ k8_ k9_ k10_ k11_ k12_ k13_ k14_ k15_ k16_ k17_ k18_ k19_ k20_ k21_ k22_ => ((ms_c e12 k0_).trans (fr8 c k1_ k2_ k3_ k4_ k5_))), (fun j k5_ k7_ => ((ms_i e12 k5_).trans (congrFun (fr8 1 (by decide) (by decide) (by decide) (by decide) (by decide)) j))), (fun j k0_ k2_ => ((congrFun (ms_c e12 (by decide)) j).trans (fc9 j k0_ k2_))), (fun j k0_ k2_ => ((congrFun (ms_c e12 (by decide)) j).trans (congrFun (fr8 10 (by decide) (by decide) (by decide) (by decide) (by decide)) j))), (fun j k0_ => ((congrFun (ms_c e12 (by decide)) j).trans (congrFun (fr8 15 (by decide) (by decide) (by decide) (by decide) (by decide)) j))), (fun j k0_ => ((congrFun (ms_c e12 (by decide)) j).trans (congrFun (fr8 19 (by decide) (by decide) (by decide) (by decide) (by decide)) j))), (fun j k0_ => ((congrFun (ms_c e12 (by decide)) j).trans (congrFun (fr8 23 (by decide) (by decide) (by decide) (by decide) (by decide)) j)))⟩
      · refine J_aald (q := 10) dX7_keep_9 wc_3 (fun _ => rfl) (vin hb (by decide)) (by rw [h2_1]; rfl) ?_
        refine J_aload_n (i := 3) (j := 3) dX7_keep_10 rfl rfl ?_
        refine J_getN (C := RX3) (T := TX3) (Z := 7) (ci := 3) (f := 1) dX7_keep_11 inG3 rfl (by decide) k262 wc_29 rfl ?_
        refine J_callV (As := [.ref 32]) (rest := []) dX7_keep_14 (c_H_copyB (d := 1) (u := u) (g := g) (ex := ex)  (t := 10) (f := 32) (by decide) (by decide) (by decide) (by decide) hp16 hp17 hp9 hp18) hq.n k680 k681 k682 wc_10 rfl rfl k89 k683 np_X1_copy (Nat.le_trans (by decide) hd) (by decide) (Nat.le_refl _) (Nat.le_refl _) wlen rfl (Nat.le_of_ble_eq_true rfl) (fun r_ h_ p13 => ?_)
        obtain ⟨u14, rfl, rfl, h15, h16, h17, fr18, fc19⟩ := p13
        refine J_aload_n (i := 0) (j := 0) dX7_keep_17 rfl rfl ?_
        refine J_aload_n (i := 0) (j := 0) dX7_keep_18 rfl rfl ?_
        refine J_get (C := RX7) (T := TX7) (Z := 8) (ci := 7) (f := 5) dX7_keep_19 inG7 rfl (by decide) k196 wc_1 rfl ?_
        refine J_ci (v := u 1 5) (congrFun (fr18 1 (by decide) (by decide) (by decide) (by decide) (by decide)) 5) ?_
        refine J_iload_n (i := 2) (j := 2) dX7_keep_22 rfl rfl ?_
        refine J_iconst (v := 1) dX7_keep_23 (by decide) ?_
        refine J_iadd dX7_keep_24 ?_
        refine J_mmax dX7_keep_25 k687 k688 k99 k689 (Nat.le_trans (by decide) hd) (Nat.le_of_ble_eq_true rfl) (Nat.zero_le _) (Nat.zero_le _) ?_
        refine J_topi (fun v20 qv20 => ?_)
        obtain ⟨u21, e22⟩ : ∃ z, z = ms u14 1 5 v20 := ⟨_, rfl⟩
        refine J_put (C := RX7) (T := TX7) (Z := 8) (ci := 7) (f := 5) (ty0 := tyX7) dX7_keep_28 inG7 rfl tyX7_ok nmX7 (by decide) k196 rfl rfl wc_1 (Nat.le_of_ble_eq_true rfl) (fun _ _ => ⟨rfl, rfl⟩) (ws e22 wk_1 rfl) ?_
        refine J_goto (tgt := 61) dX7_keep_31 (by decide) ?_
        exact J_vret hq dX7_keep_61 rfl wlen (Nat.le_refl _) (Nat.le_refl _) ⟨u21, rfl, rfl, (bd_r (ms_e e22) (bd_w (l := 0) (h := 2) (bd_r qv20 (bd_max (l := 2) (h := 2) hp1 (bd_add (l := 2) (h := 2) (bd_r h2_1 (bd_c (v := 1) (lo := 1) (hi := 1) (by decide))) (bd_c (v := 1) (lo := 1) (hi := 1) (by decide)) (by decide)) (by decide))) (by decide))), (bd_r ((ms_i e22 (by decide)).trans (congrFun (fr18 1 (by decide) (by decide) (by decide) (by decide) (by decide)) 7)) hp2), (bd_r ((congrFun (ms_c e22 (by decide)) 0).trans (congrFun (fr18 5 (by decide) (by decide) (by decide) (by decide) (by decide)) 0)) hp4), (bd_r ((congrFun (ms_c e22 (by decide)) 2).trans (congrFun (fr18 5 (by decide) (by decide) (by decide) (by decide) (by decide)) 2)) hp5), (bd_r (congrFun (ms_c e22 (by decide)) 0) h15), (bd_r (congrFun (ms_c e22 (by decide)) 2) h16), (ab_c ((ms_c e22 (by decide)).trans (fr18 6 (by decide) (by decide) (by decide) (by decide) (by decide))) hp8), (ab_c (ms_c e22 (by decide)) h17), (bd_r ((congrFun (ms_c e22 (by decide)) 0).trans (congrFun (fr18 15 (by decide) (by decide) (by decide) (by decide) (by decide)) 0)) hp10), (bd_r ((congrFun (ms_c e22 (by decide)) 0).trans (congrFun (fr18 19 (by decide) (by decide) (by decide) (by decide) (by decide)) 0)) hp11), (bd_r ((congrFun (ms_c e22 (by decide)) 0).trans (congrFun (fr18 23 (by decide) (by decide) (by decide) (by decide) (by decide)) 0)) hp12), (km_c ((ms_c e22 (by decide)).trans (fr18 16 (by decide) (by decide) (by decide) (by decide) (by decide))) ((ms_c e22 (by decide)).trans (fr18 18 (by decide) (by decide) (by decide) (by decide) (by decide))) hp13), (km_c ((ms_c e22 (by decide)).trans (fr18 20 (by decide) (by decide) (by decide) (by decide) (by decide))) ((ms_c e22 (by decide)).trans (fr18 22 (by decide) (by decide) (by decide) (by decide) (by decide))) hp14), (km_c ((ms_c e22 (by decide)).trans (fr18 24 (by decide) (by decide) (by decide) (by decide) (by decide))) ((ms_c e22 (by decide)).trans (fr18 26 (by decide) (by decide) (by decide) (by decide) (by decide))) hp15), (fun c k0_ k1_ k2_ k3_ k4_ k5_ k6_ k7_ k8_ k9_ k10_ k11_ k12_ k13_ k14_ k15_ k16_ k17_ k18_ k19_ k20_ k21_ k22_ => ((ms_c e22 k0_).trans (fr18 c k6_ k7_ k8_ k9_ k10_))), (fun j k5_ k7_ => ((ms_i e22 k5_).trans (congrFun (fr18 1 (by decide) (by decide) (by decide) (by decide) (by decide)) j))), (fun j k0_ k2_ => ((congrFun (ms_c e22 (by decide)) j).trans (congrFun (fr18 5 (by decide) (by decide) (by decide) (by decide) (by decide)) j))), (fun j k0_ k2_ => ((congrFun (ms_c e22 (by decide)) j).trans (fc19 j k0_ k2_))), (fun j k0_ => ((congrFun (ms_c e22 (by decide)) j).trans (congrFun (fr18 15 (by decide) (by decide) (by decide) (by decide) (by decide)) j))), (fun j k0_ => ((congrFun (ms_c e22 (by decide)) j).trans (congrFun (fr18 19 (by decide) (by decide) (by decide) (by decide) (by decide)) j))), (fun j k0_ => ((congrFun (ms_c e22 (by decide)) j).trans (congrFun (fr18 23 (by decide) (by decide) (by decide) (by decide) (by decide)) j)))⟩
  · refine J_iload_n (i := 1) (j := 1) dX7_keep_0 rfl rfl ?_
    refine J_if_ne (tgt := 34) dX7_keep_1 (by decide) (fun c23 => ?_) (fun c23 => ?_)
    · refine J_aload_n (i := 0) (j := 0) dX7_keep_34 rfl rfl ?_
      refine J_get (C := RX7) (T := TX7) (Z := 8) (ci := 7) (f := 6) dX7_keep_35 inG7 rfl (by decide) k198 wc_1 rfl ?_
      refine J_iload_n (i := 2) (j := 2) dX7_keep_38 rfl rfl ?_
      have h24 := bd_cases3 hb
      rcases h24 with h24_0 | h24_1 | h24_2
      · refine J_aald (q := 15) dX7_keep_39 wc_4 (fun _ => rfl) (vin hb (by decide)) (by rw [h24_0]; rfl) ?_
        refine J_aload_n (i := 3) (j := 3) dX7_keep_40 rfl rfl ?_
        refine J_getN (C := RX3) (T := TX3) (Z := 7) (ci := 3) (f := 2) dX7_keep_41 inG3 rfl (by decide) k264 wc_29 rfl ?_
        refine J_callV (As := [.ref 37]) (rest := []) dX7_keep_44 (c_W_copyK_15_37 (d := 1) (u := u) (g := g) (ex := ex)   (by decide) hp19 hp20 hp13) hq.n k690 k691 k692 wc_15 rfl rfl k90 k693 np_X8_copy (Nat.le_trans (by decide) hd) (by decide) (Nat.le_refl _) (Nat.le_refl _) wlen rfl (Nat.le_of_ble_eq_true rfl) (fun r_ h_ p25 => ?_)
        obtain ⟨u26, rfl, rfl, h27, h28, fr29, fc30⟩ := p25
        refine J_aload_n (i := 0) (j := 0) dX7_keep_47 rfl rfl ?_
        refine J_aload_n (i := 0) (j := 0) dX7_keep_48 rfl rfl ?_
        refine J_get (C := RX7) (T := TX7) (Z := 8) (ci := 7) (f := 7) dX7_keep_49 inG7 rfl (by decide) k200 wc_1 rfl ?_
        refine J_ci (v := u 1 7) (congrFun (fr29 1 (by decide) (by decide) (by decide) (by decide)) 7) ?_
        refine J_iload_n (i := 2) (j := 2) dX7_keep_52 rfl rfl ?_
        refine J_iconst (v := 1) dX7_keep_53 (by decide) ?_
        refine J_iadd dX7_keep_54 ?_
        refine J_mmax dX7_keep_55 k687 k688 k99 k689 (Nat.le_trans (by decide) hd) (Nat.le_of_ble_eq_true rfl) (Nat.zero_le _) (Nat.zero_le _) ?_
        refine J_topi (fun v31 qv31 => ?_)
        obtain ⟨u32, e33⟩ : ∃ z, z = ms u26 1 7 v31 := ⟨_, rfl⟩
        refine J_put (C := RX7) (T := TX7) (Z := 8) (ci := 7) (f := 7) (ty0 := tyX7) dX7_keep_58 inG7 rfl tyX7_ok nmX7 (by decide) k200 rfl rfl wc_1 (Nat.le_of_ble_eq_true rfl) (fun _ _ => ⟨rfl, rfl⟩) (ws e33 wk_1 rfl) ?_
        exact J_vret hq dX7_keep_61 rfl wlen (Nat.le_refl _) (Nat.le_refl _) ⟨u32, rfl, rfl, (bd_r ((ms_i e33 (by decide)).trans (congrFun (fr29 1 (by decide) (by decide) (by decide) (by decide)) 5)) hp1), (bd_r (ms_e e33) (bd_w (l := 0) (h := 3) (bd_r qv31 (bd_max (l := 1) (h := 3) hp2 (bd_add (l := 1) (h := 1) (bd_r h24_0 (bd_c (v := 0) (lo := 0) (hi := 0) (by decide))) (bd_c (v := 1) (lo := 1) (hi := 1) (by decide)) (by decide)) (by decide))) (by decide))), (bd_r ((congrFun (ms_c e33 (by decide)) 0).trans (congrFun (fr29 5 (by decide) (by decide) (by decide) (by decide)) 0)) hp4), (bd_r ((congrFun (ms_c e33 (by decide)) 2).trans (congrFun (fr29 5 (by decide) (by decide) (by decide) (by decide)) 2)) hp5), (bd_r ((congrFun (ms_c e33 (by decide)) 0).trans (congrFun (fr29 10 (by decide) (by decide) (by decide) (by decide)) 0)) hp6), (bd_r ((congrFun (ms_c e33 (by decide)) 2).trans (congrFun (fr29 10 (by decide) (by decide) (by decide) (by decide)) 2)) hp7), (ab_c ((ms_c e33 (by decide)).trans (fr29 6 (by decide) (by decide) (by decide) (by decide))) hp8), (ab_c ((ms_c e33 (by decide)).trans (fr29 11 (by decide) (by decide) (by decide) (by decide))) hp9), (bd_r (congrFun (ms_c e33 (by decide)) 0) h27), (bd_r ((congrFun (ms_c e33 (by decide)) 0).trans (congrFun (fr29 19 (by decide) (by decide) (by decide) (by decide)) 0)) hp11), (bd_r ((congrFun (ms_c e33 (by decide)) 0).trans (congrFun (fr29 23 (by decide) (by decide) (by decide) (by decide)) 0)) hp12), (km_c (ms_c e33 (by decide)) (ms_c e33 (by decide)) h28), (km_c ((ms_c e33 (by decide)).trans (fr29 20 (by decide) (by decide) (by decide) (by decide))) ((ms_c e33 (by decide)).trans (fr29 22 (by decide) (by decide) (by decide) (by decide))) hp14), (km_c ((ms_c e33 (by decide)).trans (fr29 24 (by decide) (by decide) (by decide) (by decide))) ((ms_c e33 (by decide)).trans (fr29 26 (by decide) (by decide) (by decide) (by decide))) hp15), (fun c k0_ k1_ k2_ k3_ k4_ k5_ k6_ k7_ k8_ k9_ k10_ k11_ k12_ k13_ k14_ k15_ k16_ k17_ k18_ k19_ k20_ k21_ k22_ => ((ms_c e33 k0_).trans (fr29 c k11_ k12_ k13_ k14_))), (fun j k5_ k7_ => ((ms_i e33 k7_).trans (congrFun (fr29 1 (by decide) (by decide) (by decide) (by decide)) j))), (fun j k0_ k2_ => ((congrFun (ms_c e33 (by decide)) j).trans (congrFun (fr29 5 (by decide) (by decide) (by decide) (by decide)) j))), (fun j k0_ k2_ => ((congrFun (ms_c e33 (by decide)) j).trans (congrFun (fr29 10 (by decide) (by decide) (by decide) (by decide)) j))), (fun j k0_ => ((congrFun (ms_c e33 (by decide)) j).trans (fc30 j k0_))), (fun j k0_ => ((congrFun (ms_c e33 (by decide)) j).trans (congrFun (fr29 19 (by decide) (by decide) (by decide) (by decide)) j))), (fun j k0_ => ((congrFun (ms_c e33 (by decide)) j).trans (congrFun (fr29 23 (by decide) (by decide) (by decide) (by decide)) j)))⟩
      · refine J_aald (q := 19) dX7_keep_39 wc_4 (fun _ => rfl) (vin hb (by decide)) (by rw [h24_1]; rfl) ?_
        refine J_aload_n (i := 3) (j := 3) dX7_keep_40 rfl rfl ?_
        refine J_getN (C := RX3) (T := TX3) (Z := 7) (ci := 3) (f := 2) dX7_keep_41 inG3 rfl (by decide) k264 wc_29 rfl ?_
        refine J_callV (As := [.ref 37]) (rest := []) dX7_keep_44 (c_W_copyK_19_37 (d := 1) (u := u) (g := g) (ex := ex)   (by decide) hp19 hp20 hp14) hq.n k690 k691 k692 wc_19 rfl rfl k90 k693 np_X8_copy (Nat.le_trans (by decide) hd) (by decide) (Nat.le_refl _) (Nat.le_refl _) wlen rfl (Nat.le_of_ble_eq_true rfl) (fun r_ h_ p34 => ?_)
        obtain ⟨u35, rfl, rfl, h36, h37, fr38, fc39⟩ := p34
        refine J_aload_n (i := 0) (j := 0) dX7_keep_47 rfl rfl ?_
        refine J_aload_n (i := 0) (j := 0) dX7_keep_48 rfl rfl ?_
        refine J_get (C := RX7) (T := TX7) (Z := 8) (ci := 7) (f := 7) dX7_keep_49 inG7 rfl (by decide) k200 wc_1 rfl ?_
        refine J_ci (v := u 1 7) (congrFun (fr38 1 (by decide) (by decide) (by decide) (by decide)) 7) ?_
        refine J_iload_n (i := 2) (j := 2) dX7_keep_52 rfl rfl ?_
        refine J_iconst (v := 1) dX7_keep_53 (by decide) ?_
        refine J_iadd dX7_keep_54 ?_
        refine J_mmax dX7_keep_55 k687 k688 k99 k689 (Nat.le_trans (by decide) hd) (Nat.le_of_ble_eq_true rfl) (Nat.zero_le _) (Nat.zero_le _) ?_
        refine J_topi (fun v40 qv40 => ?_)
        obtain ⟨u41, e42⟩ : ∃ z, z = ms u35 1 7 v40 := ⟨_, rfl⟩
        refine J_put (C := RX7) (T := TX7) (Z := 8) (ci := 7) (f := 7) (ty0 := tyX7) dX7_keep_58 inG7 rfl tyX7_ok nmX7 (by decide) k200 rfl rfl wc_1 (Nat.le_of_ble_eq_true rfl) (fun _ _ => ⟨rfl, rfl⟩) (ws e42 wk_1 rfl) ?_
        exact J_vret hq dX7_keep_61 rfl wlen (Nat.le_refl _) (Nat.le_refl _) ⟨u41, rfl, rfl, (bd_r ((ms_i e42 (by decide)).trans (congrFun (fr38 1 (by decide) (by decide) (by decide) (by decide)) 5)) hp1), (bd_r (ms_e e42) (bd_w (l := 0) (h := 3) (bd_r qv40 (bd_max (l := 2) (h := 3) hp2 (bd_add (l := 2) (h := 2) (bd_r h24_1 (bd_c (v := 1) (lo := 1) (hi := 1) (by decide))) (bd_c (v := 1) (lo := 1) (hi := 1) (by decide)) (by decide)) (by decide))) (by decide))), (bd_r ((congrFun (ms_c e42 (by decide)) 0).trans (congrFun (fr38 5 (by decide) (by decide) (by decide) (by decide)) 0)) hp4), (bd_r ((congrFun (ms_c e42 (by decide)) 2).trans (congrFun (fr38 5 (by decide) (by decide) (by decide) (by decide)) 2)) hp5), (bd_r ((congrFun (ms_c e42 (by decide)) 0).trans (congrFun (fr38 10 (by decide) (by decide) (by decide) (by decide)) 0)) hp6), (bd_r ((congrFun (ms_c e42 (by decide)) 2).trans (congrFun (fr38 10 (by decide) (by decide) (by decide) (by decide)) 2)) hp7), (ab_c ((ms_c e42 (by decide)).trans (fr38 6 (by decide) (by decide) (by decide) (by decide))) hp8), (ab_c ((ms_c e42 (by decide)).trans (fr38 11 (by decide) (by decide) (by decide) (by decide))) hp9), (bd_r ((congrFun (ms_c e42 (by decide)) 0).trans (congrFun (fr38 15 (by decide) (by decide) (by decide) (by decide)) 0)) hp10), (bd_r (congrFun (ms_c e42 (by decide)) 0) h36), (bd_r ((congrFun (ms_c e42 (by decide)) 0).trans (congrFun (fr38 23 (by decide) (by decide) (by decide) (by decide)) 0)) hp12), (km_c ((ms_c e42 (by decide)).trans (fr38 16 (by decide) (by decide) (by decide) (by decide))) ((ms_c e42 (by decide)).trans (fr38 18 (by decide) (by decide) (by decide) (by decide))) hp13), (km_c (ms_c e42 (by decide)) (ms_c e42 (by decide)) h37), (km_c ((ms_c e42 (by decide)).trans (fr38 24 (by decide) (by decide) (by decide) (by decide))) ((ms_c e42 (by decide)).trans (fr38 26 (by decide) (by decide) (by decide) (by decide))) hp15), (fun c k0_ k1_ k2_ k3_ k4_ k5_ k6_ k7_ k8_ k9_ k10_ k11_ k12_ k13_ k14_ k15_ k16_ k17_ k18_ k19_ k20_ k21_ k22_ => ((ms_c e42 k0_).trans (fr38 c k15_ k16_ k17_ k18_))), (fun j k5_ k7_ => ((ms_i e42 k7_).trans (congrFun (fr38 1 (by decide) (by decide) (by decide) (by decide)) j))), (fun j k0_ k2_ => ((congrFun (ms_c e42 (by decide)) j).trans (congrFun (fr38 5 (by decide) (by decide) (by decide) (by decide)) j))), (fun j k0_ k2_ => ((congrFun (ms_c e42 (by decide)) j).trans (congrFun (fr38 10 (by decide) (by decide) (by decide) (by decide)) j))), (fun j k0_ => ((congrFun (ms_c e42 (by decide)) j).trans (congrFun (fr38 15 (by decide) (by decide) (by decide) (by decide)) j))), (fun j k0_ => ((congrFun (ms_c e42 (by decide)) j).trans (fc39 j k0_))), (fun j k0_ => ((congrFun (ms_c e42 (by decide)) j).trans (congrFun (fr38 23 (by decide) (by decide) (by decide) (by decide)) j)))⟩
      · refine J_aald (q := 23) dX7_keep_39 wc_4 (fun _ => rfl) (vin hb (by decide)) (by rw [h24_2]; rfl) ?_
        refine J_aload_n (i := 3) (j := 3) dX7_keep_40 rfl rfl ?_
        refine J_getN (C := RX3) (T := TX3) (Z := 7) (ci := 3) (f := 2) dX7_keep_41 inG3 rfl (by decide) k264 wc_29 rfl ?_
        refine J_callV (As := [.ref 37]) (rest := []) dX7_keep_44 (c_W_copyK_23_37 (d := 1) (u := u) (g := g) (ex := ex)   (by decide) hp19 hp20 hp15) hq.n k690 k691 k692 wc_23 rfl rfl k90 k693 np_X8_copy (Nat.le_trans (by decide) hd) (by decide) (Nat.le_refl _) (Nat.le_refl _) wlen rfl (Nat.le_of_ble_eq_true rfl) (fun r_ h_ p43 => ?_)
        obtain ⟨u44, rfl, rfl, h45, h46, fr47, fc48⟩ := p43
        refine J_aload_n (i := 0) (j := 0) dX7_keep_47 rfl rfl ?_
        refine J_aload_n (i := 0) (j := 0) dX7_keep_48 rfl rfl ?_
        refine J_get (C := RX7) (T := TX7) (Z := 8) (ci := 7) (f := 7) dX7_keep_49 inG7 rfl (by decide) k200 wc_1 rfl ?_
        refine J_ci (v := u 1 7) (congrFun (fr47 1 (by decide) (by decide) (by decide) (by decide)) 7) ?_
        refine J_iload_n (i := 2) (j := 2) dX7_keep_52 rfl rfl ?_
        refine J_iconst (v := 1) dX7_keep_53 (by decide) ?_
        refine J_iadd dX7_keep_54 ?_
        refine J_mmax dX7_keep_55 k687 k688 k99 k689 (Nat.le_trans (by decide) hd) (Nat.le_of_ble_eq_true rfl) (Nat.zero_le _) (Nat.zero_le _) ?_
        refine J_topi (fun v49 qv49 => ?_)
        obtain ⟨u50, e51⟩ : ∃ z, z = ms u44 1 7 v49 := ⟨_, rfl⟩
        refine J_put (C := RX7) (T := TX7) (Z := 8) (ci := 7) (f := 7) (ty0 := tyX7) dX7_keep_58 inG7 rfl tyX7_ok nmX7 (by decide) k200 rfl rfl wc_1 (Nat.le_of_ble_eq_true rfl) (fun _ _ => ⟨rfl, rfl⟩) (ws e51 wk_1 rfl) ?_
        exact J_vret hq dX7_keep_61 rfl wlen (Nat.le_refl _) (Nat.le_refl _) ⟨u50, rfl, rfl, (bd_r ((ms_i e51 (by decide)).trans (congrFun (fr47 1 (by decide) (by decide) (by decide) (by decide)) 5)) hp1), (bd_r (ms_e e51) (bd_w (l := 0) (h := 3) (bd_r qv49 (bd_max (l := 3) (h := 3) hp2 (bd_add (l := 3) (h := 3) (bd_r h24_2 (bd_c (v := 2) (lo := 2) (hi := 2) (by decide))) (bd_c (v := 1) (lo := 1) (hi := 1) (by decide)) (by decide)) (by decide))) (by decide))), (bd_r ((congrFun (ms_c e51 (by decide)) 0).trans (congrFun (fr47 5 (by decide) (by decide) (by decide) (by decide)) 0)) hp4), (bd_r ((congrFun (ms_c e51 (by decide)) 2).trans (congrFun (fr47 5 (by decide) (by decide) (by decide) (by decide)) 2)) hp5), (bd_r ((congrFun (ms_c e51 (by decide)) 0).trans (congrFun (fr47 10 (by decide) (by decide) (by decide) (by decide)) 0)) hp6), (bd_r ((congrFun (ms_c e51 (by decide)) 2).trans (congrFun (fr47 10 (by decide) (by decide) (by decide) (by decide)) 2)) hp7), (ab_c ((ms_c e51 (by decide)).trans (fr47 6 (by decide) (by decide) (by decide) (by decide))) hp8), (ab_c ((ms_c e51 (by decide)).trans (fr47 11 (by decide) (by decide) (by decide) (by decide))) hp9), (bd_r ((congrFun (ms_c e51 (by decide)) 0).trans (congrFun (fr47 15 (by decide) (by decide) (by decide) (by decide)) 0)) hp10), (bd_r ((congrFun (ms_c e51 (by decide)) 0).trans (congrFun (fr47 19 (by decide) (by decide) (by decide) (by decide)) 0)) hp11), (bd_r (congrFun (ms_c e51 (by decide)) 0) h45), (km_c ((ms_c e51 (by decide)).trans (fr47 16 (by decide) (by decide) (by decide) (by decide))) ((ms_c e51 (by decide)).trans (fr47 18 (by decide) (by decide) (by decide) (by decide))) hp13), (km_c ((ms_c e51 (by decide)).trans (fr47 20 (by decide) (by decide) (by decide) (by decide))) ((ms_c e51 (by decide)).trans (fr47 22 (by decide) (by decide) (by decide) (by decide))) hp14), (km_c (ms_c e51 (by decide)) (ms_c e51 (by decide)) h46), (fun c k0_ k1_ k2_ k3_ k4_ k5_ k6_ k7_ k8_ k9_ k10_ k11_ k12_ k13_ k14_ k15_ k16_ k17_ k18_ k19_ k20_ k21_ k22_ => ((ms_c e51 k0_).trans (fr47 c k19_ k20_ k21_ k22_))), (fun j k5_ k7_ => ((ms_i e51 k7_).trans (congrFun (fr47 1 (by decide) (by decide) (by decide) (by decide)) j))), (fun j k0_ k2_ => ((congrFun (ms_c e51 (by decide)) j).trans (congrFun (fr47 5 (by decide) (by decide) (by decide) (by decide)) j))), (fun j k0_ k2_ => ((congrFun (ms_c e51 (by decide)) j).trans (congrFun (fr47 10 (by decide) (by decide) (by decide) (by decide)) j))), (fun j k0_ => ((congrFun (ms_c e51 (by decide)) j).trans (congrFun (fr47 15 (by decide) (by decide) (by decide) (by decide)) j))), (fun j k0_ => ((congrFun (ms_c e51 (by decide)) j).trans (congrFun (fr47 19 (by decide) (by decide) (by decide) (by decide)) j))), (fun j k0_ => ((congrFun (ms_c e51 (by decide)) j).trans (fc48 j k0_)))⟩
    · exact (bd_neq c23 (bd_r he (bd_c (v := 1) (lo := 1) (hi := 1) (by decide))) (bd_c (v := 0) (lo := 0) (hi := 0) (by decide)) (by decide)).elim
set_option maxHeartbeats 4000000 in
set_option maxRecDepth 100000 in
theorem c_P_text {d : Nat} {u : Nat → Nat → Int32} {g : Nat → Nat → Int64} {ex : List MC} {sort : Int32} {at0 : Int32} (hd : 8 ≤ d) (hp0 : Bd 0 600 (u 1 1)) (hp1 : Bd 0 2 (u 1 5)) (hp2 : Bd 0 3 (u 1 7)) (hp3 : BF u 2) (hp4 : Bd 0 9 (u 5 0)) (hp5 : Bd 0 4 (u 5 2)) (hp6 : Bd 0 9 (u 10 0)) (hp7 : Bd 0 4 (u 10 2)) (hp8 : AB u 6 (-1) 999) (hp9 : AB u 11 (-1) 999) (hp10 : Bd 0 12 (u 15 0)) (hp11 : Bd 0 12 (u 19 0)) (hp12 : Bd 0 12 (u 23 0)) (hp13 : (KM u 15)) (hp14 : (KM u 19)) (hp15 : (KM u 23)) (hp16 : AB u 33 (-1) 999) (hp17 : (KM u 37)) (hp18 : Bd 0 9 (u 32 0)) (hp19 : Bd 0 4 (u 32 2)) (hp20 : Bd 0 12 (u 37 0)) (hp21 : AB u 41 0 999) : CT con0 d 0 0 yX10_text cX10_text 5 (some .int) [.ref 0, .int sort, .int at0] (Wd u g ex) (fun r h2 => ∃ (z : Int32) (u2 : Nat → Nat → Int32), r = some (.int z) ∧ h2 = Wd u2 g ex ∧ Bd 0 600 (u2 1 1) ∧ Bd 0 2 (u2 1 5) ∧ Bd 0 3 (u2 1 7) ∧ Bd 0 9 (u2 5 0) ∧ Bd 0 4 (u2 5 2) ∧ Bd 0 9 (u2 10 0) ∧ Bd 0 4 (u2 10 2) ∧ AB u2 6 (-1) 999 ∧ AB u2 11 (-1) 999 ∧ Bd 0 12 (u2 15 0) ∧ Bd 0 12 (u2 19 0) ∧ Bd 0 12 (u2 23 0) ∧ (KM u2 15) ∧ (KM u2 19) ∧ (KM u2 23) ∧ Bd 0 9 (u2 32 0) ∧ Bd 0 4 (u2 32 2) ∧ AB u2 33 (-1) 999 ∧ Bd 0 12 (u2 37 0) ∧ (KM u2 37) ∧ AB u2 41 0 999 ∧ (∀ c, c ≠ 1 → c ≠ 5 → c ≠ 6 → c ≠ 7 → c ≠ 8 → c ≠ 9 → c ≠ 10 → c ≠ 11 → c ≠ 12 → c ≠ 13 → c ≠ 14 → c ≠ 15 → c ≠ 16 → c ≠ 17 → c ≠ 18 → c ≠ 19 → c ≠ 20 → c ≠ 21 → c ≠ 22 → c ≠ 23 → c ≠ 24 → c ≠ 25 → c ≠ 26 → c ≠ 29 → c ≠ 30 → c ≠ 32 → c ≠ 33 → c ≠ 34 → c ≠ 35 → c ≠ 36 → c ≠ 37 → c ≠ 38 → c ≠ 39 → c ≠ 40 → c ≠ 41 → c ≠ 42 → u2 c = u c) ∧ (∀ j, j ≠ 1 → j ≠ 2 → j ≠ 3 → j ≠ 5 → j ≠ 7 → u2 1 j = u 1 j) ∧ (∀ j, j ≠ 0 → j ≠ 2 → u2 5 j = u 5 j) ∧ (∀ j, j ≠ 0 → j ≠ 2 → u2 10 j = u 10 j) ∧ (∀ j, j ≠ 0 → u2 15 j = u 15 j) ∧ (∀ j, j ≠ 0 → u2 19 j = u 19 j) ∧ (∀ j, j ≠ 0 → u2 23 j = u 23 j) ∧ (∀ j, j ≠ 5 → j ≠ 6 → u2 29 j = u 29 j) ∧ (∀ j, j ≠ 0 → j ≠ 1 → j ≠ 2 → j ≠ 3 → j ≠ 4 → j ≠ 5 → u2 30 j = u 30 j) ∧ (∀ j, j ≠ 0 → j ≠ 2 → u2 32 j = u 32 j) ∧ (∀ j, j ≠ 0 → u2 37 j = u 37 j)) := by
  refine CT_of (by decide) (Nat.le_of_ble_eq_true rfl) (fun x hq => ?_)
  show J x yX10_text cX10_text 5 (some .int) d 0 0 (Wd u g ex).length 0 [(0, .ref 0), (1, .int sort), (2, .int at0)] [] (Wd u g ex) 0 0
  refine J_aload_n (i := 0) (j := 0) dX10_text_0 rfl rfl ?_
  refine J_get (C := RX10) (T := TX10) (Z := 10) (ci := 10) (f := 0) dX10_text_1 inG10 rfl (by decide) k423 wc_0 rfl ?_
  refine J_getN (C := RX7) (T := TX7) (Z := 8) (ci := 7) (f := 1) dX10_text_4 inG7 rfl (by decide) k189 wc_1 rfl ?_
  refine J_istore_n (i := 3) (lw := [(3, .int (u 1 1)), (0, .ref 0), (1, .int sort), (2, .int at0)]) dX10_text_7 rfl (by decide) rfl ?_
  refine J_aload_n (i := 0) (j := 1) dX10_text_8 rfl rfl ?_
  refine J_get (C := RX10) (T := TX10) (Z := 10) (ci := 10) (f := 0) dX10_text_9 inG10 rfl (by decide) k423 wc_0 rfl ?_
  refine J_iconst (v := 0) dX10_text_12 (by decide) ?_
  obtain ⟨u1, e2⟩ : ∃ z, z = ms u 1 1 0 := ⟨_, rfl⟩
  refine J_putN (C := RX7) (T := TX7) (Z := 8) (ci := 7) (f := 1) (ty0 := tyX7) dX10_text_13 inG7 rfl tyX7_ok nmX7 (by decide) k189 rfl rfl wc_1 (Nat.le_of_ble_eq_true rfl) (fun _ _ => ⟨rfl, rfl⟩) (ws e2 wk_1 rfl) ?_
  refine J_aload_n (i := 0) (j := 1) dX10_text_16 rfl rfl ?_
  refine J_get (C := RX10) (T := TX10) (Z := 10) (ci := 10) (f := 0) dX10_text_17 inG10 rfl (by decide) k423 wc_0 rfl ?_
  refine J_iconst (v := 0) dX10_text_20 (by decide) ?_
  obtain ⟨u3, e4⟩ : ∃ z, z = ms u1 1 2 0 := ⟨_, rfl⟩
  refine J_putN (C := RX7) (T := TX7) (Z := 8) (ci := 7) (f := 2) (ty0 := tyX7) dX10_text_21 inG7 rfl tyX7_ok nmX7 (by decide) k191 rfl rfl wc_1 (Nat.le_of_ble_eq_true rfl) (fun _ _ => ⟨rfl, rfl⟩) (ws e4 wk_1 rfl) ?_
  refine J_aload_n (i := 0) (j := 1) dX10_text_24 rfl rfl ?_
  refine J_get (C := RX10) (T := TX10) (Z := 10) (ci := 10) (f := 0) dX10_text_25 inG10 rfl (by decide) k423 wc_0 rfl ?_
  refine J_iconst (v := (-1)) dX10_text_28 (by decide) ?_
  obtain ⟨u5, e6⟩ : ∃ z, z = ms u3 1 3 (-1) := ⟨_, rfl⟩
  refine J_putN (C := RX7) (T := TX7) (Z := 8) (ci := 7) (f := 3) (ty0 := tyX7) dX10_text_29 inG7 rfl tyX7_ok nmX7 (by decide) k193 rfl rfl wc_1 (Nat.le_of_ble_eq_true rfl) (fun _ _ => ⟨rfl, rfl⟩) (ws e6 wk_1 rfl) ?_
  refine J_aload_n (i := 0) (j := 1) dX10_text_32 rfl rfl ?_
  refine J_get (C := RX10) (T := TX10) (Z := 10) (ci := 10) (f := 0) dX10_text_33 inG10 rfl (by decide) k423 wc_0 rfl ?_
  refine J_iload_n (i := 1) (j := 2) dX10_text_36 rfl rfl ?_
  refine J_iload_n (i := 2) (j := 3) dX10_text_37 rfl rfl ?_
  refine J_callV (As := [.int sort, .int at0]) (rest := []) dX10_text_38 (c_T_numberFor (d := 0) (u := u5) (g := g) (ex := ex) (sort := sort) (at0 := at0)  (by decide) (bd_r ((ms_i e6 (by decide)).trans ((ms_i e4 (by decide)).trans (ms_i e2 (by decide)))) hp1) (bd_r ((ms_i e6 (by decide)).trans ((ms_i e4 (by decide)).trans (ms_i e2 (by decide)))) hp2)) hq.n k470 k471 k472 wc_1 rfl rfl k88 k473 np_X7_numberFor (Nat.le_trans (by decide) hd) (by decide) (Nat.le_refl _) (Nat.le_refl _) wlen rfl (Nat.le_of_ble_eq_true rfl) (fun r_ h_ p7 => ?_)
  obtain ⟨v8, rfl, rfl, h9⟩ := p7
  refine J_istore (i := 4) (lw := [(4, .int v8), (3, .int (u 1 1)), (0, .ref 0), (1, .int sort), (2, .int at0)]) dX10_text_41 (by decide) rfl ?_
  refine J_iload (i := 4) (j := 0) dX10_text_43 rfl ?_
  refine J_iconst (v := (-1)) dX10_text_45 (by decide) ?_
  refine J_icmp_ne (tgt := 52) dX10_text_46 (by decide) (fun c10 => ?_) (fun c10 => ?_)
  · refine J_aload_n (i := 0) (j := 2) dX10_text_52 rfl rfl ?_
    refine J_get (C := RX10) (T := TX10) (Z := 10) (ci := 10) (f := 3) dX10_text_53 inG10 rfl (by decide) k426 wc_0 rfl ?_
    refine J_aload_n (i := 0) (j := 2) dX10_text_56 rfl rfl ?_
    refine J_get (C := RX10) (T := TX10) (Z := 10) (ci := 10) (f := 0) dX10_text_57 inG10 rfl (by decide) k423 wc_0 rfl ?_
    refine J_getN (C := RX7) (T := TX7) (Z := 8) (ci := 7) (f := 0) dX10_text_60 inG7 rfl (by decide) k187 wc_1 rfl ?_
    refine J_iload_n (i := 3) (j := 1) dX10_text_63 rfl rfl ?_
    refine J_iload_n (i := 1) (j := 3) dX10_text_64 rfl rfl ?_
    refine J_callV (As := [.ref 2, .int (u 1 1), .int sort]) (rest := []) dX10_text_65 (c_Rd_read (d := 7) (u := u5) (g := g) (ex := ex) (length := u 1 1) (sort := sort)  (by decide) hp0 (ab_c ((ms_c e6 (by decide)).trans ((ms_c e4 (by decide)).trans (ms_c e2 (by decide)))) hp16) (km_c ((ms_c e6 (by decide)).trans ((ms_c e4 (by decide)).trans (ms_c e2 (by decide)))) ((ms_c e6 (by decide)).trans ((ms_c e4 (by decide)).trans (ms_c e2 (by decide)))) hp17) (ab_c ((ms_c e6 (by decide)).trans ((ms_c e4 (by decide)).trans (ms_c e2 (by decide)))) hp21)) hq.n k474 k475 k476 wc_29 rfl rfl k91 k477 np_X3_read (Nat.le_trans (by decide) hd) (by decide) (Nat.le_refl _) (Nat.le_refl _) wlen rfl (Nat.le_of_ble_eq_true rfl) (fun r_ h_ p11 => ?_)
    obtain ⟨u12, rfl, rfl, h13, h14, h15, h16, h17, h18, fr19, fc20, fc21, fc22, fc23⟩ := p11
    refine J_aload_n (i := 0) (j := 2) dX10_text_68 rfl rfl ?_
    refine J_get (C := RX10) (T := TX10) (Z := 10) (ci := 10) (f := 0) dX10_text_69 inG10 rfl (by decide) k423 wc_0 rfl ?_
    refine J_aload_n (i := 0) (j := 2) dX10_text_72 rfl rfl ?_
    refine J_get (C := RX10) (T := TX10) (Z := 10) (ci := 10) (f := 3) dX10_text_73 inG10 rfl (by decide) k426 wc_0 rfl ?_
    refine J_getN (C := RX3) (T := TX3) (Z := 7) (ci := 3) (f := 5) dX10_text_76 inG3 rfl (by decide) k268 wc_29 rfl ?_
    obtain ⟨u24, e25⟩ : ∃ z, z = ms u12 1 2 (u12 29 5) := ⟨_, rfl⟩
    refine J_putN (C := RX7) (T := TX7) (Z := 8) (ci := 7) (f := 2) (ty0 := tyX7) dX10_text_79 inG7 rfl tyX7_ok nmX7 (by decide) k191 rfl rfl wc_1 (Nat.le_of_ble_eq_true rfl) (fun _ _ => ⟨rfl, rfl⟩) (ws e25 wk_1 rfl) ?_
    refine J_aload_n (i := 0) (j := 2) dX10_text_82 rfl rfl ?_
    refine J_get (C := RX10) (T := TX10) (Z := 10) (ci := 10) (f := 0) dX10_text_83 inG10 rfl (by decide) k423 wc_0 rfl ?_
    refine J_aload_n (i := 0) (j := 2) dX10_text_86 rfl rfl ?_
    refine J_get (C := RX10) (T := TX10) (Z := 10) (ci := 10) (f := 3) dX10_text_87 inG10 rfl (by decide) k426 wc_0 rfl ?_
    refine J_getN (C := RX3) (T := TX3) (Z := 7) (ci := 3) (f := 6) dX10_text_90 inG3 rfl (by decide) k270 wc_29 rfl ?_
    refine J_ci (v := u12 29 6) (congrFun (ms_c e25 (by decide)) 6) ?_
    obtain ⟨u26, e27⟩ : ∃ z, z = ms u24 1 3 (u12 29 6) := ⟨_, rfl⟩
    refine J_putN (C := RX7) (T := TX7) (Z := 8) (ci := 7) (f := 3) (ty0 := tyX7) dX10_text_93 inG7 rfl tyX7_ok nmX7 (by decide) k193 rfl rfl wc_1 (Nat.le_of_ble_eq_true rfl) (fun _ _ => ⟨rfl, rfl⟩) (ws e27 wk_1 rfl) ?_
    refine J_aload_n (i := 0) (j := 2) dX10_text_96 rfl rfl ?_
    refine J_get (C := RX10) (T := TX10) (Z := 10) (ci := 10) (f := 3) dX10_text_97 inG10 rfl (by decide) k426 wc_0 rfl ?_
    refine J_getN (C := RX3) (T := TX3) (Z := 7) (ci := 3) (f := 5) dX10_text_100 inG3 rfl (by decide) k268 wc_29 rfl ?_
    refine J_ci (v := u12 29 5) ((congrFun (ms_c e27 (by decide)) 5).trans (congrFun (ms_c e25 (by decide)) 5)) ?_
    refine J_if_eq (tgt := 108) dX10_text_103 (by decide) (fun c28 => ?_) (fun c28 => ?_)
    · refine J_aload_n (i := 0) (j := 2) dX10_text_108 rfl rfl ?_
      refine J_get (C := RX10) (T := TX10) (Z := 10) (ci := 10) (f := 0) dX10_text_109 inG10 rfl (by decide) k423 wc_0 rfl ?_
      refine J_iload_n (i := 1) (j := 3) dX10_text_112 rfl rfl ?_
      refine J_iload (i := 4) (j := 0) dX10_text_113 rfl ?_
      refine J_aload_n (i := 0) (j := 2) dX10_text_115 rfl rfl ?_
      refine J_get (C := RX10) (T := TX10) (Z := 10) (ci := 10) (f := 3) dX10_text_116 inG10 rfl (by decide) k426 wc_0 rfl ?_
      refine J_callV (As := [.int sort, .int v8, .ref 29]) (rest := []) dX10_text_119 (c_T_keep (d := 2) (u := u26) (g := g) (ex := ex) (sort := sort) (number := v8)  (by decide) (bd_r ((ms_i e27 (by decide)).trans ((ms_i e25 (by decide)).trans ((congrFun (fr19 1 (by decide) (by decide) (by decide) (by decide) (by decide) (by decide) (by decide) (by decide) (by decide) (by decide) (by decide) (by decide) (by decide)) 1).trans ((ms_i e6 (by decide)).trans ((ms_i e4 (by decide)).trans (ms_e e2)))))) (bd_w (l := 0) (h := 600) (bd_c (v := 0) (lo := 0) (hi := 0) (by decide)) (by decide))) (bd_r ((ms_i e27 (by decide)).trans ((ms_i e25 (by decide)).trans ((congrFun (fr19 1 (by decide) (by decide) (by decide) (by decide) (by decide) (by decide) (by decide) (by decide) (by decide) (by decide) (by decide) (by decide) (by decide)) 5).trans ((ms_i e6 (by decide)).trans ((ms_i e4 (by decide)).trans (ms_i e2 (by decide))))))) hp1) (bd_r ((ms_i e27 (by decide)).trans ((ms_i e25 (by decide)).trans ((congrFun (fr19 1 (by decide) (by decide) (by decide) (by decide) (by decide) (by decide) (by decide) (by decide) (by decide) (by decide) (by decide) (by decide) (by decide)) 7).trans ((ms_i e6 (by decide)).trans ((ms_i e4 (by decide)).trans (ms_i e2 (by decide))))))) hp2) (bf_c ((ms_c e27 (by decide)).trans ((ms_c e25 (by decide)).trans ((fr19 2 (by decide) (by decide) (by decide) (by decide) (by decide) (by decide) (by decide) (by decide) (by decide) (by decide) (by decide) (by decide) (by decide)).trans ((ms_c e6 (by decide)).trans ((ms_c e4 (by decide)).trans (ms_c e2 (by decide))))))) hp3) (bd_r ((congrFun (ms_c e27 (by decide)) 0).trans ((congrFun (ms_c e25 (by decide)) 0).trans ((congrFun (fr19 5 (by decide) (by decide) (by decide) (by decide) (by decide) (by decide) (by decide) (by decide) (by decide) (by decide) (by decide) (by decide) (by decide)) 0).trans ((congrFun (ms_c e6 (by decide)) 0).trans ((congrFun (ms_c e4 (by decide)) 0).trans (congrFun (ms_c e2 (by decide)) 0)))))) hp4) (bd_r ((congrFun (ms_c e27 (by decide)) 2).trans ((congrFun (ms_c e25 (by decide)) 2).trans ((congrFun (fr19 5 (by decide) (by decide) (by decide) (by decide) (by decide) (by decide) (by decide) (by decide) (by decide) (by decide) (by decide) (by decide) (by decide)) 2).trans ((congrFun (ms_c e6 (by decide)) 2).trans ((congrFun (ms_c e4 (by decide)) 2).trans (congrFun (ms_c e2 (by decide)) 2)))))) hp5) (bd_r ((congrFun (ms_c e27 (by decide)) 0).trans ((congrFun (ms_c e25 (by decide)) 0).trans ((congrFun (fr19 10 (by decide) (by decide) (by decide) (by decide) (by decide) (by decide) (by decide) (by decide) (by decide) (by decide) (by decide) (by decide) (by decide)) 0).trans ((congrFun (ms_c e6 (by decide)) 0).trans ((congrFun (ms_c e4 (by decide)) 0).trans (congrFun (ms_c e2 (by decide)) 0)))))) hp6) (bd_r ((congrFun (ms_c e27 (by decide)) 2).trans ((congrFun (ms_c e25 (by decide)) 2).trans ((congrFun (fr19 10 (by decide) (by decide) (by decide) (by decide) (by decide) (by decide) (by decide) (by decide) (by decide) (by decide) (by decide) (by decide) (by decide)) 2).trans ((congrFun (ms_c e6 (by decide)) 2).trans ((congrFun (ms_c e4 (by decide)) 2).trans (congrFun (ms_c e2 (by decide)) 2)))))) hp7) (ab_c ((ms_c e27 (by decide)).trans ((ms_c e25 (by decide)).trans ((fr19 6 (by decide) (by decide) (by decide) (by decide) (by decide) (by decide) (by decide) (by decide) (by decide) (by decide) (by decide) (by decide) (by decide)).trans ((ms_c e6 (by decide)).trans ((ms_c e4 (by decide)).trans (ms_c e2 (by decide))))))) hp8) (ab_c ((ms_c e27 (by decide)).trans ((ms_c e25 (by decide)).trans ((fr19 11 (by decide) (by decide) (by decide) (by decide) (by decide) (by decide) (by decide) (by decide) (by decide) (by decide) (by decide) (by decide) (by decide)).trans ((ms_c e6 (by decide)).trans ((ms_c e4 (by decide)).trans (ms_c e2 (by decide))))))) hp9) (bd_r ((congrFun (ms_c e27 (by decide)) 0).trans ((congrFun (ms_c e25 (by decide)) 0).trans ((congrFun (fr19 15 (by decide) (by decide) (by decide) (by decide) (by decide) (by decide) (by decide) (by decide) (by decide) (by decide) (by decide) (by decide) (by decide)) 0).trans ((congrFun (ms_c e6 (by decide)) 0).trans ((congrFun (ms_c e4 (by decide)) 0).trans (congrFun (ms_c e2 (by decide)) 0)))))) hp10) (bd_r ((congrFun (ms_c e27 (by decide)) 0).trans ((congrFun (ms_c e25 (by decide)) 0).trans ((congrFun (fr19 19 (by decide) (by decide) (by decide) (by decide) (by decide) (by decide) (by decide) (by decide) (by decide) (by decide) (by decide) (by decide) (by decide)) 0).trans ((congrFun (ms_c e6 (by decide)) 0).trans ((congrFun (ms_c e4 (by decide)) 0).trans (congrFun (ms_c e2 (by decide)) 0)))))) hp11) (bd_r ((congrFun (ms_c e27 (by decide)) 0).trans ((congrFun (ms_c e25 (by decide)) 0).trans ((congrFun (fr19 23 (by decide) (by decide) (by decide) (by decide) (by decide) (by decide) (by decide) (by decide) (by decide) (by decide) (by decide) (by decide) (by decide)) 0).trans ((congrFun (ms_c e6 (by decide)) 0).trans ((congrFun (ms_c e4 (by decide)) 0).trans (congrFun (ms_c e2 (by decide)) 0)))))) hp12) (km_c ((ms_c e27 (by decide)).trans ((ms_c e25 (by decide)).trans ((fr19 16 (by decide) (by decide) (by decide) (by decide) (by decide) (by decide) (by decide) (by decide) (by decide) (by decide) (by decide) (by decide) (by decide)).trans ((ms_c e6 (by decide)).trans ((ms_c e4 (by decide)).trans (ms_c e2 (by decide))))))) ((ms_c e27 (by decide)).trans ((ms_c e25 (by decide)).trans ((fr19 18 (by decide) (by decide) (by decide) (by decide) (by decide) (by decide) (by decide) (by decide) (by decide) (by decide) (by decide) (by decide) (by decide)).trans ((ms_c e6 (by decide)).trans ((ms_c e4 (by decide)).trans (ms_c e2 (by decide))))))) hp13) (km_c ((ms_c e27 (by decide)).trans ((ms_c e25 (by decide)).trans ((fr19 20 (by decide) (by decide) (by decide) (by decide) (by decide) (by decide) (by decide) (by decide) (by decide) (by decide) (by decide) (by decide) (by decide)).trans ((ms_c e6 (by decide)).trans ((ms_c e4 (by decide)).trans (ms_c e2 (by decide))))))) ((ms_c e27 (by decide)).trans ((ms_c e25 (by decide)).trans ((fr19 22 (by decide) (by decide) (by decide) (by decide) (by decide) (by decide) (by decide) (by decide) (by decide) (by decide) (by decide) (by decide) (by decide)).trans ((ms_c e6 (by decide)).trans ((ms_c e4 (by decide)).trans (ms_c e2 (by decide))))))) hp14) (km_c ((ms_c e27 (by decide)).trans ((ms_c e25 (by decide)).trans ((fr19 24 (by decide) (by decide) (by decide) (by decide) (by decide) (by decide) (by decide) (by decide) (by decide) (by decide) (by decide) (by decide) (by decide)).trans ((ms_c e6 (by decide)).trans ((ms_c e4 (by decide)).trans (ms_c e2 (by decide))))))) ((ms_c e27 (by decide)).trans ((ms_c e25 (by decide)).trans ((fr19 26 (by decide) (by decide) (by decide) (by decide) (by decide) (by decide) (by decide) (by decide) (by decide) (by decide) (by decide) (by decide) (by decide)).trans ((ms_c e6 (by decide)).trans ((ms_c e4 (by decide)).trans (ms_c e2 (by decide))))))) hp15) (bd_r ((congrFun (ms_c e27 (by decide)) 0).trans (congrFun (ms_c e25 (by decide)) 0)) h13) (bd_r ((congrFun (ms_c e27 (by decide)) 2).trans (congrFun (ms_c e25 (by decide)) 2)) h14) (ab_c ((ms_c e27 (by decide)).trans (ms_c e25 (by decide))) h15) (bd_r ((congrFun (ms_c e27 (by decide)) 0).trans (congrFun (ms_c e25 (by decide)) 0)) h16) (km_c ((ms_c e27 (by decide)).trans (ms_c e25 (by decide))) ((ms_c e27 (by decide)).trans (ms_c e25 (by decide))) h17) (h9.resolve_left c10)) hq.n k676 k677 k678 wc_1 rfl rfl k88 k679 np_X7_keep (Nat.le_trans (by decide) hd) (by decide) (Nat.le_refl _) (Nat.le_refl _) wlen rfl (Nat.le_of_ble_eq_true rfl) (fun r_ h_ p29 => ?_)
      obtain ⟨u30, rfl, rfl, h31, h32, h33, h34, h35, h36, h37, h38, h39, h40, h41, h42, h43, h44, fr45, fc46, fc47, fc48, fc49, fc50, fc51⟩ := p29
      refine J_iload (i := 4) (j := 0) dX10_text_122 rfl ?_
      exact J_iret hq dX10_text_124 rfl wlen (Nat.le_refl _) (Nat.le_refl _) ⟨v8, u30, rfl, rfl, (bd_r ((fc46 1 (by decide) (by decide)).trans ((ms_i e27 (by decide)).trans ((ms_i e25 (by decide)).trans ((congrFun (fr19 1 (by decide) (by decide) (by decide) (by decide) (by decide) (by decide) (by decide) (by decide) (by decide) (by decide) (by decide) (by decide) (by decide)) 1).trans ((ms_i e6 (by decide)).trans ((ms_i e4 (by decide)).trans (ms_e e2))))))) (bd_w (l := 0) (h := 600) (bd_c (v := 0) (lo := 0) (hi := 0) (by decide)) (by decide))), h31, h32, h33, h34, h35, h36, h37, h38, h39, h40, h41, h42, h43, h44, (bd_r ((congrFun (fr45 32 (by decide) (by decide) (by decide) (by decide) (by decide) (by decide) (by decide) (by decide) (by decide) (by decide) (by decide) (by decide) (by decide) (by decide) (by decide) (by decide) (by decide) (by decide) (by decide) (by decide) (by decide) (by decide) (by decide)) 0).trans ((congrFun (ms_c e27 (by decide)) 0).trans (congrFun (ms_c e25 (by decide)) 0))) h13), (bd_r ((congrFun (fr45 32 (by decide) (by decide) (by decide) (by decide) (by decide) (by decide) (by decide) (by decide) (by decide) (by decide) (by decide) (by decide) (by decide) (by decide) (by decide) (by decide) (by decide) (by decide) (by decide) (by decide) (by decide) (by decide) (by decide)) 2).trans ((congrFun (ms_c e27 (by decide)) 2).trans (congrFun (ms_c e25 (by decide)) 2))) h14), (ab_c ((fr45 33 (by decide) (by decide) (by decide) (by decide) (by decide) (by decide) (by decide) (by decide) (by decide) (by decide) (by decide) (by decide) (by decide) (by decide) (by decide) (by decide) (by decide) (by decide) (by decide) (by decide) (by decide) (by decide) (by decide)).trans ((ms_c e27 (by decide)).trans (ms_c e25 (by decide)))) h15), (bd_r ((congrFun (fr45 37 (by decide) (by decide) (by decide) (by decide) (by decide) (by decide) (by decide) (by decide) (by decide) (by decide) (by decide) (by decide) (by decide) (by decide) (by decide) (by decide) (by decide) (by decide) (by decide) (by decide) (by decide) (by decide) (by decide)) 0).trans ((congrFun (ms_c e27 (by decide)) 0).trans (congrFun (ms_c e25 (by decide)) 0))) h16), (km_c ((fr45 38 (by decide) (by decide) (by decide) (by decide) (by decide) (by decide) (by decide) (by decide) (by decide) (by decide) (by decide) (by decide) (by decide) (by decide) (by decide) (by decide) (by decide) (by decide) (by decide) (by decide) (by decide) (by decide) (by decide)).trans ((ms_c e27 (by decide)).trans (ms_c e25 (by decide)))) ((fr45 40 (by decide) (by decide) (by decide) (by decide) (by decide) (by decide) (by decide) (by decide) (by decide) (by decide) (by decide) (by decide) (by decide) (by decide) (by decide) (by decide) (by decide) (by decide) (by decide) (by decide) (by decide) (by decide) (by decide)).trans ((ms_c e27 (by decide)).trans (ms_c e25 (by decide)))) h17), (ab_c ((fr45 41 (by decide) (by decide) (by decide) (by decide) (by decide) (by decide) (by decide) (by decide) (by decide) (by decide) (by decide) (by decide) (by decide) (by decide) (by decide) (by decide) (by decide) (by decide) (by decide) (by decide) (by decide) (by decide) (by decide)).trans ((ms_c e27 (by decide)).trans (ms_c e25 (by decide)))) h18), (fun c k0_ k1_ k2_ k3_ k4_ k5_ k6_ k7_ k8_ k9_ k10_ k11_ k12_ k13_ k14_ k15_ k16_ k17_ k18_ k19_ k20_ k21_ k22_ k23_ k24_ k25_ k26_ k27_ k28_ k29_ k30_ k31_ k32_ k33_ k34_ k35_ => ((fr45 c k0_ k1_ k2_ k3_ k4_ k5_ k6_ k7_ k8_ k9_ k10_ k11_ k12_ k13_ k14_ k15_ k16_ k17_ k18_ k19_ k20_ k21_ k22_).trans ((ms_c e27 k0_).trans ((ms_c e25 k0_).trans ((fr19 c k23_ k24_ k25_ k26_ k27_ k28_ k29_ k30_ k31_ k32_ k33_ k34_ k35_).trans ((ms_c e6 k0_).trans ((ms_c e4 k0_).trans (ms_c e2 k0_)))))))), (fun j k1_ k2_ k3_ k5_ k7_ => ((fc46 j k5_ k7_).trans ((ms_i e27 k3_).trans ((ms_i e25 k2_).trans ((congrFun (fr19 1 (by decide) (by decide) (by decide) (by decide) (by decide) (by decide) (by decide) (by decide) (by decide) (by decide) (by decide) (by decide) (by decide)) j).trans ((ms_i e6 k3_).trans ((ms_i e4 k2_).trans (ms_i e2 k1_)))))))), (fun j k0_ k2_ => ((fc47 j k0_ k2_).trans ((congrFun (ms_c e27 (by decide)) j).trans ((congrFun (ms_c e25 (by decide)) j).trans ((congrFun (fr19 5 (by decide) (by decide) (by decide) (by decide) (by decide) (by decide) (by decide) (by decide) (by decide) (by decide) (by decide) (by decide) (by decide)) j).trans ((congrFun (ms_c e6 (by decide)) j).trans ((congrFun (ms_c e4 (by decide)) j).trans (congrFun (ms_c e2 (by decide)) j)))))))), (fun j k0_ k2_ => ((fc48 j k0_ k2_).trans ((congrFun (ms_c e27 (by decide)) j).trans ((congrFun (ms_c e25 (by decide)) j).trans ((congrFun (fr19 10 (by decide) (by decide) (by decide) (by decide) (by decide) (by decide) (by decide) (by decide) (by decide) (by decide) (by decide) (by decide) (by decide)) j).trans ((congrFun (ms_c e6 (by decide)) j).trans ((congrFun (ms_c e4 (by decide)) j).trans (congrFun (ms_c e2 (by decide)) j)))))))), (fun j k0_ => ((fc49 j k0_).trans ((congrFun (ms_c e27 (by decide)) j).trans ((congrFun (ms_c e25 (by decide)) j).trans ((congrFun (fr19 15 (by decide) (by decide) (by decide) (by decide) (by decide) (by decide) (by decide) (by decide) (by decide) (by decide) (by decide) (by decide) (by decide)) j).trans ((congrFun (ms_c e6 (by decide)) j).trans ((congrFun (ms_c e4 (by decide)) j).trans (congrFun (ms_c e2 (by decide)) j)))))))), (fun j k0_ => ((fc50 j k0_).trans ((congrFun (ms_c e27 (by decide)) j).trans ((congrFun (ms_c e25 (by decide)) j).trans ((congrFun (fr19 19 (by decide) (by decide) (by decide) (by decide) (by decide) (by decide) (by decide) (by decide) (by decide) (by decide) (by decide) (by decide) (by decide)) j).trans ((congrFun (ms_c e6 (by decide)) j).trans ((congrFun (ms_c e4 (by decide)) j).trans (congrFun (ms_c e2 (by decide)) j)))))))), (fun j k0_ => ((fc51 j k0_).trans ((congrFun (ms_c e27 (by decide)) j).trans ((congrFun (ms_c e25 (by decide)) j).trans ((congrFun (fr19 23 (by decide) (by decide) (by decide) (by decide) (by decide) (by decide) (by decide) (by decide) (by decide) (by decide) (by decide) (by decide) (by decide)) j).trans ((congrFun (ms_c e6 (by decide)) j).trans ((congrFun (ms_c e4 (by decide)) j).trans (congrFun (ms_c e2 (by decide)) j)))))))), (fun j k5_ k6_ => ((congrFun (fr45 29 (by decide) (by decide) (by decide) (by decide) (by decide) (by decide) (by decide) (by decide) (by decide) (by decide) (by decide) (by decide) (by decide) (by decide) (by decide) (by decide) (by decide) (by decide) (by decide) (by decide) (by decide) (by decide) (by decide)) j).trans ((congrFun (ms_c e27 (by decide)) j).trans ((congrFun (ms_c e25 (by decide)) j).trans ((fc20 j k5_ k6_).trans ((congrFun (ms_c e6 (by decide)) j).trans ((congrFun (ms_c e4 (by decide)) j).trans (congrFun (ms_c e2 (by decide)) j)))))))), (fun j k0_ k1_ k2_ k3_ k4_ k5_ => ((congrFun (fr45 30 (by decide) (by decide) (by decide) (by decide) (by decide) (by decide) (by decide) (by decide) (by decide) (by decide) (by decide) (by decide) (by decide) (by decide) (by decide) (by decide) (by decide) (by decide) (by decide) (by decide) (by decide) (by decide) (by decide)) j).trans ((congrFun (ms_c e27 (by decide)) j).trans ((congrFun (ms_c e25 (by decide)) j).trans ((fc21 j k0_ k1_ k2_ k3_ k4_ k5_).trans ((congrFun (ms_c e6 (by decide)) j).trans ((congrFun (ms_c e4 (by decide)) j).trans (congrFun (ms_c e2 (by decide)) j)))))))), (fun j k0_ k2_ => ((congrFun (fr45 32 (by decide) (by decide) (by decide) (by decide) (by decide) (by decide) (by decide) (by decide) (by decide) (by decide) (by decide) (by decide) (by decide) (by decide) (by decide) (by decide) (by decide) (by decide) (by decide) (by decide) (by decide) (by decide) (by decide)) j).trans ((congrFun (ms_c e27 (by decide)) j).trans ((congrFun (ms_c e25 (by decide)) j).trans ((fc22 j k0_ k2_).trans ((congrFun (ms_c e6 (by decide)) j).trans ((congrFun (ms_c e4 (by decide)) j).trans (congrFun (ms_c e2 (by decide)) j)))))))), (fun j k0_ => ((congrFun (fr45 37 (by decide) (by decide) (by decide) (by decide) (by decide) (by decide) (by decide) (by decide) (by decide) (by decide) (by decide) (by decide) (by decide) (by decide) (by decide) (by decide) (by decide) (by decide) (by decide) (by decide) (by decide) (by decide) (by decide)) j).trans ((congrFun (ms_c e27 (by decide)) j).trans ((congrFun (ms_c e25 (by decide)) j).trans ((fc23 j k0_).trans ((congrFun (ms_c e6 (by decide)) j).trans ((congrFun (ms_c e4 (by decide)) j).trans (congrFun (ms_c e2 (by decide)) j))))))))⟩
    · refine J_iconst (v := (-1)) dX10_text_106 (by decide) ?_
      exact J_iret hq dX10_text_107 rfl wlen (Nat.le_refl _) (Nat.le_refl _) ⟨((-1) : Int32), u26, rfl, rfl, (bd_r ((ms_i e27 (by decide)).trans ((ms_i e25 (by decide)).trans ((congrFun (fr19 1 (by decide) (by decide) (by decide) (by decide) (by decide) (by decide) (by decide) (by decide) (by decide) (by decide) (by decide) (by decide) (by decide)) 1).trans ((ms_i e6 (by decide)).trans ((ms_i e4 (by decide)).trans (ms_e e2)))))) (bd_w (l := 0) (h := 600) (bd_c (v := 0) (lo := 0) (hi := 0) (by decide)) (by decide))), (bd_r ((ms_i e27 (by decide)).trans ((ms_i e25 (by decide)).trans ((congrFun (fr19 1 (by decide) (by decide) (by decide) (by decide) (by decide) (by decide) (by decide) (by decide) (by decide) (by decide) (by decide) (by decide) (by decide)) 5).trans ((ms_i e6 (by decide)).trans ((ms_i e4 (by decide)).trans (ms_i e2 (by decide))))))) hp1), (bd_r ((ms_i e27 (by decide)).trans ((ms_i e25 (by decide)).trans ((congrFun (fr19 1 (by decide) (by decide) (by decide) (by decide) (by decide) (by decide) (by decide) (by decide) (by decide) (by decide) (by decide) (by decide) (by decide)) 7).trans ((ms_i e6 (by decide)).trans ((ms_i e4 (by decide)).trans (ms_i e2 (by decide))))))) hp2), (bd_r ((congrFun (ms_c e27 (by decide)) 0).trans ((congrFun (ms_c e25 (by decide)) 0).trans ((congrFun (fr19 5 (by decide) (by decide) (by decide) (by decide) (by decide) (by decide) (by decide) (by decide) (by decide) (by decide) (by decide) (by decide) (by decide)) 0).trans ((congrFun (ms_c e6 (by decide)) 0).trans ((congrFun (ms_c e4 (by decide)) 0).trans (congrFun (ms_c e2 (by decide)) 0)))))) hp4), (bd_r ((congrFun (ms_c e27 (by decide)) 2).trans ((congrFun (ms_c e25 (by decide)) 2).trans ((congrFun (fr19 5 (by decide) (by decide) (by decide) (by decide) (by decide) (by decide) (by decide) (by decide) (by decide) (by decide) (by decide) (by decide) (by decide)) 2).trans ((congrFun (ms_c e6 (by decide)) 2).trans ((congrFun (ms_c e4 (by decide)) 2).trans (congrFun (ms_c e2 (by decide)) 2)))))) hp5), (bd_r ((congrFun (ms_c e27 (by decide)) 0).trans ((congrFun (ms_c e25 (by decide)) 0).trans ((congrFun (fr19 10 (by decide) (by decide) (by decide) (by decide) (by decide) (by decide) (by decide) (by decide) (by decide) (by decide) (by decide) (by decide) (by decide)) 0).trans ((congrFun (ms_c e6 (by decide)) 0).trans ((congrFun (ms_c e4 (by decide)) 0).trans (congrFun (ms_c e2 (by decide)) 0)))))) hp6), (bd_r ((congrFun (ms_c e27 (by decide)) 2).trans ((congrFun (ms_c e25 (by decide)) 2).trans ((congrFun (fr19 10 (by decide) (by decide) (by decide) (by decide) (by decide) (by decide) (by decide) (by decide) (by decide) (by decide) (by decide) (by decide) (by decide)) 2).trans ((congrFun (ms_c e6 (by decide)) 2).trans ((congrFun (ms_c e4 (by decide)) 2).trans (congrFun (ms_c e2 (by decide)) 2)))))) hp7), (ab_c ((ms_c e27 (by decide)).trans ((ms_c e25 (by decide)).trans ((fr19 6 (by decide) (by decide) (by decide) (by decide) (by decide) (by decide) (by decide) (by decide) (by decide) (by decide) (by decide) (by decide) (by decide)).trans ((ms_c e6 (by decide)).trans ((ms_c e4 (by decide)).trans (ms_c e2 (by decide))))))) hp8), (ab_c ((ms_c e27 (by decide)).trans ((ms_c e25 (by decide)).trans ((fr19 11 (by decide) (by decide) (by decide) (by decide) (by decide) (by decide) (by decide) (by decide) (by decide) (by decide) (by decide) (by decide) (by decide)).trans ((ms_c e6 (by decide)).trans ((ms_c e4 (by decide)).trans (ms_c e2 (by decide))))))) hp9), (bd_r ((congrFun (ms_c e27 (by decide)) 0).trans ((congrFun (ms_c e25 (by decide)) 0).trans ((congrFun (fr19 15 (by decide) (by decide) (by decide) (by decide) (by decide) (by decide) (by decide) (by decide) (by decide) (by decide) (by decide) (by decide) (by decide)) 0).trans ((congrFun (ms_c e6 (by decide)) 0).trans ((congrFun (ms_c e4 (by decide)) 0).trans (congrFun (ms_c e2 (by decide)) 0)))))) hp10), (bd_r ((congrFun (ms_c e27 (by decide)) 0).trans ((congrFun (ms_c e25 (by decide)) 0).trans ((congrFun (fr19 19 (by decide) (by decide) (by decide) (by decide) (by decide) (by decide) (by decide) (by decide) (by decide) (by decide) (by decide) (by decide) (by decide)) 0).trans ((congrFun (ms_c e6 (by decide)) 0).trans ((congrFun (ms_c e4 (by decide)) 0).trans (congrFun (ms_c e2 (by decide)) 0)))))) hp11), (bd_r ((congrFun (ms_c e27 (by decide)) 0).trans ((congrFun (ms_c e25 (by decide)) 0).trans ((congrFun (fr19 23 (by decide) (by decide) (by decide) (by decide) (by decide) (by decide) (by decide) (by decide) (by decide) (by decide) (by decide) (by decide) (by decide)) 0).trans ((congrFun (ms_c e6 (by decide)) 0).trans ((congrFun (ms_c e4 (by decide)) 0).trans (congrFun (ms_c e2 (by decide)) 0)))))) hp12), (km_c ((ms_c e27 (by decide)).trans ((ms_c e25 (by decide)).trans ((fr19 16 (by decide) (by decide) (by decide) (by decide) (by decide) (by decide) (by decide) (by decide) (by decide) (by decide) (by decide) (by decide) (by decide)).trans ((ms_c e6 (by decide)).trans ((ms_c e4 (by decide)).trans (ms_c e2 (by decide))))))) ((ms_c e27 (by decide)).trans ((ms_c e25 (by decide)).trans ((fr19 18 (by decide) (by decide) (by decide) (by decide) (by decide) (by decide) (by decide) (by decide) (by decide) (by decide) (by decide) (by decide) (by decide)).trans ((ms_c e6 (by decide)).trans ((ms_c e4 (by decide)).trans (ms_c e2 (by decide))))))) hp13), (km_c ((ms_c e27 (by decide)).trans ((ms_c e25 (by decide)).trans ((fr19 20 (by decide) (by decide) (by decide) (by decide) (by decide) (by decide) (by decide) (by decide) (by decide) (by decide) (by decide) (by decide) (by decide)).trans ((ms_c e6 (by decide)).trans ((ms_c e4 (by decide)).trans (ms_c e2 (by decide))))))) ((ms_c e27 (by decide)).trans ((ms_c e25 (by decide)).trans ((fr19 22 (by decide) (by decide) (by decide) (by decide) (by decide) (by decide) (by decide) (by decide) (by decide) (by decide) (by decide) (by decide) (by decide)).trans ((ms_c e6 (by decide)).trans ((ms_c e4 (by decide)).trans (ms_c e2 (by decide))))))) hp14), (km_c ((ms_c e27 (by decide)).trans ((ms_c e25 (by decide)).trans ((fr19 24 (by decide) (by decide) (by decide) (by decide) (by decide) (by decide) (by decide) (by decide) (by decide) (by decide) (by decide) (by decide) (by decide)).trans ((ms_c e6 (by decide)).trans ((ms_c e4 (by decide)).trans (ms_c e2 (by decide))))))) ((ms_c e27 (by decide)).trans ((ms_c e25 (by decide)).trans ((fr19 26 (by decide) (by decide) (by decide) (by decide) (by decide) (by decide) (by decide) (by decide) (by decide) (by decide) (by decide) (by decide) (by decide)).trans ((ms_c e6 (by decide)).trans ((ms_c e4 (by decide)).trans (ms_c e2 (by decide))))))) hp15), (bd_r ((congrFun (ms_c e27 (by decide)) 0).trans (congrFun (ms_c e25 (by decide)) 0)) h13), (bd_r ((congrFun (ms_c e27 (by decide)) 2).trans (congrFun (ms_c e25 (by decide)) 2)) h14), (ab_c ((ms_c e27 (by decide)).trans (ms_c e25 (by decide))) h15), (bd_r ((congrFun (ms_c e27 (by decide)) 0).trans (congrFun (ms_c e25 (by decide)) 0)) h16), (km_c ((ms_c e27 (by decide)).trans (ms_c e25 (by decide))) ((ms_c e27 (by decide)).trans (ms_c e25 (by decide))) h17), (ab_c ((ms_c e27 (by decide)).trans (ms_c e25 (by decide))) h18), (fun c k0_ k1_ k2_ k3_ k4_ k5_ k6_ k7_ k8_ k9_ k10_ k11_ k12_ k13_ k14_ k15_ k16_ k17_ k18_ k19_ k20_ k21_ k22_ k23_ k24_ k25_ k26_ k27_ k28_ k29_ k30_ k31_ k32_ k33_ k34_ k35_ => ((ms_c e27 k0_).trans ((ms_c e25 k0_).trans ((fr19 c k23_ k24_ k25_ k26_ k27_ k28_ k29_ k30_ k31_ k32_ k33_ k34_ k35_).trans ((ms_c e6 k0_).trans ((ms_c e4 k0_).trans (ms_c e2 k0_))))))), (fun j k1_ k2_ k3_ k5_ k7_ => ((ms_i e27 k3_).trans ((ms_i e25 k2_).trans ((congrFun (fr19 1 (by decide) (by decide) (by decide) (by decide) (by decide) (by decide) (by decide) (by decide) (by decide) (by decide) (by decide) (by decide) (by decide)) j).trans ((ms_i e6 k3_).trans ((ms_i e4 k2_).trans (ms_i e2 k1_))))))), (fun j k0_ k2_ => ((congrFun (ms_c e27 (by decide)) j).trans ((congrFun (ms_c e25 (by decide)) j).trans ((congrFun (fr19 5 (by decide) (by decide) (by decide) (by decide) (by decide) (by decide) (by decide) (by decide) (by decide) (by decide) (by decide) (by decide) (by decide)) j).trans ((congrFun (ms_c e6 (by decide)) j).trans ((congrFun (ms_c e4 (by decide)) j).trans (congrFun (ms_c e2 (by decide)) j))))))), (fun j k0_ k2_ => ((congrFun (ms_c e27 (by decide)) j).trans ((congrFun (ms_c e25 (by decide)) j).trans ((congrFun (fr19 10 (by decide) (by decide) (by decide) (by decide) (by decide) (by decide) (by decide) (by decide) (by decide) (by decide) (by decide) (by decide) (by decide)) j).trans ((congrFun (ms_c e6 (by decide)) j).trans ((congrFun (ms_c e4 (by decide)) j).trans (congrFun (ms_c e2 (by decide)) j))))))), (fun j k0_ => ((congrFun (ms_c e27 (by decide)) j).trans ((congrFun (ms_c e25 (by decide)) j).trans ((congrFun (fr19 15 (by decide) (by decide) (by decide) (by decide) (by decide) (by decide) (by decide) (by decide) (by decide) (by decide) (by decide) (by decide) (by decide)) j).trans ((congrFun (ms_c e6 (by decide)) j).trans ((congrFun (ms_c e4 (by decide)) j).trans (congrFun (ms_c e2 (by decide)) j))))))), (fun j k0_ => ((congrFun (ms_c e27 (by decide)) j).trans ((congrFun (ms_c e25 (by decide)) j).trans ((congrFun (fr19 19 (by decide) (by decide) (by decide) (by decide) (by decide) (by decide) (by decide) (by decide) (by decide) (by decide) (by decide) (by decide) (by decide)) j).trans ((congrFun (ms_c e6 (by decide)) j).trans ((congrFun (ms_c e4 (by decide)) j).trans (congrFun (ms_c e2 (by decide)) j))))))), (fun j k0_ => ((congrFun (ms_c e27 (by decide)) j).trans ((congrFun (ms_c e25 (by decide)) j).trans ((congrFun (fr19 23 (by decide) (by decide) (by decide) (by decide) (by decide) (by decide) (by decide) (by decide) (by decide) (by decide) (by decide) (by decide) (by decide)) j).trans ((congrFun (ms_c e6 (by decide)) j).trans ((congrFun (ms_c e4 (by decide)) j).trans (congrFun (ms_c e2 (by decide)) j))))))), (fun j k5_ k6_ => ((congrFun (ms_c e27 (by decide)) j).trans ((congrFun (ms_c e25 (by decide)) j).trans ((fc20 j k5_ k6_).trans ((congrFun (ms_c e6 (by decide)) j).trans ((congrFun (ms_c e4 (by decide)) j).trans (congrFun (ms_c e2 (by decide)) j))))))), (fun j k0_ k1_ k2_ k3_ k4_ k5_ => ((congrFun (ms_c e27 (by decide)) j).trans ((congrFun (ms_c e25 (by decide)) j).trans ((fc21 j k0_ k1_ k2_ k3_ k4_ k5_).trans ((congrFun (ms_c e6 (by decide)) j).trans ((congrFun (ms_c e4 (by decide)) j).trans (congrFun (ms_c e2 (by decide)) j))))))), (fun j k0_ k2_ => ((congrFun (ms_c e27 (by decide)) j).trans ((congrFun (ms_c e25 (by decide)) j).trans ((fc22 j k0_ k2_).trans ((congrFun (ms_c e6 (by decide)) j).trans ((congrFun (ms_c e4 (by decide)) j).trans (congrFun (ms_c e2 (by decide)) j))))))), (fun j k0_ => ((congrFun (ms_c e27 (by decide)) j).trans ((congrFun (ms_c e25 (by decide)) j).trans ((fc23 j k0_).trans ((congrFun (ms_c e6 (by decide)) j).trans ((congrFun (ms_c e4 (by decide)) j).trans (congrFun (ms_c e2 (by decide)) j)))))))⟩
  · refine J_bipush (v := (-2)) dX10_text_49 (by decide) ?_
    exact J_iret hq dX10_text_51 rfl wlen (Nat.le_refl _) (Nat.le_refl _) ⟨((-2) : Int32), u5, rfl, rfl, (bd_r ((ms_i e6 (by decide)).trans ((ms_i e4 (by decide)).trans (ms_e e2))) (bd_w (l := 0) (h := 600) (bd_c (v := 0) (lo := 0) (hi := 0) (by decide)) (by decide))), (bd_r ((ms_i e6 (by decide)).trans ((ms_i e4 (by decide)).trans (ms_i e2 (by decide)))) hp1), (bd_r ((ms_i e6 (by decide)).trans ((ms_i e4 (by decide)).trans (ms_i e2 (by decide)))) hp2), (bd_r ((congrFun (ms_c e6 (by decide)) 0).trans ((congrFun (ms_c e4 (by decide)) 0).trans (congrFun (ms_c e2 (by decide)) 0))) hp4), (bd_r ((congrFun (ms_c e6 (by decide)) 2).trans ((congrFun (ms_c e4 (by decide)) 2).trans (congrFun (ms_c e2 (by decide)) 2))) hp5), (bd_r ((congrFun (ms_c e6 (by decide)) 0).trans ((congrFun (ms_c e4 (by decide)) 0).trans (congrFun (ms_c e2 (by decide)) 0))) hp6), (bd_r ((congrFun (ms_c e6 (by decide)) 2).trans ((congrFun (ms_c e4 (by decide)) 2).trans (congrFun (ms_c e2 (by decide)) 2))) hp7), (ab_c ((ms_c e6 (by decide)).trans ((ms_c e4 (by decide)).trans (ms_c e2 (by decide)))) hp8), (ab_c ((ms_c e6 (by decide)).trans ((ms_c e4 (by decide)).trans (ms_c e2 (by decide)))) hp9), (bd_r ((congrFun (ms_c e6 (by decide)) 0).trans ((congrFun (ms_c e4 (by decide)) 0).trans (congrFun (ms_c e2 (by decide)) 0))) hp10), (bd_r ((congrFun (ms_c e6 (by decide)) 0).trans ((congrFun (ms_c e4 (by decide)) 0).trans (congrFun (ms_c e2 (by decide)) 0))) hp11), (bd_r ((congrFun (ms_c e6 (by decide)) 0).trans ((congrFun (ms_c e4 (by decide)) 0).trans (congrFun (ms_c e2 (by decide)) 0))) hp12), (km_c ((ms_c e6 (by decide)).trans ((ms_c e4 (by decide)).trans (ms_c e2 (by decide)))) ((ms_c e6 (by decide)).trans ((ms_c e4 (by decide)).trans (ms_c e2 (by decide)))) hp13), (km_c ((ms_c e6 (by decide)).trans ((ms_c e4 (by decide)).trans (ms_c e2 (by decide)))) ((ms_c e6 (by decide)).trans ((ms_c e4 (by decide)).trans (ms_c e2 (by decide)))) hp14), (km_c ((ms_c e6 (by decide)).trans ((ms_c e4 (by decide)).trans (ms_c e2 (by decide)))) ((ms_c e6 (by decide)).trans ((ms_c e4 (by decide)).trans (ms_c e2 (by decide)))) hp15), (bd_r ((congrFun (ms_c e6 (by decide)) 0).trans ((congrFun (ms_c e4 (by decide)) 0).trans (congrFun (ms_c e2 (by decide)) 0))) hp18), (bd_r ((congrFun (ms_c e6 (by decide)) 2).trans ((congrFun (ms_c e4 (by decide)) 2).trans (congrFun (ms_c e2 (by decide)) 2))) hp19), (ab_c ((ms_c e6 (by decide)).trans ((ms_c e4 (by decide)).trans (ms_c e2 (by decide)))) hp16), (bd_r ((congrFun (ms_c e6 (by decide)) 0).trans ((congrFun (ms_c e4 (by decide)) 0).trans (congrFun (ms_c e2 (by decide)) 0))) hp20), (km_c ((ms_c e6 (by decide)).trans ((ms_c e4 (by decide)).trans (ms_c e2 (by decide)))) ((ms_c e6 (by decide)).trans ((ms_c e4 (by decide)).trans (ms_c e2 (by decide)))) hp17), (ab_c ((ms_c e6 (by decide)).trans ((ms_c e4 (by decide)).trans (ms_c e2 (by decide)))) hp21), (fun c k0_ k1_ k2_ k3_ k4_ k5_ k6_ k7_ k8_ k9_ k10_ k11_ k12_ k13_ k14_ k15_ k16_ k17_ k18_ k19_ k20_ k21_ k22_ k23_ k24_ k25_ k26_ k27_ k28_ k29_ k30_ k31_ k32_ k33_ k34_ k35_ => ((ms_c e6 k0_).trans ((ms_c e4 k0_).trans (ms_c e2 k0_)))), (fun j k1_ k2_ k3_ k5_ k7_ => ((ms_i e6 k3_).trans ((ms_i e4 k2_).trans (ms_i e2 k1_)))), (fun j k0_ k2_ => ((congrFun (ms_c e6 (by decide)) j).trans ((congrFun (ms_c e4 (by decide)) j).trans (congrFun (ms_c e2 (by decide)) j)))), (fun j k0_ k2_ => ((congrFun (ms_c e6 (by decide)) j).trans ((congrFun (ms_c e4 (by decide)) j).trans (congrFun (ms_c e2 (by decide)) j)))), (fun j k0_ => ((congrFun (ms_c e6 (by decide)) j).trans ((congrFun (ms_c e4 (by decide)) j).trans (congrFun (ms_c e2 (by decide)) j)))), (fun j k0_ => ((congrFun (ms_c e6 (by decide)) j).trans ((congrFun (ms_c e4 (by decide)) j).trans (congrFun (ms_c e2 (by decide)) j)))), (fun j k0_ => ((congrFun (ms_c e6 (by decide)) j).trans ((congrFun (ms_c e4 (by decide)) j).trans (congrFun (ms_c e2 (by decide)) j)))), (fun j k5_ k6_ => ((congrFun (ms_c e6 (by decide)) j).trans ((congrFun (ms_c e4 (by decide)) j).trans (congrFun (ms_c e2 (by decide)) j)))), (fun j k0_ k1_ k2_ k3_ k4_ k5_ => ((congrFun (ms_c e6 (by decide)) j).trans ((congrFun (ms_c e4 (by decide)) j).trans (congrFun (ms_c e2 (by decide)) j)))), (fun j k0_ k2_ => ((congrFun (ms_c e6 (by decide)) j).trans ((congrFun (ms_c e4 (by decide)) j).trans (congrFun (ms_c e2 (by decide)) j)))), (fun j k0_ => ((congrFun (ms_c e6 (by decide)) j).trans ((congrFun (ms_c e4 (by decide)) j).trans (congrFun (ms_c e2 (by decide)) j))))⟩
