/-! names, fields, codes: cut out of the printed names by wip/gen/names.py; words by their places -/
def gt : List Cond := lw_tbl.filter goodWord
theorem gt_in {w : Cond} (i : Nat) (h : lw_tbl[i]? = some w) (hg : goodWord w = true) : w ∈ gt := List.mem_filter.mpr ⟨List.mem_of_getElem? h, hg⟩
theorem gt_gt : GoodIn gt gt := fun w hw => ⟨hw, good_of_word (List.mem_filter.mp hw).2⟩
/-- the words that a method carries in its start: nest links, arrays of objects -/
def nw (w : Cond) : Bool := match w with
  | .fieldLinkNest _ _ _ _ _ _ => true
  | .methodLinkNest _ _ _ _ => true
  | .arrayOver (.object _) => true
  | _ => false
def nt : List Cond := lw_tbl.filter nw
theorem nt_in {w : Cond} (i : Nat) (h : lw_tbl[i]? = some w) (hg : nw w = true) : w ∈ nt := List.mem_filter.mpr ⟨List.mem_of_getElem? h, hg⟩
theorem gt_t1 {w : Cond} {i : Nat} (h : tables_1_1[i]? = some w) (hg : goodWord w = true) : w ∈ gt := by
  refine List.mem_filter.mpr ⟨?_, hg⟩
  have hm := List.mem_of_getElem? h
  unfold lw_tbl tables_1
  simp only [List.mem_append]
  simp only [hm, true_or, or_true]
theorem nt_t1 {w : Cond} {i : Nat} (h : tables_1_1[i]? = some w) (hg : nw w = true) : w ∈ nt := by
  refine List.mem_filter.mpr ⟨?_, hg⟩
  have hm := List.mem_of_getElem? h
  unfold lw_tbl tables_1
  simp only [List.mem_append]
  simp only [hm, true_or, or_true]
theorem gt_t2 {w : Cond} {i : Nat} (h : tables_1_2[i]? = some w) (hg : goodWord w = true) : w ∈ gt := by
  refine List.mem_filter.mpr ⟨?_, hg⟩
  have hm := List.mem_of_getElem? h
  unfold lw_tbl tables_1
  simp only [List.mem_append]
  simp only [hm, true_or, or_true]
theorem nt_t2 {w : Cond} {i : Nat} (h : tables_1_2[i]? = some w) (hg : nw w = true) : w ∈ nt := by
  refine List.mem_filter.mpr ⟨?_, hg⟩
  have hm := List.mem_of_getElem? h
  unfold lw_tbl tables_1
  simp only [List.mem_append]
  simp only [hm, true_or, or_true]
theorem gt_t3 {w : Cond} {i : Nat} (h : tables_1_3[i]? = some w) (hg : goodWord w = true) : w ∈ gt := by
  refine List.mem_filter.mpr ⟨?_, hg⟩
  have hm := List.mem_of_getElem? h
  unfold lw_tbl tables_1
  simp only [List.mem_append]
  simp only [hm, true_or, or_true]
theorem gt_t4 {w : Cond} {i : Nat} (h : tables_1_4[i]? = some w) (hg : goodWord w = true) : w ∈ gt := by
  refine List.mem_filter.mpr ⟨?_, hg⟩
  have hm := List.mem_of_getElem? h
  unfold lw_tbl tables_1
  simp only [List.mem_append]
  simp only [hm, true_or, or_true]
theorem nt_t4 {w : Cond} {i : Nat} (h : tables_1_4[i]? = some w) (hg : nw w = true) : w ∈ nt := by
  refine List.mem_filter.mpr ⟨?_, hg⟩
  have hm := List.mem_of_getElem? h
  unfold lw_tbl tables_1
  simp only [List.mem_append]
  simp only [hm, true_or, or_true]
theorem gt_t5 {w : Cond} {i : Nat} (h : tables_1_5[i]? = some w) (hg : goodWord w = true) : w ∈ gt := by
  refine List.mem_filter.mpr ⟨?_, hg⟩
  have hm := List.mem_of_getElem? h
  unfold lw_tbl tables_1
  simp only [List.mem_append]
  simp only [hm, true_or, or_true]
theorem nt_t5 {w : Cond} {i : Nat} (h : tables_1_5[i]? = some w) (hg : nw w = true) : w ∈ nt := by
  refine List.mem_filter.mpr ⟨?_, hg⟩
  have hm := List.mem_of_getElem? h
  unfold lw_tbl tables_1
  simp only [List.mem_append]
  simp only [hm, true_or, or_true]
theorem gt_t6 {w : Cond} {i : Nat} (h : tables_1_6[i]? = some w) (hg : goodWord w = true) : w ∈ gt := by
  refine List.mem_filter.mpr ⟨?_, hg⟩
  have hm := List.mem_of_getElem? h
  unfold lw_tbl tables_1
  simp only [List.mem_append]
  simp only [hm, true_or, or_true]
theorem gt_t7 {w : Cond} {i : Nat} (h : tables_1_7[i]? = some w) (hg : goodWord w = true) : w ∈ gt := by
  refine List.mem_filter.mpr ⟨?_, hg⟩
  have hm := List.mem_of_getElem? h
  unfold lw_tbl tables_1
  simp only [List.mem_append]
  simp only [hm, true_or, or_true]
theorem gt_t8 {w : Cond} {i : Nat} (h : tables_1_8[i]? = some w) (hg : goodWord w = true) : w ∈ gt := by
  refine List.mem_filter.mpr ⟨?_, hg⟩
  have hm := List.mem_of_getElem? h
  unfold lw_tbl tables_1
  simp only [List.mem_append]
  simp only [hm, true_or, or_true]
theorem gt_of (ws : List Cond) (ps : List Nat) (hp : ws = ps.filterMap (fun i => lw_tbl[i]?)) (h : ws.all goodWord = true) : ∀ w ∈ ws, w ∈ gt := by
  intro w hw
  have h1 := List.all_eq_true.mp h w hw
  rw [hp] at hw
  obtain ⟨i, -, hi⟩ := List.mem_filterMap.mp hw
  exact gt_in i hi h1
def RX0 : String := "PondStair$Choice"
def TX0 : u_T := fun k => match k with
  | 0 => ("PondStair$Choice", "odds", "LPondStair$Odds;", true)
  | 1 => ("PondStair$Choice", "trial", "LPondStair$Hill;", true)
  | 2 => ("PondStair$Choice", "first", "I", false)
  | 3 => ("PondStair$Choice", "second", "I", false)
  | 4 => ("PondStair$Choice", "least", "J", false)
  | 5 => ("PondStair$Choice", "filling", "I", false)
  | 6 => ("PondStair$Choice", "toFill", "[I", true)
  | 7 => ("PondStair$Choice", "order", "[I", true)
  | 8 => ("PondStair$Choice", "tried", "[I", true)
  | _ => ("PondStair$Choice", "filledMean", "[J", true)
def tyX0 : Nat → FieldType := fun k => match k with
  | 0 => .object "PondStair$Odds"
  | 1 => .object "PondStair$Hill"
  | 2 => .int
  | 3 => .int
  | 4 => .long
  | 5 => .int
  | 6 => .array .int
  | 7 => .array .int
  | 8 => .array .int
  | _ => .array .long
theorem nmX0 : ∀ a, a < 10 → ∀ b, b < 10 → a ≠ b → (TX0 a).2.1 ≠ (TX0 b).2.1 := by decide +kernel
theorem tyX0_ok : ∀ k, k < 10 → parseFieldDescriptor (TX0 k).2.2.1 = some (tyX0 k) := by decide +kernel
abbrev cX0_init : ByteArray := prog_2_method_1_code
def yX0_init : MethodName := ⟨RX0, "<init>", "()V"⟩
abbrev cX0_meanMended : ByteArray := prog_2_method_2_code
def yX0_meanMended : MethodName := ⟨RX0, "meanMended", "(I)J"⟩
abbrev cX0_bestSet : ByteArray := prog_2_method_3_code
def yX0_bestSet : MethodName := ⟨RX0, "bestSet", "(LPondStair$Hill;II)I"⟩
abbrev cX0_fewestDays : ByteArray := prog_2_method_4_code
def yX0_fewestDays : MethodName := ⟨RX0, "fewestDays", "(LPondStair$Hill;II)I"⟩
abbrev cX0_stepByStep : ByteArray := prog_2_method_5_code
def yX0_stepByStep : MethodName := ⟨RX0, "stepByStep", "(LPondStair$Hill;II)I"⟩
abbrev cX0_nextStep : ByteArray := prog_2_method_6_code
def yX0_nextStep : MethodName := ⟨RX0, "nextStep", "(LPondStair$Hill;III)I"⟩
abbrev cX0_isBetterBuy : ByteArray := prog_2_method_7_code
def yX0_isBetterBuy : MethodName := ⟨RX0, "isBetterBuy", "(JJJJ)Z"⟩
abbrev cX0_holdAll : ByteArray := prog_2_method_8_code
def yX0_holdAll : MethodName := ⟨RX0, "holdAll", "(LPondStair$Hill;)V"⟩
abbrev cX0_lowerBy : ByteArray := prog_2_method_9_code
def yX0_lowerBy : MethodName := ⟨RX0, "lowerBy", "(LPondStair$Hill;I)I"⟩
abbrev cX0_mostUrgent : ByteArray := prog_2_method_10_code
def yX0_mostUrgent : MethodName := ⟨RX0, "mostUrgent", "(LPondStair$Hill;)I"⟩
abbrev cX0_heaviest : ByteArray := prog_2_method_11_code
def yX0_heaviest : MethodName := ⟨RX0, "heaviest", "(LPondStair$Hill;)I"⟩
abbrev cX0_turnAround : ByteArray := prog_2_method_12_code
def yX0_turnAround : MethodName := ⟨RX0, "turnAround", "(LPondStair$Hill;)V"⟩
abbrev cX0_findOrder : ByteArray := prog_2_method_13_code
def yX0_findOrder : MethodName := ⟨RX0, "findOrder", "()V"⟩
abbrev cX0_lookAtFilled : ByteArray := prog_2_method_14_code
def yX0_lookAtFilled : MethodName := ⟨RX0, "lookAtFilled", "(LPondStair$Hill;I)V"⟩
abbrev cX0_takeOrder : ByteArray := prog_2_method_15_code
def yX0_takeOrder : MethodName := ⟨RX0, "takeOrder", "(I)Z"⟩
abbrev cX0_mayOfTried : ByteArray := prog_2_method_16_code
def yX0_mayOfTried : MethodName := ⟨RX0, "mayOfTried", "()J"⟩
abbrev cX0_downwards : ByteArray := prog_2_method_17_code
def yX0_downwards : MethodName := ⟨RX0, "downwards", "()J"⟩
abbrev cX0_filledAt : ByteArray := prog_2_method_18_code
def yX0_filledAt : MethodName := ⟨RX0, "filledAt", "(I)I"⟩
def RX1 : String := "PondStair$Hill"
def TX1 : u_T := fun k => match k with
  | 0 => ("PondStair$Hill", "ponds", "I", false)
  | 1 => ("PondStair$Hill", "row", "[I", true)
  | 2 => ("PondStair$Hill", "rains", "I", false)
  | 3 => ("PondStair$Hill", "rainSteps", "[I", true)
  | 4 => ("PondStair$Hill", "rainChance", "[I", true)
  | _ => ("PondStair$Hill", "days", "[I", true)
def tyX1 : Nat → FieldType := fun k => match k with
  | 0 => .int
  | 1 => .array .int
  | 2 => .int
  | 3 => .array .int
  | 4 => .array .int
  | _ => .array .int
theorem nmX1 : ∀ a, a < 6 → ∀ b, b < 6 → a ≠ b → (TX1 a).2.1 ≠ (TX1 b).2.1 := by decide +kernel
theorem tyX1_ok : ∀ k, k < 6 → parseFieldDescriptor (TX1 k).2.2.1 = some (tyX1 k) := by decide +kernel
abbrev cX1_init : ByteArray := prog_3_method_1_code
def yX1_init : MethodName := ⟨RX1, "<init>", "()V"⟩
abbrev cX1_clear : ByteArray := prog_3_method_2_code
def yX1_clear : MethodName := ⟨RX1, "clear", "()V"⟩
abbrev cX1_copy : ByteArray := prog_3_method_3_code
def yX1_copy : MethodName := ⟨RX1, "copy", "(LPondStair$Hill;)V"⟩
abbrev cX1_addPond : ByteArray := prog_3_method_4_code
def yX1_addPond : MethodName := ⟨RX1, "addPond", "(III)Z"⟩
abbrev cX1_addRain : ByteArray := prog_3_method_5_code
def yX1_addRain : MethodName := ⟨RX1, "addRain", "(II)Z"⟩
abbrev cX1_has : ByteArray := prog_3_method_6_code
def yX1_has : MethodName := ⟨RX1, "has", "(I)Z"⟩
abbrev cX1_hasSet : ByteArray := prog_3_method_7_code
def yX1_hasSet : MethodName := ⟨RX1, "hasSet", "(I)Z"⟩
abbrev cX1_hasRain : ByteArray := prog_3_method_8_code
def yX1_hasRain : MethodName := ⟨RX1, "hasRain", "(I)Z"⟩
abbrev cX1_hasStorm : ByteArray := prog_3_method_9_code
def yX1_hasStorm : MethodName := ⟨RX1, "hasStorm", "(II)Z"⟩
abbrev cX1_all : ByteArray := prog_3_method_10_code
def yX1_all : MethodName := ⟨RX1, "all", "()I"⟩
abbrev cX1_of : ByteArray := prog_3_method_11_code
def yX1_of : MethodName := ⟨RX1, "of", "(II)I"⟩
abbrev cX1_put : ByteArray := prog_3_method_12_code
def yX1_put : MethodName := ⟨RX1, "put", "(III)V"⟩
abbrev cX1_isOut : ByteArray := prog_3_method_13_code
def yX1_isOut : MethodName := ⟨RX1, "isOut", "(I)Z"⟩
abbrev cX1_takeOut : ByteArray := prog_3_method_14_code
def yX1_takeOut : MethodName := ⟨RX1, "takeOut", "(I)V"⟩
abbrev cX1_stepsOf : ByteArray := prog_3_method_15_code
def yX1_stepsOf : MethodName := ⟨RX1, "stepsOf", "(I)I"⟩
abbrev cX1_chanceOf : ByteArray := prog_3_method_16_code
def yX1_chanceOf : MethodName := ⟨RX1, "chanceOf", "(I)I"⟩
abbrev cX1_chancesTogether : ByteArray := prog_3_method_17_code
def yX1_chancesTogether : MethodName := ⟨RX1, "chancesTogether", "()I"⟩
abbrev cX1_told : ByteArray := prog_3_method_18_code
def yX1_told : MethodName := ⟨RX1, "told", "(I)I"⟩
abbrev cX1_ownedBy : ByteArray := prog_3_method_19_code
def yX1_ownedBy : MethodName := ⟨RX1, "ownedBy", "(I)I"⟩
abbrev cX1_weak : ByteArray := prog_3_method_20_code
def yX1_weak : MethodName := ⟨RX1, "weak", "()I"⟩
abbrev cX1_daysToMend : ByteArray := prog_3_method_21_code
def yX1_daysToMend : MethodName := ⟨RX1, "daysToMend", "(I)I"⟩
abbrev cX1_harmOf : ByteArray := prog_3_method_22_code
def yX1_harmOf : MethodName := ⟨RX1, "harmOf", "(I)I"⟩
abbrev cX1_nextOf : ByteArray := prog_3_method_23_code
def yX1_nextOf : MethodName := ⟨RX1, "nextOf", "(I)I"⟩
abbrev cX1_reachedFrom : ByteArray := prog_3_method_24_code
def yX1_reachedFrom : MethodName := ⟨RX1, "reachedFrom", "(I)I"⟩
abbrev cX1_reaching : ByteArray := prog_3_method_25_code
def yX1_reaching : MethodName := ⟨RX1, "reaching", "(I)I"⟩
abbrev cX1_seenAndGoes : ByteArray := prog_3_method_26_code
def yX1_seenAndGoes : MethodName := ⟨RX1, "seenAndGoes", "(I)I"⟩
abbrev cX1_seen : ByteArray := prog_3_method_27_code
def yX1_seen : MethodName := ⟨RX1, "seen", "(I)I"⟩
def RX2 : String := "PondStair$Odds"
def TX2 : u_T := fun k => match k with
  | 0 => ("PondStair$Odds", "flow", "LPondStair$Storm;", true)
  | 1 => ("PondStair$Odds", "hill", "LPondStair$Hill;", true)
  | 2 => ("PondStair$Odds", "went", "[I", true)
  | 3 => ("PondStair$Odds", "harm", "[I", true)
  | 4 => ("PondStair$Odds", "weight", "[J", true)
  | _ => ("PondStair$Odds", "together", "[J", true)
def tyX2 : Nat → FieldType := fun k => match k with
  | 0 => .object "PondStair$Storm"
  | 1 => .object "PondStair$Hill"
  | 2 => .array .int
  | 3 => .array .int
  | 4 => .array .long
  | _ => .array .long
theorem nmX2 : ∀ a, a < 6 → ∀ b, b < 6 → a ≠ b → (TX2 a).2.1 ≠ (TX2 b).2.1 := by decide +kernel
theorem tyX2_ok : ∀ k, k < 6 → parseFieldDescriptor (TX2 k).2.2.1 = some (tyX2 k) := by decide +kernel
abbrev cX2_init : ByteArray := prog_4_method_1_code
def yX2_init : MethodName := ⟨RX2, "<init>", "()V"⟩
abbrev cX2_look : ByteArray := prog_4_method_2_code
def yX2_look : MethodName := ⟨RX2, "look", "(LPondStair$Hill;II)V"⟩
abbrev cX2_weigh : ByteArray := prog_4_method_3_code
def yX2_weigh : MethodName := ⟨RX2, "weigh", "(II)V"⟩
abbrev cX2_parts : ByteArray := prog_4_method_4_code
def yX2_parts : MethodName := ⟨RX2, "parts", "(II)J"⟩
abbrev cX2_wentBy : ByteArray := prog_4_method_5_code
def yX2_wentBy : MethodName := ⟨RX2, "wentBy", "(II)I"⟩
abbrev cX2_isStorm : ByteArray := prog_4_method_6_code
def yX2_isStorm : MethodName := ⟨RX2, "isStorm", "(II)Z"⟩
abbrev cX2_wholeMean : ByteArray := prog_4_method_7_code
def yX2_wholeMean : MethodName := ⟨RX2, "wholeMean", "(LPondStair$Hill;I)J"⟩
abbrev cX2_meanOf : ByteArray := prog_4_method_8_code
def yX2_meanOf : MethodName := ⟨RX2, "meanOf", "(I)J"⟩
abbrev cX2_partsOf : ByteArray := prog_4_method_9_code
def yX2_partsOf : MethodName := ⟨RX2, "partsOf", "(I)J"⟩
abbrev cX2_likeliest : ByteArray := prog_4_method_10_code
def yX2_likeliest : MethodName := ⟨RX2, "likeliest", "()I"⟩
abbrev cX2_mostThatWent : ByteArray := prog_4_method_11_code
def yX2_mostThatWent : MethodName := ⟨RX2, "mostThatWent", "()I"⟩
abbrev cX2_worstTold : ByteArray := prog_4_method_12_code
def yX2_worstTold : MethodName := ⟨RX2, "worstTold", "(I)J"⟩
abbrev cX2_mostInBrook : ByteArray := prog_4_method_13_code
def yX2_mostInBrook : MethodName := ⟨RX2, "mostInBrook", "()I"⟩
def RX3 : String := "PondStair$Reader"
def TX3 : u_T := fun k => match k with
  | 0 => ("PondStair$Reader", "tokens", "LPondStair$Tokens;", true)
  | 1 => ("PondStair$Reader", "hill", "LPondStair$Hill;", true)
  | 2 => ("PondStair$Reader", "works", "LPondStair$Works;", true)
  | 3 => ("PondStair$Reader", "numbers", "[I", true)
  | 4 => ("PondStair$Reader", "places", "[I", true)
  | 5 => ("PondStair$Reader", "fault", "I", false)
  | _ => ("PondStair$Reader", "place", "I", false)
def tyX3 : Nat → FieldType := fun k => match k with
  | 0 => .object "PondStair$Tokens"
  | 1 => .object "PondStair$Hill"
  | 2 => .object "PondStair$Works"
  | 3 => .array .int
  | 4 => .array .int
  | 5 => .int
  | _ => .int
theorem nmX3 : ∀ a, a < 7 → ∀ b, b < 7 → a ≠ b → (TX3 a).2.1 ≠ (TX3 b).2.1 := by decide +kernel
theorem tyX3_ok : ∀ k, k < 7 → parseFieldDescriptor (TX3 k).2.2.1 = some (tyX3 k) := by decide +kernel
abbrev cX3_init : ByteArray := prog_5_method_1_code
def yX3_init : MethodName := ⟨RX3, "<init>", "()V"⟩
abbrev cX3_read : ByteArray := prog_5_method_2_code
def yX3_read : MethodName := ⟨RX3, "read", "([BII)V"⟩
abbrev cX3_closeRains : ByteArray := prog_5_method_3_code
def yX3_closeRains : MethodName := ⟨RX3, "closeRains", "()V"⟩
abbrev cX3_readLine : ByteArray := prog_5_method_4_code
def yX3_readLine : MethodName := ⟨RX3, "readLine", "(I)Z"⟩
abbrev cX3_breaksOff : ByteArray := prog_5_method_5_code
def yX3_breaksOff : MethodName := ⟨RX3, "breaksOff", "()Z"⟩
abbrev cX3_remember : ByteArray := prog_5_method_6_code
def yX3_remember : MethodName := ⟨RX3, "remember", "(II)V"⟩
abbrev cX3_lineOf : ByteArray := prog_5_method_7_code
def yX3_lineOf : MethodName := ⟨RX3, "lineOf", "(I)I"⟩
abbrev cX3_hillWord : ByteArray := prog_5_method_8_code
def yX3_hillWord : MethodName := ⟨RX3, "hillWord", "(I)Ljava/lang/String;"⟩
abbrev cX3_planWord : ByteArray := prog_5_method_9_code
def yX3_planWord : MethodName := ⟨RX3, "planWord", "(I)Ljava/lang/String;"⟩
abbrev cX3_take : ByteArray := prog_5_method_10_code
def yX3_take : MethodName := ⟨RX3, "take", "(IIII)V"⟩
abbrev cX3_isFull : ByteArray := prog_5_method_11_code
def yX3_isFull : MethodName := ⟨RX3, "isFull", "(I)Z"⟩
abbrev cX3_canBeInHill : ByteArray := prog_5_method_12_code
def yX3_canBeInHill : MethodName := ⟨RX3, "canBeInHill", "(II)Z"⟩
abbrev cX3_canBeInPlan : ByteArray := prog_5_method_13_code
def yX3_canBeInPlan : MethodName := ⟨RX3, "canBeInPlan", "(II)Z"⟩
abbrev cX3_takeForHill : ByteArray := prog_5_method_14_code
def yX3_takeForHill : MethodName := ⟨RX3, "takeForHill", "(II)V"⟩
def RX4 : String := "PondStair$Site"
def TX4 : u_T := fun k => match k with
  | 0 => ("PondStair$Site", "ground", "LPondStair$Hill;", true)
  | 1 => ("PondStair$Site", "stop", "I", false)
  | 2 => ("PondStair$Site", "days", "I", false)
  | _ => ("PondStair$Site", "lost", "I", false)
def tyX4 : Nat → FieldType := fun k => match k with
  | 0 => .object "PondStair$Hill"
  | 1 => .int
  | 2 => .int
  | _ => .int
theorem nmX4 : ∀ a, a < 4 → ∀ b, b < 4 → a ≠ b → (TX4 a).2.1 ≠ (TX4 b).2.1 := by decide +kernel
theorem tyX4_ok : ∀ k, k < 4 → parseFieldDescriptor (TX4 k).2.2.1 = some (tyX4 k) := by decide +kernel
abbrev cX4_init : ByteArray := prog_6_method_1_code
def yX4_init : MethodName := ⟨RX4, "<init>", "()V"⟩
abbrev cX4_lay : ByteArray := prog_6_method_2_code
def yX4_lay : MethodName := ⟨RX4, "lay", "(LPondStair$Hill;LPondStair$Works;)V"⟩
abbrev cX4_builds : ByteArray := prog_6_method_3_code
def yX4_builds : MethodName := ⟨RX4, "builds", "(III)Z"⟩
abbrev cX4_mends : ByteArray := prog_6_method_4_code
def yX4_mends : MethodName := ⟨RX4, "mends", "(II)Z"⟩
abbrev cX4_lowers : ByteArray := prog_6_method_5_code
def yX4_lowers : MethodName := ⟨RX4, "lowers", "(II)Z"⟩
abbrev cX4_widens : ByteArray := prog_6_method_6_code
def yX4_widens : MethodName := ⟨RX4, "widens", "(II)Z"⟩
abbrev cX4_leads : ByteArray := prog_6_method_7_code
def yX4_leads : MethodName := ⟨RX4, "leads", "(II)Z"⟩
def RX5 : String := "PondStair$Storm"
def TX5 : u_T := fun k => match k with
  | 0 => ("PondStair$Storm", "ponds", "I", false)
  | 1 => ("PondStair$Storm", "went", "I", false)
  | 2 => ("PondStair$Storm", "harm", "I", false)
  | 3 => ("PondStair$Storm", "heard", "I", false)
  | 4 => ("PondStair$Storm", "brook", "I", false)
  | 5 => ("PondStair$Storm", "water", "[I", true)
  | _ => ("PondStair$Storm", "left", "[I", true)
def tyX5 : Nat → FieldType := fun k => match k with
  | 0 => .int
  | 1 => .int
  | 2 => .int
  | 3 => .int
  | 4 => .int
  | 5 => .array .int
  | _ => .array .int
theorem nmX5 : ∀ a, a < 7 → ∀ b, b < 7 → a ≠ b → (TX5 a).2.1 ≠ (TX5 b).2.1 := by decide +kernel
theorem tyX5_ok : ∀ k, k < 7 → parseFieldDescriptor (TX5 k).2.2.1 = some (tyX5 k) := by decide +kernel
abbrev cX5_init : ByteArray := prog_7_method_1_code
def yX5_init : MethodName := ⟨RX5, "<init>", "()V"⟩
abbrev cX5_run : ByteArray := prog_7_method_2_code
def yX5_run : MethodName := ⟨RX5, "run", "(LPondStair$Hill;III)V"⟩
abbrev cX5_hears : ByteArray := prog_7_method_3_code
def yX5_hears : MethodName := ⟨RX5, "hears", "(LPondStair$Hill;I)Z"⟩
abbrev cX5_goes : ByteArray := prog_7_method_4_code
def yX5_goes : MethodName := ⟨RX5, "goes", "(LPondStair$Hill;II)Z"⟩
abbrev cX5_leaving : ByteArray := prog_7_method_5_code
def yX5_leaving : MethodName := ⟨RX5, "leaving", "(LPondStair$Hill;IZ)I"⟩
abbrev cX5_pass : ByteArray := prog_7_method_6_code
def yX5_pass : MethodName := ⟨RX5, "pass", "(LPondStair$Hill;I)V"⟩
abbrev cX5_told : ByteArray := prog_7_method_7_code
def yX5_told : MethodName := ⟨RX5, "told", "(I)I"⟩
abbrev cX5_toldOfPond : ByteArray := prog_7_method_8_code
def yX5_toldOfPond : MethodName := ⟨RX5, "toldOfPond", "(II)I"⟩
abbrev cX5_leaveBehind : ByteArray := prog_7_method_9_code
def yX5_leaveBehind : MethodName := ⟨RX5, "leaveBehind", "(LPondStair$Hill;)V"⟩
def RX6 : String := "PondStair$Tokens"
def TX6 : u_T := fun k => match k with
  | 0 => ("PondStair$Tokens", "tape", "[B", false)
  | 1 => ("PondStair$Tokens", "length", "I", false)
  | 2 => ("PondStair$Tokens", "next", "I", false)
  | 3 => ("PondStair$Tokens", "kind", "I", false)
  | 4 => ("PondStair$Tokens", "start", "I", false)
  | _ => ("PondStair$Tokens", "value", "I", false)
def tyX6 : Nat → FieldType := fun k => match k with
  | 0 => .array .byte
  | 1 => .int
  | 2 => .int
  | 3 => .int
  | 4 => .int
  | _ => .int
theorem nmX6 : ∀ a, a < 6 → ∀ b, b < 6 → a ≠ b → (TX6 a).2.1 ≠ (TX6 b).2.1 := by decide +kernel
theorem tyX6_ok : ∀ k, k < 6 → parseFieldDescriptor (TX6 k).2.2.1 = some (tyX6 k) := by decide +kernel
abbrev cX6_init : ByteArray := prog_8_method_1_code
def yX6_init : MethodName := ⟨RX6, "<init>", "()V"⟩
abbrev cX6_begin : ByteArray := prog_8_method_2_code
def yX6_begin : MethodName := ⟨RX6, "begin", "([BI)V"⟩
abbrev cX6_advance : ByteArray := prog_8_method_3_code
def yX6_advance : MethodName := ⟨RX6, "advance", "()V"⟩
abbrev cX6_takeWord : ByteArray := prog_8_method_4_code
def yX6_takeWord : MethodName := ⟨RX6, "takeWord", "()V"⟩
abbrev cX6_takeNumber : ByteArray := prog_8_method_5_code
def yX6_takeNumber : MethodName := ⟨RX6, "takeNumber", "()V"⟩
abbrev cX6_isWord : ByteArray := prog_8_method_6_code
def yX6_isWord : MethodName := ⟨RX6, "isWord", "(Ljava/lang/String;)Z"⟩
abbrev cX6_isBlank : ByteArray := prog_8_method_7_code
def yX6_isBlank : MethodName := ⟨RX6, "isBlank", "(I)Z"⟩
abbrev cX6_isLetter : ByteArray := prog_8_method_8_code
def yX6_isLetter : MethodName := ⟨RX6, "isLetter", "(I)Z"⟩
abbrev cX6_isDigit : ByteArray := prog_8_method_9_code
def yX6_isDigit : MethodName := ⟨RX6, "isDigit", "(I)Z"⟩
def RX7 : String := "PondStair$Told"
def TX7 : u_T := fun k => match k with
  | 0 => ("PondStair$Told", "tape", "[B", true)
  | 1 => ("PondStair$Told", "length", "I", false)
  | 2 => ("PondStair$Told", "fault", "I", false)
  | 3 => ("PondStair$Told", "place", "I", false)
  | 4 => ("PondStair$Told", "hill", "[LPondStair$Hill;", true)
  | 5 => ("PondStair$Told", "hills", "I", false)
  | 6 => ("PondStair$Told", "works", "[LPondStair$Works;", true)
  | _ => ("PondStair$Told", "plans", "I", false)
def tyX7 : Nat → FieldType := fun k => match k with
  | 0 => .array .byte
  | 1 => .int
  | 2 => .int
  | 3 => .int
  | 4 => .array (.object "PondStair$Hill")
  | 5 => .int
  | 6 => .array (.object "PondStair$Works")
  | _ => .int
theorem nmX7 : ∀ a, a < 8 → ∀ b, b < 8 → a ≠ b → (TX7 a).2.1 ≠ (TX7 b).2.1 := by decide +kernel
theorem tyX7_ok : ∀ k, k < 8 → parseFieldDescriptor (TX7 k).2.2.1 = some (tyX7 k) := by decide +kernel
abbrev cX7_init : ByteArray := prog_9_method_1_code
def yX7_init : MethodName := ⟨RX7, "<init>", "()V"⟩
abbrev cX7_append : ByteArray := prog_9_method_2_code
def yX7_append : MethodName := ⟨RX7, "append", "(I)V"⟩
abbrev cX7_hasHill : ByteArray := prog_9_method_3_code
def yX7_hasHill : MethodName := ⟨RX7, "hasHill", "(I)Z"⟩
abbrev cX7_hasPlan : ByteArray := prog_9_method_4_code
def yX7_hasPlan : MethodName := ⟨RX7, "hasPlan", "(I)Z"⟩
abbrev cX7_numberFor : ByteArray := prog_9_method_5_code
def yX7_numberFor : MethodName := ⟨RX7, "numberFor", "(II)I"⟩
abbrev cX7_keep : ByteArray := prog_9_method_6_code
def yX7_keep : MethodName := ⟨RX7, "keep", "(IILPondStair$Reader;)V"⟩
abbrev cX7_copy : ByteArray := prog_9_method_7_code
def yX7_copy : MethodName := ⟨RX7, "copy", "(LPondStair$Told;)V"⟩
def RX8 : String := "PondStair$Works"
def TX8 : u_T := fun k => match k with
  | 0 => ("PondStair$Works", "works", "I", false)
  | 1 => ("PondStair$Works", "kind", "[I", true)
  | 2 => ("PondStair$Works", "where", "[I", true)
  | _ => ("PondStair$Works", "much", "[I", true)
def tyX8 : Nat → FieldType := fun k => match k with
  | 0 => .int
  | 1 => .array .int
  | 2 => .array .int
  | _ => .array .int
theorem nmX8 : ∀ a, a < 4 → ∀ b, b < 4 → a ≠ b → (TX8 a).2.1 ≠ (TX8 b).2.1 := by decide +kernel
theorem tyX8_ok : ∀ k, k < 4 → parseFieldDescriptor (TX8 k).2.2.1 = some (tyX8 k) := by decide +kernel
abbrev cX8_init : ByteArray := prog_10_method_1_code
def yX8_init : MethodName := ⟨RX8, "<init>", "()V"⟩
abbrev cX8_clear : ByteArray := prog_10_method_2_code
def yX8_clear : MethodName := ⟨RX8, "clear", "()V"⟩
abbrev cX8_add : ByteArray := prog_10_method_3_code
def yX8_add : MethodName := ⟨RX8, "add", "(III)Z"⟩
abbrev cX8_copy : ByteArray := prog_10_method_4_code
def yX8_copy : MethodName := ⟨RX8, "copy", "(LPondStair$Works;)V"⟩
abbrev cX8_told : ByteArray := prog_10_method_5_code
def yX8_told : MethodName := ⟨RX8, "told", "(II)I"⟩
def RX9 : String := "PondStair$Years"
def TX9 : u_T := fun k => match k with
  | _ => ("PondStair$Years", "x", "I", false)
def tyX9 : Nat → FieldType := fun k => match k with
  | _ => .int
theorem nmX9 : ∀ a, a < 1 → ∀ b, b < 1 → a ≠ b → (TX9 a).2.1 ≠ (TX9 b).2.1 := by decide +kernel
theorem tyX9_ok : ∀ k, k < 1 → parseFieldDescriptor (TX9 k).2.2.1 = some (tyX9 k) := by decide +kernel
abbrev cX9_init : ByteArray := prog_11_method_1_code
def yX9_init : MethodName := ⟨RX9, "<init>", "(I)V"⟩
abbrev cX9_draw : ByteArray := prog_11_method_2_code
def yX9_draw : MethodName := ⟨RX9, "draw", "(I)I"⟩
abbrev cX9_tally : ByteArray := prog_11_method_3_code
def yX9_tally : MethodName := ⟨RX9, "tally", "(LPondStair$Hill;LPondStair$Storm;II)J"⟩
abbrev cX9_drawRain : ByteArray := prog_11_method_4_code
def yX9_drawRain : MethodName := ⟨RX9, "drawRain", "(LPondStair$Hill;)I"⟩
abbrev cX9_drawBanks : ByteArray := prog_11_method_5_code
def yX9_drawBanks : MethodName := ⟨RX9, "drawBanks", "(LPondStair$Hill;)I"⟩
def RX10 : String := "PondStair"
def TX10 : u_T := fun k => match k with
  | 0 => ("PondStair", "told", "LPondStair$Told;", true)
  | 1 => ("PondStair", "images", "[LPondStair$Told;", true)
  | 2 => ("PondStair", "taken", "[Z", true)
  | 3 => ("PondStair", "reader", "LPondStair$Reader;", true)
  | 4 => ("PondStair", "site", "LPondStair$Site;", true)
  | 5 => ("PondStair", "nothing", "LPondStair$Works;", true)
  | 6 => ("PondStair", "flow", "LPondStair$Storm;", true)
  | 7 => ("PondStair", "choice", "LPondStair$Choice;", true)
  | 8 => ("PondStair", "odds", "LPondStair$Odds;", true)
  | _ => ("PondStair", "trial", "LPondStair$Hill;", true)
def tyX10 : Nat → FieldType := fun k => match k with
  | 0 => .object "PondStair$Told"
  | 1 => .array (.object "PondStair$Told")
  | 2 => .array .boolean
  | 3 => .object "PondStair$Reader"
  | 4 => .object "PondStair$Site"
  | 5 => .object "PondStair$Works"
  | 6 => .object "PondStair$Storm"
  | 7 => .object "PondStair$Choice"
  | 8 => .object "PondStair$Odds"
  | _ => .object "PondStair$Hill"
theorem nmX10 : ∀ a, a < 10 → ∀ b, b < 10 → a ≠ b → (TX10 a).2.1 ≠ (TX10 b).2.1 := by decide +kernel
theorem tyX10_ok : ∀ k, k < 10 → parseFieldDescriptor (TX10 k).2.2.1 = some (tyX10 k) := by decide +kernel
abbrev cX10_init : ByteArray := prog_1_method_1_code
def yX10_init : MethodName := ⟨RX10, "<init>", "()V"⟩
abbrev cX10_feed : ByteArray := prog_1_method_2_code
def yX10_feed : MethodName := ⟨RX10, "feed", "(IIIII)I"⟩
abbrev cX10_end : ByteArray := prog_1_method_3_code
def yX10_end : MethodName := ⟨RX10, "end", "(I)I"⟩
abbrev cX10_text : ByteArray := prog_1_method_4_code
def yX10_text : MethodName := ⟨RX10, "text", "(II)I"⟩
abbrev cX10_fault : ByteArray := prog_1_method_5_code
def yX10_fault : MethodName := ⟨RX10, "fault", "(I)I"⟩
abbrev cX10_hill : ByteArray := prog_1_method_6_code
def yX10_hill : MethodName := ⟨RX10, "hill", "(II)I"⟩
abbrev cX10_pond : ByteArray := prog_1_method_7_code
def yX10_pond : MethodName := ⟨RX10, "pond", "(IIII)I"⟩
abbrev cX10_work : ByteArray := prog_1_method_8_code
def yX10_work : MethodName := ⟨RX10, "work", "(III)I"⟩
abbrev cX10_plan : ByteArray := prog_1_method_9_code
def yX10_plan : MethodName := ⟨RX10, "plan", "(III)I"⟩
abbrev cX10_storm : ByteArray := prog_1_method_10_code
def yX10_storm : MethodName := ⟨RX10, "storm", "(IIIII)I"⟩
abbrev cX10_likely : ByteArray := prog_1_method_11_code
def yX10_likely : MethodName := ⟨RX10, "likely", "(III)J"⟩
abbrev cX10_mean : ByteArray := prog_1_method_12_code
def yX10_mean : MethodName := ⟨RX10, "mean", "(III)J"⟩
abbrev cX10_rows : ByteArray := prog_1_method_13_code
def yX10_rows : MethodName := ⟨RX10, "rows", "(IIZ)J"⟩
abbrev cX10_brings : ByteArray := prog_1_method_14_code
def yX10_brings : MethodName := ⟨RX10, "brings", "(IIII)I"⟩
abbrev cX10_best : ByteArray := prog_1_method_15_code
def yX10_best : MethodName := ⟨RX10, "best", "(IIII)I"⟩
abbrev cX10_steps : ByteArray := prog_1_method_16_code
def yX10_steps : MethodName := ⟨RX10, "steps", "(IIII)I"⟩
abbrev cX10_mended : ByteArray := prog_1_method_17_code
def yX10_mended : MethodName := ⟨RX10, "mended", "(III)J"⟩
abbrev cX10_one : ByteArray := prog_1_method_18_code
def yX10_one : MethodName := ⟨RX10, "one", "(IIZ)J"⟩
abbrev cX10_low : ByteArray := prog_1_method_19_code
def yX10_low : MethodName := ⟨RX10, "low", "(III)I"⟩
abbrev cX10_helps : ByteArray := prog_1_method_20_code
def yX10_helps : MethodName := ⟨RX10, "helps", "(IIII)J"⟩
abbrev cX10_alone : ByteArray := prog_1_method_21_code
def yX10_alone : MethodName := ⟨RX10, "alone", "(III)J"⟩
abbrev cX10_hear : ByteArray := prog_1_method_22_code
def yX10_hear : MethodName := ⟨RX10, "hear", "(IIII)J"⟩
abbrev cX10_may : ByteArray := prog_1_method_23_code
def yX10_may : MethodName := ⟨RX10, "may", "(IIIZ)J"⟩
abbrev cX10_order : ByteArray := prog_1_method_24_code
def yX10_order : MethodName := ⟨RX10, "order", "(IIII)I"⟩
abbrev cX10_think : ByteArray := prog_1_method_25_code
def yX10_think : MethodName := ⟨RX10, "think", "(IIIZ)I"⟩
abbrev cX10_now : ByteArray := prog_1_method_26_code
def yX10_now : MethodName := ⟨RX10, "now", "(II)I"⟩
abbrev cX10_years : ByteArray := prog_1_method_27_code
def yX10_years : MethodName := ⟨RX10, "years", "(IIIII)J"⟩
abbrev cX10_spared : ByteArray := prog_1_method_28_code
def yX10_spared : MethodName := ⟨RX10, "spared", "(III)I"⟩
abbrev cX10_deep : ByteArray := prog_1_method_29_code
def yX10_deep : MethodName := ⟨RX10, "deep", "(II)I"⟩
abbrev cX10_safe : ByteArray := prog_1_method_30_code
def yX10_safe : MethodName := ⟨RX10, "safe", "(II)I"⟩
abbrev cX10_weighs : ByteArray := prog_1_method_31_code
def yX10_weighs : MethodName := ⟨RX10, "weighs", "(II)I"⟩
abbrev cX10_upon : ByteArray := prog_1_method_32_code
def yX10_upon : MethodName := ⟨RX10, "upon", "(IIIZ)I"⟩
abbrev cX10_runs : ByteArray := prog_1_method_33_code
def yX10_runs : MethodName := ⟨RX10, "runs", "(III)I"⟩
abbrev cX10_joint : ByteArray := prog_1_method_34_code
def yX10_joint : MethodName := ⟨RX10, "joint", "(IIII)J"⟩
abbrev cX10_given : ByteArray := prog_1_method_35_code
def yX10_given : MethodName := ⟨RX10, "given", "(IIIIZ)J"⟩
abbrev cX10_worst : ByteArray := prog_1_method_36_code
def yX10_worst : MethodName := ⟨RX10, "worst", "(III)J"⟩
abbrev cX10_flood : ByteArray := prog_1_method_37_code
def yX10_flood : MethodName := ⟨RX10, "flood", "(II)I"⟩
abbrev cX10_around : ByteArray := prog_1_method_38_code
def yX10_around : MethodName := ⟨RX10, "around", "(IIZ)I"⟩
abbrev cX10_twice : ByteArray := prog_1_method_39_code
def yX10_twice : MethodName := ⟨RX10, "twice", "(IIIIIII)I"⟩
abbrev cX10_better : ByteArray := prog_1_method_40_code
def yX10_better : MethodName := ⟨RX10, "better", "(III)I"⟩
abbrev cX10_spend : ByteArray := prog_1_method_41_code
def yX10_spend : MethodName := ⟨RX10, "spend", "(IIII)I"⟩
abbrev cX10_count : ByteArray := prog_1_method_42_code
def yX10_count : MethodName := ⟨RX10, "count", "(I)I"⟩
abbrev cX10_image : ByteArray := prog_1_method_43_code
def yX10_image : MethodName := ⟨RX10, "image", "(I)Z"⟩
abbrev cX10_again : ByteArray := prog_1_method_44_code
def yX10_again : MethodName := ⟨RX10, "again", "(I)Z"⟩
abbrev cX10_lays : ByteArray := prog_1_method_45_code
def yX10_lays : MethodName := ⟨RX10, "lays", "(II)Z"⟩
abbrev cX10_looks : ByteArray := prog_1_method_46_code
def yX10_looks : MethodName := ⟨RX10, "looks", "(II)Z"⟩
abbrev cX10_hasPond : ByteArray := prog_1_method_47_code
def yX10_hasPond : MethodName := ⟨RX10, "hasPond", "(III)Z"⟩
abbrev cX10_canMend : ByteArray := prog_1_method_48_code
def yX10_canMend : MethodName := ⟨RX10, "canMend", "(IIIII)Z"⟩
abbrev cX10_canFill : ByteArray := prog_1_method_49_code
def yX10_canFill : MethodName := ⟨RX10, "canFill", "(III)Z"⟩
abbrev cX10_isOwner : ByteArray := prog_1_method_50_code
def yX10_isOwner : MethodName := ⟨RX10, "isOwner", "(I)Z"⟩
abbrev cX10_isIn : ByteArray := prog_1_method_51_code
def yX10_isIn : MethodName := ⟨RX10, "isIn", "(II)Z"⟩
abbrev cX10_bit : ByteArray := prog_1_method_52_code
def yX10_bit : MethodName := ⟨RX10, "bit", "(I)I"⟩
abbrev cX10_inLeastTerms : ByteArray := prog_1_method_53_code
def yX10_inLeastTerms : MethodName := ⟨RX10, "inLeastTerms", "(JJZ)J"⟩
abbrev cX10_commonDivisor : ByteArray := prog_1_method_54_code
def yX10_commonDivisor : MethodName := ⟨RX10, "commonDivisor", "(JJ)J"⟩
def RX11 : String := "PondStairModel"
def TX11 : u_T := fun k => match k with
  | 0 => ("PondStairModel", "code", "I", false)
  | 1 => ("PondStairModel", "tape", "[B", true)
  | 2 => ("PondStairModel", "size", "[I", true)
  | 3 => ("PondStairModel", "fault", "[I", true)
  | 4 => ("PondStairModel", "faultPlace", "[I", true)
  | 5 => ("PondStairModel", "many", "[I", true)
  | 6 => ("PondStairModel", "hills", "[I", true)
  | 7 => ("PondStairModel", "plans", "[I", true)
  | 8 => ("PondStairModel", "ahead", "I", false)
  | 9 => ("PondStairModel", "length", "I", false)
  | 10 => ("PondStairModel", "begins", "I", false)
  | 11 => ("PondStairModel", "sort", "I", false)
  | 12 => ("PondStairModel", "value", "I", false)
  | 13 => ("PondStairModel", "word", "J", false)
  | 14 => ("PondStairModel", "wrongAt", "I", false)
  | 15 => ("PondStairModel", "laterFault", "I", false)
  | 16 => ("PondStairModel", "laterPlace", "I", false)
  | 17 => ("PondStairModel", "read", "I", false)
  | 18 => ("PondStairModel", "good", "Z", false)
  | 19 => ("PondStairModel", "row", "[I", true)
  | 20 => ("PondStairModel", "got", "[I", true)
  | 21 => ("PondStairModel", "now", "[I", true)
  | 22 => ("PondStairModel", "ponds", "I", false)
  | 23 => ("PondStairModel", "done", "I", false)
  | 24 => ("PondStairModel", "days", "I", false)
  | 25 => ("PondStairModel", "lost", "I", false)
  | 26 => ("PondStairModel", "kept", "I", false)
  | 27 => ("PondStairModel", "dry", "Z", false)
  | 28 => ("PondStairModel", "water", "[I", true)
  | 29 => ("PondStairModel", "comes", "[I", true)
  | 30 => ("PondStairModel", "left", "[I", true)
  | 31 => ("PondStairModel", "went", "I", false)
  | 32 => ("PondStairModel", "heard", "I", false)
  | 33 => ("PondStairModel", "brook", "I", false)
  | 34 => ("PondStairModel", "partsOfSet", "[J", true)
  | 35 => ("PondStairModel", "chance", "[I", true)
  | 36 => ("PondStairModel", "level", "[I", true)
  | 37 => ("PondStairModel", "row4", "[I", true)
  | 38 => ("PondStairModel", "best4", "[I", true)
  | 39 => ("PondStairModel", "filled", "I", false)
  | 40 => ("PondStairModel", "leastMay", "J", false)
  | 41 => ("PondStairModel", "drawn", "I", false)
  | _ => ("PondStairModel", "stored", "[Z", true)
def tyX11 : Nat → FieldType := fun k => match k with
  | 0 => .int
  | 1 => .array .byte
  | 2 => .array .int
  | 3 => .array .int
  | 4 => .array .int
  | 5 => .array .int
  | 6 => .array .int
  | 7 => .array .int
  | 8 => .int
  | 9 => .int
  | 10 => .int
  | 11 => .int
  | 12 => .int
  | 13 => .long
  | 14 => .int
  | 15 => .int
  | 16 => .int
  | 17 => .int
  | 18 => .boolean
  | 19 => .array .int
  | 20 => .array .int
  | 21 => .array .int
  | 22 => .int
  | 23 => .int
  | 24 => .int
  | 25 => .int
  | 26 => .int
  | 27 => .boolean
  | 28 => .array .int
  | 29 => .array .int
  | 30 => .array .int
  | 31 => .int
  | 32 => .int
  | 33 => .int
  | 34 => .array .long
  | 35 => .array .int
  | 36 => .array .int
  | 37 => .array .int
  | 38 => .array .int
  | 39 => .int
  | 40 => .long
  | 41 => .int
  | _ => .array .boolean
theorem nmX11 : ∀ a, a < 43 → ∀ b, b < 43 → a ≠ b → (TX11 a).2.1 ≠ (TX11 b).2.1 := by decide +kernel
theorem tyX11_ok : ∀ k, k < 43 → parseFieldDescriptor (TX11 k).2.2.1 = some (tyX11 k) := by decide +kernel
abbrev cX11_init : ByteArray := prog_13_method_1_code
def yX11_init : MethodName := ⟨RX11, "<init>", "()V"⟩
abbrev cX11_in : ByteArray := prog_13_method_3_code
def yX11_in : MethodName := ⟨RX11, "in", "(III)Z"⟩
abbrev cX11_has : ByteArray := prog_13_method_4_code
def yX11_has : MethodName := ⟨RX11, "has", "(II)Z"⟩
abbrev cX11_ones : ByteArray := prog_13_method_5_code
def yX11_ones : MethodName := ⟨RX11, "ones", "(I)I"⟩
abbrev cX11_move : ByteArray := prog_13_method_6_code
def yX11_move : MethodName := ⟨RX11, "move", "([IIII)V"⟩
abbrev cX11_copy : ByteArray := prog_13_method_7_code
def yX11_copy : MethodName := ⟨RX11, "copy", "(II)V"⟩
abbrev cX11_isHill : ByteArray := prog_13_method_8_code
def yX11_isHill : MethodName := ⟨RX11, "isHill", "(I)Z"⟩
abbrev cX11_isPlan : ByteArray := prog_13_method_9_code
def yX11_isPlan : MethodName := ⟨RX11, "isPlan", "(I)Z"⟩
abbrev cX11_feed : ByteArray := prog_13_method_10_code
def yX11_feed : MethodName := ⟨RX11, "feed", "(IIIII)I"⟩
abbrev cX11_four : ByteArray := prog_13_method_11_code
def yX11_four : MethodName := ⟨RX11, "four", "(I)V"⟩
abbrev cX11_end : ByteArray := prog_13_method_12_code
def yX11_end : MethodName := ⟨RX11, "end", "(I)I"⟩
abbrev cX11_see : ByteArray := prog_13_method_13_code
def yX11_see : MethodName := ⟨RX11, "see", "()I"⟩
abbrev cX11_token : ByteArray := prog_13_method_14_code
def yX11_token : MethodName := ⟨RX11, "token", "()V"⟩
abbrev cX11_stops : ByteArray := prog_13_method_15_code
def yX11_stops : MethodName := ⟨RX11, "stops", "()Z"⟩
abbrev cX11_later : ByteArray := prog_13_method_16_code
def yX11_later : MethodName := ⟨RX11, "later", "(II)V"⟩
abbrev cX11_number : ByteArray := prog_13_method_17_code
def yX11_number : MethodName := ⟨RX11, "number", "(II)Z"⟩
abbrev cX11_take : ByteArray := prog_13_method_18_code
def yX11_take : MethodName := ⟨RX11, "take", "(III)Z"⟩
abbrev cX11_pondLine : ByteArray := prog_13_method_19_code
def yX11_pondLine : MethodName := ⟨RX11, "pondLine", "(I)Z"⟩
abbrev cX11_rainLine : ByteArray := prog_13_method_20_code
def yX11_rainLine : MethodName := ⟨RX11, "rainLine", "(I)Z"⟩
abbrev cX11_ofPond : ByteArray := prog_13_method_21_code
def yX11_ofPond : MethodName := ⟨RX11, "ofPond", "(IIIII)Z"⟩
abbrev cX11_daysLine : ByteArray := prog_13_method_22_code
def yX11_daysLine : MethodName := ⟨RX11, "daysLine", "(I)Z"⟩
abbrev cX11_hillLine : ByteArray := prog_13_method_23_code
def yX11_hillLine : MethodName := ⟨RX11, "hillLine", "(I)Z"⟩
abbrev cX11_workLine : ByteArray := prog_13_method_24_code
def yX11_workLine : MethodName := ⟨RX11, "workLine", "(I)Z"⟩
abbrev cX11_endsHill : ByteArray := prog_13_method_25_code
def yX11_endsHill : MethodName := ⟨RX11, "endsHill", "()V"⟩
abbrev cX11_readText : ByteArray := prog_13_method_26_code
def yX11_readText : MethodName := ⟨RX11, "readText", "(I)Z"⟩
abbrev cX11_text : ByteArray := prog_13_method_27_code
def yX11_text : MethodName := ⟨RX11, "text", "(II)I"⟩
abbrev cX11_fault : ByteArray := prog_13_method_28_code
def yX11_fault : MethodName := ⟨RX11, "fault", "(I)I"⟩
abbrev cX11_hill : ByteArray := prog_13_method_29_code
def yX11_hill : MethodName := ⟨RX11, "hill", "(II)I"⟩
abbrev cX11_of : ByteArray := prog_13_method_30_code
def yX11_of : MethodName := ⟨RX11, "of", "(II)I"⟩
abbrev cX11_set : ByteArray := prog_13_method_31_code
def yX11_set : MethodName := ⟨RX11, "set", "(III)V"⟩
abbrev cX11_does : ByteArray := prog_13_method_32_code
def yX11_does : MethodName := ⟨RX11, "does", "(III)Z"⟩
abbrev cX11_lay : ByteArray := prog_13_method_33_code
def yX11_lay : MethodName := ⟨RX11, "lay", "(II)Z"⟩
abbrev cX11_isPond : ByteArray := prog_13_method_34_code
def yX11_isPond : MethodName := ⟨RX11, "isPond", "(I)Z"⟩
abbrev cX11_arePonds : ByteArray := prog_13_method_35_code
def yX11_arePonds : MethodName := ⟨RX11, "arePonds", "(I)Z"⟩
abbrev cX11_pond : ByteArray := prog_13_method_36_code
def yX11_pond : MethodName := ⟨RX11, "pond", "(IIII)I"⟩
abbrev cX11_work : ByteArray := prog_13_method_37_code
def yX11_work : MethodName := ⟨RX11, "work", "(III)I"⟩
abbrev cX11_plan : ByteArray := prog_13_method_38_code
def yX11_plan : MethodName := ⟨RX11, "plan", "(III)I"⟩
abbrev cX11_hears : ByteArray := prog_13_method_39_code
def yX11_hears : MethodName := ⟨RX11, "hears", "(I)Z"⟩
abbrev cX11_blow : ByteArray := prog_13_method_40_code
def yX11_blow : MethodName := ⟨RX11, "blow", "(II)V"⟩
abbrev cX11_pass : ByteArray := prog_13_method_41_code
def yX11_pass : MethodName := ⟨RX11, "pass", "(IIZ)V"⟩
abbrev cX11_stepsOf : ByteArray := prog_13_method_42_code
def yX11_stepsOf : MethodName := ⟨RX11, "stepsOf", "(I)I"⟩
abbrev cX11_isRain : ByteArray := prog_13_method_43_code
def yX11_isRain : MethodName := ⟨RX11, "isRain", "(I)Z"⟩
abbrev cX11_harmOf : ByteArray := prog_13_method_44_code
def yX11_harmOf : MethodName := ⟨RX11, "harmOf", "(I)I"⟩
abbrev cX11_storm : ByteArray := prog_13_method_45_code
def yX11_storm : MethodName := ⟨RX11, "storm", "(IIIII)I"⟩
abbrev cX11_told : ByteArray := prog_13_method_46_code
def yX11_told : MethodName := ⟨RX11, "told", "(I)I"⟩
abbrev cX11_partsOf : ByteArray := prog_13_method_47_code
def yX11_partsOf : MethodName := ⟨RX11, "partsOf", "(II)J"⟩
abbrev cX11_allParts : ByteArray := prog_13_method_48_code
def yX11_allParts : MethodName := ⟨RX11, "allParts", "()J"⟩
abbrev cX11_meanBy : ByteArray := prog_13_method_49_code
def yX11_meanBy : MethodName := ⟨RX11, "meanBy", "(I)J"⟩
abbrev cX11_likely : ByteArray := prog_13_method_50_code
def yX11_likely : MethodName := ⟨RX11, "likely", "(III)J"⟩
abbrev cX11_isOwner : ByteArray := prog_13_method_51_code
def yX11_isOwner : MethodName := ⟨RX11, "isOwner", "(I)Z"⟩
abbrev cX11_mean : ByteArray := prog_13_method_52_code
def yX11_mean : MethodName := ⟨RX11, "mean", "(III)J"⟩
abbrev cX11_rows : ByteArray := prog_13_method_53_code
def yX11_rows : MethodName := ⟨RX11, "rows", "(IIZ)J"⟩
abbrev cX11_brings : ByteArray := prog_13_method_54_code
def yX11_brings : MethodName := ⟨RX11, "brings", "(IIII)I"⟩
abbrev cX11_keepChances : ByteArray := prog_13_method_55_code
def yX11_keepChances : MethodName := ⟨RX11, "keepChances", "()V"⟩
abbrev cX11_mendAll : ByteArray := prog_13_method_56_code
def yX11_mendAll : MethodName := ⟨RX11, "mendAll", "(I)V"⟩
abbrev cX11_meanMended : ByteArray := prog_13_method_57_code
def yX11_meanMended : MethodName := ⟨RX11, "meanMended", "(II)J"⟩
abbrev cX11_costOf : ByteArray := prog_13_method_58_code
def yX11_costOf : MethodName := ⟨RX11, "costOf", "(I)I"⟩
abbrev cX11_canMend : ByteArray := prog_13_method_59_code
def yX11_canMend : MethodName := ⟨RX11, "canMend", "(IIII)Z"⟩
abbrev cX11_best : ByteArray := prog_13_method_60_code
def yX11_best : MethodName := ⟨RX11, "best", "(IIII)I"⟩
abbrev cX11_steps : ByteArray := prog_13_method_61_code
def yX11_steps : MethodName := ⟨RX11, "steps", "(IIII)I"⟩
abbrev cX11_nextOf : ByteArray := prog_13_method_62_code
def yX11_nextOf : MethodName := ⟨RX11, "nextOf", "(III)I"⟩
abbrev cX11_isSooner : ByteArray := prog_13_method_63_code
def yX11_isSooner : MethodName := ⟨RX11, "isSooner", "(JIJI)Z"⟩
abbrev cX11_mended : ByteArray := prog_13_method_64_code
def yX11_mended : MethodName := ⟨RX11, "mended", "(III)J"⟩
abbrev cX11_one : ByteArray := prog_13_method_65_code
def yX11_one : MethodName := ⟨RX11, "one", "(IIZ)J"⟩
abbrev cX11_low : ByteArray := prog_13_method_66_code
def yX11_low : MethodName := ⟨RX11, "low", "(III)I"⟩
abbrev cX11_pondsOf : ByteArray := prog_13_method_67_code
def yX11_pondsOf : MethodName := ⟨RX11, "pondsOf", "(I)I"⟩
abbrev cX11_helps : ByteArray := prog_13_method_68_code
def yX11_helps : MethodName := ⟨RX11, "helps", "(IIII)J"⟩
abbrev cX11_alone : ByteArray := prog_13_method_69_code
def yX11_alone : MethodName := ⟨RX11, "alone", "(III)J"⟩
abbrev cX11_hear : ByteArray := prog_13_method_70_code
def yX11_hear : MethodName := ⟨RX11, "hear", "(IIII)J"⟩
abbrev cX11_fillAll : ByteArray := prog_13_method_71_code
def yX11_fillAll : MethodName := ⟨RX11, "fillAll", "(I)J"⟩
abbrev cX11_findOrder : ByteArray := prog_13_method_72_code
def yX11_findOrder : MethodName := ⟨RX11, "findOrder", "(I)V"⟩
abbrev cX11_isFilled : ByteArray := prog_13_method_73_code
def yX11_isFilled : MethodName := ⟨RX11, "isFilled", "(III)Z"⟩
abbrev cX11_may : ByteArray := prog_13_method_74_code
def yX11_may : MethodName := ⟨RX11, "may", "(IIIZ)J"⟩
abbrev cX11_order : ByteArray := prog_13_method_75_code
def yX11_order : MethodName := ⟨RX11, "order", "(IIII)I"⟩
abbrev cX11_seenBy : ByteArray := prog_13_method_76_code
def yX11_seenBy : MethodName := ⟨RX11, "seenBy", "(I)I"⟩
abbrev cX11_seenAll : ByteArray := prog_13_method_77_code
def yX11_seenAll : MethodName := ⟨RX11, "seenAll", "(I)I"⟩
abbrev cX11_common : ByteArray := prog_13_method_78_code
def yX11_common : MethodName := ⟨RX11, "common", "(II)I"⟩
abbrev cX11_think : ByteArray := prog_13_method_79_code
def yX11_think : MethodName := ⟨RX11, "think", "(IIIZ)I"⟩
abbrev cX11_now : ByteArray := prog_13_method_80_code
def yX11_now : MethodName := ⟨RX11, "now", "(II)I"⟩
abbrev cX11_draw : ByteArray := prog_13_method_81_code
def yX11_draw : MethodName := ⟨RX11, "draw", "(I)I"⟩
abbrev cX11_year : ByteArray := prog_13_method_82_code
def yX11_year : MethodName := ⟨RX11, "year", "()V"⟩
abbrev cX11_years : ByteArray := prog_13_method_83_code
def yX11_years : MethodName := ⟨RX11, "years", "(IIIII)J"⟩
abbrev cX11_spared : ByteArray := prog_13_method_84_code
def yX11_spared : MethodName := ⟨RX11, "spared", "(III)I"⟩
abbrev cX11_deep : ByteArray := prog_13_method_85_code
def yX11_deep : MethodName := ⟨RX11, "deep", "(II)I"⟩
abbrev cX11_safe : ByteArray := prog_13_method_86_code
def yX11_safe : MethodName := ⟨RX11, "safe", "(II)I"⟩
abbrev cX11_weighs : ByteArray := prog_13_method_87_code
def yX11_weighs : MethodName := ⟨RX11, "weighs", "(II)I"⟩
abbrev cX11_leads : ByteArray := prog_13_method_88_code
def yX11_leads : MethodName := ⟨RX11, "leads", "(II)Z"⟩
abbrev cX11_upon : ByteArray := prog_13_method_89_code
def yX11_upon : MethodName := ⟨RX11, "upon", "(IIIZ)I"⟩
abbrev cX11_runs : ByteArray := prog_13_method_90_code
def yX11_runs : MethodName := ⟨RX11, "runs", "(III)I"⟩
abbrev cX11_together : ByteArray := prog_13_method_91_code
def yX11_together : MethodName := ⟨RX11, "together", "(I)J"⟩
abbrev cX11_joint : ByteArray := prog_13_method_92_code
def yX11_joint : MethodName := ⟨RX11, "joint", "(IIII)J"⟩
abbrev cX11_commonOf : ByteArray := prog_13_method_93_code
def yX11_commonOf : MethodName := ⟨RX11, "commonOf", "(JJ)J"⟩
abbrev cX11_given : ByteArray := prog_13_method_94_code
def yX11_given : MethodName := ⟨RX11, "given", "(IIIIZ)J"⟩
abbrev cX11_worst : ByteArray := prog_13_method_95_code
def yX11_worst : MethodName := ⟨RX11, "worst", "(III)J"⟩
abbrev cX11_flood : ByteArray := prog_13_method_96_code
def yX11_flood : MethodName := ⟨RX11, "flood", "(II)I"⟩
abbrev cX11_around : ByteArray := prog_13_method_97_code
def yX11_around : MethodName := ⟨RX11, "around", "(IIZ)I"⟩
abbrev cX11_twice : ByteArray := prog_13_method_98_code
def yX11_twice : MethodName := ⟨RX11, "twice", "(IIIIIII)I"⟩
abbrev cX11_better : ByteArray := prog_13_method_99_code
def yX11_better : MethodName := ⟨RX11, "better", "(III)I"⟩
abbrev cX11_spend : ByteArray := prog_13_method_100_code
def yX11_spend : MethodName := ⟨RX11, "spend", "(IIII)I"⟩
abbrev cX11_count : ByteArray := prog_13_method_101_code
def yX11_count : MethodName := ⟨RX11, "count", "(I)I"⟩
abbrev cX11_image : ByteArray := prog_13_method_102_code
def yX11_image : MethodName := ⟨RX11, "image", "(I)Z"⟩
abbrev cX11_again : ByteArray := prog_13_method_103_code
def yX11_again : MethodName := ⟨RX11, "again", "(I)Z"⟩
def RJ6 : String := "java/lang/Integer"
abbrev cJ6_bitCount_0f7a4 : ByteArray := prog_14_method_49_code
def yJ6_bitCount_0f7a4 : MethodName := ⟨RJ6, "bitCount", "(I)I"⟩
def RJ9 : String := "java/lang/Math"
abbrev cJ9_max_f86c9 : ByteArray := prog_15_method_66_code
def yJ9_max_f86c9 : MethodName := ⟨RJ9, "max", "(JJ)J"⟩
def RJ0 : String := "java/lang/String"
abbrev cJ0_length_8abf5 : ByteArray := prog_16_method_54_code
def yJ0_length_8abf5 : MethodName := ⟨RJ0, "length", "()I"⟩
abbrev cJ0_charAt_5068e : ByteArray := prog_16_method_56_code
def yJ0_charAt_5068e : MethodName := ⟨RJ0, "charAt", "(I)C"⟩
abbrev cJ0_coder_7d493 : ByteArray := prog_16_method_152_code
def yJ0_coder_7d493 : MethodName := ⟨RJ0, "coder", "()B"⟩
abbrev cJ0_isLatin1_aae02 : ByteArray := prog_16_method_154_code
def yJ0_isLatin1_aae02 : MethodName := ⟨RJ0, "isLatin1", "()Z"⟩
abbrev cJ0_checkIndex_df160 : ByteArray := prog_16_method_155_code
def yJ0_checkIndex_df160 : MethodName := ⟨RJ0, "checkIndex", "(II)V"⟩
def RJ1 : String := "java/lang/StringLatin1"
abbrev cJ1_charAt_3b067 : ByteArray := prog_17_method_2_code
def yJ1_charAt_3b067 : MethodName := ⟨RJ1, "charAt", "([BI)C"⟩
def RJ10 : String := "java/lang/System"
def RJ7 : String := "java/util/Arrays"
abbrev cJ7_rangeCheck_23922 : ByteArray := prog_20_method_30_code
def yJ7_rangeCheck_23922 : MethodName := ⟨RJ7, "rangeCheck", "(III)V"⟩
abbrev cJ7_fill_d0a16 : ByteArray := prog_20_method_101_code
def yJ7_fill_d0a16 : MethodName := ⟨RJ7, "fill", "([JJ)V"⟩
abbrev cJ7_fill_53178 : ByteArray := prog_20_method_103_code
def yJ7_fill_53178 : MethodName := ⟨RJ7, "fill", "([II)V"⟩
abbrev cJ7_fill_fda19 : ByteArray := prog_20_method_104_code
def yJ7_fill_fda19 : MethodName := ⟨RJ7, "fill", "([IIII)V"⟩
def RJ3 : String := "jdk/internal/util/Preconditions"
abbrev cJ3_checkIndex_8e157 : ByteArray := prog_21_method_11_code
def yJ3_checkIndex_8e157 : MethodName := ⟨RJ3, "checkIndex", "(IILjava/util/function/BiFunction;)I"⟩
def RL : String := "PondStairLaw"
abbrev cL_law : ByteArray := code
def yL_law : MethodName := ⟨RL, "law", "([I)Z"⟩
abbrev vwCl : List vw_C := [(RX0, TX0, 10), (RX1, TX1, 6), (RX2, TX2, 6), (RX3, TX3, 7), (RX4, TX4, 4), (RX5, TX5, 7), (RX6, TX6, 6), (RX7, TX7, 8), (RX8, TX8, 4), (RX9, TX9, 1), (RX10, TX10, 10), (RX11, TX11, 43)]
theorem inG0 : ∀ w ∈ u_ws RX0 TX0 10, w ∈ gt := gt_of _ [400, 402, 404, 406, 408, 410, 412, 414, 416, 418] (by decide +kernel) (by decide +kernel)
theorem inG1 : ∀ w ∈ u_ws RX1 TX1 6, w ∈ gt := gt_of _ [148, 150, 152, 154, 156, 158] (by decide +kernel) (by decide +kernel)
theorem inG2 : ∀ w ∈ u_ws RX2 TX2 6, w ∈ gt := gt_of _ [370, 372, 374, 376, 378, 380] (by decide +kernel) (by decide +kernel)
theorem inG3 : ∀ w ∈ u_ws RX3 TX3 7, w ∈ gt := gt_of _ [271, 273, 275, 277, 279, 281, 283] (by decide +kernel) (by decide +kernel)
theorem inG4 : ∀ w ∈ u_ws RX4 TX4 4, w ∈ gt := gt_of _ [302, 304, 306, 308] (by decide +kernel) (by decide +kernel)
theorem inG5 : ∀ w ∈ u_ws RX5 TX5 7, w ∈ gt := gt_of _ [331, 333, 335, 337, 339, 341, 343] (by decide +kernel) (by decide +kernel)
theorem inG6 : ∀ w ∈ u_ws RX6 TX6 6, w ∈ gt := gt_of _ [242, 244, 246, 248, 250, 252] (by decide +kernel) (by decide +kernel)
theorem inG7 : ∀ w ∈ u_ws RX7 TX7 8, w ∈ gt := gt_of _ [202, 204, 206, 208, 210, 212, 214, 216] (by decide +kernel) (by decide +kernel)
theorem inG8 : ∀ w ∈ u_ws RX8 TX8 4, w ∈ gt := gt_of _ [177, 179, 181, 183] (by decide +kernel) (by decide +kernel)
theorem inG9 : ∀ w ∈ u_ws RX9 TX9 1, w ∈ gt := gt_of _ [1111] (by decide +kernel) (by decide +kernel)
theorem inG10 : ∀ w ∈ u_ws RX10 TX10 10, w ∈ gt := gt_of _ [433, 435, 437, 439, 441, 443, 445, 447, 449, 451] (by decide +kernel) (by decide +kernel)
theorem inG11 : ∀ w ∈ u_ws RX11 TX11 43, w ∈ gt := gt_of _ [1307, 1309, 1311, 1313, 1315, 1317, 1319, 1321, 1323, 1325, 1327, 1329, 1331, 1333, 1335, 1337, 1339, 1341, 1343, 1345, 1347, 1349, 1351, 1353, 1355, 1357, 1359, 1361, 1363, 1365, 1367, 1369, 1371, 1373, 1375, 1377, 1379, 1381, 1383, 1385, 1387, 1389, 1391] (by decide +kernel) (by decide +kernel)
