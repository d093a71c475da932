section
/-! names, fields, codes: cut out of the printed names by wip/gen/names.py; words by their places -/
def gt : List Cond := lw_tbl.filter goodWord
theorem gt_in {w : Cond} (i : Nat) (h : lw_tbl[i]? = some w) (hg : goodWord w = true) : w ∈ gt := List.mem_filter.mpr ⟨List.mem_of_getElem? h, hg⟩
theorem gt_gt : GoodIn gt gt := fun w hw => ⟨hw, good_of_word (List.mem_filter.mp hw).2⟩
/-- the words that a method carries in its start: nest links, arrays of objects -/
def nw (w : Cond) : Bool := match w with
  | .fieldLinkNest _ _ _ _ _ _ => true
  | .methodLinkNest _ _ _ _ => true
  | .arrayOver (.object _) => true
  | _ => false
def nt : List Cond := lw_tbl.filter nw
theorem nt_in {w : Cond} (i : Nat) (h : lw_tbl[i]? = some w) (hg : nw w = true) : w ∈ nt := List.mem_filter.mpr ⟨List.mem_of_getElem? h, hg⟩
theorem gt_t1 {w : Cond} {i : Nat} (h : tables_1_1[i]? = some w) (hg : goodWord w = true) : w ∈ gt := by
  refine List.mem_filter.mpr ⟨?_, hg⟩
  have hm := List.mem_of_getElem? h
  unfold lw_tbl tables_1
  simp only [List.mem_append]
  simp only [hm, true_or, or_true]
theorem nt_t1 {w : Cond} {i : Nat} (h : tables_1_1[i]? = some w) (hg : nw w = true) : w ∈ nt := by
  refine List.mem_filter.mpr ⟨?_, hg⟩
  have hm := List.mem_of_getElem? h
  unfold lw_tbl tables_1
  simp only [List.mem_append]
  simp only [hm, true_or, or_true]
theorem gt_t2 {w : Cond} {i : Nat} (h : tables_1_2[i]? = some w) (hg : goodWord w = true) : w ∈ gt := by
  refine List.mem_filter.mpr ⟨?_, hg⟩
  have hm := List.mem_of_getElem? h
  unfold lw_tbl tables_1
  simp only [List.mem_append]
  simp only [hm, true_or, or_true]
theorem nt_t2 {w : Cond} {i : Nat} (h : tables_1_2[i]? = some w) (hg : nw w = true) : w ∈ nt := by
  refine List.mem_filter.mpr ⟨?_, hg⟩
  have hm := List.mem_of_getElem? h
  unfold lw_tbl tables_1
  simp only [List.mem_append]
  simp only [hm, true_or, or_true]
theorem gt_t3 {w : Cond} {i : Nat} (h : tables_1_3[i]? = some w) (hg : goodWord w = true) : w ∈ gt := by
  refine List.mem_filter.mpr ⟨?_, hg⟩
  have hm := List.mem_of_getElem? h
  unfold lw_tbl tables_1
  simp only [List.mem_append]
  simp only [hm, true_or, or_true]
theorem gt_t4 {w : Cond} {i : Nat} (h : tables_1_4[i]? = some w) (hg : goodWord w = true) : w ∈ gt := by
  refine List.mem_filter.mpr ⟨?_, hg⟩
  have hm := List.mem_of_getElem? h
  unfold lw_tbl tables_1
  simp only [List.mem_append]
  simp only [hm, true_or, or_true]
theorem nt_t4 {w : Cond} {i : Nat} (h : tables_1_4[i]? = some w) (hg : nw w = true) : w ∈ nt := by
  refine List.mem_filter.mpr ⟨?_, hg⟩
  have hm := List.mem_of_getElem? h
  unfold lw_tbl tables_1
  simp only [List.mem_append]
  simp only [hm, true_or, or_true]
theorem gt_t5 {w : Cond} {i : Nat} (h : tables_1_5[i]? = some w) (hg : goodWord w = true) : w ∈ gt := by
  refine List.mem_filter.mpr ⟨?_, hg⟩
  have hm := List.mem_of_getElem? h
  unfold lw_tbl tables_1
  simp only [List.mem_append]
  simp only [hm, true_or, or_true]
theorem nt_t5 {w : Cond} {i : Nat} (h : tables_1_5[i]? = some w) (hg : nw w = true) : w ∈ nt := by
  refine List.mem_filter.mpr ⟨?_, hg⟩
  have hm := List.mem_of_getElem? h
  unfold lw_tbl tables_1
  simp only [List.mem_append]
  simp only [hm, true_or, or_true]
theorem gt_t6 {w : Cond} {i : Nat} (h : tables_1_6[i]? = some w) (hg : goodWord w = true) : w ∈ gt := by
  refine List.mem_filter.mpr ⟨?_, hg⟩
  have hm := List.mem_of_getElem? h
  unfold lw_tbl tables_1
  simp only [List.mem_append]
  simp only [hm, true_or, or_true]
theorem gt_t7 {w : Cond} {i : Nat} (h : tables_1_7[i]? = some w) (hg : goodWord w = true) : w ∈ gt := by
  refine List.mem_filter.mpr ⟨?_, hg⟩
  have hm := List.mem_of_getElem? h
  unfold lw_tbl tables_1
  simp only [List.mem_append]
  simp only [hm, true_or, or_true]
theorem gt_t8 {w : Cond} {i : Nat} (h : tables_1_8[i]? = some w) (hg : goodWord w = true) : w ∈ gt := by
  refine List.mem_filter.mpr ⟨?_, hg⟩
  have hm := List.mem_of_getElem? h
  unfold lw_tbl tables_1
  simp only [List.mem_append]
  simp only [hm, true_or, or_true]
theorem gt_of (ws : List Cond) (ps : List Nat) (hp : ws = ps.filterMap (fun i => lw_tbl[i]?)) (h : ws.all goodWord = true) : ∀ w ∈ ws, w ∈ gt := by
  intro w hw
  have h1 := List.all_eq_true.mp h w hw
  rw [hp] at hw
  obtain ⟨i, -, hi⟩ := List.mem_filterMap.mp hw
  exact gt_in i hi h1
def RX0 : String := "PondStair$Choice"
def TX0 : u_T := fun k => match k with
  | 0 => ("PondStair$Choice", "odds", "LPondStair$Odds;", true)
  | 1 => ("PondStair$Choice", "trial", "LPondStair$Hill;", true)
  | 2 => ("PondStair$Choice", "first", "I", false)
  | 3 => ("PondStair$Choice", "second", "I", false)
  | 4 => ("PondStair$Choice", "least", "J", false)
  | 5 => ("PondStair$Choice", "filling", "I", false)
  | 6 => ("PondStair$Choice", "toFill", "[I", true)
  | 7 => ("PondStair$Choice", "order", "[I", true)
  | 8 => ("PondStair$Choice", "tried", "[I", true)
  | _ => ("PondStair$Choice", "filledMean", "[J", true)
def tyX0 : Nat → FieldType := fun k => match k with
  | 0 => .object "PondStair$Odds"
  | 1 => .object "PondStair$Hill"
  | 2 => .int
  | 3 => .int
  | 4 => .long
  | 5 => .int
  | 6 => .array .int
  | 7 => .array .int
  | 8 => .array .int
  | _ => .array .long
theorem nmX0 : ∀ a, a < 10 → ∀ b, b < 10 → a ≠ b → (TX0 a).2.1 ≠ (TX0 b).2.1 := by decide +kernel
theorem tyX0_ok : ∀ k, k < 10 → parseFieldDescriptor (TX0 k).2.2.1 = some (tyX0 k) := by decide +kernel
abbrev cX0_init : ByteArray := prog_2_method_1_code
def yX0_init : MethodName := ⟨RX0, "<init>", "()V"⟩
abbrev cX0_meanMended : ByteArray := prog_2_method_2_code
def yX0_meanMended : MethodName := ⟨RX0, "meanMended", "(I)J"⟩
abbrev cX0_bestSet : ByteArray := prog_2_method_3_code
def yX0_bestSet : MethodName := ⟨RX0, "bestSet", "(LPondStair$Hill;II)I"⟩
abbrev cX0_fewestDays : ByteArray := prog_2_method_4_code
def yX0_fewestDays : MethodName := ⟨RX0, "fewestDays", "(LPondStair$Hill;II)I"⟩
abbrev cX0_stepByStep : ByteArray := prog_2_method_5_code
def yX0_stepByStep : MethodName := ⟨RX0, "stepByStep", "(LPondStair$Hill;II)I"⟩
abbrev cX0_nextStep : ByteArray := prog_2_method_6_code
def yX0_nextStep : MethodName := ⟨RX0, "nextStep", "(LPondStair$Hill;III)I"⟩
abbrev cX0_isBetterBuy : ByteArray := prog_2_method_7_code
def yX0_isBetterBuy : MethodName := ⟨RX0, "isBetterBuy", "(JJJJ)Z"⟩
abbrev cX0_holdAll : ByteArray := prog_2_method_8_code
def yX0_holdAll : MethodName := ⟨RX0, "holdAll", "(LPondStair$Hill;)V"⟩
abbrev cX0_lowerBy : ByteArray := prog_2_method_9_code
def yX0_lowerBy : MethodName := ⟨RX0, "lowerBy", "(LPondStair$Hill;I)I"⟩
abbrev cX0_mostUrgent : ByteArray := prog_2_method_10_code
def yX0_mostUrgent : MethodName := ⟨RX0, "mostUrgent", "(LPondStair$Hill;)I"⟩
abbrev cX0_heaviest : ByteArray := prog_2_method_11_code
def yX0_heaviest : MethodName := ⟨RX0, "heaviest", "(LPondStair$Hill;)I"⟩
abbrev cX0_turnAround : ByteArray := prog_2_method_12_code
def yX0_turnAround : MethodName := ⟨RX0, "turnAround", "(LPondStair$Hill;)V"⟩
abbrev cX0_findOrder : ByteArray := prog_2_method_13_code
def yX0_findOrder : MethodName := ⟨RX0, "findOrder", "()V"⟩
abbrev cX0_lookAtFilled : ByteArray := prog_2_method_14_code
def yX0_lookAtFilled : MethodName := ⟨RX0, "lookAtFilled", "(LPondStair$Hill;I)V"⟩
abbrev cX0_takeOrder : ByteArray := prog_2_method_15_code
def yX0_takeOrder : MethodName := ⟨RX0, "takeOrder", "(I)Z"⟩
abbrev cX0_mayOfTried : ByteArray := prog_2_method_16_code
def yX0_mayOfTried : MethodName := ⟨RX0, "mayOfTried", "()J"⟩
abbrev cX0_downwards : ByteArray := prog_2_method_17_code
def yX0_downwards : MethodName := ⟨RX0, "downwards", "()J"⟩
abbrev cX0_filledAt : ByteArray := prog_2_method_18_code
def yX0_filledAt : MethodName := ⟨RX0, "filledAt", "(I)I"⟩
def RX1 : String := "PondStair$Hill"
def TX1 : u_T := fun k => match k with
  | 0 => ("PondStair$Hill", "ponds", "I", false)
  | 1 => ("PondStair$Hill", "row", "[I", true)
  | 2 => ("PondStair$Hill", "rains", "I", false)
  | 3 => ("PondStair$Hill", "rainSteps", "[I", true)
  | 4 => ("PondStair$Hill", "rainChance", "[I", true)
  | _ => ("PondStair$Hill", "days", "[I", true)
def tyX1 : Nat → FieldType := fun k => match k with
  | 0 => .int
  | 1 => .array .int
  | 2 => .int
  | 3 => .array .int
  | 4 => .array .int
  | _ => .array .int
theorem nmX1 : ∀ a, a < 6 → ∀ b, b < 6 → a ≠ b → (TX1 a).2.1 ≠ (TX1 b).2.1 := by decide +kernel
theorem tyX1_ok : ∀ k, k < 6 → parseFieldDescriptor (TX1 k).2.2.1 = some (tyX1 k) := by decide +kernel
abbrev cX1_init : ByteArray := prog_3_method_1_code
def yX1_init : MethodName := ⟨RX1, "<init>", "()V"⟩
abbrev cX1_clear : ByteArray := prog_3_method_2_code
def yX1_clear : MethodName := ⟨RX1, "clear", "()V"⟩
abbrev cX1_copy : ByteArray := prog_3_method_3_code
def yX1_copy : MethodName := ⟨RX1, "copy", "(LPondStair$Hill;)V"⟩
abbrev cX1_addPond : ByteArray := prog_3_method_4_code
def yX1_addPond : MethodName := ⟨RX1, "addPond", "(III)Z"⟩
abbrev cX1_addRain : ByteArray := prog_3_method_5_code
def yX1_addRain : MethodName := ⟨RX1, "addRain", "(II)Z"⟩
abbrev cX1_has : ByteArray := prog_3_method_6_code
def yX1_has : MethodName := ⟨RX1, "has", "(I)Z"⟩
abbrev cX1_hasSet : ByteArray := prog_3_method_7_code
def yX1_hasSet : MethodName := ⟨RX1, "hasSet", "(I)Z"⟩
abbrev cX1_hasRain : ByteArray := prog_3_method_8_code
def yX1_hasRain : MethodName := ⟨RX1, "hasRain", "(I)Z"⟩
abbrev cX1_hasStorm : ByteArray := prog_3_method_9_code
def yX1_hasStorm : MethodName := ⟨RX1, "hasStorm", "(II)Z"⟩
abbrev cX1_all : ByteArray := prog_3_method_10_code
def yX1_all : MethodName := ⟨RX1, "all", "()I"⟩
abbrev cX1_of : ByteArray := prog_3_method_11_code
def yX1_of : MethodName := ⟨RX1, "of", "(II)I"⟩
abbrev cX1_put : ByteArray := prog_3_method_12_code
def yX1_put : MethodName := ⟨RX1, "put", "(III)V"⟩
abbrev cX1_isOut : ByteArray := prog_3_method_13_code
def yX1_isOut : MethodName := ⟨RX1, "isOut", "(I)Z"⟩
abbrev cX1_takeOut : ByteArray := prog_3_method_14_code
def yX1_takeOut : MethodName := ⟨RX1, "takeOut", "(I)V"⟩
abbrev cX1_stepsOf : ByteArray := prog_3_method_15_code
def yX1_stepsOf : MethodName := ⟨RX1, "stepsOf", "(I)I"⟩
abbrev cX1_chanceOf : ByteArray := prog_3_method_16_code
def yX1_chanceOf : MethodName := ⟨RX1, "chanceOf", "(I)I"⟩
abbrev cX1_chancesTogether : ByteArray := prog_3_method_17_code
def yX1_chancesTogether : MethodName := ⟨RX1, "chancesTogether", "()I"⟩
abbrev cX1_told : ByteArray := prog_3_method_18_code
def yX1_told : MethodName := ⟨RX1, "told", "(I)I"⟩
abbrev cX1_ownedBy : ByteArray := prog_3_method_19_code
def yX1_ownedBy : MethodName := ⟨RX1, "ownedBy", "(I)I"⟩
abbrev cX1_weak : ByteArray := prog_3_method_20_code
def yX1_weak : MethodName := ⟨RX1, "weak", "()I"⟩
abbrev cX1_daysToMend : ByteArray := prog_3_method_21_code
def yX1_daysToMend : MethodName := ⟨RX1, "daysToMend", "(I)I"⟩
abbrev cX1_harmOf : ByteArray := prog_3_method_22_code
def yX1_harmOf : MethodName := ⟨RX1, "harmOf", "(I)I"⟩
abbrev cX1_nextOf : ByteArray := prog_3_method_23_code
def yX1_nextOf : MethodName := ⟨RX1, "nextOf", "(I)I"⟩
abbrev cX1_reachedFrom : ByteArray := prog_3_method_24_code
def yX1_reachedFrom : MethodName := ⟨RX1, "reachedFrom", "(I)I"⟩
abbrev cX1_reaching : ByteArray := prog_3_method_25_code
def yX1_reaching : MethodName := ⟨RX1, "reaching", "(I)I"⟩
abbrev cX1_seenAndGoes : ByteArray := prog_3_method_26_code
def yX1_seenAndGoes : MethodName := ⟨RX1, "seenAndGoes", "(I)I"⟩
abbrev cX1_seen : ByteArray := prog_3_method_27_code
def yX1_seen : MethodName := ⟨RX1, "seen", "(I)I"⟩
def RX2 : String := "PondStair$Odds"
def TX2 : u_T := fun k => match k with
  | 0 => ("PondStair$Odds", "flow", "LPondStair$Storm;", true)
  | 1 => ("PondStair$Odds", "hill", "LPondStair$Hill;", true)
  | 2 => ("PondStair$Odds", "went", "[I", true)
  | 3 => ("PondStair$Odds", "harm", "[I", true)
  | 4 => ("PondStair$Odds", "weight", "[J", true)
  | _ => ("PondStair$Odds", "together", "[J", true)
def tyX2 : Nat → FieldType := fun k => match k with
  | 0 => .object "PondStair$Storm"
  | 1 => .object "PondStair$Hill"
  | 2 => .array .int
  | 3 => .array .int
  | 4 => .array .long
  | _ => .array .long
theorem nmX2 : ∀ a, a < 6 → ∀ b, b < 6 → a ≠ b → (TX2 a).2.1 ≠ (TX2 b).2.1 := by decide +kernel
theorem tyX2_ok : ∀ k, k < 6 → parseFieldDescriptor (TX2 k).2.2.1 = some (tyX2 k) := by decide +kernel
abbrev cX2_init : ByteArray := prog_4_method_1_code
def yX2_init : MethodName := ⟨RX2, "<init>", "()V"⟩
abbrev cX2_look : ByteArray := prog_4_method_2_code
def yX2_look : MethodName := ⟨RX2, "look", "(LPondStair$Hill;II)V"⟩
abbrev cX2_weigh : ByteArray := prog_4_method_3_code
def yX2_weigh : MethodName := ⟨RX2, "weigh", "(II)V"⟩
abbrev cX2_parts : ByteArray := prog_4_method_4_code
def yX2_parts : MethodName := ⟨RX2, "parts", "(II)J"⟩
abbrev cX2_wentBy : ByteArray := prog_4_method_5_code
def yX2_wentBy : MethodName := ⟨RX2, "wentBy", "(II)I"⟩
abbrev cX2_isStorm : ByteArray := prog_4_method_6_code
def yX2_isStorm : MethodName := ⟨RX2, "isStorm", "(II)Z"⟩
abbrev cX2_wholeMean : ByteArray := prog_4_method_7_code
def yX2_wholeMean : MethodName := ⟨RX2, "wholeMean", "(LPondStair$Hill;I)J"⟩
abbrev cX2_meanOf : ByteArray := prog_4_method_8_code
def yX2_meanOf : MethodName := ⟨RX2, "meanOf", "(I)J"⟩
abbrev cX2_partsOf : ByteArray := prog_4_method_9_code
def yX2_partsOf : MethodName := ⟨RX2, "partsOf", "(I)J"⟩
abbrev cX2_likeliest : ByteArray := prog_4_method_10_code
def yX2_likeliest : MethodName := ⟨RX2, "likeliest", "()I"⟩
abbrev cX2_mostThatWent : ByteArray := prog_4_method_11_code
def yX2_mostThatWent : MethodName := ⟨RX2, "mostThatWent", "()I"⟩
abbrev cX2_worstTold : ByteArray := prog_4_method_12_code
def yX2_worstTold : MethodName := ⟨RX2, "worstTold", "(I)J"⟩
abbrev cX2_mostInBrook : ByteArray := prog_4_method_13_code
def yX2_mostInBrook : MethodName := ⟨RX2, "mostInBrook", "()I"⟩
def RX3 : String := "PondStair$Reader"
def TX3 : u_T := fun k => match k with
  | 0 => ("PondStair$Reader", "tokens", "LPondStair$Tokens;", true)
  | 1 => ("PondStair$Reader", "hill", "LPondStair$Hill;", true)
  | 2 => ("PondStair$Reader", "works", "LPondStair$Works;", true)
  | 3 => ("PondStair$Reader", "numbers", "[I", true)
  | 4 => ("PondStair$Reader", "places", "[I", true)
  | 5 => ("PondStair$Reader", "fault", "I", false)
  | _ => ("PondStair$Reader", "place", "I", false)
def tyX3 : Nat → FieldType := fun k => match k with
  | 0 => .object "PondStair$Tokens"
  | 1 => .object "PondStair$Hill"
  | 2 => .object "PondStair$Works"
  | 3 => .array .int
  | 4 => .array .int
  | 5 => .int
  | _ => .int
theorem nmX3 : ∀ a, a < 7 → ∀ b, b < 7 → a ≠ b → (TX3 a).2.1 ≠ (TX3 b).2.1 := by decide +kernel
theorem tyX3_ok : ∀ k, k < 7 → parseFieldDescriptor (TX3 k).2.2.1 = some (tyX3 k) := by decide +kernel
abbrev cX3_init : ByteArray := prog_5_method_1_code
def yX3_init : MethodName := ⟨RX3, "<init>", "()V"⟩
abbrev cX3_read : ByteArray := prog_5_method_2_code
def yX3_read : MethodName := ⟨RX3, "read", "([BII)V"⟩
abbrev cX3_closeRains : ByteArray := prog_5_method_3_code
def yX3_closeRains : MethodName := ⟨RX3, "closeRains", "()V"⟩
abbrev cX3_readLine : ByteArray := prog_5_method_4_code
def yX3_readLine : MethodName := ⟨RX3, "readLine", "(I)Z"⟩
abbrev cX3_breaksOff : ByteArray := prog_5_method_5_code
def yX3_breaksOff : MethodName := ⟨RX3, "breaksOff", "()Z"⟩
abbrev cX3_remember : ByteArray := prog_5_method_6_code
def yX3_remember : MethodName := ⟨RX3, "remember", "(II)V"⟩
abbrev cX3_lineOf : ByteArray := prog_5_method_7_code
def yX3_lineOf : MethodName := ⟨RX3, "lineOf", "(I)I"⟩
abbrev cX3_hillWord : ByteArray := prog_5_method_8_code
def yX3_hillWord : MethodName := ⟨RX3, "hillWord", "(I)Ljava/lang/String;"⟩
abbrev cX3_planWord : ByteArray := prog_5_method_9_code
def yX3_planWord : MethodName := ⟨RX3, "planWord", "(I)Ljava/lang/String;"⟩
abbrev cX3_take : ByteArray := prog_5_method_10_code
def yX3_take : MethodName := ⟨RX3, "take", "(IIII)V"⟩
abbrev cX3_isFull : ByteArray := prog_5_method_11_code
def yX3_isFull : MethodName := ⟨RX3, "isFull", "(I)Z"⟩
abbrev cX3_canBeInHill : ByteArray := prog_5_method_12_code
def yX3_canBeInHill : MethodName := ⟨RX3, "canBeInHill", "(II)Z"⟩
abbrev cX3_canBeInPlan : ByteArray := prog_5_method_13_code
def yX3_canBeInPlan : MethodName := ⟨RX3, "canBeInPlan", "(II)Z"⟩
abbrev cX3_takeForHill : ByteArray := prog_5_method_14_code
def yX3_takeForHill : MethodName := ⟨RX3, "takeForHill", "(II)V"⟩
def RX4 : String := "PondStair$Site"
def TX4 : u_T := fun k => match k with
  | 0 => ("PondStair$Site", "ground", "LPondStair$Hill;", true)
  | 1 => ("PondStair$Site", "stop", "I", false)
  | 2 => ("PondStair$Site", "days", "I", false)
  | _ => ("PondStair$Site", "lost", "I", false)
def tyX4 : Nat → FieldType := fun k => match k with
  | 0 => .object "PondStair$Hill"
  | 1 => .int
  | 2 => .int
  | _ => .int
theorem nmX4 : ∀ a, a < 4 → ∀ b, b < 4 → a ≠ b → (TX4 a).2.1 ≠ (TX4 b).2.1 := by decide +kernel
theorem tyX4_ok : ∀ k, k < 4 → parseFieldDescriptor (TX4 k).2.2.1 = some (tyX4 k) := by decide +kernel
abbrev cX4_init : ByteArray := prog_6_method_1_code
def yX4_init : MethodName := ⟨RX4, "<init>", "()V"⟩
abbrev cX4_lay : ByteArray := prog_6_method_2_code
def yX4_lay : MethodName := ⟨RX4, "lay", "(LPondStair$Hill;LPondStair$Works;)V"⟩
abbrev cX4_builds : ByteArray := prog_6_method_3_code
def yX4_builds : MethodName := ⟨RX4, "builds", "(III)Z"⟩
abbrev cX4_mends : ByteArray := prog_6_method_4_code
def yX4_mends : MethodName := ⟨RX4, "mends", "(II)Z"⟩
abbrev cX4_lowers : ByteArray := prog_6_method_5_code
def yX4_lowers : MethodName := ⟨RX4, "lowers", "(II)Z"⟩
abbrev cX4_widens : ByteArray := prog_6_method_6_code
def yX4_widens : MethodName := ⟨RX4, "widens", "(II)Z"⟩
abbrev cX4_leads : ByteArray := prog_6_method_7_code
def yX4_leads : MethodName := ⟨RX4, "leads", "(II)Z"⟩
def RX5 : String := "PondStair$Storm"
def TX5 : u_T := fun k => match k with
  | 0 => ("PondStair$Storm", "ponds", "I", false)
  | 1 => ("PondStair$Storm", "went", "I", false)
  | 2 => ("PondStair$Storm", "harm", "I", false)
  | 3 => ("PondStair$Storm", "heard", "I", false)
  | 4 => ("PondStair$Storm", "brook", "I", false)
  | 5 => ("PondStair$Storm", "water", "[I", true)
  | _ => ("PondStair$Storm", "left", "[I", true)
def tyX5 : Nat → FieldType := fun k => match k with
  | 0 => .int
  | 1 => .int
  | 2 => .int
  | 3 => .int
  | 4 => .int
  | 5 => .array .int
  | _ => .array .int
theorem nmX5 : ∀ a, a < 7 → ∀ b, b < 7 → a ≠ b → (TX5 a).2.1 ≠ (TX5 b).2.1 := by decide +kernel
theorem tyX5_ok : ∀ k, k < 7 → parseFieldDescriptor (TX5 k).2.2.1 = some (tyX5 k) := by decide +kernel
abbrev cX5_init : ByteArray := prog_7_method_1_code
def yX5_init : MethodName := ⟨RX5, "<init>", "()V"⟩
abbrev cX5_run : ByteArray := prog_7_method_2_code
def yX5_run : MethodName := ⟨RX5, "run", "(LPondStair$Hill;III)V"⟩
abbrev cX5_hears : ByteArray := prog_7_method_3_code
def yX5_hears : MethodName := ⟨RX5, "hears", "(LPondStair$Hill;I)Z"⟩
abbrev cX5_goes : ByteArray := prog_7_method_4_code
def yX5_goes : MethodName := ⟨RX5, "goes", "(LPondStair$Hill;II)Z"⟩
abbrev cX5_leaving : ByteArray := prog_7_method_5_code
def yX5_leaving : MethodName := ⟨RX5, "leaving", "(LPondStair$Hill;IZ)I"⟩
abbrev cX5_pass : ByteArray := prog_7_method_6_code
def yX5_pass : MethodName := ⟨RX5, "pass", "(LPondStair$Hill;I)V"⟩
abbrev cX5_told : ByteArray := prog_7_method_7_code
def yX5_told : MethodName := ⟨RX5, "told", "(I)I"⟩
abbrev cX5_toldOfPond : ByteArray := prog_7_method_8_code
def yX5_toldOfPond : MethodName := ⟨RX5, "toldOfPond", "(II)I"⟩
abbrev cX5_leaveBehind : ByteArray := prog_7_method_9_code
def yX5_leaveBehind : MethodName := ⟨RX5, "leaveBehind", "(LPondStair$Hill;)V"⟩
def RX6 : String := "PondStair$Tokens"
def TX6 : u_T := fun k => match k with
  | 0 => ("PondStair$Tokens", "tape", "[B", false)
  | 1 => ("PondStair$Tokens", "length", "I", false)
  | 2 => ("PondStair$Tokens", "next", "I", false)
  | 3 => ("PondStair$Tokens", "kind", "I", false)
  | 4 => ("PondStair$Tokens", "start", "I", false)
  | _ => ("PondStair$Tokens", "value", "I", false)
def tyX6 : Nat → FieldType := fun k => match k with
  | 0 => .array .byte
  | 1 => .int
  | 2 => .int
  | 3 => .int
  | 4 => .int
  | _ => .int
theorem nmX6 : ∀ a, a < 6 → ∀ b, b < 6 → a ≠ b → (TX6 a).2.1 ≠ (TX6 b).2.1 := by decide +kernel
theorem tyX6_ok : ∀ k, k < 6 → parseFieldDescriptor (TX6 k).2.2.1 = some (tyX6 k) := by decide +kernel
abbrev cX6_init : ByteArray := prog_8_method_1_code
def yX6_init : MethodName := ⟨RX6, "<init>", "()V"⟩
abbrev cX6_begin : ByteArray := prog_8_method_2_code
def yX6_begin : MethodName := ⟨RX6, "begin", "([BI)V"⟩
abbrev cX6_advance : ByteArray := prog_8_method_3_code
def yX6_advance : MethodName := ⟨RX6, "advance", "()V"⟩
abbrev cX6_takeWord : ByteArray := prog_8_method_4_code
def yX6_takeWord : MethodName := ⟨RX6, "takeWord", "()V"⟩
abbrev cX6_takeNumber : ByteArray := prog_8_method_5_code
def yX6_takeNumber : MethodName := ⟨RX6, "takeNumber", "()V"⟩
abbrev cX6_isWord : ByteArray := prog_8_method_6_code
def yX6_isWord : MethodName := ⟨RX6, "isWord", "(Ljava/lang/String;)Z"⟩
abbrev cX6_isBlank : ByteArray := prog_8_method_7_code
def yX6_isBlank : MethodName := ⟨RX6, "isBlank", "(I)Z"⟩
abbrev cX6_isLetter : ByteArray := prog_8_method_8_code
def yX6_isLetter : MethodName := ⟨RX6, "isLetter", "(I)Z"⟩
abbrev cX6_isDigit : ByteArray := prog_8_method_9_code
def yX6_isDigit : MethodName := ⟨RX6, "isDigit", "(I)Z"⟩
def RX7 : String := "PondStair$Told"
def TX7 : u_T := fun k => match k with
  | 0 => ("PondStair$Told", "tape", "[B", true)
  | 1 => ("PondStair$Told", "length", "I", false)
  | 2 => ("PondStair$Told", "fault", "I", false)
  | 3 => ("PondStair$Told", "place", "I", false)
  | 4 => ("PondStair$Told", "hill", "[LPondStair$Hill;", true)
  | 5 => ("PondStair$Told", "hills", "I", false)
  | 6 => ("PondStair$Told", "works", "[LPondStair$Works;", true)
  | _ => ("PondStair$Told", "plans", "I", false)
def tyX7 : Nat → FieldType := fun k => match k with
  | 0 => .array .byte
  | 1 => .int
  | 2 => .int
  | 3 => .int
  | 4 => .array (.object "PondStair$Hill")
  | 5 => .int
  | 6 => .array (.object "PondStair$Works")
  | _ => .int
theorem nmX7 : ∀ a, a < 8 → ∀ b, b < 8 → a ≠ b → (TX7 a).2.1 ≠ (TX7 b).2.1 := by decide +kernel
theorem tyX7_ok : ∀ k, k < 8 → parseFieldDescriptor (TX7 k).2.2.1 = some (tyX7 k) := by decide +kernel
abbrev cX7_init : ByteArray := prog_9_method_1_code
def yX7_init : MethodName := ⟨RX7, "<init>", "()V"⟩
abbrev cX7_append : ByteArray := prog_9_method_2_code
def yX7_append : MethodName := ⟨RX7, "append", "(I)V"⟩
abbrev cX7_hasHill : ByteArray := prog_9_method_3_code
def yX7_hasHill : MethodName := ⟨RX7, "hasHill", "(I)Z"⟩
abbrev cX7_hasPlan : ByteArray := prog_9_method_4_code
def yX7_hasPlan : MethodName := ⟨RX7, "hasPlan", "(I)Z"⟩
abbrev cX7_numberFor : ByteArray := prog_9_method_5_code
def yX7_numberFor : MethodName := ⟨RX7, "numberFor", "(II)I"⟩
abbrev cX7_keep : ByteArray := prog_9_method_6_code
def yX7_keep : MethodName := ⟨RX7, "keep", "(IILPondStair$Reader;)V"⟩
abbrev cX7_copy : ByteArray := prog_9_method_7_code
def yX7_copy : MethodName := ⟨RX7, "copy", "(LPondStair$Told;)V"⟩
def RX8 : String := "PondStair$Works"
def TX8 : u_T := fun k => match k with
  | 0 => ("PondStair$Works", "works", "I", false)
  | 1 => ("PondStair$Works", "kind", "[I", true)
  | 2 => ("PondStair$Works", "where", "[I", true)
  | _ => ("PondStair$Works", "much", "[I", true)
def tyX8 : Nat → FieldType := fun k => match k with
  | 0 => .int
  | 1 => .array .int
  | 2 => .array .int
  | _ => .array .int
theorem nmX8 : ∀ a, a < 4 → ∀ b, b < 4 → a ≠ b → (TX8 a).2.1 ≠ (TX8 b).2.1 := by decide +kernel
theorem tyX8_ok : ∀ k, k < 4 → parseFieldDescriptor (TX8 k).2.2.1 = some (tyX8 k) := by decide +kernel
abbrev cX8_init : ByteArray := prog_10_method_1_code
def yX8_init : MethodName := ⟨RX8, "<init>", "()V"⟩
abbrev cX8_clear : ByteArray := prog_10_method_2_code
def yX8_clear : MethodName := ⟨RX8, "clear", "()V"⟩
abbrev cX8_add : ByteArray := prog_10_method_3_code
def yX8_add : MethodName := ⟨RX8, "add", "(III)Z"⟩
abbrev cX8_copy : ByteArray := prog_10_method_4_code
def yX8_copy : MethodName := ⟨RX8, "copy", "(LPondStair$Works;)V"⟩
abbrev cX8_told : ByteArray := prog_10_method_5_code
def yX8_told : MethodName := ⟨RX8, "told", "(II)I"⟩
def RX9 : String := "PondStair$Years"
def TX9 : u_T := fun k => match k with
  | _ => ("PondStair$Years", "x", "I", false)
def tyX9 : Nat → FieldType := fun k => match k with
  | _ => .int
theorem nmX9 : ∀ a, a < 1 → ∀ b, b < 1 → a ≠ b → (TX9 a).2.1 ≠ (TX9 b).2.1 := by decide +kernel
theorem tyX9_ok : ∀ k, k < 1 → parseFieldDescriptor (TX9 k).2.2.1 = some (tyX9 k) := by decide +kernel
abbrev cX9_init : ByteArray := prog_11_method_1_code
def yX9_init : MethodName := ⟨RX9, "<init>", "(I)V"⟩
abbrev cX9_draw : ByteArray := prog_11_method_2_code
def yX9_draw : MethodName := ⟨RX9, "draw", "(I)I"⟩
abbrev cX9_tally : ByteArray := prog_11_method_3_code
def yX9_tally : MethodName := ⟨RX9, "tally", "(LPondStair$Hill;LPondStair$Storm;II)J"⟩
abbrev cX9_drawRain : ByteArray := prog_11_method_4_code
def yX9_drawRain : MethodName := ⟨RX9, "drawRain", "(LPondStair$Hill;)I"⟩
abbrev cX9_drawBanks : ByteArray := prog_11_method_5_code
def yX9_drawBanks : MethodName := ⟨RX9, "drawBanks", "(LPondStair$Hill;)I"⟩
def RX10 : String := "PondStair"
def TX10 : u_T := fun k => match k with
  | 0 => ("PondStair", "told", "LPondStair$Told;", true)
  | 1 => ("PondStair", "images", "[LPondStair$Told;", true)
  | 2 => ("PondStair", "taken", "[Z", true)
  | 3 => ("PondStair", "reader", "LPondStair$Reader;", true)
  | 4 => ("PondStair", "site", "LPondStair$Site;", true)
  | 5 => ("PondStair", "nothing", "LPondStair$Works;", true)
  | 6 => ("PondStair", "flow", "LPondStair$Storm;", true)
  | 7 => ("PondStair", "choice", "LPondStair$Choice;", true)
  | 8 => ("PondStair", "odds", "LPondStair$Odds;", true)
  | _ => ("PondStair", "trial", "LPondStair$Hill;", true)
def tyX10 : Nat → FieldType := fun k => match k with
  | 0 => .object "PondStair$Told"
  | 1 => .array (.object "PondStair$Told")
  | 2 => .array .boolean
  | 3 => .object "PondStair$Reader"
  | 4 => .object "PondStair$Site"
  | 5 => .object "PondStair$Works"
  | 6 => .object "PondStair$Storm"
  | 7 => .object "PondStair$Choice"
  | 8 => .object "PondStair$Odds"
  | _ => .object "PondStair$Hill"
theorem nmX10 : ∀ a, a < 10 → ∀ b, b < 10 → a ≠ b → (TX10 a).2.1 ≠ (TX10 b).2.1 := by decide +kernel
theorem tyX10_ok : ∀ k, k < 10 → parseFieldDescriptor (TX10 k).2.2.1 = some (tyX10 k) := by decide +kernel
abbrev cX10_init : ByteArray := prog_1_method_1_code
def yX10_init : MethodName := ⟨RX10, "<init>", "()V"⟩
abbrev cX10_feed : ByteArray := prog_1_method_2_code
def yX10_feed : MethodName := ⟨RX10, "feed", "(IIIII)I"⟩
abbrev cX10_end : ByteArray := prog_1_method_3_code
def yX10_end : MethodName := ⟨RX10, "end", "(I)I"⟩
abbrev cX10_text : ByteArray := prog_1_method_4_code
def yX10_text : MethodName := ⟨RX10, "text", "(II)I"⟩
abbrev cX10_fault : ByteArray := prog_1_method_5_code
def yX10_fault : MethodName := ⟨RX10, "fault", "(I)I"⟩
abbrev cX10_hill : ByteArray := prog_1_method_6_code
def yX10_hill : MethodName := ⟨RX10, "hill", "(II)I"⟩
abbrev cX10_pond : ByteArray := prog_1_method_7_code
def yX10_pond : MethodName := ⟨RX10, "pond", "(IIII)I"⟩
abbrev cX10_work : ByteArray := prog_1_method_8_code
def yX10_work : MethodName := ⟨RX10, "work", "(III)I"⟩
abbrev cX10_plan : ByteArray := prog_1_method_9_code
def yX10_plan : MethodName := ⟨RX10, "plan", "(III)I"⟩
abbrev cX10_storm : ByteArray := prog_1_method_10_code
def yX10_storm : MethodName := ⟨RX10, "storm", "(IIIII)I"⟩
abbrev cX10_likely : ByteArray := prog_1_method_11_code
def yX10_likely : MethodName := ⟨RX10, "likely", "(III)J"⟩
abbrev cX10_mean : ByteArray := prog_1_method_12_code
def yX10_mean : MethodName := ⟨RX10, "mean", "(III)J"⟩
abbrev cX10_rows : ByteArray := prog_1_method_13_code
def yX10_rows : MethodName := ⟨RX10, "rows", "(IIZ)J"⟩
abbrev cX10_brings : ByteArray := prog_1_method_14_code
def yX10_brings : MethodName := ⟨RX10, "brings", "(IIII)I"⟩
abbrev cX10_best : ByteArray := prog_1_method_15_code
def yX10_best : MethodName := ⟨RX10, "best", "(IIII)I"⟩
abbrev cX10_steps : ByteArray := prog_1_method_16_code
def yX10_steps : MethodName := ⟨RX10, "steps", "(IIII)I"⟩
abbrev cX10_mended : ByteArray := prog_1_method_17_code
def yX10_mended : MethodName := ⟨RX10, "mended", "(III)J"⟩
abbrev cX10_one : ByteArray := prog_1_method_18_code
def yX10_one : MethodName := ⟨RX10, "one", "(IIZ)J"⟩
abbrev cX10_low : ByteArray := prog_1_method_19_code
def yX10_low : MethodName := ⟨RX10, "low", "(III)I"⟩
abbrev cX10_helps : ByteArray := prog_1_method_20_code
def yX10_helps : MethodName := ⟨RX10, "helps", "(IIII)J"⟩
abbrev cX10_alone : ByteArray := prog_1_method_21_code
def yX10_alone : MethodName := ⟨RX10, "alone", "(III)J"⟩
abbrev cX10_hear : ByteArray := prog_1_method_22_code
def yX10_hear : MethodName := ⟨RX10, "hear", "(IIII)J"⟩
abbrev cX10_may : ByteArray := prog_1_method_23_code
def yX10_may : MethodName := ⟨RX10, "may", "(IIIZ)J"⟩
abbrev cX10_order : ByteArray := prog_1_method_24_code
def yX10_order : MethodName := ⟨RX10, "order", "(IIII)I"⟩
abbrev cX10_think : ByteArray := prog_1_method_25_code
def yX10_think : MethodName := ⟨RX10, "think", "(IIIZ)I"⟩
abbrev cX10_now : ByteArray := prog_1_method_26_code
def yX10_now : MethodName := ⟨RX10, "now", "(II)I"⟩
abbrev cX10_years : ByteArray := prog_1_method_27_code
def yX10_years : MethodName := ⟨RX10, "years", "(IIIII)J"⟩
abbrev cX10_spared : ByteArray := prog_1_method_28_code
def yX10_spared : MethodName := ⟨RX10, "spared", "(III)I"⟩
abbrev cX10_deep : ByteArray := prog_1_method_29_code
def yX10_deep : MethodName := ⟨RX10, "deep", "(II)I"⟩
abbrev cX10_safe : ByteArray := prog_1_method_30_code
def yX10_safe : MethodName := ⟨RX10, "safe", "(II)I"⟩
abbrev cX10_weighs : ByteArray := prog_1_method_31_code
def yX10_weighs : MethodName := ⟨RX10, "weighs", "(II)I"⟩
abbrev cX10_upon : ByteArray := prog_1_method_32_code
def yX10_upon : MethodName := ⟨RX10, "upon", "(IIIZ)I"⟩
abbrev cX10_runs : ByteArray := prog_1_method_33_code
def yX10_runs : MethodName := ⟨RX10, "runs", "(III)I"⟩
abbrev cX10_joint : ByteArray := prog_1_method_34_code
def yX10_joint : MethodName := ⟨RX10, "joint", "(IIII)J"⟩
abbrev cX10_given : ByteArray := prog_1_method_35_code
def yX10_given : MethodName := ⟨RX10, "given", "(IIIIZ)J"⟩
abbrev cX10_worst : ByteArray := prog_1_method_36_code
def yX10_worst : MethodName := ⟨RX10, "worst", "(III)J"⟩
abbrev cX10_flood : ByteArray := prog_1_method_37_code
def yX10_flood : MethodName := ⟨RX10, "flood", "(II)I"⟩
abbrev cX10_around : ByteArray := prog_1_method_38_code
def yX10_around : MethodName := ⟨RX10, "around", "(IIZ)I"⟩
abbrev cX10_twice : ByteArray := prog_1_method_39_code
def yX10_twice : MethodName := ⟨RX10, "twice", "(IIIIIII)I"⟩
abbrev cX10_better : ByteArray := prog_1_method_40_code
def yX10_better : MethodName := ⟨RX10, "better", "(III)I"⟩
abbrev cX10_spend : ByteArray := prog_1_method_41_code
def yX10_spend : MethodName := ⟨RX10, "spend", "(IIII)I"⟩
abbrev cX10_count : ByteArray := prog_1_method_42_code
def yX10_count : MethodName := ⟨RX10, "count", "(I)I"⟩
abbrev cX10_image : ByteArray := prog_1_method_43_code
def yX10_image : MethodName := ⟨RX10, "image", "(I)Z"⟩
abbrev cX10_again : ByteArray := prog_1_method_44_code
def yX10_again : MethodName := ⟨RX10, "again", "(I)Z"⟩
abbrev cX10_lays : ByteArray := prog_1_method_45_code
def yX10_lays : MethodName := ⟨RX10, "lays", "(II)Z"⟩
abbrev cX10_looks : ByteArray := prog_1_method_46_code
def yX10_looks : MethodName := ⟨RX10, "looks", "(II)Z"⟩
abbrev cX10_hasPond : ByteArray := prog_1_method_47_code
def yX10_hasPond : MethodName := ⟨RX10, "hasPond", "(III)Z"⟩
abbrev cX10_canMend : ByteArray := prog_1_method_48_code
def yX10_canMend : MethodName := ⟨RX10, "canMend", "(IIIII)Z"⟩
abbrev cX10_canFill : ByteArray := prog_1_method_49_code
def yX10_canFill : MethodName := ⟨RX10, "canFill", "(III)Z"⟩
abbrev cX10_isOwner : ByteArray := prog_1_method_50_code
def yX10_isOwner : MethodName := ⟨RX10, "isOwner", "(I)Z"⟩
abbrev cX10_isIn : ByteArray := prog_1_method_51_code
def yX10_isIn : MethodName := ⟨RX10, "isIn", "(II)Z"⟩
abbrev cX10_bit : ByteArray := prog_1_method_52_code
def yX10_bit : MethodName := ⟨RX10, "bit", "(I)I"⟩
abbrev cX10_inLeastTerms : ByteArray := prog_1_method_53_code
def yX10_inLeastTerms : MethodName := ⟨RX10, "inLeastTerms", "(JJZ)J"⟩
abbrev cX10_commonDivisor : ByteArray := prog_1_method_54_code
def yX10_commonDivisor : MethodName := ⟨RX10, "commonDivisor", "(JJ)J"⟩
def RX11 : String := "PondStairModel"
def TX11 : u_T := fun k => match k with
  | 0 => ("PondStairModel", "code", "I", false)
  | 1 => ("PondStairModel", "tape", "[B", true)
  | 2 => ("PondStairModel", "size", "[I", true)
  | 3 => ("PondStairModel", "fault", "[I", true)
  | 4 => ("PondStairModel", "faultPlace", "[I", true)
  | 5 => ("PondStairModel", "many", "[I", true)
  | 6 => ("PondStairModel", "hills", "[I", true)
  | 7 => ("PondStairModel", "plans", "[I", true)
  | 8 => ("PondStairModel", "ahead", "I", false)
  | 9 => ("PondStairModel", "length", "I", false)
  | 10 => ("PondStairModel", "begins", "I", false)
  | 11 => ("PondStairModel", "sort", "I", false)
  | 12 => ("PondStairModel", "value", "I", false)
  | 13 => ("PondStairModel", "word", "J", false)
  | 14 => ("PondStairModel", "wrongAt", "I", false)
  | 15 => ("PondStairModel", "laterFault", "I", false)
  | 16 => ("PondStairModel", "laterPlace", "I", false)
  | 17 => ("PondStairModel", "read", "I", false)
  | 18 => ("PondStairModel", "good", "Z", false)
  | 19 => ("PondStairModel", "row", "[I", true)
  | 20 => ("PondStairModel", "got", "[I", true)
  | 21 => ("PondStairModel", "now", "[I", true)
  | 22 => ("PondStairModel", "ponds", "I", false)
  | 23 => ("PondStairModel", "done", "I", false)
  | 24 => ("PondStairModel", "days", "I", false)
  | 25 => ("PondStairModel", "lost", "I", false)
  | 26 => ("PondStairModel", "kept", "I", false)
  | 27 => ("PondStairModel", "dry", "Z", false)
  | 28 => ("PondStairModel", "water", "[I", true)
  | 29 => ("PondStairModel", "comes", "[I", true)
  | 30 => ("PondStairModel", "left", "[I", true)
  | 31 => ("PondStairModel", "went", "I", false)
  | 32 => ("PondStairModel", "heard", "I", false)
  | 33 => ("PondStairModel", "brook", "I", false)
  | 34 => ("PondStairModel", "partsOfSet", "[J", true)
  | 35 => ("PondStairModel", "chance", "[I", true)
  | 36 => ("PondStairModel", "level", "[I", true)
  | 37 => ("PondStairModel", "row4", "[I", true)
  | 38 => ("PondStairModel", "best4", "[I", true)
  | 39 => ("PondStairModel", "filled", "I", false)
  | 40 => ("PondStairModel", "leastMay", "J", false)
  | 41 => ("PondStairModel", "drawn", "I", false)
  | _ => ("PondStairModel", "stored", "[Z", true)
def tyX11 : Nat → FieldType := fun k => match k with
  | 0 => .int
  | 1 => .array .byte
  | 2 => .array .int
  | 3 => .array .int
  | 4 => .array .int
  | 5 => .array .int
  | 6 => .array .int
  | 7 => .array .int
  | 8 => .int
  | 9 => .int
  | 10 => .int
  | 11 => .int
  | 12 => .int
  | 13 => .long
  | 14 => .int
  | 15 => .int
  | 16 => .int
  | 17 => .int
  | 18 => .boolean
  | 19 => .array .int
  | 20 => .array .int
  | 21 => .array .int
  | 22 => .int
  | 23 => .int
  | 24 => .int
  | 25 => .int
  | 26 => .int
  | 27 => .boolean
  | 28 => .array .int
  | 29 => .array .int
  | 30 => .array .int
  | 31 => .int
  | 32 => .int
  | 33 => .int
  | 34 => .array .long
  | 35 => .array .int
  | 36 => .array .int
  | 37 => .array .int
  | 38 => .array .int
  | 39 => .int
  | 40 => .long
  | 41 => .int
  | _ => .array .boolean
theorem nmX11 : ∀ a, a < 43 → ∀ b, b < 43 → a ≠ b → (TX11 a).2.1 ≠ (TX11 b).2.1 := by decide +kernel
theorem tyX11_ok : ∀ k, k < 43 → parseFieldDescriptor (TX11 k).2.2.1 = some (tyX11 k) := by decide +kernel
abbrev cX11_init : ByteArray := prog_13_method_1_code
def yX11_init : MethodName := ⟨RX11, "<init>", "()V"⟩
abbrev cX11_in : ByteArray := prog_13_method_3_code
def yX11_in : MethodName := ⟨RX11, "in", "(III)Z"⟩
abbrev cX11_has : ByteArray := prog_13_method_4_code
def yX11_has : MethodName := ⟨RX11, "has", "(II)Z"⟩
abbrev cX11_ones : ByteArray := prog_13_method_5_code
def yX11_ones : MethodName := ⟨RX11, "ones", "(I)I"⟩
abbrev cX11_move : ByteArray := prog_13_method_6_code
def yX11_move : MethodName := ⟨RX11, "move", "([IIII)V"⟩
abbrev cX11_copy : ByteArray := prog_13_method_7_code
def yX11_copy : MethodName := ⟨RX11, "copy", "(II)V"⟩
abbrev cX11_isHill : ByteArray := prog_13_method_8_code
def yX11_isHill : MethodName := ⟨RX11, "isHill", "(I)Z"⟩
abbrev cX11_isPlan : ByteArray := prog_13_method_9_code
def yX11_isPlan : MethodName := ⟨RX11, "isPlan", "(I)Z"⟩
abbrev cX11_feed : ByteArray := prog_13_method_10_code
def yX11_feed : MethodName := ⟨RX11, "feed", "(IIIII)I"⟩
abbrev cX11_four : ByteArray := prog_13_method_11_code
def yX11_four : MethodName := ⟨RX11, "four", "(I)V"⟩
abbrev cX11_end : ByteArray := prog_13_method_12_code
def yX11_end : MethodName := ⟨RX11, "end", "(I)I"⟩
abbrev cX11_see : ByteArray := prog_13_method_13_code
def yX11_see : MethodName := ⟨RX11, "see", "()I"⟩
abbrev cX11_token : ByteArray := prog_13_method_14_code
def yX11_token : MethodName := ⟨RX11, "token", "()V"⟩
abbrev cX11_stops : ByteArray := prog_13_method_15_code
def yX11_stops : MethodName := ⟨RX11, "stops", "()Z"⟩
abbrev cX11_later : ByteArray := prog_13_method_16_code
def yX11_later : MethodName := ⟨RX11, "later", "(II)V"⟩
abbrev cX11_number : ByteArray := prog_13_method_17_code
def yX11_number : MethodName := ⟨RX11, "number", "(II)Z"⟩
abbrev cX11_take : ByteArray := prog_13_method_18_code
def yX11_take : MethodName := ⟨RX11, "take", "(III)Z"⟩
abbrev cX11_pondLine : ByteArray := prog_13_method_19_code
def yX11_pondLine : MethodName := ⟨RX11, "pondLine", "(I)Z"⟩
abbrev cX11_rainLine : ByteArray := prog_13_method_20_code
def yX11_rainLine : MethodName := ⟨RX11, "rainLine", "(I)Z"⟩
abbrev cX11_ofPond : ByteArray := prog_13_method_21_code
def yX11_ofPond : MethodName := ⟨RX11, "ofPond", "(IIIII)Z"⟩
abbrev cX11_daysLine : ByteArray := prog_13_method_22_code
def yX11_daysLine : MethodName := ⟨RX11, "daysLine", "(I)Z"⟩
abbrev cX11_hillLine : ByteArray := prog_13_method_23_code
def yX11_hillLine : MethodName := ⟨RX11, "hillLine", "(I)Z"⟩
abbrev cX11_workLine : ByteArray := prog_13_method_24_code
def yX11_workLine : MethodName := ⟨RX11, "workLine", "(I)Z"⟩
abbrev cX11_endsHill : ByteArray := prog_13_method_25_code
def yX11_endsHill : MethodName := ⟨RX11, "endsHill", "()V"⟩
abbrev cX11_readText : ByteArray := prog_13_method_26_code
def yX11_readText : MethodName := ⟨RX11, "readText", "(I)Z"⟩
abbrev cX11_text : ByteArray := prog_13_method_27_code
def yX11_text : MethodName := ⟨RX11, "text", "(II)I"⟩
abbrev cX11_fault : ByteArray := prog_13_method_28_code
def yX11_fault : MethodName := ⟨RX11, "fault", "(I)I"⟩
abbrev cX11_hill : ByteArray := prog_13_method_29_code
def yX11_hill : MethodName := ⟨RX11, "hill", "(II)I"⟩
abbrev cX11_of : ByteArray := prog_13_method_30_code
def yX11_of : MethodName := ⟨RX11, "of", "(II)I"⟩
abbrev cX11_set : ByteArray := prog_13_method_31_code
def yX11_set : MethodName := ⟨RX11, "set", "(III)V"⟩
abbrev cX11_does : ByteArray := prog_13_method_32_code
def yX11_does : MethodName := ⟨RX11, "does", "(III)Z"⟩
abbrev cX11_lay : ByteArray := prog_13_method_33_code
def yX11_lay : MethodName := ⟨RX11, "lay", "(II)Z"⟩
abbrev cX11_isPond : ByteArray := prog_13_method_34_code
def yX11_isPond : MethodName := ⟨RX11, "isPond", "(I)Z"⟩
abbrev cX11_arePonds : ByteArray := prog_13_method_35_code
def yX11_arePonds : MethodName := ⟨RX11, "arePonds", "(I)Z"⟩
abbrev cX11_pond : ByteArray := prog_13_method_36_code
def yX11_pond : MethodName := ⟨RX11, "pond", "(IIII)I"⟩
abbrev cX11_work : ByteArray := prog_13_method_37_code
def yX11_work : MethodName := ⟨RX11, "work", "(III)I"⟩
abbrev cX11_plan : ByteArray := prog_13_method_38_code
def yX11_plan : MethodName := ⟨RX11, "plan", "(III)I"⟩
abbrev cX11_hears : ByteArray := prog_13_method_39_code
def yX11_hears : MethodName := ⟨RX11, "hears", "(I)Z"⟩
abbrev cX11_blow : ByteArray := prog_13_method_40_code
def yX11_blow : MethodName := ⟨RX11, "blow", "(II)V"⟩
abbrev cX11_pass : ByteArray := prog_13_method_41_code
def yX11_pass : MethodName := ⟨RX11, "pass", "(IIZ)V"⟩
abbrev cX11_stepsOf : ByteArray := prog_13_method_42_code
def yX11_stepsOf : MethodName := ⟨RX11, "stepsOf", "(I)I"⟩
abbrev cX11_isRain : ByteArray := prog_13_method_43_code
def yX11_isRain : MethodName := ⟨RX11, "isRain", "(I)Z"⟩
abbrev cX11_harmOf : ByteArray := prog_13_method_44_code
def yX11_harmOf : MethodName := ⟨RX11, "harmOf", "(I)I"⟩
abbrev cX11_storm : ByteArray := prog_13_method_45_code
def yX11_storm : MethodName := ⟨RX11, "storm", "(IIIII)I"⟩
abbrev cX11_told : ByteArray := prog_13_method_46_code
def yX11_told : MethodName := ⟨RX11, "told", "(I)I"⟩
abbrev cX11_partsOf : ByteArray := prog_13_method_47_code
def yX11_partsOf : MethodName := ⟨RX11, "partsOf", "(II)J"⟩
abbrev cX11_allParts : ByteArray := prog_13_method_48_code
def yX11_allParts : MethodName := ⟨RX11, "allParts", "()J"⟩
abbrev cX11_meanBy : ByteArray := prog_13_method_49_code
def yX11_meanBy : MethodName := ⟨RX11, "meanBy", "(I)J"⟩
abbrev cX11_likely : ByteArray := prog_13_method_50_code
def yX11_likely : MethodName := ⟨RX11, "likely", "(III)J"⟩
abbrev cX11_isOwner : ByteArray := prog_13_method_51_code
def yX11_isOwner : MethodName := ⟨RX11, "isOwner", "(I)Z"⟩
abbrev cX11_mean : ByteArray := prog_13_method_52_code
def yX11_mean : MethodName := ⟨RX11, "mean", "(III)J"⟩
abbrev cX11_rows : ByteArray := prog_13_method_53_code
def yX11_rows : MethodName := ⟨RX11, "rows", "(IIZ)J"⟩
abbrev cX11_brings : ByteArray := prog_13_method_54_code
def yX11_brings : MethodName := ⟨RX11, "brings", "(IIII)I"⟩
abbrev cX11_keepChances : ByteArray := prog_13_method_55_code
def yX11_keepChances : MethodName := ⟨RX11, "keepChances", "()V"⟩
abbrev cX11_mendAll : ByteArray := prog_13_method_56_code
def yX11_mendAll : MethodName := ⟨RX11, "mendAll", "(I)V"⟩
abbrev cX11_meanMended : ByteArray := prog_13_method_57_code
def yX11_meanMended : MethodName := ⟨RX11, "meanMended", "(II)J"⟩
abbrev cX11_costOf : ByteArray := prog_13_method_58_code
def yX11_costOf : MethodName := ⟨RX11, "costOf", "(I)I"⟩
abbrev cX11_canMend : ByteArray := prog_13_method_59_code
def yX11_canMend : MethodName := ⟨RX11, "canMend", "(IIII)Z"⟩
abbrev cX11_best : ByteArray := prog_13_method_60_code
def yX11_best : MethodName := ⟨RX11, "best", "(IIII)I"⟩
abbrev cX11_steps : ByteArray := prog_13_method_61_code
def yX11_steps : MethodName := ⟨RX11, "steps", "(IIII)I"⟩
abbrev cX11_nextOf : ByteArray := prog_13_method_62_code
def yX11_nextOf : MethodName := ⟨RX11, "nextOf", "(III)I"⟩
abbrev cX11_isSooner : ByteArray := prog_13_method_63_code
def yX11_isSooner : MethodName := ⟨RX11, "isSooner", "(JIJI)Z"⟩
abbrev cX11_mended : ByteArray := prog_13_method_64_code
def yX11_mended : MethodName := ⟨RX11, "mended", "(III)J"⟩
abbrev cX11_one : ByteArray := prog_13_method_65_code
def yX11_one : MethodName := ⟨RX11, "one", "(IIZ)J"⟩
abbrev cX11_low : ByteArray := prog_13_method_66_code
def yX11_low : MethodName := ⟨RX11, "low", "(III)I"⟩
abbrev cX11_pondsOf : ByteArray := prog_13_method_67_code
def yX11_pondsOf : MethodName := ⟨RX11, "pondsOf", "(I)I"⟩
abbrev cX11_helps : ByteArray := prog_13_method_68_code
def yX11_helps : MethodName := ⟨RX11, "helps", "(IIII)J"⟩
abbrev cX11_alone : ByteArray := prog_13_method_69_code
def yX11_alone : MethodName := ⟨RX11, "alone", "(III)J"⟩
abbrev cX11_hear : ByteArray := prog_13_method_70_code
def yX11_hear : MethodName := ⟨RX11, "hear", "(IIII)J"⟩
abbrev cX11_fillAll : ByteArray := prog_13_method_71_code
def yX11_fillAll : MethodName := ⟨RX11, "fillAll", "(I)J"⟩
abbrev cX11_findOrder : ByteArray := prog_13_method_72_code
def yX11_findOrder : MethodName := ⟨RX11, "findOrder", "(I)V"⟩
abbrev cX11_isFilled : ByteArray := prog_13_method_73_code
def yX11_isFilled : MethodName := ⟨RX11, "isFilled", "(III)Z"⟩
abbrev cX11_may : ByteArray := prog_13_method_74_code
def yX11_may : MethodName := ⟨RX11, "may", "(IIIZ)J"⟩
abbrev cX11_order : ByteArray := prog_13_method_75_code
def yX11_order : MethodName := ⟨RX11, "order", "(IIII)I"⟩
abbrev cX11_seenBy : ByteArray := prog_13_method_76_code
def yX11_seenBy : MethodName := ⟨RX11, "seenBy", "(I)I"⟩
abbrev cX11_seenAll : ByteArray := prog_13_method_77_code
def yX11_seenAll : MethodName := ⟨RX11, "seenAll", "(I)I"⟩
abbrev cX11_common : ByteArray := prog_13_method_78_code
def yX11_common : MethodName := ⟨RX11, "common", "(II)I"⟩
abbrev cX11_think : ByteArray := prog_13_method_79_code
def yX11_think : MethodName := ⟨RX11, "think", "(IIIZ)I"⟩
abbrev cX11_now : ByteArray := prog_13_method_80_code
def yX11_now : MethodName := ⟨RX11, "now", "(II)I"⟩
abbrev cX11_draw : ByteArray := prog_13_method_81_code
def yX11_draw : MethodName := ⟨RX11, "draw", "(I)I"⟩
abbrev cX11_year : ByteArray := prog_13_method_82_code
def yX11_year : MethodName := ⟨RX11, "year", "()V"⟩
abbrev cX11_years : ByteArray := prog_13_method_83_code
def yX11_years : MethodName := ⟨RX11, "years", "(IIIII)J"⟩
abbrev cX11_spared : ByteArray := prog_13_method_84_code
def yX11_spared : MethodName := ⟨RX11, "spared", "(III)I"⟩
abbrev cX11_deep : ByteArray := prog_13_method_85_code
def yX11_deep : MethodName := ⟨RX11, "deep", "(II)I"⟩
abbrev cX11_safe : ByteArray := prog_13_method_86_code
def yX11_safe : MethodName := ⟨RX11, "safe", "(II)I"⟩
abbrev cX11_weighs : ByteArray := prog_13_method_87_code
def yX11_weighs : MethodName := ⟨RX11, "weighs", "(II)I"⟩
abbrev cX11_leads : ByteArray := prog_13_method_88_code
def yX11_leads : MethodName := ⟨RX11, "leads", "(II)Z"⟩
abbrev cX11_upon : ByteArray := prog_13_method_89_code
def yX11_upon : MethodName := ⟨RX11, "upon", "(IIIZ)I"⟩
abbrev cX11_runs : ByteArray := prog_13_method_90_code
def yX11_runs : MethodName := ⟨RX11, "runs", "(III)I"⟩
abbrev cX11_together : ByteArray := prog_13_method_91_code
def yX11_together : MethodName := ⟨RX11, "together", "(I)J"⟩
abbrev cX11_joint : ByteArray := prog_13_method_92_code
def yX11_joint : MethodName := ⟨RX11, "joint", "(IIII)J"⟩
abbrev cX11_commonOf : ByteArray := prog_13_method_93_code
def yX11_commonOf : MethodName := ⟨RX11, "commonOf", "(JJ)J"⟩
abbrev cX11_given : ByteArray := prog_13_method_94_code
def yX11_given : MethodName := ⟨RX11, "given", "(IIIIZ)J"⟩
abbrev cX11_worst : ByteArray := prog_13_method_95_code
def yX11_worst : MethodName := ⟨RX11, "worst", "(III)J"⟩
abbrev cX11_flood : ByteArray := prog_13_method_96_code
def yX11_flood : MethodName := ⟨RX11, "flood", "(II)I"⟩
abbrev cX11_around : ByteArray := prog_13_method_97_code
def yX11_around : MethodName := ⟨RX11, "around", "(IIZ)I"⟩
abbrev cX11_twice : ByteArray := prog_13_method_98_code
def yX11_twice : MethodName := ⟨RX11, "twice", "(IIIIIII)I"⟩
abbrev cX11_better : ByteArray := prog_13_method_99_code
def yX11_better : MethodName := ⟨RX11, "better", "(III)I"⟩
abbrev cX11_spend : ByteArray := prog_13_method_100_code
def yX11_spend : MethodName := ⟨RX11, "spend", "(IIII)I"⟩
abbrev cX11_count : ByteArray := prog_13_method_101_code
def yX11_count : MethodName := ⟨RX11, "count", "(I)I"⟩
abbrev cX11_image : ByteArray := prog_13_method_102_code
def yX11_image : MethodName := ⟨RX11, "image", "(I)Z"⟩
abbrev cX11_again : ByteArray := prog_13_method_103_code
def yX11_again : MethodName := ⟨RX11, "again", "(I)Z"⟩
def RJ6 : String := "java/lang/Integer"
abbrev cJ6_bitCount_0f7a4 : ByteArray := prog_14_method_49_code
def yJ6_bitCount_0f7a4 : MethodName := ⟨RJ6, "bitCount", "(I)I"⟩
def RJ9 : String := "java/lang/Math"
abbrev cJ9_max_f86c9 : ByteArray := prog_15_method_66_code
def yJ9_max_f86c9 : MethodName := ⟨RJ9, "max", "(JJ)J"⟩
def RJ0 : String := "java/lang/String"
abbrev cJ0_length_8abf5 : ByteArray := prog_16_method_54_code
def yJ0_length_8abf5 : MethodName := ⟨RJ0, "length", "()I"⟩
abbrev cJ0_charAt_5068e : ByteArray := prog_16_method_56_code
def yJ0_charAt_5068e : MethodName := ⟨RJ0, "charAt", "(I)C"⟩
abbrev cJ0_coder_7d493 : ByteArray := prog_16_method_152_code
def yJ0_coder_7d493 : MethodName := ⟨RJ0, "coder", "()B"⟩
abbrev cJ0_isLatin1_aae02 : ByteArray := prog_16_method_154_code
def yJ0_isLatin1_aae02 : MethodName := ⟨RJ0, "isLatin1", "()Z"⟩
abbrev cJ0_checkIndex_df160 : ByteArray := prog_16_method_155_code
def yJ0_checkIndex_df160 : MethodName := ⟨RJ0, "checkIndex", "(II)V"⟩
def RJ1 : String := "java/lang/StringLatin1"
abbrev cJ1_charAt_3b067 : ByteArray := prog_17_method_2_code
def yJ1_charAt_3b067 : MethodName := ⟨RJ1, "charAt", "([BI)C"⟩
def RJ10 : String := "java/lang/System"
def RJ7 : String := "java/util/Arrays"
abbrev cJ7_rangeCheck_23922 : ByteArray := prog_20_method_30_code
def yJ7_rangeCheck_23922 : MethodName := ⟨RJ7, "rangeCheck", "(III)V"⟩
abbrev cJ7_fill_d0a16 : ByteArray := prog_20_method_101_code
def yJ7_fill_d0a16 : MethodName := ⟨RJ7, "fill", "([JJ)V"⟩
abbrev cJ7_fill_53178 : ByteArray := prog_20_method_103_code
def yJ7_fill_53178 : MethodName := ⟨RJ7, "fill", "([II)V"⟩
abbrev cJ7_fill_fda19 : ByteArray := prog_20_method_104_code
def yJ7_fill_fda19 : MethodName := ⟨RJ7, "fill", "([IIII)V"⟩
def RJ3 : String := "jdk/internal/util/Preconditions"
abbrev cJ3_checkIndex_8e157 : ByteArray := prog_21_method_11_code
def yJ3_checkIndex_8e157 : MethodName := ⟨RJ3, "checkIndex", "(IILjava/util/function/BiFunction;)I"⟩
def RL : String := "PondStairLaw"
abbrev cL_law : ByteArray := code
def yL_law : MethodName := ⟨RL, "law", "([I)Z"⟩
abbrev vwCl : List vw_C := [(RX0, TX0, 10), (RX1, TX1, 6), (RX2, TX2, 6), (RX3, TX3, 7), (RX4, TX4, 4), (RX5, TX5, 7), (RX6, TX6, 6), (RX7, TX7, 8), (RX8, TX8, 4), (RX9, TX9, 1), (RX10, TX10, 10), (RX11, TX11, 43)]
theorem inG0 : ∀ w ∈ u_ws RX0 TX0 10, w ∈ gt := gt_of _ [400, 402, 404, 406, 408, 410, 412, 414, 416, 418] (by decide +kernel) (by decide +kernel)
theorem inG1 : ∀ w ∈ u_ws RX1 TX1 6, w ∈ gt := gt_of _ [148, 150, 152, 154, 156, 158] (by decide +kernel) (by decide +kernel)
theorem inG2 : ∀ w ∈ u_ws RX2 TX2 6, w ∈ gt := gt_of _ [370, 372, 374, 376, 378, 380] (by decide +kernel) (by decide +kernel)
theorem inG3 : ∀ w ∈ u_ws RX3 TX3 7, w ∈ gt := gt_of _ [271, 273, 275, 277, 279, 281, 283] (by decide +kernel) (by decide +kernel)
theorem inG4 : ∀ w ∈ u_ws RX4 TX4 4, w ∈ gt := gt_of _ [302, 304, 306, 308] (by decide +kernel) (by decide +kernel)
theorem inG5 : ∀ w ∈ u_ws RX5 TX5 7, w ∈ gt := gt_of _ [331, 333, 335, 337, 339, 341, 343] (by decide +kernel) (by decide +kernel)
theorem inG6 : ∀ w ∈ u_ws RX6 TX6 6, w ∈ gt := gt_of _ [242, 244, 246, 248, 250, 252] (by decide +kernel) (by decide +kernel)
theorem inG7 : ∀ w ∈ u_ws RX7 TX7 8, w ∈ gt := gt_of _ [202, 204, 206, 208, 210, 212, 214, 216] (by decide +kernel) (by decide +kernel)
theorem inG8 : ∀ w ∈ u_ws RX8 TX8 4, w ∈ gt := gt_of _ [177, 179, 181, 183] (by decide +kernel) (by decide +kernel)
theorem inG9 : ∀ w ∈ u_ws RX9 TX9 1, w ∈ gt := gt_of _ [1111] (by decide +kernel) (by decide +kernel)
theorem inG10 : ∀ w ∈ u_ws RX10 TX10 10, w ∈ gt := gt_of _ [433, 435, 437, 439, 441, 443, 445, 447, 449, 451] (by decide +kernel) (by decide +kernel)
theorem inG11 : ∀ w ∈ u_ws RX11 TX11 43, w ∈ gt := gt_of _ [1307, 1309, 1311, 1313, 1315, 1317, 1319, 1321, 1323, 1325, 1327, 1329, 1331, 1333, 1335, 1337, 1339, 1341, 1343, 1345, 1347, 1349, 1351, 1353, 1355, 1357, 1359, 1361, 1363, 1365, 1367, 1369, 1371, 1373, 1375, 1377, 1379, 1381, 1383, 1385, 1387, 1389, 1391] (by decide +kernel) (by decide +kernel)
end
section
/-! THE J LAYER: one world for all cells (class and reference), at addresses base + number; J: the machine at a pc, with locals, operands and world in these words, comes to its end -/
abbrev MA : Type := (Nat → Int32) ⊕ (Nat → Int64) ⊕ (Nat → Option Nat)
/-- a cell: an array (number of its kind, length, contents) or an object (number of its kind of vwCl, fields); references are numbers of cells -/
abbrev MC : Type := (Nat × Nat × MA) ⊕ (Nat × List Value)
/-- references: .ref i the i-th cell of the world, .retAddr k the k-th constant array -/
def rv (b : Nat) (ca : Nat → Nat) (v : Value) : Value := match v with
  | .ref i => .ref (b + i)
  | .retAddr k => .ref (ca k)
  | .int x => .int x
  | .long x => .long x
  | .float x => .float x
  | .double x => .double x
  | .null => .null
theorem rv_cat (b : Nat) (ca : Nat → Nat) (v : Value) : (rv b ca v).category = v.category := by cases v <;> rfl
def rl (b : Nat) (ca : Nat → Nat) (lv : List (Nat × Value)) : List (Nat × Value) := lv.map (fun q => (q.1, rv b ca q.2))
theorem rl_at {b : Nat} {ca : Nat → Nat} {lv : List (Nat × Value)} {ls : Array Slot} {nL i j : Nat} {v : Value} (h : lv_has ls nL (rl b ca lv)) (hj : lv[j]? = some (i, v)) : ls[i]? = some (.val (rv b ca v)) := by
  refine lv_at h j (i := i) (v := rv b ca v) ?_
  simp [rl, hj]
theorem rl_filter (b : Nat) (ca : Nat → Nat) (lv : List (Nat × Value)) (f : Nat → Nat → Bool) : (rl b ca lv).filter (fun q => f q.1 q.2.category) = rl b ca (lv.filter (fun q => f q.1 q.2.category)) := by
  induction lv with
  | nil => rfl
  | cons a t ih =>
    have ih' : List.filter (fun q => f q.1 q.2.category) (List.map (fun q => (q.1, rv b ca q.2)) t) = List.map (fun q => (q.1, rv b ca q.2)) (List.filter (fun q => f q.1 q.2.category) t) := ih
    simp only [rl, List.map_cons, List.filter_cons, rv_cat]
    by_cases h : f a.1 a.2.category = true
    · simp only [h, if_true, List.map_cons]
      rw [ih']
    · simp only [h, if_false, Bool.false_eq_true]
      rw [ih']
theorem rl_args (b : Nat) (ca : Nat → Nat) : ∀ (vs : List Value) (i : Nat), lv_args i (vs.map (rv b ca)) = rl b ca (lv_args i vs)
  | [], _ => rfl
  | v :: vs, i => by
    show (i, rv b ca v) :: lv_args (if (rv b ca v).category = 2 then i + 2 else i + 1) (vs.map (rv b ca)) = _
    rw [rv_cat, rl_args b ca vs]
    rfl
theorem rv_sl (b : Nat) (ca : Nat → Nat) (vs : List Value) : (lg_sl (vs.map (rv b ca))).length = (lg_sl vs).length := by
  induction vs with
  | nil => rfl
  | cons v t ih =>
    simp only [lg_sl, List.map_cons, List.flatMap_cons, List.length_append, rv_cat] at ih ⊢
    rw [ih]
    by_cases h : v.category = 2 <;> simp [h]
theorem rv_sum (b : Nat) (ca : Nat → Nat) (st : List Value) : ((st.map (rv b ca)).map fun v => v.category).sum = (st.map fun v => v.category).sum := by
  induction st with
  | nil => rfl
  | cons v t ih => simp only [List.map_cons, List.sum_cons, rv_cat, ih]
def rA (b : Nat) (a : MA) : (Nat → Int32) ⊕ (Nat → Int64) ⊕ (Nat → UInt32) ⊕ (Nat → UInt64) ⊕ (Nat → Option Nat) := match a with
  | .inl f => .inl f
  | .inr (.inl f) => .inr (.inl f)
  | .inr (.inr f) => .inr (.inr (.inr (.inr (fun j => (f j).map (fun i => b + i)))))
def rE (b : Nat) (ca : Nat → Nat) (cA : Nat → ClassId) (c : MC) : va_E := match c with
  | .inl (t, n, a) => .inl (cA t, n, rA b a)
  | .inr (c, fs) => .inr (c, fs.map (rv b ca))
def wz (b : Nat) (ca : Nat → Nat) (cA : Nat → ClassId) (h : List MC) : va_W := h.mapIdx (fun i c => (b + i, rE b ca cA c))
section
variable {b : Nat} {ca : Nat → Nat} {cA : Nat → ClassId} {h : List MC}
theorem wz_len : (wz b ca cA h).length = h.length := List.length_mapIdx
theorem wz_get {i : Nat} {c : MC} (hi : h[i]? = some c) : (wz b ca cA h)[i]? = some (b + i, rE b ca cA c) := by
  simp [wz, List.getElem?_mapIdx, hi]
theorem wz_of {i : Nat} {q : Nat × va_E} (hi : (wz b ca cA h)[i]? = some q) : i < h.length ∧ q.1 = b + i := by
  rw [wz, List.getElem?_mapIdx] at hi
  cases hc : h[i]? with
  | none => rw [hc] at hi; cases hi
  | some c =>
    rw [hc] at hi
    cases hi
    exact ⟨(List.getElem?_eq_some_iff.mp hc).1, rfl⟩
theorem wz_set {i : Nat} {c : MC} : (wz b ca cA h).set i (b + i, rE b ca cA c) = wz b ca cA (h.set i c) := by
  apply List.ext_getElem?
  intro j
  rw [List.getElem?_set, wz, wz, List.getElem?_mapIdx, List.getElem?_mapIdx, List.getElem?_set, List.length_mapIdx]
  by_cases hij : i = j
  · subst hij
    by_cases hl : i < h.length
    · simp [hl]
    · simp [hl]
  · simp [hij]
theorem wz_push {c : MC} : wz b ca cA h ++ [(b + h.length, rE b ca cA c)] = wz b ca cA (h ++ [c]) := by
  rw [wz, wz, List.mapIdx_append]
  simp
theorem wz_D : va_D (fun q => b ≤ q) (wz b ca cA h) := by
  refine ⟨fun i j p q hi hj hpq => ?_, fun k q hk => ?_⟩
  · have h1 := (wz_of hi).2
    have h2 := (wz_of hj).2
    omega
  · have h1 := (wz_of hk).2
    show b ≤ q.1
    omega
end
/-- the kinds of arrays -/
def tz (cA : Nat → ClassId) : List (ClassId × FieldType) := [(cA 0, .byte), (cA 1, .int), (cA 2, .long), (cA 3, .boolean), (cA 4, .object "PondStair$Hill"), (cA 5, .object "PondStair$Told"), (cA 6, .object "PondStair$Works")]
abbrev JK : Type := Nat → Option (Nat × (Nat → Int32))
/-- constant int arrays: below the base, never written -/
def CN (con : JK) (ca : Nat → Nat) (b : Nat) (s : State) : Prop := ∀ (k n : Nat) (f : Nat → Int32), con k = some (n, f) → va_X (ca k) n f s s.heap ∧ ca k < b ∧ b ≤ s.heap.size
/-- the static arrays of the reader, its words (String constants) -/
def sNm : Nat → String
  | 0 => "HILL_COUNT" | 1 => "HILL_COLUMN" | 2 => "HILL_MOST" | 3 => "PLAN_COUNT" | 4 => "PLAN_LEAST" | _ => "PLAN_MOST"
def sAr : Nat → List Int32
  | 0 => [3, 2, 3, 2, 2, 2, 2, 2, 2, 2, 3, 2, 1, 1, 1]
  | 1 => [-1, 8, 9, 3, 4, 5, 6, 7, 11, 12, 13, -1, -1, -1, -1]
  | 2 => [24, 24, 9, 8, 8, 0, 8, 8, 10, 8, 24, 0, 8, 10, 0, 8, 999, 0, 8, 3, 0, 8, 99, 0, 8, 99, 0, 8, 99, 0, 8, 10, 10, 9, 100, 0, 99, 0, 0, 99, 0, 0, 99, 0, 0]
  | 3 => [2, 2, 2, 2, 1]
  | 4 => [0, 1, 0, 0, 1, 0, 0, 1, 0, 0, 0, 0, 0, 0, 0]
  | _ => [8, 10, 0, 8, 24, 0, 8, 24, 0, 8, 8, 0, 8, 0, 0]
def sTx : Nat → String
  | 0 => "pond" | 1 => "down" | 2 => "aside" | 3 => "bears" | 4 => "goes" | 5 => "harm" | 6 => "owner" | 7 => "rice" | 8 => "way" | 9 => "gate" | 10 => "sign" | 11 => "rain" | 12 => "mend" | 13 => "wide" | 14 => "round" | 15 => "low" | 16 => "widen" | _ => "out"
def sLn : List Nat := [4, 4, 5, 5, 4, 4, 5, 4, 3, 4, 4, 4, 4, 4, 5, 3, 5, 3]
def sBy : List (List Int32) := [[112, 111, 110, 100], [100, 111, 119, 110], [97, 115, 105, 100, 101], [98, 101, 97, 114, 115], [103, 111, 101, 115], [104, 97, 114, 109], [111, 119, 110, 101, 114], [114, 105, 99, 101], [119, 97, 121], [103, 97, 116, 101], [115, 105, 103, 110], [114, 97, 105, 110], [109, 101, 110, 100], [119, 105, 100, 101], [114, 111, 117, 110, 100], [108, 111, 119], [119, 105, 100, 101, 110], [111, 117, 116]]
def SS (ca : Nat → Nat) (b : Nat) (U : State) : Prop :=
  (∀ i, i < 6 → va_Z RX3 (sNm i) "[I" (.ref (ca (1 + i))) (fun q => b ≤ q) U U.heap ∧ va_T .int (ca (1 + i)) (sAr i).length (fun j => .int ((sAr i).getD j 0)) (fun q => b ≤ q) U U.heap) ∧ va_Z "java/lang/String" "COMPACT_STRINGS" "Z" (.int 1) (fun q => b ≤ q) U U.heap ∧ vk_S 18 sLn sBy (fun i => ca (10 + i)) (fun i => ca (40 + i)) (fun q => b ≤ q) U U.heap ∧ (∀ i, i < 18 → vk_R RX3 (120 + 2 * i) (sTx i) (ca (10 + i)) U) ∧ (va_Z "jdk/internal/util/Preconditions" "SIOOBE_FORMATTER" "Ljava/util/function/BiFunction;" .null (fun q => b ≤ q) U U.heap ∨ va_Z "jdk/internal/util/Preconditions" "SIOOBE_FORMATTER" "Ljava/util/function/BiFunction;" (.ref (ca 60)) (fun q => b ≤ q) U U.heap)
theorem SS.warm {ca : Nat → Nat} {b : Nat} {s U : State} {H : Heap} {locs : List Loc} (hW : s.WarmedH U.vm) (hH : U.heap = H) (hS : va_S (fun q => b ≤ q) s.heap H locs) (h : SS ca b s) : SS ca b U := by
  subst hH
  obtain ⟨h1, h2, h3, h4, h5⟩ := h
  exact ⟨fun i hi => ⟨((h1 i hi).1.kept hS.2.1).moved hW.alike, ((h1 i hi).2.kept hS.2.1).moved hW.alike⟩, (h2.kept hS.2.1).moved hW.alike, (h3.kept hS.2.1).moved hW.alike, fun i hi => vk_R.warm hW (h4 i hi), h5.imp (fun q => (q.kept hS.2.1).moved hW.alike) (fun q => (q.kept hS.2.1).moved hW.alike)⟩
theorem SS.same {ca : Nat → Nat} {b : Nat} {s U : State} (hv : s.vm = U.vm) (hh : U.heap = s.heap) (h : SS ca b s) : SS ca b U := by
  obtain ⟨h1, h2, h3, h4, h5⟩ := h
  have hA : s.vm.Alike U.vm := by rw [hv]; exact Vm.Alike.refl _
  unfold SS
  rw [hh]
  exact ⟨fun i hi => ⟨(h1 i hi).1.moved hA, (h1 i hi).2.moved hA⟩, h2.moved hA, h3.moved hA, fun i hi => vk_R.same hv.symm (h4 i hi), h5.imp (fun q => q.moved hA) (fun q => q.moved hA)⟩
/-- the words of nt, at a state -/
def NW (ca : Nat → Nat) (b : Nat) (U : State) : Prop := (∀ w ∈ nt, va_Nw w U) ∧ SS ca b U
theorem NW.warm {ca : Nat → Nat} {b : Nat} {s U : State} {H : Heap} {locs : List Loc} (hW : s.WarmedH U.vm) (hH : U.heap = H) (hS : va_S (fun q => b ≤ q) s.heap H locs) (h : NW ca b s) : NW ca b U := by
  refine ⟨?_, h.2.warm hW hH hS⟩
  intro w hw
  have h1 := h.1 w hw
  have h2 := (List.mem_filter.mp hw).2
  unfold nw at h2
  split at h2
  · exact va_Nw.warmF hW h1
  · exact va_Nw.warmM hW h1
  · exact va_AO.moved hW.alike h1
  · cases h2
theorem NW.same {ca : Nat → Nat} {b : Nat} {s U : State} (hv : s.vm = U.vm) (hh : U.heap = s.heap) (h : NW ca b s) : NW ca b U := by
  refine ⟨?_, h.2.same hv hh⟩
  intro w hw
  have h1 := h.1 w hw
  have h2 := (List.mem_filter.mp hw).2
  unfold nw at h2
  split at h2
  · exact va_Nw.same rfl hv h1
  · exact va_Nw.same rfl hv h1
  · exact va_AO.moved (by rw [hv]; exact Vm.Alike.refl _) h1
  · cases h2
abbrev JX : Type := Program × Launch × Env × Room × State × MethodId × Array Value × List Frame × Method × Code × Nat × (Nat → Nat) × (Nat → ClassId) × va_G × JK × (State → Prop)
def JO (x : JX) (y : MethodName) (cc : ByteArray) (nL : Nat) (rt : Option FieldType) (d M N L0 : Nat) : Prop := match x with
  | (p, _, _, R, s, m, args, _, meth, c, b, ca, cA, D, con, _) => p.tables.exec = Jvm.exec ∧ c.code = cc ∧ c.maxLocals = nL ∧ s.vm.findClass y.cls = some m.cls ∧ (∀ w ∈ gt, w.before args s = true) ∧ meth.sig.returnType = rt ∧ meth.locks = false ∧ (y.name = "<init>" → meth.name = "<init>") ∧ va_K D vwCl (tz cA) s ∧ s.heap.size = b + L0 ∧ d ≤ R.frames ∧ 38 * d ≤ R.locals ∧ M ≤ R.cells ∧ N ≤ R.slots ∧ CN con ca b s ∧ NW ca b s
/-- at pc, with locals lv, operands st, world h, k cells and n slots made: the run comes to x's end -/
def J (x : JX) (y : MethodName) (cc : ByteArray) (nL : Nat) (rt : Option FieldType) (d M N L0 : Nat) (pc : Nat) (lv : List (Nat × Value)) (st : List Value) (h : List MC) (k n : Nat) : Prop := match x with
  | (p, l, e, R, s, m, args, below, meth, c, b, ca, cA, D, con, Q) => JO (p, l, e, R, s, m, args, below, meth, c, b, ca, cA, D, con, Q) y cc nL rt d M N L0 → ∀ (H : Heap) (locs : List Loc) (ls : Array Slot), lv_has ls nL (rl b ca lv) → va_P D vwCl (wz b ca cA h) H → va_S (fun q => b ≤ q) s.heap H locs → W p l e R s m args below meth c H locs k n Q (F0 m pc ls (st.map (rv b ca)))
/-- a method's start and end in these words -/
def PC (b : Nat) (ca : Nat → Nat) (cA : Nat → ClassId) (D : va_G) (con : JK) (av : List Value) (h : List MC) : Array Value → State → Prop := fun v U => v = (av.map (rv b ca)).toArray ∧ U.heap.size = b + h.length ∧ va_P D vwCl (wz b ca cA h) U.heap ∧ va_K D vwCl (tz cA) U ∧ CN con ca b U ∧ NW ca b U
def QC (b : Nat) (ca : Nat → Nat) (cA : Nat → ClassId) (D : va_G) (Post : Option Value → List MC → Prop) : Array Value → State → Outcome → State → Prop := fun _ st oc t => (∃ (r : Option Value) (h' : List MC), oc = .returned (r.map (rv b ca)) ∧ Post r h' ∧ t.heap.size = b + h'.length ∧ va_P D vwCl (wz b ca cA h') t.heap ∧ va_K D vwCl (tz cA) t) ∧ va_F (fun q => b ≤ q) st t
def RM (d M N : Nat) : Room := { frames := d, cells := M, slots := N, locals := 38 * d }
/-- method y, from arguments av and world h: it ends, and its answer and world meet Post; d frames, M cells and N slots are enough -/
def CT (con0 : JK) (d M N : Nat) (y : MethodName) (cc : ByteArray) (nL : Nat) (rt : Option FieldType) (av : List Value) (h : List MC) (Post : Option Value → List MC → Prop) : Prop :=
  ∀ (l : Launch) (b : Nat) (ca : Nat → Nat) (cA : Nat → ClassId) (D : va_G) (con : JK), (∀ k v, con0 k = some v → con k = some v) → Met l y (.code y cc nL rt :: gt) (RM d M N) (PC b ca cA D con av h) (QC b ca cA D Post) M N (fun q => b ≤ q)
/-- x's end is that of a method with Post -/
def JQ (x : JX) (con0 : JK) (M N : Nat) (Post : Option Value → List MC → Prop) : Prop := match x with
  | (_, _, _, _, s, _, args, below, _, _, b, ca, cA, D, con, Q) => Q = MQ below (QC b ca cA D Post) args s M N (fun q => b ≤ q) ∧ ∀ k v, con0 k = some v → con k = some v
theorem CN.moved {con : JK} {ca : Nat → Nat} {b : Nat} {s U : State} {H : Heap} {locs : List Loc} (hc : CN con ca b s) (hvm : s.vm.Alike U.vm) (hH : U.heap = H) (hS : va_S (fun q => b ≤ q) s.heap H locs) : CN con ca b U := by
  intro k n f hk
  obtain ⟨h1, h2, h3⟩ := hc k n f hk
  refine ⟨(h1.kept (H1 := U.heap) ?_).moved hvm, h2, ?_⟩
  · rw [hH]
    exact hS.2.1 _ (Nat.lt_of_lt_of_le h2 h3) (Nat.not_le.mpr h2)
  · rw [hH]
    exact Nat.le_trans h3 hS.1
theorem PC_blind (b : Nat) (ca : Nat → Nat) (cA : Nat → ClassId) (D : va_G) (con : JK) (av : List Value) (h : List MC) : FrameBlind (PC b ca cA D con av h) := by
  intro a U g mk q
  obtain ⟨q0, q1, q2, q3, q4, q5⟩ := q
  refine ⟨q0, q1, q2, va_K.moved (u := U) (U := U.calling g mk a) (Vm.Alike.refl U.vm) q3, fun k n f hk => ?_, NW.same (s := U) (U := U.calling g mk a) rfl rfl q5⟩
  obtain ⟨r1, r2, r3⟩ := q4 k n f hk
  exact ⟨va_X.moved (u := U) (U := U.calling g mk a) (Vm.Alike.refl U.vm) r1, r2, r3⟩
theorem CT_of {con0 : JK} {d M N : Nat} {y : MethodName} {cc : ByteArray} {nL : Nat} {rt : Option FieldType} {av : List Value} {h : List MC} {Post : Option Value → List MC → Prop} (hy : plainName y.cls = true) (hn : (lg_sl av).length ≤ nL)
    (K : ∀ x : JX, JQ x con0 M N Post → J x y cc nL rt d M N h.length 0 (lv_args 0 av) [] h 0 0) : CT con0 d M N y cc nL rt av h Post := by
  intro l b ca cA D con hcon
  refine Met.ofW (cc := cc) (maxL := nL) (ret := rt) hy rfl ?_
  intro p e s m args below meth c s₁ B hml hv
  obtain ⟨rfl, hsz, hP, hK, hC, hNW⟩ := hv
  have hts := atoms_spec (ws := .code y cc nL rt :: gt) B.pre
  have hl := lv_entry (av.map (rv b ca)) (n := nL) (by rw [rv_sl]; exact hn)
  rw [lg_entry_eq]
  rw [rl_args] at hl
  exact K (p, l, e, (headSpec (.code y cc nL rt :: gt) (RM d M N)).room, s, m, (av.map (rv b ca)).toArray, below, meth, c, b, ca, cA, D, con, MQ below (QC b ca cA D Post) (av.map (rv b ca)).toArray s M N (fun q => b ≤ q)) ⟨rfl, hcon⟩
    ⟨B.exec, B.bytes, hml, findClass_of_methodNamed B.named, fun w h => hts w (List.mem_cons_of_mem _ h), B.returns, B.notSynchronized, fun hi => (name_of_methodNamed B.named B.method).1.trans hi, hK, hsz, Nat.le_refl _, Nat.le_refl _, Nat.le_refl _, Nat.le_refl _, hC, hNW⟩ s.heap [] _ hl hP va_S.rf
section
variable {x : JX} {y : MethodName} {cc : ByteArray} {nL : Nat} {rt : Option FieldType} {d M N L0 : Nat} {pc : Nat} {lv : List (Nat × Value)} {st : List Value} {h : List MC} {k n : Nat}
theorem J_iconst {z : Int} {v : Int32} (hd : decode cc pc = .ok (.iconst z, 1)) (hv : Int32.ofInt z = v) (K : J x y cc nL rt d M N L0 (pc + 1) lv (.int v :: st) h k n) : J x y cc nL rt d M N L0 pc lv st h k n := by
  obtain ⟨p, l, e, R, s, m, args, below, meth, c, b, ca, cA, D, con, Q⟩ := x
  intro O H locs ls hl hP hS
  have hx := O.1
  have hb := O.2.1
  exact lv_iconst hx hb hd hv (K O H locs ls hl hP hS)
theorem J_bipush {z : Int} {v : Int32} (hd : decode cc pc = .ok (.bipush z, 2)) (hv : (Int8.ofInt z).toInt32 = v) (K : J x y cc nL rt d M N L0 (pc + 2) lv (.int v :: st) h k n) : J x y cc nL rt d M N L0 pc lv st h k n := by
  obtain ⟨p, l, e, R, s, m, args, below, meth, c, b, ca, cA, D, con, Q⟩ := x
  intro O H locs ls hl hP hS
  have hx := O.1
  have hb := O.2.1
  exact lv_bipush hx hb hd hv (K O H locs ls hl hP hS)
theorem J_sipush {z : Int} {v : Int32} (hd : decode cc pc = .ok (.sipush z, 3)) (hv : (Int16.ofInt z).toInt32 = v) (K : J x y cc nL rt d M N L0 (pc + 3) lv (.int v :: st) h k n) : J x y cc nL rt d M N L0 pc lv st h k n := by
  obtain ⟨p, l, e, R, s, m, args, below, meth, c, b, ca, cA, D, con, Q⟩ := x
  intro O H locs ls hl hP hS
  have hx := O.1
  have hb := O.2.1
  exact lv_sipush hx hb hd hv (K O H locs ls hl hP hS)
theorem J_lconst {z : Fin 2} {v : Int64} (hd : decode cc pc = .ok (.lconst z, 1)) (hv : Int64.ofNat (z : Nat) = v) (K : J x y cc nL rt d M N L0 (pc + 1) lv (.long v :: st) h k n) : J x y cc nL rt d M N L0 pc lv st h k n := by
  obtain ⟨p, l, e, R, s, m, args, below, meth, c, b, ca, cA, D, con, Q⟩ := x
  intro O H locs ls hl hP hS
  have hx := O.1
  have hb := O.2.1
  exact lv_lconst hx hb hd hv (K O H locs ls hl hP hS)
theorem J_iload_n {q : Fin 4} {i j : Nat} {v : Int32} (hd : decode cc pc = .ok (.iload_n q, 1)) (hi : (q : Nat) = i) (hj : lv[j]? = some (i, .int v)) (K : J x y cc nL rt d M N L0 (pc + 1) lv (.int v :: st) h k n) : J x y cc nL rt d M N L0 pc lv st h k n := by
  obtain ⟨p, l, e, R, s, m, args, below, meth, c, b, ca, cA, D, con, Q⟩ := x
  intro O H locs ls hl hP hS
  have hx := O.1
  have hb := O.2.1
  exact lv_iload_n hx hb hd hi (rl_at hl hj) (K O H locs ls hl hP hS)
theorem J_iload {i j : Nat} {v : Int32} (hd : decode cc pc = .ok (.iload i, 2)) (hj : lv[j]? = some (i, .int v)) (K : J x y cc nL rt d M N L0 (pc + 2) lv (.int v :: st) h k n) : J x y cc nL rt d M N L0 pc lv st h k n := by
  obtain ⟨p, l, e, R, s, m, args, below, meth, c, b, ca, cA, D, con, Q⟩ := x
  intro O H locs ls hl hP hS
  have hx := O.1
  have hb := O.2.1
  exact lv_iload hx hb hd (rl_at hl hj) (K O H locs ls hl hP hS)
theorem J_lload_n {q : Fin 4} {i j : Nat} {v : Int64} (hd : decode cc pc = .ok (.lload_n q, 1)) (hi : (q : Nat) = i) (hj : lv[j]? = some (i, .long v)) (K : J x y cc nL rt d M N L0 (pc + 1) lv (.long v :: st) h k n) : J x y cc nL rt d M N L0 pc lv st h k n := by
  obtain ⟨p, l, e, R, s, m, args, below, meth, c, b, ca, cA, D, con, Q⟩ := x
  intro O H locs ls hl hP hS
  have hx := O.1
  have hb := O.2.1
  exact lv_lload_n hx hb hd hi (rl_at hl hj) (K O H locs ls hl hP hS)
theorem J_lload {i j : Nat} {v : Int64} (hd : decode cc pc = .ok (.lload i, 2)) (hj : lv[j]? = some (i, .long v)) (K : J x y cc nL rt d M N L0 (pc + 2) lv (.long v :: st) h k n) : J x y cc nL rt d M N L0 pc lv st h k n := by
  obtain ⟨p, l, e, R, s, m, args, below, meth, c, b, ca, cA, D, con, Q⟩ := x
  intro O H locs ls hl hP hS
  have hx := O.1
  have hb := O.2.1
  exact lv_lload hx hb hd (rl_at hl hj) (K O H locs ls hl hP hS)
theorem J_aload_n {q : Fin 4} {i j v : Nat} (hd : decode cc pc = .ok (.aload_n q, 1)) (hi : (q : Nat) = i) (hj : lv[j]? = some (i, .ref v)) (K : J x y cc nL rt d M N L0 (pc + 1) lv (.ref v :: st) h k n) : J x y cc nL rt d M N L0 pc lv st h k n := by
  obtain ⟨p, l, e, R, s, m, args, below, meth, c, b, ca, cA, D, con, Q⟩ := x
  intro O H locs ls hl hP hS
  have hx := O.1
  have hb := O.2.1
  exact lv_aload_n hx hb hd hi (rl_at hl hj) (K O H locs ls hl hP hS)
theorem J_aload_nC {q : Fin 4} {i j v : Nat} (hd : decode cc pc = .ok (.aload_n q, 1)) (hi : (q : Nat) = i) (hj : lv[j]? = some (i, .retAddr v)) (K : J x y cc nL rt d M N L0 (pc + 1) lv (.retAddr v :: st) h k n) : J x y cc nL rt d M N L0 pc lv st h k n := by
  obtain ⟨p, l, e, R, s, m, args, below, meth, c, b, ca, cA, D, con, Q⟩ := x
  intro O H locs ls hl hP hS
  have hx := O.1
  have hb := O.2.1
  exact lv_aload_n hx hb hd hi (rl_at hl hj) (K O H locs ls hl hP hS)
theorem J_istore_n {q : Fin 4} {i : Nat} {v : Int32} {lw : List (Nat × Value)} (hd : decode cc pc = .ok (.istore_n q, 1)) (hi : (q : Nat) = i) (hn : i < nL) (hw : (i, (Value.int v)) :: lv.filter (fun q => !(q.1 == i) && !(q.1 + 1 == i && q.2.category == 2)) = lw) (K : J x y cc nL rt d M N L0 (pc + 1) lw st h k n) : J x y cc nL rt d M N L0 pc lv ((Value.int v) :: st) h k n := by
  obtain ⟨p, l, e, R, s, m, args, below, meth, c, b, ca, cA, D, con, Q⟩ := x
  intro O H locs ls hl hP hS
  have hx := O.1
  have hb := O.2.1
  refine lv_istore_n hx hb hd hi hl hn (lv' := rl b ca lw) ?_ (fun ls' hl' => K O H locs ls' hl' hP hS)
  rw [← hw]
  exact congrArg (List.cons _) (rl_filter b ca lv (fun a c => !(a == i) && !(a + 1 == i && c == 2)))
theorem J_istore {i : Nat} {v : Int32} {lw : List (Nat × Value)} (hd : decode cc pc = .ok (.istore i, 2)) (hn : i < nL) (hw : (i, (Value.int v)) :: lv.filter (fun q => !(q.1 == i) && !(q.1 + 1 == i && q.2.category == 2)) = lw) (K : J x y cc nL rt d M N L0 (pc + 2) lw st h k n) : J x y cc nL rt d M N L0 pc lv ((Value.int v) :: st) h k n := by
  obtain ⟨p, l, e, R, s, m, args, below, meth, c, b, ca, cA, D, con, Q⟩ := x
  intro O H locs ls hl hP hS
  have hx := O.1
  have hb := O.2.1
  refine lv_istore hx hb hd hl hn (lv' := rl b ca lw) ?_ (fun ls' hl' => K O H locs ls' hl' hP hS)
  rw [← hw]
  exact congrArg (List.cons _) (rl_filter b ca lv (fun a c => !(a == i) && !(a + 1 == i && c == 2)))
theorem J_lstore_n {q : Fin 4} {i : Nat} {v : Int64} {lw : List (Nat × Value)} (hd : decode cc pc = .ok (.lstore_n q, 1)) (hi : (q : Nat) = i) (hn : i + 1 < nL) (hw : (i, (Value.long v)) :: lv.filter (fun q => !(q.1 == i) && (!(q.1 == i + 1) && !(q.1 + 1 == i && q.2.category == 2))) = lw) (K : J x y cc nL rt d M N L0 (pc + 1) lw st h k n) : J x y cc nL rt d M N L0 pc lv ((Value.long v) :: st) h k n := by
  obtain ⟨p, l, e, R, s, m, args, below, meth, c, b, ca, cA, D, con, Q⟩ := x
  intro O H locs ls hl hP hS
  have hx := O.1
  have hb := O.2.1
  refine lv_lstore_n hx hb hd hi hl hn (lv' := rl b ca lw) ?_ (fun ls' hl' => K O H locs ls' hl' hP hS)
  rw [← hw]
  exact congrArg (List.cons _) (rl_filter b ca lv (fun a c => !(a == i) && (!(a == i + 1) && !(a + 1 == i && c == 2))))
theorem J_lstore {i : Nat} {v : Int64} {lw : List (Nat × Value)} (hd : decode cc pc = .ok (.lstore i, 2)) (hn : i + 1 < nL) (hw : (i, (Value.long v)) :: lv.filter (fun q => !(q.1 == i) && (!(q.1 == i + 1) && !(q.1 + 1 == i && q.2.category == 2))) = lw) (K : J x y cc nL rt d M N L0 (pc + 2) lw st h k n) : J x y cc nL rt d M N L0 pc lv ((Value.long v) :: st) h k n := by
  obtain ⟨p, l, e, R, s, m, args, below, meth, c, b, ca, cA, D, con, Q⟩ := x
  intro O H locs ls hl hP hS
  have hx := O.1
  have hb := O.2.1
  refine lv_lstore hx hb hd hl hn (lv' := rl b ca lw) ?_ (fun ls' hl' => K O H locs ls' hl' hP hS)
  rw [← hw]
  exact congrArg (List.cons _) (rl_filter b ca lv (fun a c => !(a == i) && (!(a == i + 1) && !(a + 1 == i && c == 2))))
theorem J_astore_n {q : Fin 4} {i : Nat} {v : Nat} {lw : List (Nat × Value)} (hd : decode cc pc = .ok (.astore_n q, 1)) (hi : (q : Nat) = i) (hn : i < nL) (hw : (i, (Value.ref v)) :: lv.filter (fun q => !(q.1 == i) && !(q.1 + 1 == i && q.2.category == 2)) = lw) (K : J x y cc nL rt d M N L0 (pc + 1) lw st h k n) : J x y cc nL rt d M N L0 pc lv ((Value.ref v) :: st) h k n := by
  obtain ⟨p, l, e, R, s, m, args, below, meth, c, b, ca, cA, D, con, Q⟩ := x
  intro O H locs ls hl hP hS
  have hx := O.1
  have hb := O.2.1
  refine lv_astore_n hx hb hd hi hl hn (lv' := rl b ca lw) ?_ (fun ls' hl' => K O H locs ls' hl' hP hS)
  rw [← hw]
  exact congrArg (List.cons _) (rl_filter b ca lv (fun a c => !(a == i) && !(a + 1 == i && c == 2)))
theorem J_iinc {i j : Nat} {z : Int} {u v : Int32} {lw : List (Nat × Value)} (hd : decode cc pc = .ok (.iinc i z, 3)) (hj : lv[j]? = some (i, .int u)) (hv : u + Int32.ofInt z = v) (hn : i < nL) (hw : (i, Value.int v) :: lv.filter (fun q => !(q.1 == i) && !(q.1 + 1 == i && q.2.category == 2)) = lw) (K : J x y cc nL rt d M N L0 (pc + 3) lw st h k n) : J x y cc nL rt d M N L0 pc lv st h k n := by
  obtain ⟨p, l, e, R, s, m, args, below, meth, c, b, ca, cA, D, con, Q⟩ := x
  intro O H locs ls hl hP hS
  have hx := O.1
  have hb := O.2.1
  refine lv_iinc hx hb hd hl (k := j) (x := u) (by simp [rl, hj, rv]) hv hn (lv' := rl b ca lw) ?_ (fun ls' hl' => K O H locs ls' hl' hP hS)
  rw [← hw]
  exact congrArg (List.cons _) (rl_filter b ca lv (fun a c => !(a == i) && !(a + 1 == i && c == 2)))
theorem J_iadd {u v : Int32} (hd : decode cc pc = .ok (.iadd, 1))  (K : J x y cc nL rt d M N L0 (pc + 1) lv (.int (u + v) :: st) h k n) : J x y cc nL rt d M N L0 pc lv (.int v :: .int u :: st) h k n := by
  obtain ⟨p, l, e, R, s, m, args, below, meth, c, b, ca, cA, D, con, Q⟩ := x
  intro O H locs ls hl hP hS
  have hx := O.1
  have hb := O.2.1
  exact lv_iadd hx hb hd  (K O H locs ls hl hP hS)
theorem J_isub {u v : Int32} (hd : decode cc pc = .ok (.isub, 1))  (K : J x y cc nL rt d M N L0 (pc + 1) lv (.int (u - v) :: st) h k n) : J x y cc nL rt d M N L0 pc lv (.int v :: .int u :: st) h k n := by
  obtain ⟨p, l, e, R, s, m, args, below, meth, c, b, ca, cA, D, con, Q⟩ := x
  intro O H locs ls hl hP hS
  have hx := O.1
  have hb := O.2.1
  exact lv_isub hx hb hd  (K O H locs ls hl hP hS)
theorem J_imul {u v : Int32} (hd : decode cc pc = .ok (.imul, 1))  (K : J x y cc nL rt d M N L0 (pc + 1) lv (.int (u * v) :: st) h k n) : J x y cc nL rt d M N L0 pc lv (.int v :: .int u :: st) h k n := by
  obtain ⟨p, l, e, R, s, m, args, below, meth, c, b, ca, cA, D, con, Q⟩ := x
  intro O H locs ls hl hP hS
  have hx := O.1
  have hb := O.2.1
  exact lv_imul hx hb hd  (K O H locs ls hl hP hS)
theorem J_iand {u v : Int32} (hd : decode cc pc = .ok (.iand, 1))  (K : J x y cc nL rt d M N L0 (pc + 1) lv (.int (u &&& v) :: st) h k n) : J x y cc nL rt d M N L0 pc lv (.int v :: .int u :: st) h k n := by
  obtain ⟨p, l, e, R, s, m, args, below, meth, c, b, ca, cA, D, con, Q⟩ := x
  intro O H locs ls hl hP hS
  have hx := O.1
  have hb := O.2.1
  exact lv_iand hx hb hd  (K O H locs ls hl hP hS)
theorem J_ior {u v : Int32} (hd : decode cc pc = .ok (.ior, 1))  (K : J x y cc nL rt d M N L0 (pc + 1) lv (.int (u ||| v) :: st) h k n) : J x y cc nL rt d M N L0 pc lv (.int v :: .int u :: st) h k n := by
  obtain ⟨p, l, e, R, s, m, args, below, meth, c, b, ca, cA, D, con, Q⟩ := x
  intro O H locs ls hl hP hS
  have hx := O.1
  have hb := O.2.1
  exact lv_ior hx hb hd  (K O H locs ls hl hP hS)
theorem J_ixor {u v : Int32} (hd : decode cc pc = .ok (.ixor, 1))  (K : J x y cc nL rt d M N L0 (pc + 1) lv (.int (u ^^^ v) :: st) h k n) : J x y cc nL rt d M N L0 pc lv (.int v :: .int u :: st) h k n := by
  obtain ⟨p, l, e, R, s, m, args, below, meth, c, b, ca, cA, D, con, Q⟩ := x
  intro O H locs ls hl hP hS
  have hx := O.1
  have hb := O.2.1
  exact lv_ixor hx hb hd  (K O H locs ls hl hP hS)
theorem J_ishl {u v : Int32} (hd : decode cc pc = .ok (.ishl, 1))  (K : J x y cc nL rt d M N L0 (pc + 1) lv (.int (u <<< (v &&& 31)) :: st) h k n) : J x y cc nL rt d M N L0 pc lv (.int v :: .int u :: st) h k n := by
  obtain ⟨p, l, e, R, s, m, args, below, meth, c, b, ca, cA, D, con, Q⟩ := x
  intro O H locs ls hl hP hS
  have hx := O.1
  have hb := O.2.1
  exact lv_ishl hx hb hd  (K O H locs ls hl hP hS)
theorem J_ishr {u v : Int32} (hd : decode cc pc = .ok (.ishr, 1))  (K : J x y cc nL rt d M N L0 (pc + 1) lv (.int (u >>> (v &&& 31)) :: st) h k n) : J x y cc nL rt d M N L0 pc lv (.int v :: .int u :: st) h k n := by
  obtain ⟨p, l, e, R, s, m, args, below, meth, c, b, ca, cA, D, con, Q⟩ := x
  intro O H locs ls hl hP hS
  have hx := O.1
  have hb := O.2.1
  exact lv_ishr hx hb hd  (K O H locs ls hl hP hS)
theorem J_idiv {u v : Int32} (hd : decode cc pc = .ok (.idiv, 1)) (hne : ¬ v = 0) (K : J x y cc nL rt d M N L0 (pc + 1) lv (.int (u / v) :: st) h k n) : J x y cc nL rt d M N L0 pc lv (.int v :: .int u :: st) h k n := by
  obtain ⟨p, l, e, R, s, m, args, below, meth, c, b, ca, cA, D, con, Q⟩ := x
  intro O H locs ls hl hP hS
  have hx := O.1
  have hb := O.2.1
  exact lv_idiv hx hb hd hne (K O H locs ls hl hP hS)
theorem J_irem {u v : Int32} (hd : decode cc pc = .ok (.irem, 1)) (hne : ¬ v = 0) (K : J x y cc nL rt d M N L0 (pc + 1) lv (.int (u - u / v * v) :: st) h k n) : J x y cc nL rt d M N L0 pc lv (.int v :: .int u :: st) h k n := by
  obtain ⟨p, l, e, R, s, m, args, below, meth, c, b, ca, cA, D, con, Q⟩ := x
  intro O H locs ls hl hP hS
  have hx := O.1
  have hb := O.2.1
  exact lv_irem hx hb hd hne (K O H locs ls hl hP hS)
theorem J_iushr {u v z : Int32} (hd : decode cc pc = .ok (.iushr, 1)) (hv : (u.toUInt32 >>> (v.toUInt32 &&& Int32.toUInt32 31)).toInt32 = z) (K : J x y cc nL rt d M N L0 (pc + 1) lv (.int z :: st) h k n) : J x y cc nL rt d M N L0 pc lv (.int v :: .int u :: st) h k n := by
  obtain ⟨p, l, e, R, s, m, args, below, meth, c, b, ca, cA, D, con, Q⟩ := x
  intro O H locs ls hl hP hS
  have hx := O.1
  have hb := O.2.1
  exact lv_iushr hx hb hd hv (K O H locs ls hl hP hS)
theorem J_ladd {u v : Int64} (hd : decode cc pc = .ok (.ladd, 1))  (K : J x y cc nL rt d M N L0 (pc + 1) lv (.long (u + v) :: st) h k n) : J x y cc nL rt d M N L0 pc lv (.long v :: .long u :: st) h k n := by
  obtain ⟨p, l, e, R, s, m, args, below, meth, c, b, ca, cA, D, con, Q⟩ := x
  intro O H locs ls hl hP hS
  have hx := O.1
  have hb := O.2.1
  exact lv_ladd hx hb hd  (K O H locs ls hl hP hS)
theorem J_lsub {u v : Int64} (hd : decode cc pc = .ok (.lsub, 1))  (K : J x y cc nL rt d M N L0 (pc + 1) lv (.long (u - v) :: st) h k n) : J x y cc nL rt d M N L0 pc lv (.long v :: .long u :: st) h k n := by
  obtain ⟨p, l, e, R, s, m, args, below, meth, c, b, ca, cA, D, con, Q⟩ := x
  intro O H locs ls hl hP hS
  have hx := O.1
  have hb := O.2.1
  exact lv_lsub hx hb hd  (K O H locs ls hl hP hS)
theorem J_lmul {u v : Int64} (hd : decode cc pc = .ok (.lmul, 1))  (K : J x y cc nL rt d M N L0 (pc + 1) lv (.long (u * v) :: st) h k n) : J x y cc nL rt d M N L0 pc lv (.long v :: .long u :: st) h k n := by
  obtain ⟨p, l, e, R, s, m, args, below, meth, c, b, ca, cA, D, con, Q⟩ := x
  intro O H locs ls hl hP hS
  have hx := O.1
  have hb := O.2.1
  exact lv_lmul hx hb hd  (K O H locs ls hl hP hS)
theorem J_lor {u v : Int64} (hd : decode cc pc = .ok (.lor, 1))  (K : J x y cc nL rt d M N L0 (pc + 1) lv (.long (u ||| v) :: st) h k n) : J x y cc nL rt d M N L0 pc lv (.long v :: .long u :: st) h k n := by
  obtain ⟨p, l, e, R, s, m, args, below, meth, c, b, ca, cA, D, con, Q⟩ := x
  intro O H locs ls hl hP hS
  have hx := O.1
  have hb := O.2.1
  exact lv_lor hx hb hd  (K O H locs ls hl hP hS)
theorem J_ldiv {u v : Int64} (hd : decode cc pc = .ok (.ldiv, 1)) (hne : ¬ v = 0) (K : J x y cc nL rt d M N L0 (pc + 1) lv (.long (u / v) :: st) h k n) : J x y cc nL rt d M N L0 pc lv (.long v :: .long u :: st) h k n := by
  obtain ⟨p, l, e, R, s, m, args, below, meth, c, b, ca, cA, D, con, Q⟩ := x
  intro O H locs ls hl hP hS
  have hx := O.1
  have hb := O.2.1
  exact lv_ldiv hx hb hd hne (K O H locs ls hl hP hS)
theorem J_lrem {u v : Int64} (hd : decode cc pc = .ok (.lrem, 1)) (hne : ¬ v = 0) (K : J x y cc nL rt d M N L0 (pc + 1) lv (.long (u - u / v * v) :: st) h k n) : J x y cc nL rt d M N L0 pc lv (.long v :: .long u :: st) h k n := by
  obtain ⟨p, l, e, R, s, m, args, below, meth, c, b, ca, cA, D, con, Q⟩ := x
  intro O H locs ls hl hP hS
  have hx := O.1
  have hb := O.2.1
  exact lv_lrem hx hb hd hne (K O H locs ls hl hP hS)
theorem J_lshl {u z : Int64} {v : Int32} (hd : decode cc pc = .ok (.lshl, 1)) (hv : u <<< (v.toInt64 &&& 63) = z) (K : J x y cc nL rt d M N L0 (pc + 1) lv (.long z :: st) h k n) : J x y cc nL rt d M N L0 pc lv (.int v :: .long u :: st) h k n := by
  obtain ⟨p, l, e, R, s, m, args, below, meth, c, b, ca, cA, D, con, Q⟩ := x
  intro O H locs ls hl hP hS
  have hx := O.1
  have hb := O.2.1
  exact lv_lshl hx hb hd hv (K O H locs ls hl hP hS)
theorem J_i2l {u : Int32} {z : Int64} (hd : decode cc pc = .ok (.i2l, 1)) (hv : u.toInt64 = z) (K : J x y cc nL rt d M N L0 (pc + 1) lv (.long z :: st) h k n) : J x y cc nL rt d M N L0 pc lv (.int u :: st) h k n := by
  obtain ⟨p, l, e, R, s, m, args, below, meth, c, b, ca, cA, D, con, Q⟩ := x
  intro O H locs ls hl hP hS
  have hx := O.1
  have hb := O.2.1
  exact lv_i2l hx hb hd hv (K O H locs ls hl hP hS)
theorem J_l2i {u : Int64} {z : Int32} (hd : decode cc pc = .ok (.l2i, 1)) (hv : u.toInt32 = z) (K : J x y cc nL rt d M N L0 (pc + 1) lv (.int z :: st) h k n) : J x y cc nL rt d M N L0 pc lv (.long u :: st) h k n := by
  obtain ⟨p, l, e, R, s, m, args, below, meth, c, b, ca, cA, D, con, Q⟩ := x
  intro O H locs ls hl hP hS
  have hx := O.1
  have hb := O.2.1
  exact lv_l2i hx hb hd hv (K O H locs ls hl hP hS)
theorem J_i2b {u z : Int32} (hd : decode cc pc = .ok (.i2b, 1)) (hv : u.toInt8.toInt32 = z) (K : J x y cc nL rt d M N L0 (pc + 1) lv (.int z :: st) h k n) : J x y cc nL rt d M N L0 pc lv (.int u :: st) h k n := by
  obtain ⟨p, l, e, R, s, m, args, below, meth, c, b, ca, cA, D, con, Q⟩ := x
  intro O H locs ls hl hP hS
  have hx := O.1
  have hb := O.2.1
  exact lv_i2b hx hb hd hv (K O H locs ls hl hP hS)
theorem J_lcmp {u v : Int64} (hd : decode cc pc = .ok (.lcmp, 1))  (K : J x y cc nL rt d M N L0 (pc + 1) lv (.int (lg_cmp u v) :: st) h k n) : J x y cc nL rt d M N L0 pc lv (.long v :: .long u :: st) h k n := by
  obtain ⟨p, l, e, R, s, m, args, below, meth, c, b, ca, cA, D, con, Q⟩ := x
  intro O H locs ls hl hP hS
  have hx := O.1
  have hb := O.2.1
  exact W.lcmp hx hb hd  (K O H locs ls hl hP hS)
theorem J_dup {v : Value} (hd : decode cc pc = .ok (.dup, 1)) (hc : v.category = 1) (K : J x y cc nL rt d M N L0 (pc + 1) lv (v :: v :: st) h k n) : J x y cc nL rt d M N L0 pc lv (v :: st) h k n := by
  obtain ⟨p, l, e, R, s, m, args, below, meth, c, b, ca, cA, D, con, Q⟩ := x
  intro O H locs ls hl hP hS
  have hx := O.1
  have hb := O.2.1
  exact lv_dup hx hb hd ((rv_cat _ _ _).trans hc) (K O H locs ls hl hP hS)
theorem J_pop {v : Value} (hd : decode cc pc = .ok (.pop, 1)) (hc : v.category = 1) (K : J x y cc nL rt d M N L0 (pc + 1) lv st h k n) : J x y cc nL rt d M N L0 pc lv (v :: st) h k n := by
  obtain ⟨p, l, e, R, s, m, args, below, meth, c, b, ca, cA, D, con, Q⟩ := x
  intro O H locs ls hl hP hS
  have hx := O.1
  have hb := O.2.1
  exact lv_pop hx hb hd ((rv_cat _ _ _).trans hc) (K O H locs ls hl hP hS)
theorem J_dup2_11 {u v : Value} (hd : decode cc pc = .ok (.dup2, 1)) (hv : v.category = 1) (hu : u.category = 1) (K : J x y cc nL rt d M N L0 (pc + 1) lv (v :: u :: v :: u :: st) h k n) : J x y cc nL rt d M N L0 pc lv (v :: u :: st) h k n := by
  obtain ⟨p, l, e, R, s, m, args, below, meth, c, b, ca, cA, D, con, Q⟩ := x
  intro O H locs ls hl hP hS
  have hx := O.1
  have hb := O.2.1
  exact lv_dup2_11 hx hb hd ((rv_cat _ _ _).trans hv) ((rv_cat _ _ _).trans hu) (K O H locs ls hl hP hS)
theorem J_pop2_2 {v : Value} (hd : decode cc pc = .ok (.pop2, 1)) (hc : v.category = 2) (K : J x y cc nL rt d M N L0 (pc + 1) lv st h k n) : J x y cc nL rt d M N L0 pc lv (v :: st) h k n := by
  obtain ⟨p, l, e, R, s, m, args, below, meth, c, b, ca, cA, D, con, Q⟩ := x
  intro O H locs ls hl hP hS
  have hx := O.1
  have hb := O.2.1
  exact lv_pop2_2 hx hb hd ((rv_cat _ _ _).trans hc) (K O H locs ls hl hP hS)
theorem J_if_eq {u : Int32} {off : Int} {tgt : Nat} (hd : decode cc pc = .ok (.ifCond .eq off, 3)) (ht : (pc : Int) + off = (tgt : Int)) (K1 : u = 0 → J x y cc nL rt d M N L0 tgt lv st h k n) (K2 : ¬ (u = 0) → J x y cc nL rt d M N L0 (pc + 3) lv st h k n) : J x y cc nL rt d M N L0 pc lv (.int u :: st) h k n := by
  obtain ⟨p, l, e, R, s, m, args, below, meth, c, b, ca, cA, D, con, Q⟩ := x
  intro O H locs ls hl hP hS
  have hx := O.1
  have hb := O.2.1
  exact lv_if_eq hx hb hd ht (fun q => K1 q O H locs ls hl hP hS) (fun q => K2 q O H locs ls hl hP hS)
theorem J_icmp_eq {u v : Int32} {off : Int} {tgt : Nat} (hd : decode cc pc = .ok (.if_icmp .eq off, 3)) (ht : (pc : Int) + off = (tgt : Int)) (K1 : u = v → J x y cc nL rt d M N L0 tgt lv st h k n) (K2 : ¬ (u = v) → J x y cc nL rt d M N L0 (pc + 3) lv st h k n) : J x y cc nL rt d M N L0 pc lv (.int v :: .int u :: st) h k n := by
  obtain ⟨p, l, e, R, s, m, args, below, meth, c, b, ca, cA, D, con, Q⟩ := x
  intro O H locs ls hl hP hS
  have hx := O.1
  have hb := O.2.1
  exact lv_icmp_eq hx hb hd ht (fun q => K1 q O H locs ls hl hP hS) (fun q => K2 q O H locs ls hl hP hS)
theorem J_if_ne {u : Int32} {off : Int} {tgt : Nat} (hd : decode cc pc = .ok (.ifCond .ne off, 3)) (ht : (pc : Int) + off = (tgt : Int)) (K1 : ¬ u = 0 → J x y cc nL rt d M N L0 tgt lv st h k n) (K2 : u = 0 → J x y cc nL rt d M N L0 (pc + 3) lv st h k n) : J x y cc nL rt d M N L0 pc lv (.int u :: st) h k n := by
  obtain ⟨p, l, e, R, s, m, args, below, meth, c, b, ca, cA, D, con, Q⟩ := x
  intro O H locs ls hl hP hS
  have hx := O.1
  have hb := O.2.1
  exact lv_if_ne hx hb hd ht (fun q => K1 q O H locs ls hl hP hS) (fun q => K2 q O H locs ls hl hP hS)
theorem J_icmp_ne {u v : Int32} {off : Int} {tgt : Nat} (hd : decode cc pc = .ok (.if_icmp .ne off, 3)) (ht : (pc : Int) + off = (tgt : Int)) (K1 : ¬ u = v → J x y cc nL rt d M N L0 tgt lv st h k n) (K2 : u = v → J x y cc nL rt d M N L0 (pc + 3) lv st h k n) : J x y cc nL rt d M N L0 pc lv (.int v :: .int u :: st) h k n := by
  obtain ⟨p, l, e, R, s, m, args, below, meth, c, b, ca, cA, D, con, Q⟩ := x
  intro O H locs ls hl hP hS
  have hx := O.1
  have hb := O.2.1
  exact lv_icmp_ne hx hb hd ht (fun q => K1 q O H locs ls hl hP hS) (fun q => K2 q O H locs ls hl hP hS)
theorem J_if_lt {u : Int32} {off : Int} {tgt : Nat} (hd : decode cc pc = .ok (.ifCond .lt off, 3)) (ht : (pc : Int) + off = (tgt : Int)) (K1 : u < 0 → J x y cc nL rt d M N L0 tgt lv st h k n) (K2 : ¬ (u < 0) → J x y cc nL rt d M N L0 (pc + 3) lv st h k n) : J x y cc nL rt d M N L0 pc lv (.int u :: st) h k n := by
  obtain ⟨p, l, e, R, s, m, args, below, meth, c, b, ca, cA, D, con, Q⟩ := x
  intro O H locs ls hl hP hS
  have hx := O.1
  have hb := O.2.1
  exact lv_if_lt hx hb hd ht (fun q => K1 q O H locs ls hl hP hS) (fun q => K2 q O H locs ls hl hP hS)
theorem J_icmp_lt {u v : Int32} {off : Int} {tgt : Nat} (hd : decode cc pc = .ok (.if_icmp .lt off, 3)) (ht : (pc : Int) + off = (tgt : Int)) (K1 : u < v → J x y cc nL rt d M N L0 tgt lv st h k n) (K2 : ¬ (u < v) → J x y cc nL rt d M N L0 (pc + 3) lv st h k n) : J x y cc nL rt d M N L0 pc lv (.int v :: .int u :: st) h k n := by
  obtain ⟨p, l, e, R, s, m, args, below, meth, c, b, ca, cA, D, con, Q⟩ := x
  intro O H locs ls hl hP hS
  have hx := O.1
  have hb := O.2.1
  exact lv_icmp_lt hx hb hd ht (fun q => K1 q O H locs ls hl hP hS) (fun q => K2 q O H locs ls hl hP hS)
theorem J_if_ge {u : Int32} {off : Int} {tgt : Nat} (hd : decode cc pc = .ok (.ifCond .ge off, 3)) (ht : (pc : Int) + off = (tgt : Int)) (K1 : 0 ≤ u → J x y cc nL rt d M N L0 tgt lv st h k n) (K2 : ¬ (0 ≤ u) → J x y cc nL rt d M N L0 (pc + 3) lv st h k n) : J x y cc nL rt d M N L0 pc lv (.int u :: st) h k n := by
  obtain ⟨p, l, e, R, s, m, args, below, meth, c, b, ca, cA, D, con, Q⟩ := x
  intro O H locs ls hl hP hS
  have hx := O.1
  have hb := O.2.1
  exact lv_if_ge hx hb hd ht (fun q => K1 q O H locs ls hl hP hS) (fun q => K2 q O H locs ls hl hP hS)
theorem J_icmp_ge {u v : Int32} {off : Int} {tgt : Nat} (hd : decode cc pc = .ok (.if_icmp .ge off, 3)) (ht : (pc : Int) + off = (tgt : Int)) (K1 : v ≤ u → J x y cc nL rt d M N L0 tgt lv st h k n) (K2 : ¬ (v ≤ u) → J x y cc nL rt d M N L0 (pc + 3) lv st h k n) : J x y cc nL rt d M N L0 pc lv (.int v :: .int u :: st) h k n := by
  obtain ⟨p, l, e, R, s, m, args, below, meth, c, b, ca, cA, D, con, Q⟩ := x
  intro O H locs ls hl hP hS
  have hx := O.1
  have hb := O.2.1
  exact lv_icmp_ge hx hb hd ht (fun q => K1 q O H locs ls hl hP hS) (fun q => K2 q O H locs ls hl hP hS)
theorem J_if_gt {u : Int32} {off : Int} {tgt : Nat} (hd : decode cc pc = .ok (.ifCond .gt off, 3)) (ht : (pc : Int) + off = (tgt : Int)) (K1 : 0 < u → J x y cc nL rt d M N L0 tgt lv st h k n) (K2 : ¬ (0 < u) → J x y cc nL rt d M N L0 (pc + 3) lv st h k n) : J x y cc nL rt d M N L0 pc lv (.int u :: st) h k n := by
  obtain ⟨p, l, e, R, s, m, args, below, meth, c, b, ca, cA, D, con, Q⟩ := x
  intro O H locs ls hl hP hS
  have hx := O.1
  have hb := O.2.1
  exact lv_if_gt hx hb hd ht (fun q => K1 q O H locs ls hl hP hS) (fun q => K2 q O H locs ls hl hP hS)
theorem J_icmp_gt {u v : Int32} {off : Int} {tgt : Nat} (hd : decode cc pc = .ok (.if_icmp .gt off, 3)) (ht : (pc : Int) + off = (tgt : Int)) (K1 : v < u → J x y cc nL rt d M N L0 tgt lv st h k n) (K2 : ¬ (v < u) → J x y cc nL rt d M N L0 (pc + 3) lv st h k n) : J x y cc nL rt d M N L0 pc lv (.int v :: .int u :: st) h k n := by
  obtain ⟨p, l, e, R, s, m, args, below, meth, c, b, ca, cA, D, con, Q⟩ := x
  intro O H locs ls hl hP hS
  have hx := O.1
  have hb := O.2.1
  exact lv_icmp_gt hx hb hd ht (fun q => K1 q O H locs ls hl hP hS) (fun q => K2 q O H locs ls hl hP hS)
theorem J_if_le {u : Int32} {off : Int} {tgt : Nat} (hd : decode cc pc = .ok (.ifCond .le off, 3)) (ht : (pc : Int) + off = (tgt : Int)) (K1 : u ≤ 0 → J x y cc nL rt d M N L0 tgt lv st h k n) (K2 : ¬ (u ≤ 0) → J x y cc nL rt d M N L0 (pc + 3) lv st h k n) : J x y cc nL rt d M N L0 pc lv (.int u :: st) h k n := by
  obtain ⟨p, l, e, R, s, m, args, below, meth, c, b, ca, cA, D, con, Q⟩ := x
  intro O H locs ls hl hP hS
  have hx := O.1
  have hb := O.2.1
  exact lv_if_le hx hb hd ht (fun q => K1 q O H locs ls hl hP hS) (fun q => K2 q O H locs ls hl hP hS)
theorem J_icmp_le {u v : Int32} {off : Int} {tgt : Nat} (hd : decode cc pc = .ok (.if_icmp .le off, 3)) (ht : (pc : Int) + off = (tgt : Int)) (K1 : u ≤ v → J x y cc nL rt d M N L0 tgt lv st h k n) (K2 : ¬ (u ≤ v) → J x y cc nL rt d M N L0 (pc + 3) lv st h k n) : J x y cc nL rt d M N L0 pc lv (.int v :: .int u :: st) h k n := by
  obtain ⟨p, l, e, R, s, m, args, below, meth, c, b, ca, cA, D, con, Q⟩ := x
  intro O H locs ls hl hP hS
  have hx := O.1
  have hb := O.2.1
  exact lv_icmp_le hx hb hd ht (fun q => K1 q O H locs ls hl hP hS) (fun q => K2 q O H locs ls hl hP hS)
theorem J_goto {off : Int} {tgt : Nat} (hd : decode cc pc = .ok (.goto off, 3)) (ht : (pc : Int) + off = (tgt : Int)) (K : J x y cc nL rt d M N L0 tgt lv st h k n) : J x y cc nL rt d M N L0 pc lv st h k n := by
  obtain ⟨p, l, e, R, s, m, args, below, meth, c, b, ca, cA, D, con, Q⟩ := x
  intro O H locs ls hl hP hS
  have hx := O.1
  have hb := O.2.1
  exact lv_goto hx hb hd ht (K O H locs ls hl hP hS)
theorem J_tableIn {dflt lo hi : Int} {offs : Array Int} {len : Nat} {u : Int32} {off : Int} {tgt : Nat} (hd : decode cc pc = .ok (.tableswitch dflt lo hi offs, len)) (h1 : ¬ u.toInt < lo) (h2 : ¬ hi < u.toInt) (ho : offs[(u.toInt - lo).toNat]? = some off) (ht : (pc : Int) + off = (tgt : Int)) (K : J x y cc nL rt d M N L0 tgt lv st h k n) : J x y cc nL rt d M N L0 pc lv (.int u :: st) h k n := by
  obtain ⟨p, l, e, R, s, m, args, below, meth, c, b, ca, cA, D, con, Q⟩ := x
  intro O H locs ls hl hP hS
  have hx := O.1
  have hb := O.2.1
  exact lv_tableIn hx hb hd h1 h2 ho ht (K O H locs ls hl hP hS)
theorem J_tableOut {dflt lo hi : Int} {offs : Array Int} {len : Nat} {u : Int32} {tgt : Nat} (hd : decode cc pc = .ok (.tableswitch dflt lo hi offs, len)) (h1 : u.toInt < lo ∨ hi < u.toInt) (ht : (pc : Int) + dflt = (tgt : Int)) (K : J x y cc nL rt d M N L0 tgt lv st h k n) : J x y cc nL rt d M N L0 pc lv (.int u :: st) h k n := by
  obtain ⟨p, l, e, R, s, m, args, below, meth, c, b, ca, cA, D, con, Q⟩ := x
  intro O H locs ls hl hP hS
  have hx := O.1
  have hb := O.2.1
  exact lv_tableOut hx hb hd h1 ht (K O H locs ls hl hP hS)
theorem J_lookup {dflt : Int} {ps : Array (Int × Int)} {len : Nat} {u : Int32} {off : Int} {tgt : Nat} (hd : decode cc pc = .ok (.lookupswitch dflt ps, len)) (hp : (ps.toList.zip (ps.toList.drop 1)).all (fun (a, next) => a.1 < next.1) = true) (ho : Op.lookupswitch.offset ps.toList dflt u.toInt = off) (ht : (pc : Int) + off = (tgt : Int)) (K : J x y cc nL rt d M N L0 tgt lv st h k n) : J x y cc nL rt d M N L0 pc lv (.int u :: st) h k n := by
  obtain ⟨p, l, e, R, s, m, args, below, meth, c, b, ca, cA, D, con, Q⟩ := x
  intro O H locs ls hl hP hS
  have hx := O.1
  have hb := O.2.1
  exact lv_lookup hx hb hd hp ho ht (K O H locs ls hl hP hS)
theorem J_ldc {i : Nat} {v : Int32} (hd : decode cc pc = .ok (.ldc i, 2)) (hc : Cond.constant y.cls i v ∈ gt) (K : J x y cc nL rt d M N L0 (pc + 2) lv (.int v :: st) h k n) : J x y cc nL rt d M N L0 pc lv st h k n := by
  obtain ⟨p, l, e, R, s, m, args, below, meth, c, b, ca, cA, D, con, Q⟩ := x
  intro O H locs ls hl hP hS
  have hx := O.1
  have hb := O.2.1
  exact lv_ldc hx hb O.2.2.2.1 (O.2.2.2.2.1 _ hc) hd (K O H locs ls hl hP hS)
theorem J_ldc2 {i : Nat} {v : Int64} (hd : decode cc pc = .ok (.ldc2_w i, 3)) (hc : Cond.constantLong y.cls i v ∈ gt) (K : J x y cc nL rt d M N L0 (pc + 3) lv (.long v :: st) h k n) : J x y cc nL rt d M N L0 pc lv st h k n := by
  obtain ⟨p, l, e, R, s, m, args, below, meth, c, b, ca, cA, D, con, Q⟩ := x
  intro O H locs ls hl hP hS
  have hx := O.1
  have hb := O.2.1
  exact lv_ldc2 hx hb O.2.2.2.1 (O.2.2.2.2.1 _ hc) hd (K O H locs ls hl hP hS)
end
end
section
/-! the J layer: fields, arrays, new, calls, returns -/
theorem J_size {p : Program} {l : Launch} {e : Env} {R : Room} {s T : State} {m : MethodId} {args : Array Value} {below : List Frame} {meth : Method} {c : Code} {locs : List Loc} {k n b L0 : Nat} {ca : Nat → Nat} {cA : Nat → ClassId} {D : va_G} {h : List MC} {H : Heap} (X : Stand p l e R s m args below meth c T locs k n) (hT : T.heap = H) (hL : s.heap.size = b + L0) (hk : k + L0 = h.length) (hP : va_P D vwCl (wz b ca cA h) H) (hS : va_S (fun q => b ≤ q) s.heap H locs) : H.size = b + h.length := by
  have h1 := X.heapSize
  rw [hT] at h1
  have h2 : b + h.length ≤ H.size := by
    cases hl : h.length with
    | zero => have := hS.1; omega
    | succ z =>
      have hz : z < h.length := by omega
      have h3 := (hP z _ (wz_get (List.getElem?_eq_getElem hz))).lt
      have h4 : b + z < H.size := h3
      omega
  omega
section
variable {x : JX} {y : MethodName} {cc : ByteArray} {nL : Nat} {rt : Option FieldType} {d M N L0 : Nat} {pc : Nat} {lv : List (Nat × Value)} {st : List Value} {h : List MC} {k n : Nat}
theorem J_get {C : String} {T : u_T} {Z ci ix f a : Nat} {fs : List Value} {v : Value} (hd : decode cc pc = .ok (.getfield ix, 3)) (hin : ∀ w ∈ u_ws C T Z, w ∈ gt) (hc : vwCl[ci]? = some (C, T, Z)) (hf : f < Z) (hlk : Cond.fieldLink y.cls ix (T f).1 (T f).2.1 (T f).2.2.1 ∈ gt) (ha : h[a]? = some (.inr (ci, fs))) (hv : fs[f]? = some v) (K : J x y cc nL rt d M N L0 (pc + 3) lv (v :: st) h k n) : J x y cc nL rt d M N L0 pc lv (.ref a :: st) h k n := by
  obtain ⟨p, l, e, R, s, m, args, below, meth, c, b, ca, cA, D, con, Q⟩ := x
  intro O H locs ls hl hP hS
  have hx := O.1
  have hb := O.2.1
  have hts := O.2.2.2.2.1
  have hown := O.2.2.2.1
  have hK : va_K D vwCl (tz cA) s := O.2.2.2.2.2.2.2.2.1
  exact va_get (D := D) (C := C) (T := T) (N := Z) hx hb hts hin hown hK hP a (fs := fs.map (rv b ca)) (wz_get ha) hc f hf (hts _ hlk) (fun _ q => q) (by rw [List.getElem?_map, hv]; rfl) hd (K O H locs ls hl hP hS)
theorem J_put {C : String} {T : u_T} {Z ci ix f a : Nat} {fs : List Value} {v : Value} {ty0 : Nat → FieldType} {ty : FieldType} {h2 : List MC} (hd : decode cc pc = .ok (.putfield ix, 3)) (hin : ∀ w ∈ u_ws C T Z, w ∈ gt) (hc : vwCl[ci]? = some (C, T, Z)) (hty : ∀ k, k < Z → parseFieldDescriptor (T k).2.2.1 = some (ty0 k)) (hnm : ∀ a, a < Z → ∀ b, b < Z → a ≠ b → (T a).2.1 ≠ (T b).2.1) (hf : f < Z) (hlk : Cond.fieldLink y.cls ix (T f).1 (T f).2.1 (T f).2.2.1 ∈ gt) (hfin : (T f).2.2.2 = false) (ht : ty0 f = ty) (ha : h[a]? = some (.inr (ci, fs))) (hl0 : f < fs.length) (hv : ∀ (b : Nat) (ca : Nat → Nat), narrow ty (rv b ca v) = rv b ca v ∧ fits ty (rv b ca v) = true) (h2e : h.set a (.inr (ci, fs.set f v)) = h2) (K : J x y cc nL rt d M N L0 (pc + 3) lv st h2 k n) : J x y cc nL rt d M N L0 pc lv (v :: .ref a :: st) h k n := by
  obtain ⟨p, l, e, R, s, m, args, below, meth, c, b, ca, cA, D, con, Q⟩ := x
  intro O H locs ls hl hP hS
  have hx := O.1
  have hb := O.2.1
  have hts := O.2.2.2.2.1
  have hown := O.2.2.2.1
  have hK : va_K D vwCl (tz cA) s := O.2.2.2.2.2.2.2.2.1
  refine va_put (D := D) (C := C) (T := T) (N := Z) (A := fun q => b ≤ q) hx hb hts hin ty0 hty hnm hown hK hP wz_D hS a (fs := fs.map (rv b ca)) (wz_get ha) hc f hf (hts _ hlk) (fun _ q => q) hfin (ht ▸ hty f hf) (hv b ca).1 (hv b ca).2 (by rw [List.length_map]; exact hl0) hd ?_
  intro H1 locs1 hP1 _ hS1
  subst h2e
  have e1 : (wz b ca cA h).set a (b + a, Sum.inr (ci, (fs.map (rv b ca)).set f (rv b ca v))) = wz b ca cA (h.set a (.inr (ci, fs.set f v))) := by
    rw [← wz_set]
    show _ = (wz b ca cA h).set a (b + a, Sum.inr (ci, (fs.set f v).map (rv b ca)))
    rw [List.map_set]
  rw [e1] at hP1
  exact K O H1 locs1 ls hl hP1 hS1
theorem J_getN {C : String} {T : u_T} {Z ci ix f a : Nat} {fs : List Value} {v : Value} {host : String} (hd : decode cc pc = .ok (.getfield ix, 3)) (hin : ∀ w ∈ u_ws C T Z, w ∈ gt) (hc : vwCl[ci]? = some (C, T, Z)) (hf : f < Z) (hlk : Cond.fieldLinkNest y.cls ix (T f).1 (T f).2.1 (T f).2.2.1 host ∈ nt) (ha : h[a]? = some (.inr (ci, fs))) (hv : fs[f]? = some v) (K : J x y cc nL rt d M N L0 (pc + 3) lv (v :: st) h k n) : J x y cc nL rt d M N L0 pc lv (.ref a :: st) h k n := by
  obtain ⟨p, l, e, R, s, m, args, below, meth, c, b, ca, cA, D, con, Q⟩ := x
  intro O H locs ls hl hP hS
  have hx := O.1
  have hb := O.2.1
  have hts := O.2.2.2.2.1
  have hown := O.2.2.2.1
  have hK : va_K D vwCl (tz cA) s := O.2.2.2.2.2.2.2.2.1
  exact va_getN (D := D) (C := C) (T := T) (N := Z) hx hb hts hin hown hK hP a (fs := fs.map (rv b ca)) (wz_get ha) hc f hf (va_Nw.use rfl (O.2.2.2.2.2.2.2.2.2.2.2.2.2.2.2.1 _ hlk)) (fun _ q => q) (by rw [List.getElem?_map, hv]; rfl) hd (K O H locs ls hl hP hS)
theorem J_putN {C : String} {T : u_T} {Z ci ix f a : Nat} {fs : List Value} {v : Value} {ty0 : Nat → FieldType} {ty : FieldType} {h2 : List MC} {host : String} (hd : decode cc pc = .ok (.putfield ix, 3)) (hin : ∀ w ∈ u_ws C T Z, w ∈ gt) (hc : vwCl[ci]? = some (C, T, Z)) (hty : ∀ k, k < Z → parseFieldDescriptor (T k).2.2.1 = some (ty0 k)) (hnm : ∀ a, a < Z → ∀ b, b < Z → a ≠ b → (T a).2.1 ≠ (T b).2.1) (hf : f < Z) (hlk : Cond.fieldLinkNest y.cls ix (T f).1 (T f).2.1 (T f).2.2.1 host ∈ nt) (hfin : (T f).2.2.2 = false) (ht : ty0 f = ty) (ha : h[a]? = some (.inr (ci, fs))) (hl0 : f < fs.length) (hv : ∀ (b : Nat) (ca : Nat → Nat), narrow ty (rv b ca v) = rv b ca v ∧ fits ty (rv b ca v) = true) (h2e : h.set a (.inr (ci, fs.set f v)) = h2) (K : J x y cc nL rt d M N L0 (pc + 3) lv st h2 k n) : J x y cc nL rt d M N L0 pc lv (v :: .ref a :: st) h k n := by
  obtain ⟨p, l, e, R, s, m, args, below, meth, c, b, ca, cA, D, con, Q⟩ := x
  intro O H locs ls hl hP hS
  have hx := O.1
  have hb := O.2.1
  have hts := O.2.2.2.2.1
  have hown := O.2.2.2.1
  have hK : va_K D vwCl (tz cA) s := O.2.2.2.2.2.2.2.2.1
  refine va_putN (D := D) (C := C) (T := T) (N := Z) (A := fun q => b ≤ q) hx hb hts hin ty0 hty hnm hown hK hP wz_D hS a (fs := fs.map (rv b ca)) (wz_get ha) hc f hf (va_Nw.use rfl (O.2.2.2.2.2.2.2.2.2.2.2.2.2.2.2.1 _ hlk)) (fun _ q => q) hfin (ht ▸ hty f hf) (hv b ca).1 (hv b ca).2 (by rw [List.length_map]; exact hl0) hd ?_
  intro H1 locs1 hP1 _ hS1
  subst h2e
  have e1 : (wz b ca cA h).set a (b + a, Sum.inr (ci, (fs.map (rv b ca)).set f (rv b ca v))) = wz b ca cA (h.set a (.inr (ci, fs.set f v))) := by
    rw [← wz_set]
    show _ = (wz b ca cA h).set a (b + a, Sum.inr (ci, (fs.set f v).map (rv b ca)))
    rw [List.map_set]
  rw [e1] at hP1
  exact K O H1 locs1 ls hl hP1 hS1
theorem J_putF {C : String} {T : u_T} {Z ci ix f a : Nat} {fs : List Value} {v : Value} {ty0 : Nat → FieldType} {ty : FieldType} {h2 : List MC} (hd : decode cc pc = .ok (.putfield ix, 3)) (hin : ∀ w ∈ u_ws C T Z, w ∈ gt) (hc : vwCl[ci]? = some (C, T, Z)) (hty : ∀ k, k < Z → parseFieldDescriptor (T k).2.2.1 = some (ty0 k)) (hnm : ∀ a, a < Z → ∀ b, b < Z → a ≠ b → (T a).2.1 ≠ (T b).2.1) (hf : f < Z) (hlk : Cond.fieldLink y.cls ix (T f).1 (T f).2.1 (T f).2.2.1 ∈ gt) (hfin : (T f).2.2.2 = true) (hin2 : y.name = "<init>") (hdc : (T f).1 = y.cls) (ht : ty0 f = ty) (ha : h[a]? = some (.inr (ci, fs))) (hl0 : f < fs.length) (hv : ∀ (b : Nat) (ca : Nat → Nat), narrow ty (rv b ca v) = rv b ca v ∧ fits ty (rv b ca v) = true) (h2e : h.set a (.inr (ci, fs.set f v)) = h2) (K : J x y cc nL rt d M N L0 (pc + 3) lv st h2 k n) : J x y cc nL rt d M N L0 pc lv (v :: .ref a :: st) h k n := by
  obtain ⟨p, l, e, R, s, m, args, below, meth, c, b, ca, cA, D, con, Q⟩ := x
  intro O H locs ls hl hP hS
  have hx := O.1
  have hb := O.2.1
  have hts := O.2.2.2.2.1
  have hown := O.2.2.2.1
  have hK : va_K D vwCl (tz cA) s := O.2.2.2.2.2.2.2.2.1
  refine va_putF (D := D) (C := C) (T := T) (N := Z) (A := fun q => b ≤ q) hx hb hts hin ty0 hty hnm hown hK hP wz_D hS a (fs := fs.map (rv b ca)) (wz_get ha) hc f hf (hts _ hlk) (fun _ q => q) hfin (O.2.2.2.2.2.2.2.1 hin2) hdc (ht ▸ hty f hf) (hv b ca).1 (hv b ca).2 (by rw [List.length_map]; exact hl0) hd ?_
  intro H1 locs1 hP1 _ hS1
  subst h2e
  have e1 : (wz b ca cA h).set a (b + a, Sum.inr (ci, (fs.map (rv b ca)).set f (rv b ca v))) = wz b ca cA (h.set a (.inr (ci, fs.set f v))) := by
    rw [← wz_set]
    show _ = (wz b ca cA h).set a (b + a, Sum.inr (ci, (fs.set f v).map (rv b ca)))
    rw [List.map_set]
  rw [e1] at hP1
  exact K O H1 locs1 ls hl hP1 hS1
theorem J_iald {a z : Nat} {f : Nat → Int32} {i : Int32} (hd : decode cc pc = .ok (.iaload, 1)) (ha : h[a]? = some (.inl (1, z, .inl f))) (hi : vp_in i z) (K : J x y cc nL rt d M N L0 (pc + 1) lv (.int (f i.toNatClampNeg) :: st) h k n) : J x y cc nL rt d M N L0 pc lv (.int i :: .ref a :: st) h k n := by
  obtain ⟨p, l, e, R, s, m, args, below, meth, c, b, ca, cA, D, con, Q⟩ := x
  intro O H locs ls hl hP hS
  have hx := O.1
  have hb := O.2.1
  have hts := O.2.2.2.2.1
  have hown := O.2.2.2.1
  have hK : va_K D vwCl (tz cA) s := O.2.2.2.2.2.2.2.2.1
  exact va_iald hx hb hK hP a 1 (wz_get ha) rfl hi hd (K O H locs ls hl hP hS)
theorem J_bald {a z : Nat} {f : Nat → Int32} {i : Int32} (hd : decode cc pc = .ok (.baload, 1)) (ha : h[a]? = some (.inl (0, z, .inl f))) (hi : vp_in i z) (K : J x y cc nL rt d M N L0 (pc + 1) lv (.int (f i.toNatClampNeg) :: st) h k n) : J x y cc nL rt d M N L0 pc lv (.int i :: .ref a :: st) h k n := by
  obtain ⟨p, l, e, R, s, m, args, below, meth, c, b, ca, cA, D, con, Q⟩ := x
  intro O H locs ls hl hP hS
  have hx := O.1
  have hb := O.2.1
  have hts := O.2.2.2.2.1
  have hown := O.2.2.2.1
  have hK : va_K D vwCl (tz cA) s := O.2.2.2.2.2.2.2.2.1
  exact va_bald hx hb hK hP a 0 (wz_get ha) rfl hi hd (K O H locs ls hl hP hS)
theorem J_zald {a z : Nat} {f : Nat → Int32} {i : Int32} (hd : decode cc pc = .ok (.baload, 1)) (ha : h[a]? = some (.inl (3, z, .inl f))) (hi : vp_in i z) (K : J x y cc nL rt d M N L0 (pc + 1) lv (.int (f i.toNatClampNeg) :: st) h k n) : J x y cc nL rt d M N L0 pc lv (.int i :: .ref a :: st) h k n := by
  obtain ⟨p, l, e, R, s, m, args, below, meth, c, b, ca, cA, D, con, Q⟩ := x
  intro O H locs ls hl hP hS
  have hx := O.1
  have hb := O.2.1
  have hts := O.2.2.2.2.1
  have hown := O.2.2.2.1
  have hK : va_K D vwCl (tz cA) s := O.2.2.2.2.2.2.2.2.1
  exact va_zald hx hb hK hP a 3 (wz_get ha) rfl hi hd (K O H locs ls hl hP hS)
theorem J_lald {a z : Nat} {f : Nat → Int64} {i : Int32} (hd : decode cc pc = .ok (.laload, 1)) (ha : h[a]? = some (.inl (2, z, .inr (.inl f)))) (hi : vp_in i z) (K : J x y cc nL rt d M N L0 (pc + 1) lv (.long (f i.toNatClampNeg) :: st) h k n) : J x y cc nL rt d M N L0 pc lv (.int i :: .ref a :: st) h k n := by
  obtain ⟨p, l, e, R, s, m, args, below, meth, c, b, ca, cA, D, con, Q⟩ := x
  intro O H locs ls hl hP hS
  have hx := O.1
  have hb := O.2.1
  have hts := O.2.2.2.2.1
  have hown := O.2.2.2.1
  have hK : va_K D vwCl (tz cA) s := O.2.2.2.2.2.2.2.2.1
  exact va_lald hx hb hK hP a 2 (wz_get ha) rfl hi hd (K O H locs ls hl hP hS)
theorem J_aald {a z t q : Nat} {C : String} {f : Nat → Option Nat} {i : Int32} (hd : decode cc pc = .ok (.aaload, 1)) (ha : h[a]? = some (.inl (t, z, .inr (.inr f)))) (ht : ∀ cA : Nat → ClassId, (tz cA)[t]? = some (cA t, .object C)) (hi : vp_in i z) (hq : f i.toNatClampNeg = some q) (K : J x y cc nL rt d M N L0 (pc + 1) lv (.ref q :: st) h k n) : J x y cc nL rt d M N L0 pc lv (.int i :: .ref a :: st) h k n := by
  obtain ⟨p, l, e, R, s, m, args, below, meth, c, b, ca, cA, D, con, Q⟩ := x
  intro O H locs ls hl hP hS
  have hx := O.1
  have hb := O.2.1
  have hts := O.2.2.2.2.1
  have hown := O.2.2.2.1
  have hK : va_K D vwCl (tz cA) s := O.2.2.2.2.2.2.2.2.1
  refine va_aldq hx hb hK hP a t (wz_get ha) (ht cA) hi hd ?_
  show W p l e R s m args below meth c H locs k n Q (F0 m (pc + 1) ls (va_rf ((f i.toNatClampNeg).map (fun i => b + i)) :: st.map (rv b ca)))
  rw [hq]
  exact K O H locs ls hl hP hS
theorem J_cald {q z : Nat} {f : Nat → Int32} {i : Int32} (hd : decode cc pc = .ok (.iaload, 1)) (hc : x.2.2.2.2.2.2.2.2.2.2.2.2.2.2.1 q = some (z, f)) (hi : vp_in i z) (K : J x y cc nL rt d M N L0 (pc + 1) lv (.int (f i.toNatClampNeg) :: st) h k n) : J x y cc nL rt d M N L0 pc lv (.int i :: .retAddr q :: st) h k n := by
  obtain ⟨p, l, e, R, s, m, args, below, meth, c, b, ca, cA, D, con, Q⟩ := x
  intro O H locs ls hl hP hS
  have hx := O.1
  have hb := O.2.1
  have hts := O.2.2.2.2.1
  have hown := O.2.2.2.1
  have hK : va_K D vwCl (tz cA) s := O.2.2.2.2.2.2.2.2.1
  obtain ⟨h1, h2, h3⟩ := O.2.2.2.2.2.2.2.2.2.2.2.2.2.2.1 q z f hc
  exact va_sld hx hb h1 (Nat.lt_of_lt_of_le h2 h3) (Nat.not_le.mpr h2) hS hi hd (K O H locs ls hl hP hS)
theorem J_clen {q z : Nat} {f : Nat → Int32} (hd : decode cc pc = .ok (.arraylength, 1)) (hc : x.2.2.2.2.2.2.2.2.2.2.2.2.2.2.1 q = some (z, f)) (K : J x y cc nL rt d M N L0 (pc + 1) lv (.int (Int32.ofNat z) :: st) h k n) : J x y cc nL rt d M N L0 pc lv (.retAddr q :: st) h k n := by
  obtain ⟨p, l, e, R, s, m, args, below, meth, c, b, ca, cA, D, con, Q⟩ := x
  intro O H locs ls hl hP hS
  have hx := O.1
  have hb := O.2.1
  have hts := O.2.2.2.2.1
  have hown := O.2.2.2.1
  have hK : va_K D vwCl (tz cA) s := O.2.2.2.2.2.2.2.2.1
  obtain ⟨h1, h2, h3⟩ := O.2.2.2.2.2.2.2.2.2.2.2.2.2.2.1 q z f hc
  exact va_slen hx hb h1 (Nat.lt_of_lt_of_le h2 h3) (Nat.not_le.mpr h2) hS hd (K O H locs ls hl hP hS)
theorem J_alen {a t z : Nat} {ty : FieldType} {f : MA} (hd : decode cc pc = .ok (.arraylength, 1)) (ha : h[a]? = some (.inl (t, z, f))) (ht : ∀ cA : Nat → ClassId, (tz cA)[t]? = some (cA t, ty)) (K : J x y cc nL rt d M N L0 (pc + 1) lv (.int (Int32.ofNat z) :: st) h k n) : J x y cc nL rt d M N L0 pc lv (.ref a :: st) h k n := by
  obtain ⟨p, l, e, R, s, m, args, below, meth, c, b, ca, cA, D, con, Q⟩ := x
  intro O H locs ls hl hP hS
  have hx := O.1
  have hb := O.2.1
  have hts := O.2.2.2.2.1
  have hown := O.2.2.2.1
  have hK : va_K D vwCl (tz cA) s := O.2.2.2.2.2.2.2.2.1
  exact va_alen hx hb hK hP a t (wz_get ha) (ht cA) rfl hd (K O H locs ls hl hP hS)
theorem J_iast {a z : Nat} {f : Nat → Int32} {i : Int32} {v : Int32} {h2 : List MC} (hd : decode cc pc = .ok (.iastore, 1)) (ha : h[a]? = some (.inl (1, z, .inl f))) (hi : vp_in i z) (h2e : h.set a (.inl (1, z, .inl (upd f i.toNatClampNeg v))) = h2) (K : J x y cc nL rt d M N L0 (pc + 1) lv st h2 k n) : J x y cc nL rt d M N L0 pc lv (.int v :: .int i :: .ref a :: st) h k n := by
  obtain ⟨p, l, e, R, s, m, args, below, meth, c, b, ca, cA, D, con, Q⟩ := x
  intro O H locs ls hl hP hS
  have hx := O.1
  have hb := O.2.1
  have hts := O.2.2.2.2.1
  have hown := O.2.2.2.1
  have hK : va_K D vwCl (tz cA) s := O.2.2.2.2.2.2.2.2.1
  refine va_iast (A := fun q => b ≤ q) hx hb hK hP wz_D hS a 1 (wz_get ha) rfl hi hd ?_
  intro H1 locs1 hP1 _ hS1
  subst h2e
  refine K O H1 locs1 ls hl ?_ hS1
  rw [← wz_set]
  exact hP1
theorem J_bast {a z : Nat} {f : Nat → Int32} {i : Int32} {v : Int32} {h2 : List MC} (hd : decode cc pc = .ok (.bastore, 1)) (ha : h[a]? = some (.inl (0, z, .inl f))) (hi : vp_in i z) (h2e : h.set a (.inl (0, z, .inl (upd f i.toNatClampNeg (vp_nar .byte v)))) = h2) (K : J x y cc nL rt d M N L0 (pc + 1) lv st h2 k n) : J x y cc nL rt d M N L0 pc lv (.int v :: .int i :: .ref a :: st) h k n := by
  obtain ⟨p, l, e, R, s, m, args, below, meth, c, b, ca, cA, D, con, Q⟩ := x
  intro O H locs ls hl hP hS
  have hx := O.1
  have hb := O.2.1
  have hts := O.2.2.2.2.1
  have hown := O.2.2.2.1
  have hK : va_K D vwCl (tz cA) s := O.2.2.2.2.2.2.2.2.1
  refine va_bast (A := fun q => b ≤ q) hx hb hK hP wz_D hS a 0 (wz_get ha) rfl hi hd ?_
  intro H1 locs1 hP1 _ hS1
  subst h2e
  refine K O H1 locs1 ls hl ?_ hS1
  rw [← wz_set]
  exact hP1
theorem J_zast {a z : Nat} {f : Nat → Int32} {i : Int32} {v : Int32} {h2 : List MC} (hd : decode cc pc = .ok (.bastore, 1)) (ha : h[a]? = some (.inl (3, z, .inl f))) (hi : vp_in i z) (h2e : h.set a (.inl (3, z, .inl (upd f i.toNatClampNeg (vp_nar .boolean v)))) = h2) (K : J x y cc nL rt d M N L0 (pc + 1) lv st h2 k n) : J x y cc nL rt d M N L0 pc lv (.int v :: .int i :: .ref a :: st) h k n := by
  obtain ⟨p, l, e, R, s, m, args, below, meth, c, b, ca, cA, D, con, Q⟩ := x
  intro O H locs ls hl hP hS
  have hx := O.1
  have hb := O.2.1
  have hts := O.2.2.2.2.1
  have hown := O.2.2.2.1
  have hK : va_K D vwCl (tz cA) s := O.2.2.2.2.2.2.2.2.1
  refine va_zast (A := fun q => b ≤ q) hx hb hK hP wz_D hS a 3 (wz_get ha) rfl hi hd ?_
  intro H1 locs1 hP1 _ hS1
  subst h2e
  refine K O H1 locs1 ls hl ?_ hS1
  rw [← wz_set]
  exact hP1
theorem J_last {a z : Nat} {f : Nat → Int64} {i : Int32} {v : Int64} {h2 : List MC} (hd : decode cc pc = .ok (.lastore, 1)) (ha : h[a]? = some (.inl (2, z, .inr (.inl f)))) (hi : vp_in i z) (h2e : h.set a (.inl (2, z, .inr (.inl (vp_updL f i.toNatClampNeg v)))) = h2) (K : J x y cc nL rt d M N L0 (pc + 1) lv st h2 k n) : J x y cc nL rt d M N L0 pc lv (.long v :: .int i :: .ref a :: st) h k n := by
  obtain ⟨p, l, e, R, s, m, args, below, meth, c, b, ca, cA, D, con, Q⟩ := x
  intro O H locs ls hl hP hS
  have hx := O.1
  have hb := O.2.1
  have hts := O.2.2.2.2.1
  have hown := O.2.2.2.1
  have hK : va_K D vwCl (tz cA) s := O.2.2.2.2.2.2.2.2.1
  refine va_last (A := fun q => b ≤ q) hx hb hK hP wz_D hS a 2 (wz_get ha) rfl hi hd ?_
  intro H1 locs1 hP1 _ hS1
  subst h2e
  refine K O H1 locs1 ls hl ?_ hS1
  rw [← wz_set]
  exact hP1
theorem J_aast {a z t q ci : Nat} {r : vw_C} {vs : List Value} {f : Nat → Option Nat} {i : Int32} {h2 : List MC} (hd : decode cc pc = .ok (.aastore, 1)) (ha : h[a]? = some (.inl (t, z, .inr (.inr f)))) (ht : ∀ cA : Nat → ClassId, (tz cA)[t]? = some (cA t, .object r.1)) (hq : h[q]? = some (.inr (ci, vs))) (hc : vwCl[ci]? = some r) (hi : vp_in i z) (h2e : h.set a (.inl (t, z, .inr (.inr (va_up f i.toNatClampNeg (some q))))) = h2) (K : J x y cc nL rt d M N L0 (pc + 1) lv st h2 k n) : J x y cc nL rt d M N L0 pc lv (.ref q :: .int i :: .ref a :: st) h k n := by
  obtain ⟨p, l, e, R, s, m, args, below, meth, c, b, ca, cA, D, con, Q⟩ := x
  intro O H locs ls hl hP hS
  have hx := O.1
  have hb := O.2.1
  have hts := O.2.2.2.2.1
  have hown := O.2.2.2.1
  have hK : va_K D vwCl (tz cA) s := O.2.2.2.2.2.2.2.2.1
  refine va_astq (A := fun q => b ≤ q) hx hb hK hP wz_D hS a t q ci (wz_get ha) (ht cA) (wz_get hq) hc hi hd ?_
  intro H1 locs1 hP1 _ hS1
  subst h2e
  refine K O H1 locs1 ls hl ?_ hS1
  rw [← wz_set]
  have e1 : (va_up (fun j => (f j).map (fun i => b + i)) i.toNatClampNeg (some (b + q))) = (fun j => (va_up f i.toNatClampNeg (some q) j).map (fun i => b + i)) := by
    funext j
    unfold va_up
    by_cases hj : j = i.toNatClampNeg <;> simp [hj]
  show va_P D vwCl ((wz b ca cA h).set a (b + a, Sum.inl (cA t, z, Sum.inr (Sum.inr (Sum.inr (Sum.inr (fun j => (va_up f i.toNatClampNeg (some q) j).map (fun i => b + i)))))))) H1
  rw [← e1]
  exact hP1
theorem J_fin {con0 : JK} {Post : Option Value → List MC → Prop} {p : Program} {l : Launch} {e : Env} {R : Room} {s : State} {m : MethodId} {args : Array Value} {below : List Frame} {meth : Method} {c : Code} {b : Nat} {ca : Nat → Nat} {cA : Nat → ClassId} {D : va_G} {con : JK} {Q : State → Prop} (hq : JQ (p, l, e, R, s, m, args, below, meth, c, b, ca, cA, D, con, Q) con0 M N Post) {H : Heap} {locs : List Loc} (hL : s.heap.size = b + L0) (hk : k + L0 = h.length) (hkM : k ≤ M) (hnN : n ≤ N) (hK : va_K D vwCl (tz cA) s) (hP : va_P D vwCl (wz b ca cA h) H) (hS : va_S (fun q => b ≤ q) s.heap H locs) {g : JFrame} {r : Option Value} (hpost : Post r h)
    (kk : (∀ t : State, t.heap = H → s.WarmedH t.vm → QC b ca cA D Post args s (.returned (r.map (rv b ca))) t) → W p l e R s m args below meth c H locs M N (MQ below (QC b ca cA D Post) args s M N (fun q => b ≤ q)) g) : W p l e R s m args below meth c H locs k n Q g := by
  intro T hT X
  have hz := J_size X hT hL hk hP hS
  obtain ⟨rfl, -⟩ := hq
  exact (W.widen (k := M) (n := N) hkM hnN (kk (fun t ht hW => ⟨⟨r, h, rfl, hpost, by rw [ht]; exact hz, by rw [ht]; exact hP, va_K.moved hW.alike hK⟩, hS.F ht⟩))) T hT X
theorem J_iret {con0 : JK} {Post : Option Value → List MC → Prop} {v : Int32} (hq : JQ x con0 M N Post) (hd : decode cc pc = .ok (.ireturn, 1)) (hr : rt = some .int) (hk : k + L0 = h.length) (hkM : k ≤ M) (hnN : n ≤ N) (hp : Post (some (.int v)) h) : J x y cc nL rt d M N L0 pc lv [.int v] h k n := by
  obtain ⟨p, l, e, R, s, m, args, below, meth, c, b, ca, cA, D, con, Q⟩ := x
  intro O H locs ls hl hP hS
  have hx := O.1
  have hb := O.2.1
  have hts := O.2.2.2.2.1
  have hown := O.2.2.2.1
  have hK : va_K D vwCl (tz cA) s := O.2.2.2.2.2.2.2.2.1
  have hlk : meth.locks = false := O.2.2.2.2.2.2.1
  refine J_fin hq O.2.2.2.2.2.2.2.2.2.1 hk hkM hnN hK hP hS hp (fun qq => ?_)
  exact W.iret hx hb (O.2.2.2.2.2.1.trans hr) qq hS.2.2 hd hlk
theorem J_zret {con0 : JK} {Post : Option Value → List MC → Prop} {v : Int32} (hq : JQ x con0 M N Post) (hd : decode cc pc = .ok (.ireturn, 1)) (hr : rt = some .boolean) (hn : narrow .boolean (.int v) = .int v) (hk : k + L0 = h.length) (hkM : k ≤ M) (hnN : n ≤ N) (hp : Post (some (.int v)) h) : J x y cc nL rt d M N L0 pc lv [.int v] h k n := by
  obtain ⟨p, l, e, R, s, m, args, below, meth, c, b, ca, cA, D, con, Q⟩ := x
  intro O H locs ls hl hP hS
  have hx := O.1
  have hb := O.2.1
  have hts := O.2.2.2.2.1
  have hown := O.2.2.2.1
  have hK : va_K D vwCl (tz cA) s := O.2.2.2.2.2.2.2.2.1
  have hlk : meth.locks = false := O.2.2.2.2.2.2.1
  refine J_fin hq O.2.2.2.2.2.2.2.2.2.1 hk hkM hnN hK hP hS hp (fun qq => ?_)
  exact W.zret hx hb (O.2.2.2.2.2.1.trans hr) hn qq hS.2.2 hd hlk
theorem J_lret {con0 : JK} {Post : Option Value → List MC → Prop} {v : Int64} (hq : JQ x con0 M N Post) (hd : decode cc pc = .ok (.lreturn, 1)) (hr : rt = some .long) (hk : k + L0 = h.length) (hkM : k ≤ M) (hnN : n ≤ N) (hp : Post (some (.long v)) h) : J x y cc nL rt d M N L0 pc lv [.long v] h k n := by
  obtain ⟨p, l, e, R, s, m, args, below, meth, c, b, ca, cA, D, con, Q⟩ := x
  intro O H locs ls hl hP hS
  have hx := O.1
  have hb := O.2.1
  have hts := O.2.2.2.2.1
  have hown := O.2.2.2.1
  have hK : va_K D vwCl (tz cA) s := O.2.2.2.2.2.2.2.2.1
  have hlk : meth.locks = false := O.2.2.2.2.2.2.1
  refine J_fin hq O.2.2.2.2.2.2.2.2.2.1 hk hkM hnN hK hP hS hp (fun qq => ?_)
  exact W.lret hx hb (O.2.2.2.2.2.1.trans hr) qq hS.2.2 hd hlk
theorem J_vret {con0 : JK} {Post : Option Value → List MC → Prop} (hq : JQ x con0 M N Post) (hd : decode cc pc = .ok (.return_, 1)) (hr : rt = none) (hk : k + L0 = h.length) (hkM : k ≤ M) (hnN : n ≤ N) (hp : Post none h) : J x y cc nL rt d M N L0 pc lv [] h k n := by
  obtain ⟨p, l, e, R, s, m, args, below, meth, c, b, ca, cA, D, con, Q⟩ := x
  intro O H locs ls hl hP hS
  have hx := O.1
  have hb := O.2.1
  have hts := O.2.2.2.2.1
  have hown := O.2.2.2.1
  have hK : va_K D vwCl (tz cA) s := O.2.2.2.2.2.2.2.2.1
  have hlk : meth.locks = false := O.2.2.2.2.2.2.1
  refine J_fin hq O.2.2.2.2.2.2.2.2.2.1 hk hkM hnN hK hP hS hp (fun qq => ?_)
  exact W.vret hx hb (O.2.2.2.2.2.1.trans hr) qq hS.2.2 hd hlk
end
end
section
/-! the J layer: new, calls -/
theorem J_addr {p : Program} {l : Launch} {e : Env} {R : Room} {s T : State} {m : MethodId} {args : Array Value} {below : List Frame} {meth : Method} {c : Code} {locs : List Loc} {k n b L0 q : Nat} {ca : Nat → Nat} {cA : Nat → ClassId} {D : va_G} {h : List MC} {H : Heap} {z : va_E} (X : Stand p l e R s m args below meth c T locs (k + 1) n) (hT : T.heap = H) (hL : s.heap.size = b + L0) (hk : k + L0 = h.length) (hP : va_P D vwCl (wz b ca cA h ++ [(q, z)]) H) (hD : va_D (fun q => b ≤ q) (wz b ca cA h ++ [(q, z)])) : q = b + h.length := by
  have h1 := X.heapSize
  rw [hT] at h1
  have e1 : (wz b ca cA h ++ [(q, z)])[h.length]? = some (q, z) := by
    rw [List.getElem?_append_right (by rw [wz_len]; exact Nat.le_refl _), wz_len, Nat.sub_self]
    rfl
  have h2 : q < H.size := (hP _ _ e1).lt
  have h3 : b ≤ q := hD.2 _ _ e1
  rcases Nat.lt_or_ge (q - b) h.length with h4 | h4
  · have e2 : (wz b ca cA h ++ [(q, z)])[q - b]? = some (b + (q - b), rE b ca cA h[q - b]) := by
      rw [List.getElem?_append_left (by rw [wz_len]; exact h4)]
      exact wz_get (List.getElem?_eq_getElem h4)
    have h5 := hD.1 _ _ _ _ e1 e2 (show q = b + (q - b) by omega)
    omega
  · omega
def JN (x : JX) (con0 : JK) : Prop := match x with
  | (_, _, _, _, _, _, _, _, _, _, _, _, _, _, con, _) => ∀ k v, con0 k = some v → con k = some v
theorem JQ.n {x : JX} {con0 : JK} {M N : Nat} {Post : Option Value → List MC → Prop} (h : JQ x con0 M N Post) : JN x con0 := by
  obtain ⟨p, l, e, R, s, m, args, below, meth, c, b, ca, cA, D, con, Q⟩ := x
  exact h.2
section
variable {x : JX} {y : MethodName} {cc : ByteArray} {nL : Nat} {rt : Option FieldType} {d M N L0 : Nat} {pc : Nat} {lv : List (Nat × Value)} {st : List Value} {h : List MC} {k n : Nat}
theorem J_new {C : String} {T : u_T} {Z ci ix : Nat} {fs : List Value} {ty0 : Nat → FieldType} (hd : decode cc pc = .ok (.new ix, 3)) (hin : ∀ w ∈ u_ws C T Z, w ∈ gt) (hc : vwCl[ci]? = some (C, T, Z)) (hty : ∀ k, k < Z → parseFieldDescriptor (T k).2.2.1 = some (ty0 k)) (hlk : Cond.classLink y.cls ix C ∈ gt) (hi1 : Cond.instantiable C Z ∈ gt) (hi2 : Cond.initialized C ∈ gt) (hfs : ∀ (b : Nat) (ca : Nat → Nat) (j : Nat), j < Z → defaultValue (ty0 j) = vp_V (fs.map (rv b ca)) j) (hk : k + L0 = h.length) (hM : k + 1 ≤ M) (hN : n + Z ≤ N) (K : J x y cc nL rt d M N L0 (pc + 3) lv (.ref h.length :: st) (h ++ [.inr (ci, fs)]) (k + 1) (n + Z)) : J x y cc nL rt d M N L0 pc lv st h k n := by
  obtain ⟨p, l, e, R, s, m, args, below, meth, c, b, ca, cA, D, con, Q⟩ := x
  intro O H locs ls hl hP hS
  have hx := O.1
  have hb := O.2.1
  have hts := O.2.2.2.2.1
  have hown := O.2.2.2.1
  have hK : va_K D vwCl (tz cA) s := O.2.2.2.2.2.2.2.2.1
  refine va_new (C := C) (T := T) (N := Z) (ci := ci) (fs := fs.map (rv b ca)) (A := fun q => b ≤ q) hx hb hts hin ty0 hty hown (hts _ hlk) (hts _ hi1) (hts _ hi2) hK hP wz_D hS (fun q hq => Nat.le_trans (by rw [O.2.2.2.2.2.2.2.2.2.1]; exact Nat.le_add_right _ _) hq) hc (hfs b ca) (Nat.le_trans hM O.2.2.2.2.2.2.2.2.2.2.2.2.1) (Nat.le_trans hN O.2.2.2.2.2.2.2.2.2.2.2.2.2.1) hd ?_
  intro q H1 hP1 hD1 hS1
  intro T hT X
  have q0 := J_addr X hT O.2.2.2.2.2.2.2.2.2.1 hk hP1 hD1
  subst q0
  have e1 : wz b ca cA h ++ [(b + h.length, Sum.inr (ci, fs.map (rv b ca)))] = wz b ca cA (h ++ [.inr (ci, fs)]) := wz_push (c := .inr (ci, fs))
  rw [e1] at hP1
  exact K O H1 locs ls hl hP1 hS1 T hT X
theorem J_newa0 {z : Int32} {Z : Nat} (hd : decode cc pc = .ok (.newarray .byte, 2)) (hw : Cond.arrayClass .byte ∈ gt) (hz : ¬ z < 0) (hZ : z.toNatClampNeg = Z) (hZb : Z * 8 ≤ 536870912) (hk : k + L0 = h.length) (hM : k + 1 ≤ M) (hN : n + Z ≤ N) (K : J x y cc nL rt d M N L0 (pc + 2) lv (.ref h.length :: st) (h ++ [.inl (0, Z, .inl (fun _ => 0))]) (k + 1) (n + Z)) : J x y cc nL rt d M N L0 pc lv (.int z :: st) h k n := by
  obtain ⟨p, l, e, R, s, m, args, below, meth, c, b, ca, cA, D, con, Q⟩ := x
  intro O H locs ls hl hP hS
  have hx := O.1
  have hb := O.2.1
  have hts := O.2.2.2.2.1
  have hown := O.2.2.2.1
  have hK : va_K D vwCl (tz cA) s := O.2.2.2.2.2.2.2.2.1
  refine va_newa (atype := .byte) (ty := .byte) (a0 := (Z, .inl (fun _ => 0))) (A := fun q => b ≤ q) hx hb (hts _ hw) rfl hK hP wz_D hS (fun q hq => Nat.le_trans (by rw [O.2.2.2.2.2.2.2.2.2.1]; exact Nat.le_add_right _ _) hq) (fun _ => rfl) hz hZ (Nat.le_trans (Nat.mul_le_mul_left Z (by decide)) hZb) (Nat.le_trans hM O.2.2.2.2.2.2.2.2.2.2.2.2.1) (Nat.le_trans hN O.2.2.2.2.2.2.2.2.2.2.2.2.2.1) hd ?_
  intro q cB H1 hK1 hP1 hD1 hS1
  intro T hT X
  have q0 := J_addr X hT O.2.2.2.2.2.2.2.2.2.1 hk hP1 hD1
  subst q0
  have hc1 := (hK1.2 7 (cB, .byte) rfl).2
  have hc2 := (hK.2 0 (cA 0, .byte) rfl).2
  have hc3 : cB = cA 0 := Option.some.inj (hc1.symm.trans hc2)
  subst hc3
  have e1 : wz b ca cA h ++ [(b + h.length, Sum.inl (cA 0, Z, .inl (fun _ => 0)))] = wz b ca cA (h ++ [.inl (0, Z, .inl (fun _ => 0))]) := wz_push (c := .inl (0, Z, .inl (fun _ => 0)))
  rw [e1] at hP1
  exact K O H1 locs ls hl hP1 hS1 T hT X
theorem J_newa1 {z : Int32} {Z : Nat} (hd : decode cc pc = .ok (.newarray .int, 2)) (hw : Cond.arrayClass .int ∈ gt) (hz : ¬ z < 0) (hZ : z.toNatClampNeg = Z) (hZb : Z * 8 ≤ 536870912) (hk : k + L0 = h.length) (hM : k + 1 ≤ M) (hN : n + Z ≤ N) (K : J x y cc nL rt d M N L0 (pc + 2) lv (.ref h.length :: st) (h ++ [.inl (1, Z, .inl (fun _ => 0))]) (k + 1) (n + Z)) : J x y cc nL rt d M N L0 pc lv (.int z :: st) h k n := by
  obtain ⟨p, l, e, R, s, m, args, below, meth, c, b, ca, cA, D, con, Q⟩ := x
  intro O H locs ls hl hP hS
  have hx := O.1
  have hb := O.2.1
  have hts := O.2.2.2.2.1
  have hown := O.2.2.2.1
  have hK : va_K D vwCl (tz cA) s := O.2.2.2.2.2.2.2.2.1
  refine va_newa (atype := .int) (ty := .int) (a0 := (Z, .inl (fun _ => 0))) (A := fun q => b ≤ q) hx hb (hts _ hw) rfl hK hP wz_D hS (fun q hq => Nat.le_trans (by rw [O.2.2.2.2.2.2.2.2.2.1]; exact Nat.le_add_right _ _) hq) (fun _ => rfl) hz hZ (Nat.le_trans (Nat.mul_le_mul_left Z (by decide)) hZb) (Nat.le_trans hM O.2.2.2.2.2.2.2.2.2.2.2.2.1) (Nat.le_trans hN O.2.2.2.2.2.2.2.2.2.2.2.2.2.1) hd ?_
  intro q cB H1 hK1 hP1 hD1 hS1
  intro T hT X
  have q0 := J_addr X hT O.2.2.2.2.2.2.2.2.2.1 hk hP1 hD1
  subst q0
  have hc1 := (hK1.2 7 (cB, .int) rfl).2
  have hc2 := (hK.2 1 (cA 1, .int) rfl).2
  have hc3 : cB = cA 1 := Option.some.inj (hc1.symm.trans hc2)
  subst hc3
  have e1 : wz b ca cA h ++ [(b + h.length, Sum.inl (cA 1, Z, .inl (fun _ => 0)))] = wz b ca cA (h ++ [.inl (1, Z, .inl (fun _ => 0))]) := wz_push (c := .inl (1, Z, .inl (fun _ => 0)))
  rw [e1] at hP1
  exact K O H1 locs ls hl hP1 hS1 T hT X
theorem J_newa2 {z : Int32} {Z : Nat} (hd : decode cc pc = .ok (.newarray .long, 2)) (hw : Cond.arrayClass .long ∈ gt) (hz : ¬ z < 0) (hZ : z.toNatClampNeg = Z) (hZb : Z * 8 ≤ 536870912) (hk : k + L0 = h.length) (hM : k + 1 ≤ M) (hN : n + Z ≤ N) (K : J x y cc nL rt d M N L0 (pc + 2) lv (.ref h.length :: st) (h ++ [.inl (2, Z, .inr (.inl (fun _ => 0)))]) (k + 1) (n + Z)) : J x y cc nL rt d M N L0 pc lv (.int z :: st) h k n := by
  obtain ⟨p, l, e, R, s, m, args, below, meth, c, b, ca, cA, D, con, Q⟩ := x
  intro O H locs ls hl hP hS
  have hx := O.1
  have hb := O.2.1
  have hts := O.2.2.2.2.1
  have hown := O.2.2.2.1
  have hK : va_K D vwCl (tz cA) s := O.2.2.2.2.2.2.2.2.1
  refine va_newa (atype := .long) (ty := .long) (a0 := (Z, .inr (.inl (fun _ => 0)))) (A := fun q => b ≤ q) hx hb (hts _ hw) rfl hK hP wz_D hS (fun q hq => Nat.le_trans (by rw [O.2.2.2.2.2.2.2.2.2.1]; exact Nat.le_add_right _ _) hq) (fun _ => rfl) hz hZ (Nat.le_trans (Nat.mul_le_mul_left Z (by decide)) hZb) (Nat.le_trans hM O.2.2.2.2.2.2.2.2.2.2.2.2.1) (Nat.le_trans hN O.2.2.2.2.2.2.2.2.2.2.2.2.2.1) hd ?_
  intro q cB H1 hK1 hP1 hD1 hS1
  intro T hT X
  have q0 := J_addr X hT O.2.2.2.2.2.2.2.2.2.1 hk hP1 hD1
  subst q0
  have hc1 := (hK1.2 7 (cB, .long) rfl).2
  have hc2 := (hK.2 2 (cA 2, .long) rfl).2
  have hc3 : cB = cA 2 := Option.some.inj (hc1.symm.trans hc2)
  subst hc3
  have e1 : wz b ca cA h ++ [(b + h.length, Sum.inl (cA 2, Z, .inr (.inl (fun _ => 0))))] = wz b ca cA (h ++ [.inl (2, Z, .inr (.inl (fun _ => 0)))]) := wz_push (c := .inl (2, Z, .inr (.inl (fun _ => 0))))
  rw [e1] at hP1
  exact K O H1 locs ls hl hP1 hS1 T hT X
theorem J_newa3 {z : Int32} {Z : Nat} (hd : decode cc pc = .ok (.newarray .boolean, 2)) (hw : Cond.arrayClass .boolean ∈ gt) (hz : ¬ z < 0) (hZ : z.toNatClampNeg = Z) (hZb : Z * 8 ≤ 536870912) (hk : k + L0 = h.length) (hM : k + 1 ≤ M) (hN : n + Z ≤ N) (K : J x y cc nL rt d M N L0 (pc + 2) lv (.ref h.length :: st) (h ++ [.inl (3, Z, .inl (fun _ => 0))]) (k + 1) (n + Z)) : J x y cc nL rt d M N L0 pc lv (.int z :: st) h k n := by
  obtain ⟨p, l, e, R, s, m, args, below, meth, c, b, ca, cA, D, con, Q⟩ := x
  intro O H locs ls hl hP hS
  have hx := O.1
  have hb := O.2.1
  have hts := O.2.2.2.2.1
  have hown := O.2.2.2.1
  have hK : va_K D vwCl (tz cA) s := O.2.2.2.2.2.2.2.2.1
  refine va_newa (atype := .boolean) (ty := .boolean) (a0 := (Z, .inl (fun _ => 0))) (A := fun q => b ≤ q) hx hb (hts _ hw) rfl hK hP wz_D hS (fun q hq => Nat.le_trans (by rw [O.2.2.2.2.2.2.2.2.2.1]; exact Nat.le_add_right _ _) hq) (fun _ => rfl) hz hZ (Nat.le_trans (Nat.mul_le_mul_left Z (by decide)) hZb) (Nat.le_trans hM O.2.2.2.2.2.2.2.2.2.2.2.2.1) (Nat.le_trans hN O.2.2.2.2.2.2.2.2.2.2.2.2.2.1) hd ?_
  intro q cB H1 hK1 hP1 hD1 hS1
  intro T hT X
  have q0 := J_addr X hT O.2.2.2.2.2.2.2.2.2.1 hk hP1 hD1
  subst q0
  have hc1 := (hK1.2 7 (cB, .boolean) rfl).2
  have hc2 := (hK.2 3 (cA 3, .boolean) rfl).2
  have hc3 : cB = cA 3 := Option.some.inj (hc1.symm.trans hc2)
  subst hc3
  have e1 : wz b ca cA h ++ [(b + h.length, Sum.inl (cA 3, Z, .inl (fun _ => 0)))] = wz b ca cA (h ++ [.inl (3, Z, .inl (fun _ => 0))]) := wz_push (c := .inl (3, Z, .inl (fun _ => 0)))
  rw [e1] at hP1
  exact K O H1 locs ls hl hP1 hS1 T hT X
theorem J_newq {C : String} {z : Int32} {Z ix t : Nat} (hd : decode cc pc = .ok (.anewarray ix, 3)) (hlk : Cond.classLink y.cls ix C ∈ gt) (hov : Cond.arrayOver (.object C) ∈ nt) (ht : ∀ cA : Nat → ClassId, (tz cA)[t]? = some (cA t, .object C)) (hz : ¬ z < 0) (hZ : z.toNatClampNeg = Z) (hZb : Z * 4 ≤ 536870912) (hk : k + L0 = h.length) (hM : k + 1 ≤ M) (hN : n + Z ≤ N) (K : J x y cc nL rt d M N L0 (pc + 3) lv (.ref h.length :: st) (h ++ [.inl (t, Z, .inr (.inr (fun _ => none)))]) (k + 1) (n + Z)) : J x y cc nL rt d M N L0 pc lv (.int z :: st) h k n := by
  obtain ⟨p, l, e, R, s, m, args, below, meth, c, b, ca, cA, D, con, Q⟩ := x
  intro O H locs ls hl hP hS
  have hx := O.1
  have hb := O.2.1
  have hts := O.2.2.2.2.1
  have hown := O.2.2.2.1
  have hK : va_K D vwCl (tz cA) s := O.2.2.2.2.2.2.2.2.1
  refine va_newq (A := fun q => b ≤ q) hx hb hown (hts _ hlk) (O.2.2.2.2.2.2.2.2.2.2.2.2.2.2.2.1 _ hov) hK hP wz_D hS (fun q hq => Nat.le_trans (by rw [O.2.2.2.2.2.2.2.2.2.1]; exact Nat.le_add_right _ _) hq) hz hZ hZb (Nat.le_trans hM O.2.2.2.2.2.2.2.2.2.2.2.2.1) (Nat.le_trans hN O.2.2.2.2.2.2.2.2.2.2.2.2.2.1) hd ?_
  intro q cB H1 hK1 hP1 hD1 hS1
  intro T hT X
  have q0 := J_addr X hT O.2.2.2.2.2.2.2.2.2.1 hk hP1 hD1
  subst q0
  obtain ⟨_, _, _, _, _, hc1⟩ := (hK1.2 7 (cB, .object C) rfl).2
  obtain ⟨_, _, _, _, _, hc2⟩ := (hK.2 t (cA t, .object C) (ht cA)).2
  have hc3 : cB = cA t := Option.some.inj (hc1.symm.trans hc2)
  subst hc3
  have e1 : wz b ca cA h ++ [(b + h.length, Sum.inl (cA t, Z, Sum.inr (Sum.inr (Sum.inr (Sum.inr (fun _ => none))))))] = wz b ca cA (h ++ [.inl (t, Z, .inr (.inr (fun _ => none)))]) := wz_push (c := .inl (t, Z, .inr (.inr (fun _ => none))))
  rw [e1] at hP1
  exact K O H1 locs ls hl hP1 hS1 T hT X
theorem J_obj {ix a : Nat} (hd : decode cc pc = .ok (.invokespecial ix, 3)) (hlk : Cond.methodLink y.cls ix objectInit ∈ gt) (hi : Cond.instanceMethod objectInit ∈ gt) (hco : Cond.code objectInit ⟨#[0xb1]⟩ 1 none ∈ gt) (hdd : 1 ≤ d) (hw : (st.map fun v => v.category).sum ≤ 8) (K : J x y cc nL rt d M N L0 (pc + 3) lv st h k n) : J x y cc nL rt d M N L0 pc lv (.ref a :: st) h k n := by
  obtain ⟨p, l, e, R, s, m, args, below, meth, c, b, ca, cA, D, con, Q⟩ := x
  intro O H locs ls hl hP hS
  have hx := O.1
  have hb := O.2.1
  have hts := O.2.2.2.2.1
  have hown := O.2.2.2.1
  have hK : va_K D vwCl (tz cA) s := O.2.2.2.2.2.2.2.2.1
  refine W.objInit hx hb hown (hts _ hlk) (hts _ hi) (hts _ hco) (g := F0 m pc ls ((Value.ref a :: st).map (rv b ca))) (rest := st.map (rv b ca)) rfl (by rw [O.2.2.1]; exact hl.1) rfl hd (Nat.le_trans hdd O.2.2.2.2.2.2.2.2.2.2.1) ?_ (K O H locs ls hl hP hS)
  have h1 : 2 * (F0 m pc ls ((Value.ref a :: st).map (rv b ca))).monitorRoom + ((st.map (rv b ca)).map fun v => v.category).sum ≤ 8 := lv_room (by rw [rv_sum]; exact hw)
  have h2 := O.2.2.2.2.2.2.2.2.2.2.2.1
  omega
theorem J_callV {con0 : JK} {d1 M1 N1 nL1 ix : Nat} {y1 : MethodName} {cc1 : ByteArray} {rt1 : Option FieldType} {Post1 : Option Value → List MC → Prop} {As rest : List Value} {a ci : Nat} {fs : List Value} {q : vw_C} (hd : decode cc pc = .ok (.invokevirtual ix, 3)) (hM : CT con0 d1 M1 N1 y1 cc1 nL1 rt1 (.ref a :: As) h Post1) (hN : JN x con0) (hi1 : Cond.methodLink y.cls ix y1 ∈ gt) (hi2 : Cond.instanceMethod y1 ∈ gt) (hi3 : Cond.selects y1.cls y1 y1 ∈ gt) (ha : h[a]? = some (.inr (ci, fs))) (hc : vwCl[ci]? = some q) (hq : q.1 = y1.cls) (hi4 : Cond.initialized y1.cls ∈ gt) (hi5 : Cond.code y1 cc1 nL1 rt1 ∈ gt) (hdn : y1.cls ≠ "java/lang/invoke/MethodHandle" ∧ y1.cls ≠ "java/lang/invoke/VarHandle" ∧ (parseMethodDescriptor y1.desc).map (fun d => d.parameters.length) = some As.length) (hdd : d1 + 1 ≤ d) (hmx : nL1 ≤ 19) (hMM : k + M1 ≤ M) (hNN : n + N1 ≤ N) (hk : k + L0 = h.length) (hst : st = As.reverse ++ .ref a :: rest) (hw : (rest.map fun v => v.category).sum ≤ 8) (K : ∀ (r : Option Value) (h1 : List MC), Post1 r h1 → J x y cc nL rt d M N L0 (pc + 3) lv (r.toList ++ rest) h1 (k + M1) (n + N1)) : J x y cc nL rt d M N L0 pc lv st h k n := by
  obtain ⟨p, l, e, R, s, m, args, below, meth, c, b, ca, cA, D, con, Q⟩ := x
  intro O H locs ls hl hP hS
  have hx := O.1
  have hb := O.2.1
  have hts := O.2.2.2.2.1
  have hown := O.2.2.2.1
  have hK : va_K D vwCl (tz cA) s := O.2.2.2.2.2.2.2.2.1
  intro T hT X
  have hz := J_size X hT O.2.2.2.2.2.2.2.2.2.1 hk hP hS
  have hMet := hM l b ca cA D con hN
  have hG : GoodIn gt (Cond.code y1 cc1 nL1 rt1 :: gt) := fun w hw => (List.mem_cons.mp hw).elim (fun q => by rw [q]; exact gt_gt _ hi5) (gt_gt w)
  have hR : (RM d1 M1 N1).frames + 1 ≤ R.frames ∧ 8 + (nL1 + 11) + (RM d1 M1 N1).locals ≤ R.locals := by
    have h1 := O.2.2.2.2.2.2.2.2.2.2.1
    have h2 := O.2.2.2.2.2.2.2.2.2.2.2.1
    show d1 + 1 ≤ R.frames ∧ 8 + (nL1 + 11) + 38 * d1 ≤ R.locals
    omega
  have hB := callB_of (R := R) (mc := M1) (ms := N1) As.length hts hG rfl rfl rfl (hts _ hi4) (hts _ hi1) hdn hR
  have hpc : ∀ U : State, U.heap = H → s.WarmedH U.vm → PC b ca cA D con (.ref a :: As) h (((.ref a :: As)).map (rv b ca)).toArray U := fun U hU hW => ⟨rfl, by rw [hU]; exact hz, by rw [hU]; exact hP, va_K.moved hW.alike hK, CN.moved O.2.2.2.2.2.2.2.2.2.2.2.2.2.2.1 hW.alike hU hS, NW.warm hW hU hS O.2.2.2.2.2.2.2.2.2.2.2.2.2.2.2⟩
  have hcs : k + M1 ≤ R.cells ∧ n + N1 ≤ R.slots := ⟨Nat.le_trans hMM O.2.2.2.2.2.2.2.2.2.2.2.2.1, Nat.le_trans hNN O.2.2.2.2.2.2.2.2.2.2.2.2.2.1⟩
  subst hst
  have hsk : (As.reverse ++ .ref a :: rest).map (rv b ca) = (As.map (rv b ca)).reverse ++ .ref (b + a) :: rest.map (rv b ca) := by simp [rv]
  have hrm : 2 * (F0 m pc ls ((As.reverse ++ .ref a :: rest).map (rv b ca))).monitorRoom + ((rest.map (rv b ca)).map fun v => v.category).sum ≤ 8 := lv_room (by rw [rv_sum]; exact hw)
  have hrc := va_recv hK hP hc (wz_get ha)
  rw [hq] at hrc
  obtain ⟨v, st₀, t, T1, L, h0, X1, hL, e1, e2, ⟨⟨r, h1, hv, hp, hz1, hP1, hK1⟩, hF⟩, go⟩ := va_runV (Ts := gt) (As := As.map (rv b ca)) (rest := rest.map (rv b ca)) (g := F0 m pc ls ((As.reverse ++ .ref a :: rest).map (rv b ca))) ⟨hx, hb, O.2.2.1, hown, hts⟩ hMet ⟨hB, hts _ hi2, hts _ hi3⟩ ⟨PC_blind _ _ _ _ _ _ _, hrc, hpc⟩ rfl (by rw [List.length_map]) hl.1 hsk hrm hd hcs T hT X
  cases hv
  have hS1 : va_S (fun q => b ≤ q) s.heap T1.heap (locs ++ L) := by
    have hF1 : H.size ≤ t.heap.size := by rw [← h0]; exact hF.1
    refine ⟨Nat.le_trans hS.1 (by rw [e1]; exact hF1), fun q h1 h2 => ?_, fun q hq => ?_⟩
    · rw [e1, hF.2 q (by rw [h0]; exact Nat.lt_of_lt_of_le h1 hS.1) h2, h0]
      exact hS.2.1 q h1 h2
    · rcases List.mem_append.mp hq with h | h
      · exact hS.2.2 q h
      · exact hL q h
  have kk := K r h1 hp O T1.heap (locs ++ L) ls hl (by rw [e1]; exact hP1) hS1 T1 rfl X1
  obtain ⟨t2, a1, b1⟩ := kk
  refine ⟨t2, go t2 ?_, b1⟩
  cases r <;> exact a1
theorem J_callS {con0 : JK} {d1 M1 N1 nL1 ix : Nat} {y1 : MethodName} {cc1 : ByteArray} {rt1 : Option FieldType} {Post1 : Option Value → List MC → Prop} {As rest : List Value} (hd : decode cc pc = .ok (.invokestatic ix, 3)) (hM : CT con0 d1 M1 N1 y1 cc1 nL1 rt1 As h Post1) (hN : JN x con0) (hi1 : Cond.methodLink y.cls ix y1 ∈ gt) (hi2 : Cond.static y1 ∈ gt) (hi4 : Cond.initialized y1.cls ∈ gt) (hi5 : Cond.code y1 cc1 nL1 rt1 ∈ gt) (hdn : y1.cls ≠ "java/lang/invoke/MethodHandle" ∧ y1.cls ≠ "java/lang/invoke/VarHandle" ∧ (parseMethodDescriptor y1.desc).map (fun d => d.parameters.length) = some As.length) (hdd : d1 + 1 ≤ d) (hmx : nL1 ≤ 19) (hMM : k + M1 ≤ M) (hNN : n + N1 ≤ N) (hk : k + L0 = h.length) (hst : st = As.reverse ++ rest) (hw : (rest.map fun v => v.category).sum ≤ 8) (K : ∀ (r : Option Value) (h1 : List MC), Post1 r h1 → J x y cc nL rt d M N L0 (pc + 3) lv (r.toList ++ rest) h1 (k + M1) (n + N1)) : J x y cc nL rt d M N L0 pc lv st h k n := by
  obtain ⟨p, l, e, R, s, m, args, below, meth, c, b, ca, cA, D, con, Q⟩ := x
  intro O H locs ls hl hP hS
  have hx := O.1
  have hb := O.2.1
  have hts := O.2.2.2.2.1
  have hown := O.2.2.2.1
  have hK : va_K D vwCl (tz cA) s := O.2.2.2.2.2.2.2.2.1
  intro T hT X
  have hz := J_size X hT O.2.2.2.2.2.2.2.2.2.1 hk hP hS
  have hMet := hM l b ca cA D con hN
  have hG : GoodIn gt (Cond.code y1 cc1 nL1 rt1 :: gt) := fun w hw => (List.mem_cons.mp hw).elim (fun q => by rw [q]; exact gt_gt _ hi5) (gt_gt w)
  have hR : (RM d1 M1 N1).frames + 1 ≤ R.frames ∧ 8 + (nL1 + 11) + (RM d1 M1 N1).locals ≤ R.locals := by
    have h1 := O.2.2.2.2.2.2.2.2.2.2.1
    have h2 := O.2.2.2.2.2.2.2.2.2.2.2.1
    show d1 + 1 ≤ R.frames ∧ 8 + (nL1 + 11) + 38 * d1 ≤ R.locals
    omega
  have hB := callB_of (R := R) (mc := M1) (ms := N1) As.length hts hG rfl rfl rfl (hts _ hi4) (hts _ hi1) hdn hR
  have hpc : ∀ U : State, U.heap = H → s.WarmedH U.vm → PC b ca cA D con As h ((As).map (rv b ca)).toArray U := fun U hU hW => ⟨rfl, by rw [hU]; exact hz, by rw [hU]; exact hP, va_K.moved hW.alike hK, CN.moved O.2.2.2.2.2.2.2.2.2.2.2.2.2.2.1 hW.alike hU hS, NW.warm hW hU hS O.2.2.2.2.2.2.2.2.2.2.2.2.2.2.2⟩
  have hcs : k + M1 ≤ R.cells ∧ n + N1 ≤ R.slots := ⟨Nat.le_trans hMM O.2.2.2.2.2.2.2.2.2.2.2.2.1, Nat.le_trans hNN O.2.2.2.2.2.2.2.2.2.2.2.2.2.1⟩
  subst hst
  have hsk : (As.reverse ++ rest).map (rv b ca) = (As.map (rv b ca)).reverse ++ rest.map (rv b ca) := by simp [rv]
  have hrm : 2 * (F0 m pc ls ((As.reverse ++ rest).map (rv b ca))).monitorRoom + ((rest.map (rv b ca)).map fun v => v.category).sum ≤ 8 := lv_room (by rw [rv_sum]; exact hw)
  obtain ⟨v, st₀, t, T1, L, h0, X1, hL, e1, e2, ⟨⟨r, h1, hv, hp, hz1, hP1, hK1⟩, hF⟩, go⟩ := va_runS (Ts := gt) (As := As.map (rv b ca)) (rest := rest.map (rv b ca)) (g := F0 m pc ls ((As.reverse ++ rest).map (rv b ca))) ⟨hx, hb, O.2.2.1, hown, hts⟩ hMet ⟨hB, hts _ hi2⟩ ⟨PC_blind _ _ _ _ _ _ _, hpc⟩ rfl (by rw [List.length_map]) hl.1 hsk hrm hd hcs T hT X
  cases hv
  have hS1 : va_S (fun q => b ≤ q) s.heap T1.heap (locs ++ L) := by
    have hF1 : H.size ≤ t.heap.size := by rw [← h0]; exact hF.1
    refine ⟨Nat.le_trans hS.1 (by rw [e1]; exact hF1), fun q h1 h2 => ?_, fun q hq => ?_⟩
    · rw [e1, hF.2 q (by rw [h0]; exact Nat.lt_of_lt_of_le h1 hS.1) h2, h0]
      exact hS.2.1 q h1 h2
    · rcases List.mem_append.mp hq with h | h
      · exact hS.2.2 q h
      · exact hL q h
  have kk := K r h1 hp O T1.heap (locs ++ L) ls hl (by rw [e1]; exact hP1) hS1 T1 rfl X1
  obtain ⟨t2, a1, b1⟩ := kk
  refine ⟨t2, go t2 ?_, b1⟩
  cases r <;> exact a1
theorem J_callSN {con0 : JK} {d1 M1 N1 nL1 ix : Nat} {y1 : MethodName} {cc1 : ByteArray} {rt1 : Option FieldType} {Post1 : Option Value → List MC → Prop} {As rest : List Value} {host : String} (hd : decode cc pc = .ok (.invokestatic ix, 3)) (hM : CT con0 d1 M1 N1 y1 cc1 nL1 rt1 As h Post1) (hN : JN x con0) (hi1 : Cond.methodLinkNest y.cls ix y1 host ∈ nt) (hi2 : Cond.static y1 ∈ gt) (hi4 : Cond.initialized y1.cls ∈ gt) (hi5 : Cond.code y1 cc1 nL1 rt1 ∈ gt) (hdn : y1.cls ≠ "java/lang/invoke/MethodHandle" ∧ y1.cls ≠ "java/lang/invoke/VarHandle" ∧ (parseMethodDescriptor y1.desc).map (fun d => d.parameters.length) = some As.length) (hdd : d1 + 1 ≤ d) (hmx : nL1 ≤ 19) (hMM : k + M1 ≤ M) (hNN : n + N1 ≤ N) (hk : k + L0 = h.length) (hst : st = As.reverse ++ rest) (hw : (rest.map fun v => v.category).sum ≤ 8) (K : ∀ (r : Option Value) (h1 : List MC), Post1 r h1 → J x y cc nL rt d M N L0 (pc + 3) lv (r.toList ++ rest) h1 (k + M1) (n + N1)) : J x y cc nL rt d M N L0 pc lv st h k n := by
  obtain ⟨p, l, e, R, s, m, args, below, meth, c, b, ca, cA, D, con, Q⟩ := x
  intro O H locs ls hl hP hS
  have hx := O.1
  have hb := O.2.1
  have hts := O.2.2.2.2.1
  have hown := O.2.2.2.1
  have hK : va_K D vwCl (tz cA) s := O.2.2.2.2.2.2.2.2.1
  intro T hT X
  have hz := J_size X hT O.2.2.2.2.2.2.2.2.2.1 hk hP hS
  have hMet := hM l b ca cA D con hN
  have hG : GoodIn gt (Cond.code y1 cc1 nL1 rt1 :: gt) := fun w hw => (List.mem_cons.mp hw).elim (fun q => by rw [q]; exact gt_gt _ hi5) (gt_gt w)
  have hR : (RM d1 M1 N1).frames + 1 ≤ R.frames ∧ 8 + (nL1 + 11) + (RM d1 M1 N1).locals ≤ R.locals := by
    have h1 := O.2.2.2.2.2.2.2.2.2.2.1
    have h2 := O.2.2.2.2.2.2.2.2.2.2.2.1
    show d1 + 1 ≤ R.frames ∧ 8 + (nL1 + 11) + 38 * d1 ≤ R.locals
    omega
  have hB := va_cnB (R := R) (mc := M1) (ms := N1) As.length hts hG rfl rfl rfl (O.2.2.2.2.2.2.2.2.2.2.2.2.2.2.2.1 _ hi1) (hts _ hi4) hdn hR
  have hpc : ∀ U : State, U.heap = H → s.WarmedH U.vm → PC b ca cA D con As h ((As).map (rv b ca)).toArray U := fun U hU hW => ⟨rfl, by rw [hU]; exact hz, by rw [hU]; exact hP, va_K.moved hW.alike hK, CN.moved O.2.2.2.2.2.2.2.2.2.2.2.2.2.2.1 hW.alike hU hS, NW.warm hW hU hS O.2.2.2.2.2.2.2.2.2.2.2.2.2.2.2⟩
  have hcs : k + M1 ≤ R.cells ∧ n + N1 ≤ R.slots := ⟨Nat.le_trans hMM O.2.2.2.2.2.2.2.2.2.2.2.2.1, Nat.le_trans hNN O.2.2.2.2.2.2.2.2.2.2.2.2.2.1⟩
  subst hst
  have hsk : (As.reverse ++ rest).map (rv b ca) = (As.map (rv b ca)).reverse ++ rest.map (rv b ca) := by simp [rv]
  have hrm : 2 * (F0 m pc ls ((As.reverse ++ rest).map (rv b ca))).monitorRoom + ((rest.map (rv b ca)).map fun v => v.category).sum ≤ 8 := lv_room (by rw [rv_sum]; exact hw)
  obtain ⟨v, st₀, t, T1, L, h0, X1, hL, e1, e2, ⟨⟨r, h1, hv, hp, hz1, hP1, hK1⟩, hF⟩, go⟩ := va_runSN (Ts := gt) (As := As.map (rv b ca)) (rest := rest.map (rv b ca)) (g := F0 m pc ls ((As.reverse ++ rest).map (rv b ca))) ⟨hx, hb, O.2.2.1, hown, hts⟩ hMet ⟨hB, hts _ hi2, trivial⟩ ⟨PC_blind _ _ _ _ _ _ _, hpc⟩ rfl (by rw [List.length_map]) hl.1 hsk hrm hd hcs T hT X
  cases hv
  have hS1 : va_S (fun q => b ≤ q) s.heap T1.heap (locs ++ L) := by
    have hF1 : H.size ≤ t.heap.size := by rw [← h0]; exact hF.1
    refine ⟨Nat.le_trans hS.1 (by rw [e1]; exact hF1), fun q h1 h2 => ?_, fun q hq => ?_⟩
    · rw [e1, hF.2 q (by rw [h0]; exact Nat.lt_of_lt_of_le h1 hS.1) h2, h0]
      exact hS.2.1 q h1 h2
    · rcases List.mem_append.mp hq with h | h
      · exact hS.2.2 q h
      · exact hL q h
  have kk := K r h1 hp O T1.heap (locs ++ L) ls hl (by rw [e1]; exact hP1) hS1 T1 rfl X1
  obtain ⟨t2, a1, b1⟩ := kk
  refine ⟨t2, go t2 ?_, b1⟩
  cases r <;> exact a1
theorem J_callI {con0 : JK} {d1 M1 N1 nL1 ix : Nat} {y1 : MethodName} {cc1 : ByteArray} {rt1 : Option FieldType} {Post1 : Option Value → List MC → Prop} {As rest : List Value} {a : Nat} (hd : decode cc pc = .ok (.invokespecial ix, 3)) (hM : CT con0 d1 M1 N1 y1 cc1 nL1 rt1 (.ref a :: As) h Post1) (hN : JN x con0) (hi1 : Cond.methodLink y.cls ix y1 ∈ gt) (hi2 : Cond.instanceMethod y1 ∈ gt) (hnm : y1.name = "<init>") (hrt : rt1 = none) (hi4 : Cond.initialized y1.cls ∈ gt) (hi5 : Cond.code y1 cc1 nL1 rt1 ∈ gt) (hdn : y1.cls ≠ "java/lang/invoke/MethodHandle" ∧ y1.cls ≠ "java/lang/invoke/VarHandle" ∧ (parseMethodDescriptor y1.desc).map (fun d => d.parameters.length) = some As.length) (hdd : d1 + 1 ≤ d) (hmx : nL1 ≤ 19) (hMM : k + M1 ≤ M) (hNN : n + N1 ≤ N) (hk : k + L0 = h.length) (hst : st = As.reverse ++ .ref a :: rest) (hw : (rest.map fun v => v.category).sum ≤ 8) (K : ∀ (r : Option Value) (h1 : List MC), Post1 r h1 → J x y cc nL rt d M N L0 (pc + 3) lv (r.toList ++ rest) h1 (k + M1) (n + N1)) : J x y cc nL rt d M N L0 pc lv st h k n := by
  subst hrt
  obtain ⟨p, l, e, R, s, m, args, below, meth, c, b, ca, cA, D, con, Q⟩ := x
  intro O H locs ls hl hP hS
  have hx := O.1
  have hb := O.2.1
  have hts := O.2.2.2.2.1
  have hown := O.2.2.2.1
  have hK : va_K D vwCl (tz cA) s := O.2.2.2.2.2.2.2.2.1
  intro T hT X
  have hz := J_size X hT O.2.2.2.2.2.2.2.2.2.1 hk hP hS
  have hMet := hM l b ca cA D con hN
  have hG : GoodIn gt (Cond.code y1 cc1 nL1 none :: gt) := fun w hw => (List.mem_cons.mp hw).elim (fun q => by rw [q]; exact gt_gt _ hi5) (gt_gt w)
  have hR : (RM d1 M1 N1).frames + 1 ≤ R.frames ∧ 8 + (nL1 + 11) + (RM d1 M1 N1).locals ≤ R.locals := by
    have h1 := O.2.2.2.2.2.2.2.2.2.2.1
    have h2 := O.2.2.2.2.2.2.2.2.2.2.2.1
    show d1 + 1 ≤ R.frames ∧ 8 + (nL1 + 11) + 38 * d1 ≤ R.locals
    omega
  have hB := callB_of (R := R) (mc := M1) (ms := N1) As.length hts hG rfl rfl rfl (hts _ hi4) (hts _ hi1) hdn hR
  have hpc : ∀ U : State, U.heap = H → s.WarmedH U.vm → PC b ca cA D con (.ref a :: As) h (((.ref a :: As)).map (rv b ca)).toArray U := fun U hU hW => ⟨rfl, by rw [hU]; exact hz, by rw [hU]; exact hP, va_K.moved hW.alike hK, CN.moved O.2.2.2.2.2.2.2.2.2.2.2.2.2.2.1 hW.alike hU hS, NW.warm hW hU hS O.2.2.2.2.2.2.2.2.2.2.2.2.2.2.2⟩
  have hcs : k + M1 ≤ R.cells ∧ n + N1 ≤ R.slots := ⟨Nat.le_trans hMM O.2.2.2.2.2.2.2.2.2.2.2.2.1, Nat.le_trans hNN O.2.2.2.2.2.2.2.2.2.2.2.2.2.1⟩
  subst hst
  have hsk : (As.reverse ++ .ref a :: rest).map (rv b ca) = (As.map (rv b ca)).reverse ++ .ref (b + a) :: rest.map (rv b ca) := by simp [rv]
  have hrm : 2 * (F0 m pc ls ((As.reverse ++ .ref a :: rest).map (rv b ca))).monitorRoom + ((rest.map (rv b ca)).map fun v => v.category).sum ≤ 8 := lv_room (by rw [rv_sum]; exact hw)
  obtain ⟨v, st₀, t, T1, L, h0, X1, hL, e1, e2, ⟨⟨r, h1, hv, hp, hz1, hP1, hK1⟩, hF⟩, go⟩ := va_runI (Ts := gt) (As := As.map (rv b ca)) (rest := rest.map (rv b ca)) (g := F0 m pc ls ((As.reverse ++ .ref a :: rest).map (rv b ca))) ⟨hx, hb, O.2.2.1, hown, hts⟩ hMet ⟨hB, hnm, hts _ hi2⟩ ⟨PC_blind _ _ _ _ _ _ _, hpc⟩ rfl (by rw [List.length_map]) hl.1 hsk hrm hd hcs T hT X
  cases hv
  have hS1 : va_S (fun q => b ≤ q) s.heap T1.heap (locs ++ L) := by
    have hF1 : H.size ≤ t.heap.size := by rw [← h0]; exact hF.1
    refine ⟨Nat.le_trans hS.1 (by rw [e1]; exact hF1), fun q h1 h2 => ?_, fun q hq => ?_⟩
    · rw [e1, hF.2 q (by rw [h0]; exact Nat.lt_of_lt_of_le h1 hS.1) h2, h0]
      exact hS.2.1 q h1 h2
    · rcases List.mem_append.mp hq with h | h
      · exact hS.2.2 q h
      · exact hL q h
  have kk := K r h1 hp O T1.heap (locs ++ L) ls hl (by rw [e1]; exact hP1) hS1 T1 rfl X1
  obtain ⟨t2, a1, b1⟩ := kk
  refine ⟨t2, go t2 ?_, b1⟩
  cases r <;> exact a1
theorem J_callVC {con0 : JK} {d1 M1 N1 nL1 ix : Nat} {y1 : MethodName} {cc1 : ByteArray} {rt1 : Option FieldType} {Post1 : Option Value → List MC → Prop} {As rest : List Value} {i : Nat} (hd : decode cc pc = .ok (.invokevirtual ix, 3)) (hM : CT con0 d1 M1 N1 y1 cc1 nL1 rt1 (.retAddr (10 + i) :: As) h Post1) (hN : JN x con0) (hi1 : Cond.methodLink y.cls ix y1 ∈ gt) (hi2 : Cond.instanceMethod y1 ∈ gt) (hi3 : Cond.selects y1.cls y1 y1 ∈ gt) (hii : i < 18) (hq : "java/lang/String" = y1.cls) (hi4 : Cond.initialized y1.cls ∈ gt) (hi5 : Cond.code y1 cc1 nL1 rt1 ∈ gt) (hdn : y1.cls ≠ "java/lang/invoke/MethodHandle" ∧ y1.cls ≠ "java/lang/invoke/VarHandle" ∧ (parseMethodDescriptor y1.desc).map (fun d => d.parameters.length) = some As.length) (hdd : d1 + 1 ≤ d) (hmx : nL1 ≤ 19) (hMM : k + M1 ≤ M) (hNN : n + N1 ≤ N) (hk : k + L0 = h.length) (hst : st = As.reverse ++ .retAddr (10 + i) :: rest) (hw : (rest.map fun v => v.category).sum ≤ 8) (K : ∀ (r : Option Value) (h1 : List MC), Post1 r h1 → J x y cc nL rt d M N L0 (pc + 3) lv (r.toList ++ rest) h1 (k + M1) (n + N1)) : J x y cc nL rt d M N L0 pc lv st h k n := by
  obtain ⟨p, l, e, R, s, m, args, below, meth, c, b, ca, cA, D, con, Q⟩ := x
  intro O H locs ls hl hP hS
  have hx := O.1
  have hb := O.2.1
  have hts := O.2.2.2.2.1
  have hown := O.2.2.2.1
  have hK : va_K D vwCl (tz cA) s := O.2.2.2.2.2.2.2.2.1
  intro T hT X
  have hz := J_size X hT O.2.2.2.2.2.2.2.2.2.1 hk hP hS
  have hMet := hM l b ca cA D con hN
  have hG : GoodIn gt (Cond.code y1 cc1 nL1 rt1 :: gt) := fun w hw => (List.mem_cons.mp hw).elim (fun q => by rw [q]; exact gt_gt _ hi5) (gt_gt w)
  have hR : (RM d1 M1 N1).frames + 1 ≤ R.frames ∧ 8 + (nL1 + 11) + (RM d1 M1 N1).locals ≤ R.locals := by
    have h1 := O.2.2.2.2.2.2.2.2.2.2.1
    have h2 := O.2.2.2.2.2.2.2.2.2.2.2.1
    show d1 + 1 ≤ R.frames ∧ 8 + (nL1 + 11) + 38 * d1 ≤ R.locals
    omega
  have hB := callB_of (R := R) (mc := M1) (ms := N1) As.length hts hG rfl rfl rfl (hts _ hi4) (hts _ hi1) hdn hR
  have hpc : ∀ U : State, U.heap = H → s.WarmedH U.vm → PC b ca cA D con (.retAddr (10 + i) :: As) h (((.retAddr (10 + i) :: As)).map (rv b ca)).toArray U := fun U hU hW => ⟨rfl, by rw [hU]; exact hz, by rw [hU]; exact hP, va_K.moved hW.alike hK, CN.moved O.2.2.2.2.2.2.2.2.2.2.2.2.2.2.1 hW.alike hU hS, NW.warm hW hU hS O.2.2.2.2.2.2.2.2.2.2.2.2.2.2.2⟩
  have hcs : k + M1 ≤ R.cells ∧ n + N1 ≤ R.slots := ⟨Nat.le_trans hMM O.2.2.2.2.2.2.2.2.2.2.2.2.1, Nat.le_trans hNN O.2.2.2.2.2.2.2.2.2.2.2.2.2.1⟩
  subst hst
  have hsk : (As.reverse ++ .retAddr (10 + i) :: rest).map (rv b ca) = (As.map (rv b ca)).reverse ++ .ref (ca (10 + i)) :: rest.map (rv b ca) := by simp [rv]
  have hrm : 2 * (F0 m pc ls ((As.reverse ++ .retAddr (10 + i) :: rest).map (rv b ca))).monitorRoom + ((rest.map (rv b ca)).map fun v => v.category).sum ≤ 8 := lv_room (by rw [rv_sum]; exact hw)
  have hrc := vk_recv (i := i) (O.2.2.2.2.2.2.2.2.2.2.2.2.2.2.2.2.2.2.1) hii hS
  rw [hq] at hrc
  obtain ⟨v, st₀, t, T1, L, h0, X1, hL, e1, e2, ⟨⟨r, h1, hv, hp, hz1, hP1, hK1⟩, hF⟩, go⟩ := va_runV (Ts := gt) (As := As.map (rv b ca)) (rest := rest.map (rv b ca)) (g := F0 m pc ls ((As.reverse ++ .retAddr (10 + i) :: rest).map (rv b ca))) ⟨hx, hb, O.2.2.1, hown, hts⟩ hMet ⟨hB, hts _ hi2, hts _ hi3⟩ ⟨PC_blind _ _ _ _ _ _ _, hrc, hpc⟩ rfl (by rw [List.length_map]) hl.1 hsk hrm hd hcs T hT X
  cases hv
  have hS1 : va_S (fun q => b ≤ q) s.heap T1.heap (locs ++ L) := by
    have hF1 : H.size ≤ t.heap.size := by rw [← h0]; exact hF.1
    refine ⟨Nat.le_trans hS.1 (by rw [e1]; exact hF1), fun q h1 h2 => ?_, fun q hq => ?_⟩
    · rw [e1, hF.2 q (by rw [h0]; exact Nat.lt_of_lt_of_le h1 hS.1) h2, h0]
      exact hS.2.1 q h1 h2
    · rcases List.mem_append.mp hq with h | h
      · exact hS.2.2 q h
      · exact hL q h
  have kk := K r h1 hp O T1.heap (locs ++ L) ls hl (by rw [e1]; exact hP1) hS1 T1 rfl X1
  obtain ⟨t2, a1, b1⟩ := kk
  refine ⟨t2, go t2 ?_, b1⟩
  cases r <;> exact a1
theorem J_callIN {con0 : JK} {d1 M1 N1 nL1 ix : Nat} {y1 : MethodName} {cc1 : ByteArray} {rt1 : Option FieldType} {Post1 : Option Value → List MC → Prop} {As rest : List Value} {a : Nat} {host : String} (hd : decode cc pc = .ok (.invokespecial ix, 3)) (hM : CT con0 d1 M1 N1 y1 cc1 nL1 rt1 (.ref a :: As) h Post1) (hN : JN x con0) (hi1 : Cond.methodLinkNest y.cls ix y1 host ∈ nt) (hi2 : Cond.instanceMethod y1 ∈ gt) (hnm : y1.name = "<init>") (hrt : rt1 = none) (hi4 : Cond.initialized y1.cls ∈ gt) (hi5 : Cond.code y1 cc1 nL1 rt1 ∈ gt) (hdn : y1.cls ≠ "java/lang/invoke/MethodHandle" ∧ y1.cls ≠ "java/lang/invoke/VarHandle" ∧ (parseMethodDescriptor y1.desc).map (fun d => d.parameters.length) = some As.length) (hdd : d1 + 1 ≤ d) (hmx : nL1 ≤ 19) (hMM : k + M1 ≤ M) (hNN : n + N1 ≤ N) (hk : k + L0 = h.length) (hst : st = As.reverse ++ .ref a :: rest) (hw : (rest.map fun v => v.category).sum ≤ 8) (K : ∀ (r : Option Value) (h1 : List MC), Post1 r h1 → J x y cc nL rt d M N L0 (pc + 3) lv (r.toList ++ rest) h1 (k + M1) (n + N1)) : J x y cc nL rt d M N L0 pc lv st h k n := by
  subst hrt
  obtain ⟨p, l, e, R, s, m, args, below, meth, c, b, ca, cA, D, con, Q⟩ := x
  intro O H locs ls hl hP hS
  have hx := O.1
  have hb := O.2.1
  have hts := O.2.2.2.2.1
  have hown := O.2.2.2.1
  have hK : va_K D vwCl (tz cA) s := O.2.2.2.2.2.2.2.2.1
  intro T hT X
  have hz := J_size X hT O.2.2.2.2.2.2.2.2.2.1 hk hP hS
  have hMet := hM l b ca cA D con hN
  have hG : GoodIn gt (Cond.code y1 cc1 nL1 none :: gt) := fun w hw => (List.mem_cons.mp hw).elim (fun q => by rw [q]; exact gt_gt _ hi5) (gt_gt w)
  have hR : (RM d1 M1 N1).frames + 1 ≤ R.frames ∧ 8 + (nL1 + 11) + (RM d1 M1 N1).locals ≤ R.locals := by
    have h1 := O.2.2.2.2.2.2.2.2.2.2.1
    have h2 := O.2.2.2.2.2.2.2.2.2.2.2.1
    show d1 + 1 ≤ R.frames ∧ 8 + (nL1 + 11) + 38 * d1 ≤ R.locals
    omega
  have hB := va_cnB (R := R) (mc := M1) (ms := N1) As.length hts hG rfl rfl rfl (O.2.2.2.2.2.2.2.2.2.2.2.2.2.2.2.1 _ hi1) (hts _ hi4) hdn hR
  have hpc : ∀ U : State, U.heap = H → s.WarmedH U.vm → PC b ca cA D con (.ref a :: As) h (((.ref a :: As)).map (rv b ca)).toArray U := fun U hU hW => ⟨rfl, by rw [hU]; exact hz, by rw [hU]; exact hP, va_K.moved hW.alike hK, CN.moved O.2.2.2.2.2.2.2.2.2.2.2.2.2.2.1 hW.alike hU hS, NW.warm hW hU hS O.2.2.2.2.2.2.2.2.2.2.2.2.2.2.2⟩
  have hcs : k + M1 ≤ R.cells ∧ n + N1 ≤ R.slots := ⟨Nat.le_trans hMM O.2.2.2.2.2.2.2.2.2.2.2.2.1, Nat.le_trans hNN O.2.2.2.2.2.2.2.2.2.2.2.2.2.1⟩
  subst hst
  have hsk : (As.reverse ++ .ref a :: rest).map (rv b ca) = (As.map (rv b ca)).reverse ++ .ref (b + a) :: rest.map (rv b ca) := by simp [rv]
  have hrm : 2 * (F0 m pc ls ((As.reverse ++ .ref a :: rest).map (rv b ca))).monitorRoom + ((rest.map (rv b ca)).map fun v => v.category).sum ≤ 8 := lv_room (by rw [rv_sum]; exact hw)
  obtain ⟨v, st₀, t, T1, L, h0, X1, hL, e1, e2, ⟨⟨r, h1, hv, hp, hz1, hP1, hK1⟩, hF⟩, go⟩ := va_runIN (Ts := gt) (As := As.map (rv b ca)) (rest := rest.map (rv b ca)) (g := F0 m pc ls ((As.reverse ++ .ref a :: rest).map (rv b ca))) ⟨hx, hb, O.2.2.1, hown, hts⟩ hMet ⟨hB, hnm, hts _ hi2⟩ ⟨PC_blind _ _ _ _ _ _ _, hpc⟩ rfl (by rw [List.length_map]) hl.1 hsk hrm hd hcs T hT X
  cases hv
  have hS1 : va_S (fun q => b ≤ q) s.heap T1.heap (locs ++ L) := by
    have hF1 : H.size ≤ t.heap.size := by rw [← h0]; exact hF.1
    refine ⟨Nat.le_trans hS.1 (by rw [e1]; exact hF1), fun q h1 h2 => ?_, fun q hq => ?_⟩
    · rw [e1, hF.2 q (by rw [h0]; exact Nat.lt_of_lt_of_le h1 hS.1) h2, h0]
      exact hS.2.1 q h1 h2
    · rcases List.mem_append.mp hq with h | h
      · exact hS.2.2 q h
      · exact hL q h
  have kk := K r h1 hp O T1.heap (locs ++ L) ls hl (by rw [e1]; exact hP1) hS1 T1 rfl X1
  obtain ⟨t2, a1, b1⟩ := kk
  refine ⟨t2, go t2 ?_, b1⟩
  cases r <;> exact a1
end
end
section
/-! the J layer: small helpers, arraycopy, max, min -/
def bI (b : Bool) : Int32 := if b then 1 else 0
theorem bI_n (b : Bool) : narrow .boolean (.int (bI b)) = .int (bI b) := by cases b <;> rfl
theorem bI_0 {b : Bool} (h : bI b = 0) : b = false := by cases b; rfl; exact absurd h (by decide)
theorem bI_1 {b : Bool} (h : ¬ bI b = 0) : b = true := by cases b; exact absurd rfl h; rfl
theorem vp_c {i : Int32} {n : Nat} (h : decide (¬ (i < 0 ∨ n ≤ i.toNatClampNeg)) = true) : vp_in i n := of_decide_eq_true (p := ¬ (i < 0 ∨ n ≤ i.toNatClampNeg)) h
/-- the forms of a world: some cells set, some behind -/
theorem n1 {h L : List MC} {i : Nat} {c : MC} (hi : i < h.length) : (h.set i c ++ L)[i]? = some c := by
  rw [List.getElem?_append_left (by rw [List.length_set]; exact hi), List.getElem?_set_self hi]
theorem n2 {h L : List MC} {i j : Nat} {c x : MC} (hj : L[j]? = some x) : (h.set i c ++ L)[h.length + j]? = some x := by
  rw [List.getElem?_append_right (by rw [List.length_set]; exact Nat.le_add_right _ _), List.length_set, Nat.add_sub_cancel_left]; exact hj
section
variable {x : JX} {y : MethodName} {cc : ByteArray} {nL : Nat} {rt : Option FieldType} {d M N L0 : Nat} {pc : Nat} {lv : List (Nat × Value)} {st : List Value} {h : List MC} {k n : Nat}
theorem J_w {h2 : List MC} (e : h = h2) (K : J x y cc nL rt d M N L0 pc lv st h2 k n) : J x y cc nL rt d M N L0 pc lv st h k n := by subst e; exact K
theorem J_ci {u v : Int32} (e : u = v) (K : J x y cc nL rt d M N L0 pc lv (.int v :: st) h k n) : J x y cc nL rt d M N L0 pc lv (.int u :: st) h k n := by subst e; exact K
theorem J_cr {u v : Nat} (e : u = v) (K : J x y cc nL rt d M N L0 pc lv (.ref v :: st) h k n) : J x y cc nL rt d M N L0 pc lv (.ref u :: st) h k n := by subst e; exact K
theorem J_topi {u : Int32} (K : ∀ v : Int32, v = u → J x y cc nL rt d M N L0 pc lv (.int v :: st) h k n) : J x y cc nL rt d M N L0 pc lv (.int u :: st) h k n := K u rfl
theorem J_topl {u : Int64} (K : ∀ v : Int64, v = u → J x y cc nL rt d M N L0 pc lv (.long v :: st) h k n) : J x y cc nL rt d M N L0 pc lv (.long u :: st) h k n := K u rfl
theorem J_ifB_eq {u : Bool} {off : Int} {tgt : Nat} (hd : decode cc pc = .ok (.ifCond .eq off, 3)) (ht : (pc : Int) + off = (tgt : Int)) (K1 : u = false → J x y cc nL rt d M N L0 tgt lv st h k n) (K2 : u = true → J x y cc nL rt d M N L0 (pc + 3) lv st h k n) : J x y cc nL rt d M N L0 pc lv (.int (bI u) :: st) h k n := J_if_eq hd ht (fun q => K1 (bI_0 q)) (fun q => K2 (bI_1 q))
theorem J_ifB_ne {u : Bool} {off : Int} {tgt : Nat} (hd : decode cc pc = .ok (.ifCond .ne off, 3)) (ht : (pc : Int) + off = (tgt : Int)) (K1 : u = true → J x y cc nL rt d M N L0 tgt lv st h k n) (K2 : u = false → J x y cc nL rt d M N L0 (pc + 3) lv st h k n) : J x y cc nL rt d M N L0 pc lv (.int (bI u) :: st) h k n := J_if_ne hd ht (fun q => K1 (bI_1 q)) (fun q => K2 (bI_0 q))
theorem J_mmax {ix : Nat} {u v : Int32} (hd : decode cc pc = .ok (.invokestatic ix, 3)) (h1 : Cond.methodLink y.cls ix Lib.Math.max.name ∈ gt) (h2 : Cond.static Lib.Math.max.name ∈ gt) (h3 : Cond.initialized "java/lang/Math" ∈ gt) (h4 : Cond.code Lib.Math.max.name Lib.Math.max.code 2 (some .int) ∈ gt) (hdd : 1 ≤ d) (hw : (st.map fun v => v.category).sum ≤ 8) (hkM : k ≤ M) (hnN : n ≤ N) (K : J x y cc nL rt d M N L0 (pc + 3) lv (.int (if u < v then v else u) :: st) h k n) : J x y cc nL rt d M N L0 pc lv (.int v :: .int u :: st) h k n := by
  obtain ⟨p, l, e, R, s, m, args, below, meth, c, b, ca, cA, D, con, Q⟩ := x
  intro O H locs ls hl hP hS
  have hx := O.1
  have hb := O.2.1
  have hts := O.2.2.2.2.1
  have hown := O.2.2.2.1
  have hK : va_K D vwCl (tz cA) s := O.2.2.2.2.2.2.2.2.1
  refine va_mmax hx hb (by rw [O.2.2.1]; exact hl.1.symm) hown (hts _ h1) (hts _ h2) (hts _ h3) (hts _ h4) (Nat.le_trans hdd O.2.2.2.2.2.2.2.2.2.2.1) ?_ (Nat.le_trans hkM O.2.2.2.2.2.2.2.2.2.2.2.2.1) (Nat.le_trans hnN O.2.2.2.2.2.2.2.2.2.2.2.2.2.1) hd (K O H locs ls hl hP hS)
  rw [rv_sum]
  have h5 := O.2.2.2.2.2.2.2.2.2.2.2.1
  omega
theorem J_mmin {ix : Nat} {u v : Int32} (hd : decode cc pc = .ok (.invokestatic ix, 3)) (h1 : Cond.methodLink y.cls ix Lib.Math.min.name ∈ gt) (h2 : Cond.static Lib.Math.min.name ∈ gt) (h3 : Cond.initialized "java/lang/Math" ∈ gt) (h4 : Cond.code Lib.Math.min.name Lib.Math.min.code 2 (some .int) ∈ gt) (hdd : 1 ≤ d) (hw : (st.map fun v => v.category).sum ≤ 8) (hkM : k ≤ M) (hnN : n ≤ N) (K : J x y cc nL rt d M N L0 (pc + 3) lv (.int (if v < u then v else u) :: st) h k n) : J x y cc nL rt d M N L0 pc lv (.int v :: .int u :: st) h k n := by
  obtain ⟨p, l, e, R, s, m, args, below, meth, c, b, ca, cA, D, con, Q⟩ := x
  intro O H locs ls hl hP hS
  have hx := O.1
  have hb := O.2.1
  have hts := O.2.2.2.2.1
  have hown := O.2.2.2.1
  have hK : va_K D vwCl (tz cA) s := O.2.2.2.2.2.2.2.2.1
  refine va_mmin hx hb (by rw [O.2.2.1]; exact hl.1.symm) hown (hts _ h1) (hts _ h2) (hts _ h3) (hts _ h4) (Nat.le_trans hdd O.2.2.2.2.2.2.2.2.2.2.1) ?_ (Nat.le_trans hkM O.2.2.2.2.2.2.2.2.2.2.2.2.1) (Nat.le_trans hnN O.2.2.2.2.2.2.2.2.2.2.2.2.2.1) hd (K O H locs ls hl hP hS)
  rw [rv_sum]
  have h5 := O.2.2.2.2.2.2.2.2.2.2.2.1
  omega
theorem J_copyi {ix a0 a1 n0 n1 : Nat} {f g : Nat → Int32} {sp dp nn : Int32} {h2 : List MC} (hd : decode cc pc = .ok (.invokestatic ix, 3)) (w1 : Cond.methodLink y.cls ix arraycopyName ∈ gt) (w2 : Cond.native arraycopyName ∈ gt) (w3 : Cond.static arraycopyName ∈ gt) (w4 : Cond.initialized "java/lang/System" ∈ gt) (ha0 : h[a0]? = some (.inl (1, n0, .inl f))) (ha1 : h[a1]? = some (.inl (1, n1, .inl g))) (h1 : ¬ sp < 0) (h3 : ¬ dp < 0) (h4 : ¬ nn < 0) (h5 : sp.toNatClampNeg + nn.toNatClampNeg ≤ n0) (h6 : dp.toNatClampNeg + nn.toNatClampNeg ≤ n1) (hdd : 1 ≤ d) (hw : (st.map fun v => v.category).sum ≤ 8) (h2e : h.set a1 (.inl (1, n1, .inl (va_cpy f g sp.toNatClampNeg dp.toNatClampNeg nn.toNatClampNeg))) = h2) (K : J x y cc nL rt d M N L0 (pc + 3) lv st h2 k n) : J x y cc nL rt d M N L0 pc lv (.int nn :: .int dp :: .ref a1 :: .int sp :: .ref a0 :: st) h k n := by
  obtain ⟨p, l, e, R, s, m, args, below, meth, c, b, ca, cA, D, con, Q⟩ := x
  intro O H locs ls hl hP hS
  have hx := O.1
  have hb := O.2.1
  have hts := O.2.2.2.2.1
  have hown := O.2.2.2.1
  have hK : va_K D vwCl (tz cA) s := O.2.2.2.2.2.2.2.2.1
  refine va_copyi (ty := .int) (A := fun q => b ≤ q) hx hb (by rw [O.2.2.1]; exact hl.1.symm) hown (hts _ w1) (hts _ w2) (hts _ w3) (hts _ w4) hK hP wz_D hS a0 a1 1 1 (wz_get ha0) (wz_get ha1) rfl rfl rfl h1 h3 h4 h5 h6 (fun _ _ => rfl) (Nat.le_trans hdd O.2.2.2.2.2.2.2.2.2.2.1) ?_ hd ?_
  · rw [rv_sum]
    have h7 := O.2.2.2.2.2.2.2.2.2.2.2.1
    have h8 : nativeFrameWords "java/lang/System" "arraycopy" 5 + 11 ≤ 30 := by decide
    omega
  · intro H1 locs1 hP1 _ hS1
    subst h2e
    refine K O H1 locs1 ls hl ?_ hS1
    rw [← wz_set]
    exact hP1
theorem J_copyb {ix a0 a1 n0 n1 : Nat} {f g : Nat → Int32} {sp dp nn : Int32} {h2 : List MC} (hd : decode cc pc = .ok (.invokestatic ix, 3)) (w1 : Cond.methodLink y.cls ix arraycopyName ∈ gt) (w2 : Cond.native arraycopyName ∈ gt) (w3 : Cond.static arraycopyName ∈ gt) (w4 : Cond.initialized "java/lang/System" ∈ gt) (ha0 : h[a0]? = some (.inl (0, n0, .inl f))) (ha1 : h[a1]? = some (.inl (0, n1, .inl g))) (h1 : ¬ sp < 0) (h3 : ¬ dp < 0) (h4 : ¬ nn < 0) (h5 : sp.toNatClampNeg + nn.toNatClampNeg ≤ n0) (h6 : dp.toNatClampNeg + nn.toNatClampNeg ≤ n1) (hfit : ∀ i, i < nn.toNatClampNeg → fits .byte (.int (f (sp.toNatClampNeg + i))) = true) (hdd : 1 ≤ d) (hw : (st.map fun v => v.category).sum ≤ 8) (h2e : h.set a1 (.inl (0, n1, .inl (va_cpy f g sp.toNatClampNeg dp.toNatClampNeg nn.toNatClampNeg))) = h2) (K : J x y cc nL rt d M N L0 (pc + 3) lv st h2 k n) : J x y cc nL rt d M N L0 pc lv (.int nn :: .int dp :: .ref a1 :: .int sp :: .ref a0 :: st) h k n := by
  obtain ⟨p, l, e, R, s, m, args, below, meth, c, b, ca, cA, D, con, Q⟩ := x
  intro O H locs ls hl hP hS
  have hx := O.1
  have hb := O.2.1
  have hts := O.2.2.2.2.1
  have hown := O.2.2.2.1
  have hK : va_K D vwCl (tz cA) s := O.2.2.2.2.2.2.2.2.1
  refine va_copyi (ty := .byte) (A := fun q => b ≤ q) hx hb (by rw [O.2.2.1]; exact hl.1.symm) hown (hts _ w1) (hts _ w2) (hts _ w3) (hts _ w4) hK hP wz_D hS a0 a1 0 0 (wz_get ha0) (wz_get ha1) rfl rfl rfl h1 h3 h4 h5 h6 hfit (Nat.le_trans hdd O.2.2.2.2.2.2.2.2.2.2.1) ?_ hd ?_
  · rw [rv_sum]
    have h7 := O.2.2.2.2.2.2.2.2.2.2.2.1
    have h8 : nativeFrameWords "java/lang/System" "arraycopy" 5 + 11 ≤ 30 := by decide
    omega
  · intro H1 locs1 hP1 _ hS1
    subst h2e
    refine K O H1 locs1 ls hl ?_ hS1
    rw [← wz_set]
    exact hP1
end
end
section
/-! the J layer: static arrays, String constants, chars, references returned -/
section
variable {x : JX} {y : MethodName} {cc : ByteArray} {nL : Nat} {rt : Option FieldType} {d M N L0 : Nat} {pc : Nat} {lv : List (Nat × Value)} {st : List Value} {h : List MC} {k n : Nat}
theorem J_ldcw {i : Nat} {v : Int32} (hd : decode cc pc = .ok (.ldc_w i, 3)) (hc : Cond.constant y.cls i v ∈ gt) (K : J x y cc nL rt d M N L0 (pc + 3) lv (.int v :: st) h k n) : J x y cc nL rt d M N L0 pc lv st h k n := by
  obtain ⟨p, l, e, R, s, m, args, below, meth, c, b, ca, cA, D, con, Q⟩ := x
  intro O H locs ls hl hP hS
  have hx := O.1
  have hb := O.2.1
  have hts := O.2.2.2.2.1
  have hown := O.2.2.2.1
  have hK : va_K D vwCl (tz cA) s := O.2.2.2.2.2.2.2.2.1
  exact lv_ldcw hx hb hown (hts _ hc) hd (K O H locs ls hl hP hS)
theorem J_i2c {u z : Int32} (hd : decode cc pc = .ok (.i2c, 1)) (hv : (u.toUInt32 % 65536).toInt32 = z) (K : J x y cc nL rt d M N L0 (pc + 1) lv (.int z :: st) h k n) : J x y cc nL rt d M N L0 pc lv (.int u :: st) h k n := by
  obtain ⟨p, l, e, R, s, m, args, below, meth, c, b, ca, cA, D, con, Q⟩ := x
  intro O H locs ls hl hP hS
  have hx := O.1
  have hb := O.2.1
  have hts := O.2.2.2.2.1
  have hown := O.2.2.2.1
  have hK : va_K D vwCl (tz cA) s := O.2.2.2.2.2.2.2.2.1
  exact lv_i2c hx hb hd hv (K O H locs ls hl hP hS)
theorem J_gets {i ix : Nat} {nm : String} (hd : decode cc pc = .ok (.getstatic ix, 3)) (hi : i < 6) (hnm : sNm i = nm) (hlk : Cond.fieldLink y.cls ix RX3 nm "[I" ∈ gt) (K : J x y cc nL rt d M N L0 (pc + 3) lv (.retAddr (1 + i) :: st) h k n) : J x y cc nL rt d M N L0 pc lv st h k n := by
  subst hnm
  obtain ⟨p, l, e, R, s, m, args, below, meth, c, b, ca, cA, D, con, Q⟩ := x
  intro O H locs ls hl hP hS
  have hx := O.1
  have hb := O.2.1
  have hts := O.2.2.2.2.1
  have hown := O.2.2.2.1
  have hK : va_K D vwCl (tz cA) s := O.2.2.2.2.2.2.2.2.1
  exact va_gets hx hb ((O.2.2.2.2.2.2.2.2.2.2.2.2.2.2.2.2.1 i hi).1) hS hown (hts _ hlk) (fun _ q => q) hd (K O H locs ls hl hP hS)
theorem J_getsC {ix : Nat} (hd : decode cc pc = .ok (.getstatic ix, 3)) (hlk : Cond.fieldLink y.cls ix "java/lang/String" "COMPACT_STRINGS" "Z" ∈ gt) (K : J x y cc nL rt d M N L0 (pc + 3) lv (.int 1 :: st) h k n) : J x y cc nL rt d M N L0 pc lv st h k n := by
  obtain ⟨p, l, e, R, s, m, args, below, meth, c, b, ca, cA, D, con, Q⟩ := x
  intro O H locs ls hl hP hS
  have hx := O.1
  have hb := O.2.1
  have hts := O.2.2.2.2.1
  have hown := O.2.2.2.1
  have hK : va_K D vwCl (tz cA) s := O.2.2.2.2.2.2.2.2.1
  exact va_gets hx hb (O.2.2.2.2.2.2.2.2.2.2.2.2.2.2.2.2.2.1) hS hown (hts _ hlk) (fun _ q => q) hd (K O H locs ls hl hP hS)
theorem J_getsQ {ix : Nat} (hd : decode cc pc = .ok (.getstatic ix, 3)) (hlk : Cond.fieldLink y.cls ix "jdk/internal/util/Preconditions" "SIOOBE_FORMATTER" "Ljava/util/function/BiFunction;" ∈ gt) (K1 : J x y cc nL rt d M N L0 (pc + 3) lv (.null :: st) h k n) (K2 : J x y cc nL rt d M N L0 (pc + 3) lv (.retAddr 60 :: st) h k n) : J x y cc nL rt d M N L0 pc lv st h k n := by
  obtain ⟨p, l, e, R, s, m, args, below, meth, c, b, ca, cA, D, con, Q⟩ := x
  intro O H locs ls hl hP hS
  have hx := O.1
  have hb := O.2.1
  have hts := O.2.2.2.2.1
  have hown := O.2.2.2.1
  have hK : va_K D vwCl (tz cA) s := O.2.2.2.2.2.2.2.2.1
  rcases O.2.2.2.2.2.2.2.2.2.2.2.2.2.2.2.2.2.2.2.2 with hz | hz
  · exact va_gets hx hb hz hS hown (hts _ hlk) (fun _ q => q) hd (K1 O H locs ls hl hP hS)
  · exact va_gets hx hb hz hS hown (hts _ hlk) (fun _ q => q) hd (K2 O H locs ls hl hP hS)
theorem J_sald {i : Nat} {j : Int32} (hd : decode cc pc = .ok (.iaload, 1)) (hi : i < 6) (hj : vp_in j (sAr i).length) (K : J x y cc nL rt d M N L0 (pc + 1) lv (.int ((sAr i).getD j.toNatClampNeg 0) :: st) h k n) : J x y cc nL rt d M N L0 pc lv (.int j :: .retAddr (1 + i) :: st) h k n := by
  obtain ⟨p, l, e, R, s, m, args, below, meth, c, b, ca, cA, D, con, Q⟩ := x
  intro O H locs ls hl hP hS
  have hx := O.1
  have hb := O.2.1
  have hts := O.2.2.2.2.1
  have hown := O.2.2.2.1
  have hK : va_K D vwCl (tz cA) s := O.2.2.2.2.2.2.2.2.1
  exact va_ti hx hb ((O.2.2.2.2.2.2.2.2.2.2.2.2.2.2.2.2.1 i hi).2) hS hj rfl hd (K O H locs ls hl hP hS)
theorem J_ldcS {i ix : Nat} (hd : decode cc pc = .ok (.ldc ix, 2)) (hi : i < 18) (hix : ix = 120 + 2 * i) (hy : y.cls = RX3) (K : J x y cc nL rt d M N L0 (pc + 2) lv (.retAddr (10 + i) :: st) h k n) : J x y cc nL rt d M N L0 pc lv st h k n := by
  subst hix
  obtain ⟨p, l, e, R, s, m, args, below, meth, c, b, ca, cA, D, con, Q⟩ := x
  intro O H locs ls hl hP hS
  have hx := O.1
  have hb := O.2.1
  have hts := O.2.2.2.2.1
  have hown := O.2.2.2.1
  have hK : va_K D vwCl (tz cA) s := O.2.2.2.2.2.2.2.2.1
  exact va_ldcS hx hb (own := RX3) (tx := sTx i) (by rw [← hy]; exact hown) (O.2.2.2.2.2.2.2.2.2.2.2.2.2.2.2.2.2.2.2.1 i hi) hd (K O H locs ls hl hP hS)
theorem J_sval {i ix : Nat} (hd : decode cc pc = .ok (.getfield ix, 3)) (hi : i < 18) (hlk : Cond.fieldLink y.cls ix "java/lang/String" "value" "[B" ∈ gt) (K : J x y cc nL rt d M N L0 (pc + 3) lv (.retAddr (40 + i) :: st) h k n) : J x y cc nL rt d M N L0 pc lv (.retAddr (10 + i) :: st) h k n := by
  obtain ⟨p, l, e, R, s, m, args, below, meth, c, b, ca, cA, D, con, Q⟩ := x
  intro O H locs ls hl hP hS
  have hx := O.1
  have hb := O.2.1
  have hts := O.2.2.2.2.1
  have hown := O.2.2.2.1
  have hK : va_K D vwCl (tz cA) s := O.2.2.2.2.2.2.2.2.1
  exact vk_getf hx hb ((O.2.2.2.2.2.2.2.2.2.2.2.2.2.2.2.2.2.2.1.1 i hi).2.2.1) hS hown (hts _ hlk) (fun _ q => q) hd (K O H locs ls hl hP hS)
theorem J_scod {i ix : Nat} (hd : decode cc pc = .ok (.getfield ix, 3)) (hi : i < 18) (hlk : Cond.fieldLink y.cls ix "java/lang/String" "coder" "B" ∈ gt) (K : J x y cc nL rt d M N L0 (pc + 3) lv (.int 0 :: st) h k n) : J x y cc nL rt d M N L0 pc lv (.retAddr (10 + i) :: st) h k n := by
  obtain ⟨p, l, e, R, s, m, args, below, meth, c, b, ca, cA, D, con, Q⟩ := x
  intro O H locs ls hl hP hS
  have hx := O.1
  have hb := O.2.1
  have hts := O.2.2.2.2.1
  have hown := O.2.2.2.1
  have hK : va_K D vwCl (tz cA) s := O.2.2.2.2.2.2.2.2.1
  exact vk_getf hx hb ((O.2.2.2.2.2.2.2.2.2.2.2.2.2.2.2.2.2.2.1.1 i hi).2.1) hS hown (hts _ hlk) (fun _ q => q) hd (K O H locs ls hl hP hS)
theorem J_sbld {i : Nat} {j : Int32} (hd : decode cc pc = .ok (.baload, 1)) (hi : i < 18) (hj : vp_in j (sLn.getD i 0)) (K : J x y cc nL rt d M N L0 (pc + 1) lv (.int ((sBy.getD i []).getD j.toNatClampNeg 0) :: st) h k n) : J x y cc nL rt d M N L0 pc lv (.int j :: .retAddr (40 + i) :: st) h k n := by
  obtain ⟨p, l, e, R, s, m, args, below, meth, c, b, ca, cA, D, con, Q⟩ := x
  intro O H locs ls hl hP hS
  have hx := O.1
  have hb := O.2.1
  have hts := O.2.2.2.2.1
  have hown := O.2.2.2.1
  have hK : va_K D vwCl (tz cA) s := O.2.2.2.2.2.2.2.2.1
  exact va_tb hx hb ((O.2.2.2.2.2.2.2.2.2.2.2.2.2.2.2.2.2.2.1.1 i hi).2.2.2) hS hj rfl hd (K O H locs ls hl hP hS)
theorem J_sbln {i : Nat} (hd : decode cc pc = .ok (.arraylength, 1)) (hi : i < 18) (K : J x y cc nL rt d M N L0 (pc + 1) lv (.int (Int32.ofNat (sLn.getD i 0)) :: st) h k n) : J x y cc nL rt d M N L0 pc lv (.retAddr (40 + i) :: st) h k n := by
  obtain ⟨p, l, e, R, s, m, args, below, meth, c, b, ca, cA, D, con, Q⟩ := x
  intro O H locs ls hl hP hS
  have hx := O.1
  have hb := O.2.1
  have hts := O.2.2.2.2.1
  have hown := O.2.2.2.1
  have hK : va_K D vwCl (tz cA) s := O.2.2.2.2.2.2.2.2.1
  exact va_tlen hx hb ((O.2.2.2.2.2.2.2.2.2.2.2.2.2.2.2.2.2.2.1.1 i hi).2.2.2) hS rfl hd (K O H locs ls hl hP hS)
theorem J_aretC {con0 : JK} {Post : Option Value → List MC → Prop} {q : Nat} {nm : String} (hq : JQ x con0 M N Post) (hd : decode cc pc = .ok (.areturn, 1)) (hr : rt = some (.object nm)) (hk : k + L0 = h.length) (hkM : k ≤ M) (hnN : n ≤ N) (hp : Post (some (.retAddr q)) h) : J x y cc nL rt d M N L0 pc lv [.retAddr q] h k n := by
  obtain ⟨p, l, e, R, s, m, args, below, meth, c, b, ca, cA, D, con, Q⟩ := x
  intro O H locs ls hl hP hS
  have hx := O.1
  have hb := O.2.1
  have hts := O.2.2.2.2.1
  have hown := O.2.2.2.1
  have hK : va_K D vwCl (tz cA) s := O.2.2.2.2.2.2.2.2.1
  have hlk : meth.locks = false := O.2.2.2.2.2.2.1
  refine J_fin hq O.2.2.2.2.2.2.2.2.2.1 hk hkM hnN hK hP hS hp (fun qq => ?_)
  exact W.aret hx hb (O.2.2.2.2.2.1.trans hr) (Or.inl ⟨nm, rfl⟩) (Or.inr ⟨_, rfl⟩) qq hS.2.2 hd hlk
theorem J_bret {con0 : JK} {Post : Option Value → List MC → Prop} {v : Int32} (hq : JQ x con0 M N Post) (hd : decode cc pc = .ok (.ireturn, 1)) (hr : rt = some .byte) (hn : narrow .byte (.int v) = .int v) (hk : k + L0 = h.length) (hkM : k ≤ M) (hnN : n ≤ N) (hp : Post (some (.int v)) h) : J x y cc nL rt d M N L0 pc lv [.int v] h k n := by
  obtain ⟨p, l, e, R, s, m, args, below, meth, c, b, ca, cA, D, con, Q⟩ := x
  intro O H locs ls hl hP hS
  have hx := O.1
  have hb := O.2.1
  have hts := O.2.2.2.2.1
  have hown := O.2.2.2.1
  have hK : va_K D vwCl (tz cA) s := O.2.2.2.2.2.2.2.2.1
  have hlk : meth.locks = false := O.2.2.2.2.2.2.1
  refine J_fin hq O.2.2.2.2.2.2.2.2.2.1 hk hkM hnN hK hP hS hp (fun qq => ?_)
  exact W.zret hx hb (O.2.2.2.2.2.1.trans hr) hn qq hS.2.2 hd hlk
theorem J_cret {con0 : JK} {Post : Option Value → List MC → Prop} {v : Int32} (hq : JQ x con0 M N Post) (hd : decode cc pc = .ok (.ireturn, 1)) (hr : rt = some .char) (hn : narrow .char (.int v) = .int v) (hk : k + L0 = h.length) (hkM : k ≤ M) (hnN : n ≤ N) (hp : Post (some (.int v)) h) : J x y cc nL rt d M N L0 pc lv [.int v] h k n := by
  obtain ⟨p, l, e, R, s, m, args, below, meth, c, b, ca, cA, D, con, Q⟩ := x
  intro O H locs ls hl hP hS
  have hx := O.1
  have hb := O.2.1
  have hts := O.2.2.2.2.1
  have hown := O.2.2.2.1
  have hK : va_K D vwCl (tz cA) s := O.2.2.2.2.2.2.2.2.1
  have hlk : meth.locks = false := O.2.2.2.2.2.2.1
  refine J_fin hq O.2.2.2.2.2.2.2.2.2.1 hk hkM hnN hK hP hS hp (fun qq => ?_)
  exact W.zret hx hb (O.2.2.2.2.2.1.trans hr) hn qq hS.2.2 hd hlk
end
end
section
/-! decode rows by opcodes -/
theorem u1_at {code : ByteArray} {p : Nat} {b : UInt8} (h : code.data.toList[p]? = some b) : (Jvm.ClassFile.Reader.u1 : Jvm.ClassFile.Decoder Nat) code p = .ok (b.toNat, p + 1) := by
  obtain ⟨h1, h2⟩ := List.getElem?_eq_some_iff.mp h
  have hs : p < code.size := h1
  have hb : code[p]'hs = b := h2
  have e : (Jvm.ClassFile.Reader.u1 : Jvm.ClassFile.Decoder Nat) code p = (if h : p < code.size then (do set (p + 1); Pure.pure (code[p]'h).toNat : Jvm.ClassFile.Decoder Nat) else throw (Jvm.ClassFile.HasTruncated.truncated p)) code p := rfl
  rw [e, dif_pos hs, hb]
  rfl
theorem u2_at {code : ByteArray} {p : Nat} {a b : UInt8} (h : code.data.toList[p]? = some a) (h2 : code.data.toList[p + 1]? = some b) : (Jvm.ClassFile.Reader.u2 : Jvm.ClassFile.Decoder Nat) code p = .ok (a.toNat * 256 + b.toNat, p + 2) := by
  unfold Jvm.ClassFile.Reader.u2
  show Except.bind ((Jvm.ClassFile.Reader.u1 : Jvm.ClassFile.Decoder Nat) code p) _ = _
  rw [u1_at h]
  show Except.bind ((Jvm.ClassFile.Reader.u1 : Jvm.ClassFile.Decoder Nat) code (p + 1)) _ = _
  rw [u1_at h2]
  rfl
theorem s1_at {code : ByteArray} {p : Nat} {a : UInt8} (h : code.data.toList[p]? = some a) : (Jvm.ClassFile.Reader.s1 : Jvm.ClassFile.Decoder Int) code p = .ok (Jvm.ClassFile.Reader.signed 8 a.toNat, p + 1) := by
  unfold Jvm.ClassFile.Reader.s1
  show Except.bind ((Jvm.ClassFile.Reader.u1 : Jvm.ClassFile.Decoder Nat) code p) _ = _
  rw [u1_at h]
  rfl
theorem s2_at {code : ByteArray} {p : Nat} {a b : UInt8} (h : code.data.toList[p]? = some a) (h2 : code.data.toList[p + 1]? = some b) : (Jvm.ClassFile.Reader.s2 : Jvm.ClassFile.Decoder Int) code p = .ok (Jvm.ClassFile.Reader.signed 16 (a.toNat * 256 + b.toNat), p + 2) := by
  unfold Jvm.ClassFile.Reader.s2
  show Except.bind ((Jvm.ClassFile.Reader.u2 : Jvm.ClassFile.Decoder Nat) code p) _ = _
  rw [u2_at h h2]
  rfl
theorem sg_p {n : Nat} {m : Int} (h : Nat.ble n 32767 = true) (e : Int.ofNat n = m) : Jvm.ClassFile.Reader.signed 16 n = m := by
  have h1 := Nat.le_of_ble_eq_true h
  unfold Jvm.ClassFile.Reader.signed
  rw [if_pos (show n < 2 ^ (16 - 1) by omega)]
  exact e
theorem sg_n {n k : Nat} {m : Int} (h : Nat.ble 32768 n = true) (hk : n + k = 65536) (e : -(k : Int) = m) : Jvm.ClassFile.Reader.signed 16 n = m := by
  have h1 := Nat.le_of_ble_eq_true h
  unfold Jvm.ClassFile.Reader.signed
  rw [if_neg (show ¬ n < 2 ^ (16 - 1) by omega), ← e]
  have e2 : ((2 ^ 16 : Nat) : Int) = 65536 := rfl
  rw [e2]
  omega
theorem dc_of {code : ByteArray} {p n : Nat} {i : Instr} (h : Jvm.ClassFile.Decoder.instr p code p = .ok (i, p + n)) : decode code p = .ok (i, n) := by
  unfold decode
  show Except.bind (Jvm.ClassFile.Decoder.instr p code p) _ = _
  rw [h]
  show Except.ok (_, p + n - p) = _
  rw [Nat.add_sub_cancel_left]
theorem dc_46 {code : ByteArray} {p : Nat} (h : code.data.toList[p]? = some 46) : decode code p = .ok (.iaload, 1) := by
  have hu := u1_at h
  refine dc_of ?_
  unfold Jvm.ClassFile.Decoder.instr
  show Except.bind ((Jvm.ClassFile.Reader.u1 : Jvm.ClassFile.Decoder Nat) code p) _ = _
  rw [hu]
  rfl
theorem dc_47 {code : ByteArray} {p : Nat} (h : code.data.toList[p]? = some 47) : decode code p = .ok (.laload, 1) := by
  have hu := u1_at h
  refine dc_of ?_
  unfold Jvm.ClassFile.Decoder.instr
  show Except.bind ((Jvm.ClassFile.Reader.u1 : Jvm.ClassFile.Decoder Nat) code p) _ = _
  rw [hu]
  rfl
theorem dc_50 {code : ByteArray} {p : Nat} (h : code.data.toList[p]? = some 50) : decode code p = .ok (.aaload, 1) := by
  have hu := u1_at h
  refine dc_of ?_
  unfold Jvm.ClassFile.Decoder.instr
  show Except.bind ((Jvm.ClassFile.Reader.u1 : Jvm.ClassFile.Decoder Nat) code p) _ = _
  rw [hu]
  rfl
theorem dc_51 {code : ByteArray} {p : Nat} (h : code.data.toList[p]? = some 51) : decode code p = .ok (.baload, 1) := by
  have hu := u1_at h
  refine dc_of ?_
  unfold Jvm.ClassFile.Decoder.instr
  show Except.bind ((Jvm.ClassFile.Reader.u1 : Jvm.ClassFile.Decoder Nat) code p) _ = _
  rw [hu]
  rfl
theorem dc_79 {code : ByteArray} {p : Nat} (h : code.data.toList[p]? = some 79) : decode code p = .ok (.iastore, 1) := by
  have hu := u1_at h
  refine dc_of ?_
  unfold Jvm.ClassFile.Decoder.instr
  show Except.bind ((Jvm.ClassFile.Reader.u1 : Jvm.ClassFile.Decoder Nat) code p) _ = _
  rw [hu]
  rfl
theorem dc_80 {code : ByteArray} {p : Nat} (h : code.data.toList[p]? = some 80) : decode code p = .ok (.lastore, 1) := by
  have hu := u1_at h
  refine dc_of ?_
  unfold Jvm.ClassFile.Decoder.instr
  show Except.bind ((Jvm.ClassFile.Reader.u1 : Jvm.ClassFile.Decoder Nat) code p) _ = _
  rw [hu]
  rfl
theorem dc_84 {code : ByteArray} {p : Nat} (h : code.data.toList[p]? = some 84) : decode code p = .ok (.bastore, 1) := by
  have hu := u1_at h
  refine dc_of ?_
  unfold Jvm.ClassFile.Decoder.instr
  show Except.bind ((Jvm.ClassFile.Reader.u1 : Jvm.ClassFile.Decoder Nat) code p) _ = _
  rw [hu]
  rfl
theorem dc_87 {code : ByteArray} {p : Nat} (h : code.data.toList[p]? = some 87) : decode code p = .ok (.pop, 1) := by
  have hu := u1_at h
  refine dc_of ?_
  unfold Jvm.ClassFile.Decoder.instr
  show Except.bind ((Jvm.ClassFile.Reader.u1 : Jvm.ClassFile.Decoder Nat) code p) _ = _
  rw [hu]
  rfl
theorem dc_88 {code : ByteArray} {p : Nat} (h : code.data.toList[p]? = some 88) : decode code p = .ok (.pop2, 1) := by
  have hu := u1_at h
  refine dc_of ?_
  unfold Jvm.ClassFile.Decoder.instr
  show Except.bind ((Jvm.ClassFile.Reader.u1 : Jvm.ClassFile.Decoder Nat) code p) _ = _
  rw [hu]
  rfl
theorem dc_89 {code : ByteArray} {p : Nat} (h : code.data.toList[p]? = some 89) : decode code p = .ok (.dup, 1) := by
  have hu := u1_at h
  refine dc_of ?_
  unfold Jvm.ClassFile.Decoder.instr
  show Except.bind ((Jvm.ClassFile.Reader.u1 : Jvm.ClassFile.Decoder Nat) code p) _ = _
  rw [hu]
  rfl
theorem dc_92 {code : ByteArray} {p : Nat} (h : code.data.toList[p]? = some 92) : decode code p = .ok (.dup2, 1) := by
  have hu := u1_at h
  refine dc_of ?_
  unfold Jvm.ClassFile.Decoder.instr
  show Except.bind ((Jvm.ClassFile.Reader.u1 : Jvm.ClassFile.Decoder Nat) code p) _ = _
  rw [hu]
  rfl
theorem dc_96 {code : ByteArray} {p : Nat} (h : code.data.toList[p]? = some 96) : decode code p = .ok (.iadd, 1) := by
  have hu := u1_at h
  refine dc_of ?_
  unfold Jvm.ClassFile.Decoder.instr
  show Except.bind ((Jvm.ClassFile.Reader.u1 : Jvm.ClassFile.Decoder Nat) code p) _ = _
  rw [hu]
  rfl
theorem dc_97 {code : ByteArray} {p : Nat} (h : code.data.toList[p]? = some 97) : decode code p = .ok (.ladd, 1) := by
  have hu := u1_at h
  refine dc_of ?_
  unfold Jvm.ClassFile.Decoder.instr
  show Except.bind ((Jvm.ClassFile.Reader.u1 : Jvm.ClassFile.Decoder Nat) code p) _ = _
  rw [hu]
  rfl
theorem dc_100 {code : ByteArray} {p : Nat} (h : code.data.toList[p]? = some 100) : decode code p = .ok (.isub, 1) := by
  have hu := u1_at h
  refine dc_of ?_
  unfold Jvm.ClassFile.Decoder.instr
  show Except.bind ((Jvm.ClassFile.Reader.u1 : Jvm.ClassFile.Decoder Nat) code p) _ = _
  rw [hu]
  rfl
theorem dc_101 {code : ByteArray} {p : Nat} (h : code.data.toList[p]? = some 101) : decode code p = .ok (.lsub, 1) := by
  have hu := u1_at h
  refine dc_of ?_
  unfold Jvm.ClassFile.Decoder.instr
  show Except.bind ((Jvm.ClassFile.Reader.u1 : Jvm.ClassFile.Decoder Nat) code p) _ = _
  rw [hu]
  rfl
theorem dc_104 {code : ByteArray} {p : Nat} (h : code.data.toList[p]? = some 104) : decode code p = .ok (.imul, 1) := by
  have hu := u1_at h
  refine dc_of ?_
  unfold Jvm.ClassFile.Decoder.instr
  show Except.bind ((Jvm.ClassFile.Reader.u1 : Jvm.ClassFile.Decoder Nat) code p) _ = _
  rw [hu]
  rfl
theorem dc_105 {code : ByteArray} {p : Nat} (h : code.data.toList[p]? = some 105) : decode code p = .ok (.lmul, 1) := by
  have hu := u1_at h
  refine dc_of ?_
  unfold Jvm.ClassFile.Decoder.instr
  show Except.bind ((Jvm.ClassFile.Reader.u1 : Jvm.ClassFile.Decoder Nat) code p) _ = _
  rw [hu]
  rfl
theorem dc_108 {code : ByteArray} {p : Nat} (h : code.data.toList[p]? = some 108) : decode code p = .ok (.idiv, 1) := by
  have hu := u1_at h
  refine dc_of ?_
  unfold Jvm.ClassFile.Decoder.instr
  show Except.bind ((Jvm.ClassFile.Reader.u1 : Jvm.ClassFile.Decoder Nat) code p) _ = _
  rw [hu]
  rfl
theorem dc_109 {code : ByteArray} {p : Nat} (h : code.data.toList[p]? = some 109) : decode code p = .ok (.ldiv, 1) := by
  have hu := u1_at h
  refine dc_of ?_
  unfold Jvm.ClassFile.Decoder.instr
  show Except.bind ((Jvm.ClassFile.Reader.u1 : Jvm.ClassFile.Decoder Nat) code p) _ = _
  rw [hu]
  rfl
theorem dc_112 {code : ByteArray} {p : Nat} (h : code.data.toList[p]? = some 112) : decode code p = .ok (.irem, 1) := by
  have hu := u1_at h
  refine dc_of ?_
  unfold Jvm.ClassFile.Decoder.instr
  show Except.bind ((Jvm.ClassFile.Reader.u1 : Jvm.ClassFile.Decoder Nat) code p) _ = _
  rw [hu]
  rfl
theorem dc_113 {code : ByteArray} {p : Nat} (h : code.data.toList[p]? = some 113) : decode code p = .ok (.lrem, 1) := by
  have hu := u1_at h
  refine dc_of ?_
  unfold Jvm.ClassFile.Decoder.instr
  show Except.bind ((Jvm.ClassFile.Reader.u1 : Jvm.ClassFile.Decoder Nat) code p) _ = _
  rw [hu]
  rfl
theorem dc_120 {code : ByteArray} {p : Nat} (h : code.data.toList[p]? = some 120) : decode code p = .ok (.ishl, 1) := by
  have hu := u1_at h
  refine dc_of ?_
  unfold Jvm.ClassFile.Decoder.instr
  show Except.bind ((Jvm.ClassFile.Reader.u1 : Jvm.ClassFile.Decoder Nat) code p) _ = _
  rw [hu]
  rfl
theorem dc_121 {code : ByteArray} {p : Nat} (h : code.data.toList[p]? = some 121) : decode code p = .ok (.lshl, 1) := by
  have hu := u1_at h
  refine dc_of ?_
  unfold Jvm.ClassFile.Decoder.instr
  show Except.bind ((Jvm.ClassFile.Reader.u1 : Jvm.ClassFile.Decoder Nat) code p) _ = _
  rw [hu]
  rfl
theorem dc_122 {code : ByteArray} {p : Nat} (h : code.data.toList[p]? = some 122) : decode code p = .ok (.ishr, 1) := by
  have hu := u1_at h
  refine dc_of ?_
  unfold Jvm.ClassFile.Decoder.instr
  show Except.bind ((Jvm.ClassFile.Reader.u1 : Jvm.ClassFile.Decoder Nat) code p) _ = _
  rw [hu]
  rfl
theorem dc_124 {code : ByteArray} {p : Nat} (h : code.data.toList[p]? = some 124) : decode code p = .ok (.iushr, 1) := by
  have hu := u1_at h
  refine dc_of ?_
  unfold Jvm.ClassFile.Decoder.instr
  show Except.bind ((Jvm.ClassFile.Reader.u1 : Jvm.ClassFile.Decoder Nat) code p) _ = _
  rw [hu]
  rfl
theorem dc_126 {code : ByteArray} {p : Nat} (h : code.data.toList[p]? = some 126) : decode code p = .ok (.iand, 1) := by
  have hu := u1_at h
  refine dc_of ?_
  unfold Jvm.ClassFile.Decoder.instr
  show Except.bind ((Jvm.ClassFile.Reader.u1 : Jvm.ClassFile.Decoder Nat) code p) _ = _
  rw [hu]
  rfl
theorem dc_128 {code : ByteArray} {p : Nat} (h : code.data.toList[p]? = some 128) : decode code p = .ok (.ior, 1) := by
  have hu := u1_at h
  refine dc_of ?_
  unfold Jvm.ClassFile.Decoder.instr
  show Except.bind ((Jvm.ClassFile.Reader.u1 : Jvm.ClassFile.Decoder Nat) code p) _ = _
  rw [hu]
  rfl
theorem dc_129 {code : ByteArray} {p : Nat} (h : code.data.toList[p]? = some 129) : decode code p = .ok (.lor, 1) := by
  have hu := u1_at h
  refine dc_of ?_
  unfold Jvm.ClassFile.Decoder.instr
  show Except.bind ((Jvm.ClassFile.Reader.u1 : Jvm.ClassFile.Decoder Nat) code p) _ = _
  rw [hu]
  rfl
theorem dc_130 {code : ByteArray} {p : Nat} (h : code.data.toList[p]? = some 130) : decode code p = .ok (.ixor, 1) := by
  have hu := u1_at h
  refine dc_of ?_
  unfold Jvm.ClassFile.Decoder.instr
  show Except.bind ((Jvm.ClassFile.Reader.u1 : Jvm.ClassFile.Decoder Nat) code p) _ = _
  rw [hu]
  rfl
theorem dc_133 {code : ByteArray} {p : Nat} (h : code.data.toList[p]? = some 133) : decode code p = .ok (.i2l, 1) := by
  have hu := u1_at h
  refine dc_of ?_
  unfold Jvm.ClassFile.Decoder.instr
  show Except.bind ((Jvm.ClassFile.Reader.u1 : Jvm.ClassFile.Decoder Nat) code p) _ = _
  rw [hu]
  rfl
theorem dc_136 {code : ByteArray} {p : Nat} (h : code.data.toList[p]? = some 136) : decode code p = .ok (.l2i, 1) := by
  have hu := u1_at h
  refine dc_of ?_
  unfold Jvm.ClassFile.Decoder.instr
  show Except.bind ((Jvm.ClassFile.Reader.u1 : Jvm.ClassFile.Decoder Nat) code p) _ = _
  rw [hu]
  rfl
theorem dc_145 {code : ByteArray} {p : Nat} (h : code.data.toList[p]? = some 145) : decode code p = .ok (.i2b, 1) := by
  have hu := u1_at h
  refine dc_of ?_
  unfold Jvm.ClassFile.Decoder.instr
  show Except.bind ((Jvm.ClassFile.Reader.u1 : Jvm.ClassFile.Decoder Nat) code p) _ = _
  rw [hu]
  rfl
theorem dc_146 {code : ByteArray} {p : Nat} (h : code.data.toList[p]? = some 146) : decode code p = .ok (.i2c, 1) := by
  have hu := u1_at h
  refine dc_of ?_
  unfold Jvm.ClassFile.Decoder.instr
  show Except.bind ((Jvm.ClassFile.Reader.u1 : Jvm.ClassFile.Decoder Nat) code p) _ = _
  rw [hu]
  rfl
theorem dc_148 {code : ByteArray} {p : Nat} (h : code.data.toList[p]? = some 148) : decode code p = .ok (.lcmp, 1) := by
  have hu := u1_at h
  refine dc_of ?_
  unfold Jvm.ClassFile.Decoder.instr
  show Except.bind ((Jvm.ClassFile.Reader.u1 : Jvm.ClassFile.Decoder Nat) code p) _ = _
  rw [hu]
  rfl
theorem dc_172 {code : ByteArray} {p : Nat} (h : code.data.toList[p]? = some 172) : decode code p = .ok (.ireturn, 1) := by
  have hu := u1_at h
  refine dc_of ?_
  unfold Jvm.ClassFile.Decoder.instr
  show Except.bind ((Jvm.ClassFile.Reader.u1 : Jvm.ClassFile.Decoder Nat) code p) _ = _
  rw [hu]
  rfl
theorem dc_173 {code : ByteArray} {p : Nat} (h : code.data.toList[p]? = some 173) : decode code p = .ok (.lreturn, 1) := by
  have hu := u1_at h
  refine dc_of ?_
  unfold Jvm.ClassFile.Decoder.instr
  show Except.bind ((Jvm.ClassFile.Reader.u1 : Jvm.ClassFile.Decoder Nat) code p) _ = _
  rw [hu]
  rfl
theorem dc_176 {code : ByteArray} {p : Nat} (h : code.data.toList[p]? = some 176) : decode code p = .ok (.areturn, 1) := by
  have hu := u1_at h
  refine dc_of ?_
  unfold Jvm.ClassFile.Decoder.instr
  show Except.bind ((Jvm.ClassFile.Reader.u1 : Jvm.ClassFile.Decoder Nat) code p) _ = _
  rw [hu]
  rfl
theorem dc_177 {code : ByteArray} {p : Nat} (h : code.data.toList[p]? = some 177) : decode code p = .ok (.return_, 1) := by
  have hu := u1_at h
  refine dc_of ?_
  unfold Jvm.ClassFile.Decoder.instr
  show Except.bind ((Jvm.ClassFile.Reader.u1 : Jvm.ClassFile.Decoder Nat) code p) _ = _
  rw [hu]
  rfl
theorem dc_190 {code : ByteArray} {p : Nat} (h : code.data.toList[p]? = some 190) : decode code p = .ok (.arraylength, 1) := by
  have hu := u1_at h
  refine dc_of ?_
  unfold Jvm.ClassFile.Decoder.instr
  show Except.bind ((Jvm.ClassFile.Reader.u1 : Jvm.ClassFile.Decoder Nat) code p) _ = _
  rw [hu]
  rfl
theorem dc_2 {code : ByteArray} {p : Nat} (h : code.data.toList[p]? = some 2) : decode code p = .ok (.iconst (-1), 1) := by
  have hu := u1_at h
  refine dc_of ?_
  unfold Jvm.ClassFile.Decoder.instr
  show Except.bind ((Jvm.ClassFile.Reader.u1 : Jvm.ClassFile.Decoder Nat) code p) _ = _
  rw [hu]
  rfl
theorem dc_3 {code : ByteArray} {p : Nat} (h : code.data.toList[p]? = some 3) : decode code p = .ok (.iconst 0, 1) := by
  have hu := u1_at h
  refine dc_of ?_
  unfold Jvm.ClassFile.Decoder.instr
  show Except.bind ((Jvm.ClassFile.Reader.u1 : Jvm.ClassFile.Decoder Nat) code p) _ = _
  rw [hu]
  rfl
theorem dc_4 {code : ByteArray} {p : Nat} (h : code.data.toList[p]? = some 4) : decode code p = .ok (.iconst 1, 1) := by
  have hu := u1_at h
  refine dc_of ?_
  unfold Jvm.ClassFile.Decoder.instr
  show Except.bind ((Jvm.ClassFile.Reader.u1 : Jvm.ClassFile.Decoder Nat) code p) _ = _
  rw [hu]
  rfl
theorem dc_5 {code : ByteArray} {p : Nat} (h : code.data.toList[p]? = some 5) : decode code p = .ok (.iconst 2, 1) := by
  have hu := u1_at h
  refine dc_of ?_
  unfold Jvm.ClassFile.Decoder.instr
  show Except.bind ((Jvm.ClassFile.Reader.u1 : Jvm.ClassFile.Decoder Nat) code p) _ = _
  rw [hu]
  rfl
theorem dc_6 {code : ByteArray} {p : Nat} (h : code.data.toList[p]? = some 6) : decode code p = .ok (.iconst 3, 1) := by
  have hu := u1_at h
  refine dc_of ?_
  unfold Jvm.ClassFile.Decoder.instr
  show Except.bind ((Jvm.ClassFile.Reader.u1 : Jvm.ClassFile.Decoder Nat) code p) _ = _
  rw [hu]
  rfl
theorem dc_7 {code : ByteArray} {p : Nat} (h : code.data.toList[p]? = some 7) : decode code p = .ok (.iconst 4, 1) := by
  have hu := u1_at h
  refine dc_of ?_
  unfold Jvm.ClassFile.Decoder.instr
  show Except.bind ((Jvm.ClassFile.Reader.u1 : Jvm.ClassFile.Decoder Nat) code p) _ = _
  rw [hu]
  rfl
theorem dc_8 {code : ByteArray} {p : Nat} (h : code.data.toList[p]? = some 8) : decode code p = .ok (.iconst 5, 1) := by
  have hu := u1_at h
  refine dc_of ?_
  unfold Jvm.ClassFile.Decoder.instr
  show Except.bind ((Jvm.ClassFile.Reader.u1 : Jvm.ClassFile.Decoder Nat) code p) _ = _
  rw [hu]
  rfl
theorem dc_9 {code : ByteArray} {p : Nat} (h : code.data.toList[p]? = some 9) : decode code p = .ok (.lconst 0, 1) := by
  have hu := u1_at h
  refine dc_of ?_
  unfold Jvm.ClassFile.Decoder.instr
  show Except.bind ((Jvm.ClassFile.Reader.u1 : Jvm.ClassFile.Decoder Nat) code p) _ = _
  rw [hu]
  rfl
theorem dc_10 {code : ByteArray} {p : Nat} (h : code.data.toList[p]? = some 10) : decode code p = .ok (.lconst 1, 1) := by
  have hu := u1_at h
  refine dc_of ?_
  unfold Jvm.ClassFile.Decoder.instr
  show Except.bind ((Jvm.ClassFile.Reader.u1 : Jvm.ClassFile.Decoder Nat) code p) _ = _
  rw [hu]
  rfl
theorem dc_26 {code : ByteArray} {p : Nat} (h : code.data.toList[p]? = some 26) : decode code p = .ok (.iload_n 0, 1) := by
  have hu := u1_at h
  refine dc_of ?_
  unfold Jvm.ClassFile.Decoder.instr
  show Except.bind ((Jvm.ClassFile.Reader.u1 : Jvm.ClassFile.Decoder Nat) code p) _ = _
  rw [hu]
  rfl
theorem dc_30 {code : ByteArray} {p : Nat} (h : code.data.toList[p]? = some 30) : decode code p = .ok (.lload_n 0, 1) := by
  have hu := u1_at h
  refine dc_of ?_
  unfold Jvm.ClassFile.Decoder.instr
  show Except.bind ((Jvm.ClassFile.Reader.u1 : Jvm.ClassFile.Decoder Nat) code p) _ = _
  rw [hu]
  rfl
theorem dc_42 {code : ByteArray} {p : Nat} (h : code.data.toList[p]? = some 42) : decode code p = .ok (.aload_n 0, 1) := by
  have hu := u1_at h
  refine dc_of ?_
  unfold Jvm.ClassFile.Decoder.instr
  show Except.bind ((Jvm.ClassFile.Reader.u1 : Jvm.ClassFile.Decoder Nat) code p) _ = _
  rw [hu]
  rfl
theorem dc_59 {code : ByteArray} {p : Nat} (h : code.data.toList[p]? = some 59) : decode code p = .ok (.istore_n 0, 1) := by
  have hu := u1_at h
  refine dc_of ?_
  unfold Jvm.ClassFile.Decoder.instr
  show Except.bind ((Jvm.ClassFile.Reader.u1 : Jvm.ClassFile.Decoder Nat) code p) _ = _
  rw [hu]
  rfl
theorem dc_27 {code : ByteArray} {p : Nat} (h : code.data.toList[p]? = some 27) : decode code p = .ok (.iload_n 1, 1) := by
  have hu := u1_at h
  refine dc_of ?_
  unfold Jvm.ClassFile.Decoder.instr
  show Except.bind ((Jvm.ClassFile.Reader.u1 : Jvm.ClassFile.Decoder Nat) code p) _ = _
  rw [hu]
  rfl
theorem dc_31 {code : ByteArray} {p : Nat} (h : code.data.toList[p]? = some 31) : decode code p = .ok (.lload_n 1, 1) := by
  have hu := u1_at h
  refine dc_of ?_
  unfold Jvm.ClassFile.Decoder.instr
  show Except.bind ((Jvm.ClassFile.Reader.u1 : Jvm.ClassFile.Decoder Nat) code p) _ = _
  rw [hu]
  rfl
theorem dc_43 {code : ByteArray} {p : Nat} (h : code.data.toList[p]? = some 43) : decode code p = .ok (.aload_n 1, 1) := by
  have hu := u1_at h
  refine dc_of ?_
  unfold Jvm.ClassFile.Decoder.instr
  show Except.bind ((Jvm.ClassFile.Reader.u1 : Jvm.ClassFile.Decoder Nat) code p) _ = _
  rw [hu]
  rfl
theorem dc_60 {code : ByteArray} {p : Nat} (h : code.data.toList[p]? = some 60) : decode code p = .ok (.istore_n 1, 1) := by
  have hu := u1_at h
  refine dc_of ?_
  unfold Jvm.ClassFile.Decoder.instr
  show Except.bind ((Jvm.ClassFile.Reader.u1 : Jvm.ClassFile.Decoder Nat) code p) _ = _
  rw [hu]
  rfl
theorem dc_64 {code : ByteArray} {p : Nat} (h : code.data.toList[p]? = some 64) : decode code p = .ok (.lstore_n 1, 1) := by
  have hu := u1_at h
  refine dc_of ?_
  unfold Jvm.ClassFile.Decoder.instr
  show Except.bind ((Jvm.ClassFile.Reader.u1 : Jvm.ClassFile.Decoder Nat) code p) _ = _
  rw [hu]
  rfl
theorem dc_76 {code : ByteArray} {p : Nat} (h : code.data.toList[p]? = some 76) : decode code p = .ok (.astore_n 1, 1) := by
  have hu := u1_at h
  refine dc_of ?_
  unfold Jvm.ClassFile.Decoder.instr
  show Except.bind ((Jvm.ClassFile.Reader.u1 : Jvm.ClassFile.Decoder Nat) code p) _ = _
  rw [hu]
  rfl
theorem dc_28 {code : ByteArray} {p : Nat} (h : code.data.toList[p]? = some 28) : decode code p = .ok (.iload_n 2, 1) := by
  have hu := u1_at h
  refine dc_of ?_
  unfold Jvm.ClassFile.Decoder.instr
  show Except.bind ((Jvm.ClassFile.Reader.u1 : Jvm.ClassFile.Decoder Nat) code p) _ = _
  rw [hu]
  rfl
theorem dc_32 {code : ByteArray} {p : Nat} (h : code.data.toList[p]? = some 32) : decode code p = .ok (.lload_n 2, 1) := by
  have hu := u1_at h
  refine dc_of ?_
  unfold Jvm.ClassFile.Decoder.instr
  show Except.bind ((Jvm.ClassFile.Reader.u1 : Jvm.ClassFile.Decoder Nat) code p) _ = _
  rw [hu]
  rfl
theorem dc_44 {code : ByteArray} {p : Nat} (h : code.data.toList[p]? = some 44) : decode code p = .ok (.aload_n 2, 1) := by
  have hu := u1_at h
  refine dc_of ?_
  unfold Jvm.ClassFile.Decoder.instr
  show Except.bind ((Jvm.ClassFile.Reader.u1 : Jvm.ClassFile.Decoder Nat) code p) _ = _
  rw [hu]
  rfl
theorem dc_61 {code : ByteArray} {p : Nat} (h : code.data.toList[p]? = some 61) : decode code p = .ok (.istore_n 2, 1) := by
  have hu := u1_at h
  refine dc_of ?_
  unfold Jvm.ClassFile.Decoder.instr
  show Except.bind ((Jvm.ClassFile.Reader.u1 : Jvm.ClassFile.Decoder Nat) code p) _ = _
  rw [hu]
  rfl
theorem dc_65 {code : ByteArray} {p : Nat} (h : code.data.toList[p]? = some 65) : decode code p = .ok (.lstore_n 2, 1) := by
  have hu := u1_at h
  refine dc_of ?_
  unfold Jvm.ClassFile.Decoder.instr
  show Except.bind ((Jvm.ClassFile.Reader.u1 : Jvm.ClassFile.Decoder Nat) code p) _ = _
  rw [hu]
  rfl
theorem dc_77 {code : ByteArray} {p : Nat} (h : code.data.toList[p]? = some 77) : decode code p = .ok (.astore_n 2, 1) := by
  have hu := u1_at h
  refine dc_of ?_
  unfold Jvm.ClassFile.Decoder.instr
  show Except.bind ((Jvm.ClassFile.Reader.u1 : Jvm.ClassFile.Decoder Nat) code p) _ = _
  rw [hu]
  rfl
theorem dc_29 {code : ByteArray} {p : Nat} (h : code.data.toList[p]? = some 29) : decode code p = .ok (.iload_n 3, 1) := by
  have hu := u1_at h
  refine dc_of ?_
  unfold Jvm.ClassFile.Decoder.instr
  show Except.bind ((Jvm.ClassFile.Reader.u1 : Jvm.ClassFile.Decoder Nat) code p) _ = _
  rw [hu]
  rfl
theorem dc_33 {code : ByteArray} {p : Nat} (h : code.data.toList[p]? = some 33) : decode code p = .ok (.lload_n 3, 1) := by
  have hu := u1_at h
  refine dc_of ?_
  unfold Jvm.ClassFile.Decoder.instr
  show Except.bind ((Jvm.ClassFile.Reader.u1 : Jvm.ClassFile.Decoder Nat) code p) _ = _
  rw [hu]
  rfl
theorem dc_45 {code : ByteArray} {p : Nat} (h : code.data.toList[p]? = some 45) : decode code p = .ok (.aload_n 3, 1) := by
  have hu := u1_at h
  refine dc_of ?_
  unfold Jvm.ClassFile.Decoder.instr
  show Except.bind ((Jvm.ClassFile.Reader.u1 : Jvm.ClassFile.Decoder Nat) code p) _ = _
  rw [hu]
  rfl
theorem dc_62 {code : ByteArray} {p : Nat} (h : code.data.toList[p]? = some 62) : decode code p = .ok (.istore_n 3, 1) := by
  have hu := u1_at h
  refine dc_of ?_
  unfold Jvm.ClassFile.Decoder.instr
  show Except.bind ((Jvm.ClassFile.Reader.u1 : Jvm.ClassFile.Decoder Nat) code p) _ = _
  rw [hu]
  rfl
theorem dc_66 {code : ByteArray} {p : Nat} (h : code.data.toList[p]? = some 66) : decode code p = .ok (.lstore_n 3, 1) := by
  have hu := u1_at h
  refine dc_of ?_
  unfold Jvm.ClassFile.Decoder.instr
  show Except.bind ((Jvm.ClassFile.Reader.u1 : Jvm.ClassFile.Decoder Nat) code p) _ = _
  rw [hu]
  rfl
theorem dc_21 {code : ByteArray} {p : Nat} {a : UInt8} {n : Nat} (h : code.data.toList[p]? = some 21) (h1 : code.data.toList[p + 1]? = some a) (hn : a.toNat = n) : decode code p = .ok (.iload n, 2) := by
  subst hn
  have hu := u1_at h
  refine dc_of ?_
  unfold Jvm.ClassFile.Decoder.instr
  show Except.bind ((Jvm.ClassFile.Reader.u1 : Jvm.ClassFile.Decoder Nat) code p) _ = _
  rw [hu]
  show Except.bind ((Jvm.ClassFile.Reader.u1 : Jvm.ClassFile.Decoder Nat) code (p + 1)) _ = _
  rw [u1_at h1]
  rfl
theorem dc_22 {code : ByteArray} {p : Nat} {a : UInt8} {n : Nat} (h : code.data.toList[p]? = some 22) (h1 : code.data.toList[p + 1]? = some a) (hn : a.toNat = n) : decode code p = .ok (.lload n, 2) := by
  subst hn
  have hu := u1_at h
  refine dc_of ?_
  unfold Jvm.ClassFile.Decoder.instr
  show Except.bind ((Jvm.ClassFile.Reader.u1 : Jvm.ClassFile.Decoder Nat) code p) _ = _
  rw [hu]
  show Except.bind ((Jvm.ClassFile.Reader.u1 : Jvm.ClassFile.Decoder Nat) code (p + 1)) _ = _
  rw [u1_at h1]
  rfl
theorem dc_54 {code : ByteArray} {p : Nat} {a : UInt8} {n : Nat} (h : code.data.toList[p]? = some 54) (h1 : code.data.toList[p + 1]? = some a) (hn : a.toNat = n) : decode code p = .ok (.istore n, 2) := by
  subst hn
  have hu := u1_at h
  refine dc_of ?_
  unfold Jvm.ClassFile.Decoder.instr
  show Except.bind ((Jvm.ClassFile.Reader.u1 : Jvm.ClassFile.Decoder Nat) code p) _ = _
  rw [hu]
  show Except.bind ((Jvm.ClassFile.Reader.u1 : Jvm.ClassFile.Decoder Nat) code (p + 1)) _ = _
  rw [u1_at h1]
  rfl
theorem dc_55 {code : ByteArray} {p : Nat} {a : UInt8} {n : Nat} (h : code.data.toList[p]? = some 55) (h1 : code.data.toList[p + 1]? = some a) (hn : a.toNat = n) : decode code p = .ok (.lstore n, 2) := by
  subst hn
  have hu := u1_at h
  refine dc_of ?_
  unfold Jvm.ClassFile.Decoder.instr
  show Except.bind ((Jvm.ClassFile.Reader.u1 : Jvm.ClassFile.Decoder Nat) code p) _ = _
  rw [hu]
  show Except.bind ((Jvm.ClassFile.Reader.u1 : Jvm.ClassFile.Decoder Nat) code (p + 1)) _ = _
  rw [u1_at h1]
  rfl
theorem dc_18 {code : ByteArray} {p : Nat} {a : UInt8} {n : Nat} (h : code.data.toList[p]? = some 18) (h1 : code.data.toList[p + 1]? = some a) (hn : a.toNat = n) : decode code p = .ok (.ldc n, 2) := by
  subst hn
  have hu := u1_at h
  refine dc_of ?_
  unfold Jvm.ClassFile.Decoder.instr
  show Except.bind ((Jvm.ClassFile.Reader.u1 : Jvm.ClassFile.Decoder Nat) code p) _ = _
  rw [hu]
  show Except.bind ((Jvm.ClassFile.Reader.u1 : Jvm.ClassFile.Decoder Nat) code (p + 1)) _ = _
  rw [u1_at h1]
  rfl
theorem dc_16 {code : ByteArray} {p : Nat} {a : UInt8} {n : Int} (h : code.data.toList[p]? = some 16) (h1 : code.data.toList[p + 1]? = some a) (hn : Jvm.ClassFile.Reader.signed 8 a.toNat = n) : decode code p = .ok (.bipush n, 2) := by
  subst hn
  have hu := u1_at h
  refine dc_of ?_
  unfold Jvm.ClassFile.Decoder.instr
  show Except.bind ((Jvm.ClassFile.Reader.u1 : Jvm.ClassFile.Decoder Nat) code p) _ = _
  rw [hu]
  show Except.bind ((Jvm.ClassFile.Reader.s1 : Jvm.ClassFile.Decoder Int) code (p + 1)) _ = _
  rw [s1_at h1]
  rfl
theorem dc_19 {code : ByteArray} {p : Nat} {a b : UInt8} {n : Nat} (h : code.data.toList[p]? = some 19) (h1 : code.data.toList[p + 1]? = some a) (h2 : code.data.toList[p + 2]? = some b) (hn : a.toNat * 256 + b.toNat = n) : decode code p = .ok (.ldc_w n, 3) := by
  subst hn
  have hu := u1_at h
  refine dc_of ?_
  unfold Jvm.ClassFile.Decoder.instr
  show Except.bind ((Jvm.ClassFile.Reader.u1 : Jvm.ClassFile.Decoder Nat) code p) _ = _
  rw [hu]
  show Except.bind ((Jvm.ClassFile.Reader.u2 : Jvm.ClassFile.Decoder Nat) code (p + 1)) _ = _
  rw [u2_at h1 h2]
  rfl
theorem dc_20 {code : ByteArray} {p : Nat} {a b : UInt8} {n : Nat} (h : code.data.toList[p]? = some 20) (h1 : code.data.toList[p + 1]? = some a) (h2 : code.data.toList[p + 2]? = some b) (hn : a.toNat * 256 + b.toNat = n) : decode code p = .ok (.ldc2_w n, 3) := by
  subst hn
  have hu := u1_at h
  refine dc_of ?_
  unfold Jvm.ClassFile.Decoder.instr
  show Except.bind ((Jvm.ClassFile.Reader.u1 : Jvm.ClassFile.Decoder Nat) code p) _ = _
  rw [hu]
  show Except.bind ((Jvm.ClassFile.Reader.u2 : Jvm.ClassFile.Decoder Nat) code (p + 1)) _ = _
  rw [u2_at h1 h2]
  rfl
theorem dc_178 {code : ByteArray} {p : Nat} {a b : UInt8} {n : Nat} (h : code.data.toList[p]? = some 178) (h1 : code.data.toList[p + 1]? = some a) (h2 : code.data.toList[p + 2]? = some b) (hn : a.toNat * 256 + b.toNat = n) : decode code p = .ok (.getstatic n, 3) := by
  subst hn
  have hu := u1_at h
  refine dc_of ?_
  unfold Jvm.ClassFile.Decoder.instr
  show Except.bind ((Jvm.ClassFile.Reader.u1 : Jvm.ClassFile.Decoder Nat) code p) _ = _
  rw [hu]
  show Except.bind ((Jvm.ClassFile.Reader.u2 : Jvm.ClassFile.Decoder Nat) code (p + 1)) _ = _
  rw [u2_at h1 h2]
  rfl
theorem dc_180 {code : ByteArray} {p : Nat} {a b : UInt8} {n : Nat} (h : code.data.toList[p]? = some 180) (h1 : code.data.toList[p + 1]? = some a) (h2 : code.data.toList[p + 2]? = some b) (hn : a.toNat * 256 + b.toNat = n) : decode code p = .ok (.getfield n, 3) := by
  subst hn
  have hu := u1_at h
  refine dc_of ?_
  unfold Jvm.ClassFile.Decoder.instr
  show Except.bind ((Jvm.ClassFile.Reader.u1 : Jvm.ClassFile.Decoder Nat) code p) _ = _
  rw [hu]
  show Except.bind ((Jvm.ClassFile.Reader.u2 : Jvm.ClassFile.Decoder Nat) code (p + 1)) _ = _
  rw [u2_at h1 h2]
  rfl
theorem dc_181 {code : ByteArray} {p : Nat} {a b : UInt8} {n : Nat} (h : code.data.toList[p]? = some 181) (h1 : code.data.toList[p + 1]? = some a) (h2 : code.data.toList[p + 2]? = some b) (hn : a.toNat * 256 + b.toNat = n) : decode code p = .ok (.putfield n, 3) := by
  subst hn
  have hu := u1_at h
  refine dc_of ?_
  unfold Jvm.ClassFile.Decoder.instr
  show Except.bind ((Jvm.ClassFile.Reader.u1 : Jvm.ClassFile.Decoder Nat) code p) _ = _
  rw [hu]
  show Except.bind ((Jvm.ClassFile.Reader.u2 : Jvm.ClassFile.Decoder Nat) code (p + 1)) _ = _
  rw [u2_at h1 h2]
  rfl
theorem dc_182 {code : ByteArray} {p : Nat} {a b : UInt8} {n : Nat} (h : code.data.toList[p]? = some 182) (h1 : code.data.toList[p + 1]? = some a) (h2 : code.data.toList[p + 2]? = some b) (hn : a.toNat * 256 + b.toNat = n) : decode code p = .ok (.invokevirtual n, 3) := by
  subst hn
  have hu := u1_at h
  refine dc_of ?_
  unfold Jvm.ClassFile.Decoder.instr
  show Except.bind ((Jvm.ClassFile.Reader.u1 : Jvm.ClassFile.Decoder Nat) code p) _ = _
  rw [hu]
  show Except.bind ((Jvm.ClassFile.Reader.u2 : Jvm.ClassFile.Decoder Nat) code (p + 1)) _ = _
  rw [u2_at h1 h2]
  rfl
theorem dc_183 {code : ByteArray} {p : Nat} {a b : UInt8} {n : Nat} (h : code.data.toList[p]? = some 183) (h1 : code.data.toList[p + 1]? = some a) (h2 : code.data.toList[p + 2]? = some b) (hn : a.toNat * 256 + b.toNat = n) : decode code p = .ok (.invokespecial n, 3) := by
  subst hn
  have hu := u1_at h
  refine dc_of ?_
  unfold Jvm.ClassFile.Decoder.instr
  show Except.bind ((Jvm.ClassFile.Reader.u1 : Jvm.ClassFile.Decoder Nat) code p) _ = _
  rw [hu]
  show Except.bind ((Jvm.ClassFile.Reader.u2 : Jvm.ClassFile.Decoder Nat) code (p + 1)) _ = _
  rw [u2_at h1 h2]
  rfl
theorem dc_184 {code : ByteArray} {p : Nat} {a b : UInt8} {n : Nat} (h : code.data.toList[p]? = some 184) (h1 : code.data.toList[p + 1]? = some a) (h2 : code.data.toList[p + 2]? = some b) (hn : a.toNat * 256 + b.toNat = n) : decode code p = .ok (.invokestatic n, 3) := by
  subst hn
  have hu := u1_at h
  refine dc_of ?_
  unfold Jvm.ClassFile.Decoder.instr
  show Except.bind ((Jvm.ClassFile.Reader.u1 : Jvm.ClassFile.Decoder Nat) code p) _ = _
  rw [hu]
  show Except.bind ((Jvm.ClassFile.Reader.u2 : Jvm.ClassFile.Decoder Nat) code (p + 1)) _ = _
  rw [u2_at h1 h2]
  rfl
theorem dc_187 {code : ByteArray} {p : Nat} {a b : UInt8} {n : Nat} (h : code.data.toList[p]? = some 187) (h1 : code.data.toList[p + 1]? = some a) (h2 : code.data.toList[p + 2]? = some b) (hn : a.toNat * 256 + b.toNat = n) : decode code p = .ok (.new n, 3) := by
  subst hn
  have hu := u1_at h
  refine dc_of ?_
  unfold Jvm.ClassFile.Decoder.instr
  show Except.bind ((Jvm.ClassFile.Reader.u1 : Jvm.ClassFile.Decoder Nat) code p) _ = _
  rw [hu]
  show Except.bind ((Jvm.ClassFile.Reader.u2 : Jvm.ClassFile.Decoder Nat) code (p + 1)) _ = _
  rw [u2_at h1 h2]
  rfl
theorem dc_17 {code : ByteArray} {p : Nat} {a b : UInt8} {n : Int} (h : code.data.toList[p]? = some 17) (h1 : code.data.toList[p + 1]? = some a) (h2 : code.data.toList[p + 2]? = some b) (hn : Jvm.ClassFile.Reader.signed 16 (a.toNat * 256 + b.toNat) = n) : decode code p = .ok (.sipush n, 3) := by
  subst hn
  have hu := u1_at h
  refine dc_of ?_
  unfold Jvm.ClassFile.Decoder.instr
  show Except.bind ((Jvm.ClassFile.Reader.u1 : Jvm.ClassFile.Decoder Nat) code p) _ = _
  rw [hu]
  show Except.bind ((Jvm.ClassFile.Reader.s2 : Jvm.ClassFile.Decoder Int) code (p + 1)) _ = _
  rw [s2_at h1 h2]
  rfl
theorem dc_167 {code : ByteArray} {p : Nat} {a b : UInt8} {n : Int} (h : code.data.toList[p]? = some 167) (h1 : code.data.toList[p + 1]? = some a) (h2 : code.data.toList[p + 2]? = some b) (hn : Jvm.ClassFile.Reader.signed 16 (a.toNat * 256 + b.toNat) = n) : decode code p = .ok (.goto n, 3) := by
  subst hn
  have hu := u1_at h
  refine dc_of ?_
  unfold Jvm.ClassFile.Decoder.instr
  show Except.bind ((Jvm.ClassFile.Reader.u1 : Jvm.ClassFile.Decoder Nat) code p) _ = _
  rw [hu]
  show Except.bind ((Jvm.ClassFile.Reader.s2 : Jvm.ClassFile.Decoder Int) code (p + 1)) _ = _
  rw [s2_at h1 h2]
  rfl
theorem dc_153 {code : ByteArray} {p : Nat} {a b : UInt8} {n : Int} (h : code.data.toList[p]? = some 153) (h1 : code.data.toList[p + 1]? = some a) (h2 : code.data.toList[p + 2]? = some b) (hn : Jvm.ClassFile.Reader.signed 16 (a.toNat * 256 + b.toNat) = n) : decode code p = .ok (.ifCond .eq n, 3) := by
  subst hn
  have hu := u1_at h
  refine dc_of ?_
  unfold Jvm.ClassFile.Decoder.instr
  show Except.bind ((Jvm.ClassFile.Reader.u1 : Jvm.ClassFile.Decoder Nat) code p) _ = _
  rw [hu]
  show Except.bind ((Jvm.ClassFile.Reader.s2 : Jvm.ClassFile.Decoder Int) code (p + 1)) _ = _
  rw [s2_at h1 h2]
  rfl
theorem dc_159 {code : ByteArray} {p : Nat} {a b : UInt8} {n : Int} (h : code.data.toList[p]? = some 159) (h1 : code.data.toList[p + 1]? = some a) (h2 : code.data.toList[p + 2]? = some b) (hn : Jvm.ClassFile.Reader.signed 16 (a.toNat * 256 + b.toNat) = n) : decode code p = .ok (.if_icmp .eq n, 3) := by
  subst hn
  have hu := u1_at h
  refine dc_of ?_
  unfold Jvm.ClassFile.Decoder.instr
  show Except.bind ((Jvm.ClassFile.Reader.u1 : Jvm.ClassFile.Decoder Nat) code p) _ = _
  rw [hu]
  show Except.bind ((Jvm.ClassFile.Reader.s2 : Jvm.ClassFile.Decoder Int) code (p + 1)) _ = _
  rw [s2_at h1 h2]
  rfl
theorem dc_154 {code : ByteArray} {p : Nat} {a b : UInt8} {n : Int} (h : code.data.toList[p]? = some 154) (h1 : code.data.toList[p + 1]? = some a) (h2 : code.data.toList[p + 2]? = some b) (hn : Jvm.ClassFile.Reader.signed 16 (a.toNat * 256 + b.toNat) = n) : decode code p = .ok (.ifCond .ne n, 3) := by
  subst hn
  have hu := u1_at h
  refine dc_of ?_
  unfold Jvm.ClassFile.Decoder.instr
  show Except.bind ((Jvm.ClassFile.Reader.u1 : Jvm.ClassFile.Decoder Nat) code p) _ = _
  rw [hu]
  show Except.bind ((Jvm.ClassFile.Reader.s2 : Jvm.ClassFile.Decoder Int) code (p + 1)) _ = _
  rw [s2_at h1 h2]
  rfl
theorem dc_160 {code : ByteArray} {p : Nat} {a b : UInt8} {n : Int} (h : code.data.toList[p]? = some 160) (h1 : code.data.toList[p + 1]? = some a) (h2 : code.data.toList[p + 2]? = some b) (hn : Jvm.ClassFile.Reader.signed 16 (a.toNat * 256 + b.toNat) = n) : decode code p = .ok (.if_icmp .ne n, 3) := by
  subst hn
  have hu := u1_at h
  refine dc_of ?_
  unfold Jvm.ClassFile.Decoder.instr
  show Except.bind ((Jvm.ClassFile.Reader.u1 : Jvm.ClassFile.Decoder Nat) code p) _ = _
  rw [hu]
  show Except.bind ((Jvm.ClassFile.Reader.s2 : Jvm.ClassFile.Decoder Int) code (p + 1)) _ = _
  rw [s2_at h1 h2]
  rfl
theorem dc_155 {code : ByteArray} {p : Nat} {a b : UInt8} {n : Int} (h : code.data.toList[p]? = some 155) (h1 : code.data.toList[p + 1]? = some a) (h2 : code.data.toList[p + 2]? = some b) (hn : Jvm.ClassFile.Reader.signed 16 (a.toNat * 256 + b.toNat) = n) : decode code p = .ok (.ifCond .lt n, 3) := by
  subst hn
  have hu := u1_at h
  refine dc_of ?_
  unfold Jvm.ClassFile.Decoder.instr
  show Except.bind ((Jvm.ClassFile.Reader.u1 : Jvm.ClassFile.Decoder Nat) code p) _ = _
  rw [hu]
  show Except.bind ((Jvm.ClassFile.Reader.s2 : Jvm.ClassFile.Decoder Int) code (p + 1)) _ = _
  rw [s2_at h1 h2]
  rfl
theorem dc_161 {code : ByteArray} {p : Nat} {a b : UInt8} {n : Int} (h : code.data.toList[p]? = some 161) (h1 : code.data.toList[p + 1]? = some a) (h2 : code.data.toList[p + 2]? = some b) (hn : Jvm.ClassFile.Reader.signed 16 (a.toNat * 256 + b.toNat) = n) : decode code p = .ok (.if_icmp .lt n, 3) := by
  subst hn
  have hu := u1_at h
  refine dc_of ?_
  unfold Jvm.ClassFile.Decoder.instr
  show Except.bind ((Jvm.ClassFile.Reader.u1 : Jvm.ClassFile.Decoder Nat) code p) _ = _
  rw [hu]
  show Except.bind ((Jvm.ClassFile.Reader.s2 : Jvm.ClassFile.Decoder Int) code (p + 1)) _ = _
  rw [s2_at h1 h2]
  rfl
theorem dc_156 {code : ByteArray} {p : Nat} {a b : UInt8} {n : Int} (h : code.data.toList[p]? = some 156) (h1 : code.data.toList[p + 1]? = some a) (h2 : code.data.toList[p + 2]? = some b) (hn : Jvm.ClassFile.Reader.signed 16 (a.toNat * 256 + b.toNat) = n) : decode code p = .ok (.ifCond .ge n, 3) := by
  subst hn
  have hu := u1_at h
  refine dc_of ?_
  unfold Jvm.ClassFile.Decoder.instr
  show Except.bind ((Jvm.ClassFile.Reader.u1 : Jvm.ClassFile.Decoder Nat) code p) _ = _
  rw [hu]
  show Except.bind ((Jvm.ClassFile.Reader.s2 : Jvm.ClassFile.Decoder Int) code (p + 1)) _ = _
  rw [s2_at h1 h2]
  rfl
theorem dc_162 {code : ByteArray} {p : Nat} {a b : UInt8} {n : Int} (h : code.data.toList[p]? = some 162) (h1 : code.data.toList[p + 1]? = some a) (h2 : code.data.toList[p + 2]? = some b) (hn : Jvm.ClassFile.Reader.signed 16 (a.toNat * 256 + b.toNat) = n) : decode code p = .ok (.if_icmp .ge n, 3) := by
  subst hn
  have hu := u1_at h
  refine dc_of ?_
  unfold Jvm.ClassFile.Decoder.instr
  show Except.bind ((Jvm.ClassFile.Reader.u1 : Jvm.ClassFile.Decoder Nat) code p) _ = _
  rw [hu]
  show Except.bind ((Jvm.ClassFile.Reader.s2 : Jvm.ClassFile.Decoder Int) code (p + 1)) _ = _
  rw [s2_at h1 h2]
  rfl
theorem dc_157 {code : ByteArray} {p : Nat} {a b : UInt8} {n : Int} (h : code.data.toList[p]? = some 157) (h1 : code.data.toList[p + 1]? = some a) (h2 : code.data.toList[p + 2]? = some b) (hn : Jvm.ClassFile.Reader.signed 16 (a.toNat * 256 + b.toNat) = n) : decode code p = .ok (.ifCond .gt n, 3) := by
  subst hn
  have hu := u1_at h
  refine dc_of ?_
  unfold Jvm.ClassFile.Decoder.instr
  show Except.bind ((Jvm.ClassFile.Reader.u1 : Jvm.ClassFile.Decoder Nat) code p) _ = _
  rw [hu]
  show Except.bind ((Jvm.ClassFile.Reader.s2 : Jvm.ClassFile.Decoder Int) code (p + 1)) _ = _
  rw [s2_at h1 h2]
  rfl
theorem dc_163 {code : ByteArray} {p : Nat} {a b : UInt8} {n : Int} (h : code.data.toList[p]? = some 163) (h1 : code.data.toList[p + 1]? = some a) (h2 : code.data.toList[p + 2]? = some b) (hn : Jvm.ClassFile.Reader.signed 16 (a.toNat * 256 + b.toNat) = n) : decode code p = .ok (.if_icmp .gt n, 3) := by
  subst hn
  have hu := u1_at h
  refine dc_of ?_
  unfold Jvm.ClassFile.Decoder.instr
  show Except.bind ((Jvm.ClassFile.Reader.u1 : Jvm.ClassFile.Decoder Nat) code p) _ = _
  rw [hu]
  show Except.bind ((Jvm.ClassFile.Reader.s2 : Jvm.ClassFile.Decoder Int) code (p + 1)) _ = _
  rw [s2_at h1 h2]
  rfl
theorem dc_158 {code : ByteArray} {p : Nat} {a b : UInt8} {n : Int} (h : code.data.toList[p]? = some 158) (h1 : code.data.toList[p + 1]? = some a) (h2 : code.data.toList[p + 2]? = some b) (hn : Jvm.ClassFile.Reader.signed 16 (a.toNat * 256 + b.toNat) = n) : decode code p = .ok (.ifCond .le n, 3) := by
  subst hn
  have hu := u1_at h
  refine dc_of ?_
  unfold Jvm.ClassFile.Decoder.instr
  show Except.bind ((Jvm.ClassFile.Reader.u1 : Jvm.ClassFile.Decoder Nat) code p) _ = _
  rw [hu]
  show Except.bind ((Jvm.ClassFile.Reader.s2 : Jvm.ClassFile.Decoder Int) code (p + 1)) _ = _
  rw [s2_at h1 h2]
  rfl
theorem dc_164 {code : ByteArray} {p : Nat} {a b : UInt8} {n : Int} (h : code.data.toList[p]? = some 164) (h1 : code.data.toList[p + 1]? = some a) (h2 : code.data.toList[p + 2]? = some b) (hn : Jvm.ClassFile.Reader.signed 16 (a.toNat * 256 + b.toNat) = n) : decode code p = .ok (.if_icmp .le n, 3) := by
  subst hn
  have hu := u1_at h
  refine dc_of ?_
  unfold Jvm.ClassFile.Decoder.instr
  show Except.bind ((Jvm.ClassFile.Reader.u1 : Jvm.ClassFile.Decoder Nat) code p) _ = _
  rw [hu]
  show Except.bind ((Jvm.ClassFile.Reader.s2 : Jvm.ClassFile.Decoder Int) code (p + 1)) _ = _
  rw [s2_at h1 h2]
  rfl
theorem dc_132 {code : ByteArray} {p : Nat} {a b : UInt8} {n : Nat} {m : Int} (h : code.data.toList[p]? = some 132) (h1 : code.data.toList[p + 1]? = some a) (h2 : code.data.toList[p + 2]? = some b) (hn : a.toNat = n) (hm : Jvm.ClassFile.Reader.signed 8 b.toNat = m) : decode code p = .ok (.iinc n m, 3) := by
  subst hn
  subst hm
  have hu := u1_at h
  refine dc_of ?_
  unfold Jvm.ClassFile.Decoder.instr
  show Except.bind ((Jvm.ClassFile.Reader.u1 : Jvm.ClassFile.Decoder Nat) code p) _ = _
  rw [hu]
  show Except.bind ((Jvm.ClassFile.Reader.u1 : Jvm.ClassFile.Decoder Nat) code (p + 1)) _ = _
  rw [u1_at h1]
  show Except.bind ((Jvm.ClassFile.Reader.s1 : Jvm.ClassFile.Decoder Int) code (p + 1 + 1)) _ = _
  rw [s1_at h2]
  rfl
end
