section
/-! names, fields, codes: cut out of the printed names by wip/gen/names.py; words by their places -/
def gt : List Cond := lw_tbl.filter goodWord
theorem gt_in {w : Cond} (i : Nat) (h : lw_tbl[i]? = some w) (hg : goodWord w = true) : w ∈ gt := List.mem_filter.mpr ⟨List.mem_of_getElem? h, hg⟩
theorem gt_gt : GoodIn gt gt := fun w hw => ⟨hw, good_of_word (List.mem_filter.mp hw).2⟩
/-- the words that a method carries in its start: nest links, arrays of objects -/
def nw (w : Cond) : Bool := match w with
  | .fieldLinkNest _ _ _ _ _ _ => true
  | .methodLinkNest _ _ _ _ => true
  | .arrayOver (.object _) => true
  | _ => false
def nt : List Cond := lw_tbl.filter nw
theorem nt_in {w : Cond} (i : Nat) (h : lw_tbl[i]? = some w) (hg : nw w = true) : w ∈ nt := List.mem_filter.mpr ⟨List.mem_of_getElem? h, hg⟩
theorem gs_1 {w : Cond} {i : Nat} (h : (k2_sels lw_privs_1)[i]? = some w) (hg : goodWord w = true) : w ∈ gt := by
  refine List.mem_filter.mpr ⟨List.mem_append.mpr (Or.inl ?_), hg⟩
  have hm := List.mem_of_getElem? h
  unfold k2_sels at hm
  unfold k2_sels lw_privs
  simp only [List.map_append, List.mem_append]
  simp only [hm, true_or, or_true]
theorem gs_2 {w : Cond} {i : Nat} (h : (k2_sels lw_privs_2)[i]? = some w) (hg : goodWord w = true) : w ∈ gt := by
  refine List.mem_filter.mpr ⟨List.mem_append.mpr (Or.inl ?_), hg⟩
  have hm := List.mem_of_getElem? h
  unfold k2_sels at hm
  unfold k2_sels lw_privs
  simp only [List.map_append, List.mem_append]
  simp only [hm, true_or, or_true]
theorem gs_3 {w : Cond} {i : Nat} (h : (k2_sels lw_privs_3)[i]? = some w) (hg : goodWord w = true) : w ∈ gt := by
  refine List.mem_filter.mpr ⟨List.mem_append.mpr (Or.inl ?_), hg⟩
  have hm := List.mem_of_getElem? h
  unfold k2_sels at hm
  unfold k2_sels lw_privs
  simp only [List.map_append, List.mem_append]
  simp only [hm, true_or, or_true]
theorem gs_4 {w : Cond} {i : Nat} (h : (k2_sels lw_privs_4)[i]? = some w) (hg : goodWord w = true) : w ∈ gt := by
  refine List.mem_filter.mpr ⟨List.mem_append.mpr (Or.inl ?_), hg⟩
  have hm := List.mem_of_getElem? h
  unfold k2_sels at hm
  unfold k2_sels lw_privs
  simp only [List.map_append, List.mem_append]
  simp only [hm, true_or, or_true]
theorem gs_5 {w : Cond} {i : Nat} (h : (k2_sels lw_privs_5)[i]? = some w) (hg : goodWord w = true) : w ∈ gt := by
  refine List.mem_filter.mpr ⟨List.mem_append.mpr (Or.inl ?_), hg⟩
  have hm := List.mem_of_getElem? h
  unfold k2_sels at hm
  unfold k2_sels lw_privs
  simp only [List.map_append, List.mem_append]
  simp only [hm, true_or, or_true]
theorem gs_6 {w : Cond} {i : Nat} (h : (k2_sels lw_privs_6)[i]? = some w) (hg : goodWord w = true) : w ∈ gt := by
  refine List.mem_filter.mpr ⟨List.mem_append.mpr (Or.inl ?_), hg⟩
  have hm := List.mem_of_getElem? h
  unfold k2_sels at hm
  unfold k2_sels lw_privs
  simp only [List.map_append, List.mem_append]
  simp only [hm, true_or, or_true]
def tw_1_0 : List Cond := [(Jvm.Cond.initialized "PondStairLaw"), (Jvm.Cond.initialized "PondStair"), (Jvm.Cond.initialized "PondStair$Told"), (Jvm.Cond.initialized "PondStair$Hill"), (Jvm.Cond.initialized "PondStair$Works"), (Jvm.Cond.initialized "PondStair$Reader"), (Jvm.Cond.initialized "PondStair$Tokens"), (Jvm.Cond.initialized "PondStair$Site"), (Jvm.Cond.initialized "PondStair$Storm"), (Jvm.Cond.initialized "PondStair$Choice"), (Jvm.Cond.initialized "PondStair$Odds"), (Jvm.Cond.initialized "PondStairModel"), (Jvm.Cond.initialized "java/util/Arrays"), (Jvm.Cond.initialized "java/lang/Math"), (Jvm.Cond.initialized "java/lang/String"), (Jvm.Cond.initialized "java/lang/StringLatin1"), (Jvm.Cond.initialized "jdk/internal/util/Preconditions"), (Jvm.Cond.initialized "java/lang/StringUTF16"), (Jvm.Cond.initialized "java/lang/System"), (Jvm.Cond.initialized "java/lang/Integer"), (Jvm.Cond.initialized "PondStair$Years"), (Jvm.Cond.classLink "PondStairLaw" (7 : Nat) "PondStair"), (Jvm.Cond.instantiable "PondStair" (10 : Nat)), (Jvm.Cond.methodLink "PondStairLaw" (9 : Nat) ({ cls := "PondStair", name := "<init>", desc := "()V" } : Jvm.MethodName))]
def tw_1_1 : List Cond := [(Jvm.Cond.instanceMethod ({ cls := "PondStair", name := "<init>", desc := "()V" } : Jvm.MethodName)), (Jvm.Cond.code ({ cls := "PondStair", name := "<init>", desc := "()V" } : Jvm.MethodName) prog_1_method_1_code (2 : Nat) (Option.none : Option Jvm.ClassFile.FieldType)), (Jvm.Cond.methodLink "PondStair" (1 : Nat) ({ cls := "java/lang/Object", name := "<init>", desc := "()V" } : Jvm.MethodName)), (Jvm.Cond.instanceMethod ({ cls := "java/lang/Object", name := "<init>", desc := "()V" } : Jvm.MethodName)), (Jvm.Cond.code ({ cls := "java/lang/Object", name := "<init>", desc := "()V" } : Jvm.MethodName) object_method_1_code (1 : Nat) (Option.none : Option Jvm.ClassFile.FieldType)), (Jvm.Cond.classLink "PondStair" (7 : Nat) "PondStair$Told"), (Jvm.Cond.instantiable "PondStair$Told" (8 : Nat)), (Jvm.Cond.methodLink "PondStair" (9 : Nat) ({ cls := "PondStair$Told", name := "<init>", desc := "()V" } : Jvm.MethodName)), (Jvm.Cond.instanceMethod ({ cls := "PondStair$Told", name := "<init>", desc := "()V" } : Jvm.MethodName)), (Jvm.Cond.code ({ cls := "PondStair$Told", name := "<init>", desc := "()V" } : Jvm.MethodName) prog_9_method_1_code (2 : Nat) (Option.none : Option Jvm.ClassFile.FieldType)), (Jvm.Cond.methodLink "PondStair$Told" (3 : Nat) ({ cls := "java/lang/Object", name := "<init>", desc := "()V" } : Jvm.MethodName)), (Jvm.Cond.classLink "PondStair$Told" (25 : Nat) "PondStair$Hill"), (Jvm.Cond.arrayOver (Jvm.ClassFile.FieldType.object "PondStair$Hill")), (Jvm.Cond.classLink "PondStair$Told" (34 : Nat) "PondStair$Works"), (Jvm.Cond.arrayOver (Jvm.ClassFile.FieldType.object "PondStair$Works")), (Jvm.Cond.instantiable "PondStair$Hill" (6 : Nat)), (Jvm.Cond.methodLinkNest "PondStair$Told" (43 : Nat) ({ cls := "PondStair$Hill", name := "<init>", desc := "()V" } : Jvm.MethodName) "PondStair"), (Jvm.Cond.instanceMethod ({ cls := "PondStair$Hill", name := "<init>", desc := "()V" } : Jvm.MethodName)), (Jvm.Cond.code ({ cls := "PondStair$Hill", name := "<init>", desc := "()V" } : Jvm.MethodName) prog_3_method_1_code (1 : Nat) (Option.none : Option Jvm.ClassFile.FieldType)), (Jvm.Cond.methodLink "PondStair$Hill" (3 : Nat) ({ cls := "java/lang/Object", name := "<init>", desc := "()V" } : Jvm.MethodName)), (Jvm.Cond.fieldLink "PondStair$Hill" (9 : Nat) "PondStair$Hill" "ponds" "I"), (Jvm.Cond.fieldLinkNest "PondStair$Storm" (34 : Nat) "PondStair$Hill" "ponds" "I" "PondStair"), (Jvm.Cond.fieldLinkNest "PondStair$Odds" (68 : Nat) "PondStair$Hill" "ponds" "I" "PondStair"), (Jvm.Cond.fieldLinkNest "PondStair$Years" (50 : Nat) "PondStair$Hill" "ponds" "I" "PondStair")]
def tw_1_2 : List Cond := [(Jvm.Cond.fieldLinkNest "PondStair$Choice" (91 : Nat) "PondStair$Hill" "ponds" "I" "PondStair"), (Jvm.Cond.fieldLinkNest "PondStair$Reader" (174 : Nat) "PondStair$Hill" "ponds" "I" "PondStair"), (Jvm.Cond.fieldLinkNest "PondStair" (222 : Nat) "PondStair$Hill" "ponds" "I" "PondStair"), (Jvm.Cond.fieldLink "PondStair$Hill" (15 : Nat) "PondStair$Hill" "row" "[I"), (Jvm.Cond.fieldLink "PondStair$Hill" (19 : Nat) "PondStair$Hill" "rains" "I"), (Jvm.Cond.fieldLinkNest "PondStair$Odds" (51 : Nat) "PondStair$Hill" "rains" "I" "PondStair"), (Jvm.Cond.fieldLinkNest "PondStair$Reader" (61 : Nat) "PondStair$Hill" "rains" "I" "PondStair"), (Jvm.Cond.fieldLinkNest "PondStair$Years" (44 : Nat) "PondStair$Hill" "rains" "I" "PondStair"), (Jvm.Cond.fieldLinkNest "PondStair$Choice" (150 : Nat) "PondStair$Hill" "rains" "I" "PondStair"), (Jvm.Cond.fieldLink "PondStair$Hill" (22 : Nat) "PondStair$Hill" "rainSteps" "[I"), (Jvm.Cond.fieldLink "PondStair$Hill" (25 : Nat) "PondStair$Hill" "rainChance" "[I"), (Jvm.Cond.fieldLink "PondStair$Hill" (28 : Nat) "PondStair$Hill" "days" "[I"), (Jvm.Cond.fieldLinkNest "PondStair$Site" (83 : Nat) "PondStair$Hill" "days" "[I" "PondStair"), (Jvm.Cond.fieldLinkNest "PondStair$Reader" (189 : Nat) "PondStair$Hill" "days" "[I" "PondStair"), (Jvm.Cond.lays "PondStair$Hill" "PondStair$Hill" "ponds" "I"), (Jvm.Cond.soleField "PondStair$Hill" "ponds"), (Jvm.Cond.laysFinal "PondStair$Hill" "PondStair$Hill" "row" "[I"), (Jvm.Cond.soleField "PondStair$Hill" "row"), (Jvm.Cond.lays "PondStair$Hill" "PondStair$Hill" "rains" "I"), (Jvm.Cond.soleField "PondStair$Hill" "rains"), (Jvm.Cond.laysFinal "PondStair$Hill" "PondStair$Hill" "rainSteps" "[I"), (Jvm.Cond.soleField "PondStair$Hill" "rainSteps"), (Jvm.Cond.laysFinal "PondStair$Hill" "PondStair$Hill" "rainChance" "[I"), (Jvm.Cond.soleField "PondStair$Hill" "rainChance")]
def tw_1_3 : List Cond := [(Jvm.Cond.laysFinal "PondStair$Hill" "PondStair$Hill" "days" "[I"), (Jvm.Cond.soleField "PondStair$Hill" "days"), (Jvm.Cond.superclass "PondStair$Hill" "java/lang/Object"), (Jvm.Cond.arrayClass Jvm.ClassFile.FieldType.byte), (Jvm.Cond.arrayClass Jvm.ClassFile.FieldType.int), (Jvm.Cond.instantiable "PondStair$Works" (4 : Nat)), (Jvm.Cond.methodLinkNest "PondStair$Told" (44 : Nat) ({ cls := "PondStair$Works", name := "<init>", desc := "()V" } : Jvm.MethodName) "PondStair"), (Jvm.Cond.instanceMethod ({ cls := "PondStair$Works", name := "<init>", desc := "()V" } : Jvm.MethodName)), (Jvm.Cond.code ({ cls := "PondStair$Works", name := "<init>", desc := "()V" } : Jvm.MethodName) prog_10_method_1_code (1 : Nat) (Option.none : Option Jvm.ClassFile.FieldType)), (Jvm.Cond.methodLink "PondStair$Works" (3 : Nat) ({ cls := "java/lang/Object", name := "<init>", desc := "()V" } : Jvm.MethodName)), (Jvm.Cond.fieldLink "PondStair$Works" (9 : Nat) "PondStair$Works" "works" "I"), (Jvm.Cond.fieldLinkNest "PondStair$Site" (32 : Nat) "PondStair$Works" "works" "I" "PondStair"), (Jvm.Cond.fieldLinkNest "PondStair$Reader" (159 : Nat) "PondStair$Works" "works" "I" "PondStair"), (Jvm.Cond.fieldLink "PondStair$Works" (15 : Nat) "PondStair$Works" "kind" "[I"), (Jvm.Cond.fieldLinkNest "PondStair$Site" (37 : Nat) "PondStair$Works" "kind" "[I" "PondStair"), (Jvm.Cond.fieldLink "PondStair$Works" (19 : Nat) "PondStair$Works" "where" "[I"), (Jvm.Cond.fieldLinkNest "PondStair$Site" (41 : Nat) "PondStair$Works" "where" "[I" "PondStair"), (Jvm.Cond.fieldLink "PondStair$Works" (22 : Nat) "PondStair$Works" "much" "[I"), (Jvm.Cond.fieldLinkNest "PondStair$Site" (44 : Nat) "PondStair$Works" "much" "[I" "PondStair"), (Jvm.Cond.lays "PondStair$Works" "PondStair$Works" "works" "I"), (Jvm.Cond.soleField "PondStair$Works" "works"), (Jvm.Cond.laysFinal "PondStair$Works" "PondStair$Works" "kind" "[I"), (Jvm.Cond.soleField "PondStair$Works" "kind"), (Jvm.Cond.laysFinal "PondStair$Works" "PondStair$Works" "where" "[I")]
def tw_1_4 : List Cond := [(Jvm.Cond.soleField "PondStair$Works" "where"), (Jvm.Cond.laysFinal "PondStair$Works" "PondStair$Works" "much" "[I"), (Jvm.Cond.soleField "PondStair$Works" "much"), (Jvm.Cond.superclass "PondStair$Works" "java/lang/Object"), (Jvm.Cond.fieldLink "PondStair$Told" (9 : Nat) "PondStair$Told" "tape" "[B"), (Jvm.Cond.fieldLinkNest "PondStair" (89 : Nat) "PondStair$Told" "tape" "[B" "PondStair"), (Jvm.Cond.fieldLink "PondStair$Told" (15 : Nat) "PondStair$Told" "length" "I"), (Jvm.Cond.fieldLinkNest "PondStair" (71 : Nat) "PondStair$Told" "length" "I" "PondStair"), (Jvm.Cond.fieldLink "PondStair$Told" (19 : Nat) "PondStair$Told" "fault" "I"), (Jvm.Cond.fieldLinkNest "PondStair" (79 : Nat) "PondStair$Told" "fault" "I" "PondStair"), (Jvm.Cond.fieldLink "PondStair$Told" (22 : Nat) "PondStair$Told" "place" "I"), (Jvm.Cond.fieldLinkNest "PondStair" (82 : Nat) "PondStair$Told" "place" "I" "PondStair"), (Jvm.Cond.fieldLink "PondStair$Told" (27 : Nat) "PondStair$Told" "hill" "[LPondStair$Hill;"), (Jvm.Cond.fieldLinkNest "PondStair" (107 : Nat) "PondStair$Told" "hill" "[LPondStair$Hill;" "PondStair"), (Jvm.Cond.fieldLink "PondStair$Told" (31 : Nat) "PondStair$Told" "hills" "I"), (Jvm.Cond.fieldLinkNest "PondStair" (328 : Nat) "PondStair$Told" "hills" "I" "PondStair"), (Jvm.Cond.fieldLink "PondStair$Told" (36 : Nat) "PondStair$Told" "works" "[LPondStair$Works;"), (Jvm.Cond.fieldLinkNest "PondStair" (130 : Nat) "PondStair$Told" "works" "[LPondStair$Works;" "PondStair"), (Jvm.Cond.fieldLink "PondStair$Told" (40 : Nat) "PondStair$Told" "plans" "I"), (Jvm.Cond.fieldLinkNest "PondStair" (331 : Nat) "PondStair$Told" "plans" "I" "PondStair"), (Jvm.Cond.laysFinal "PondStair$Told" "PondStair$Told" "tape" "[B"), (Jvm.Cond.soleField "PondStair$Told" "tape"), (Jvm.Cond.lays "PondStair$Told" "PondStair$Told" "length" "I"), (Jvm.Cond.soleField "PondStair$Told" "length")]
def tw_1_5 : List Cond := [(Jvm.Cond.lays "PondStair$Told" "PondStair$Told" "fault" "I"), (Jvm.Cond.soleField "PondStair$Told" "fault"), (Jvm.Cond.lays "PondStair$Told" "PondStair$Told" "place" "I"), (Jvm.Cond.soleField "PondStair$Told" "place"), (Jvm.Cond.laysFinal "PondStair$Told" "PondStair$Told" "hill" "[LPondStair$Hill;"), (Jvm.Cond.soleField "PondStair$Told" "hill"), (Jvm.Cond.lays "PondStair$Told" "PondStair$Told" "hills" "I"), (Jvm.Cond.soleField "PondStair$Told" "hills"), (Jvm.Cond.laysFinal "PondStair$Told" "PondStair$Told" "works" "[LPondStair$Works;"), (Jvm.Cond.soleField "PondStair$Told" "works"), (Jvm.Cond.lays "PondStair$Told" "PondStair$Told" "plans" "I"), (Jvm.Cond.soleField "PondStair$Told" "plans"), (Jvm.Cond.superclass "PondStair$Told" "java/lang/Object"), (Jvm.Cond.arrayOver (Jvm.ClassFile.FieldType.object "PondStair$Told")), (Jvm.Cond.classLink "PondStair" (24 : Nat) "PondStair$Reader"), (Jvm.Cond.instantiable "PondStair$Reader" (7 : Nat)), (Jvm.Cond.methodLinkNest "PondStair" (26 : Nat) ({ cls := "PondStair$Reader", name := "<init>", desc := "()V" } : Jvm.MethodName) "PondStair"), (Jvm.Cond.instanceMethod ({ cls := "PondStair$Reader", name := "<init>", desc := "()V" } : Jvm.MethodName)), (Jvm.Cond.code ({ cls := "PondStair$Reader", name := "<init>", desc := "()V" } : Jvm.MethodName) prog_5_method_1_code (1 : Nat) (Option.none : Option Jvm.ClassFile.FieldType)), (Jvm.Cond.methodLink "PondStair$Reader" (3 : Nat) ({ cls := "java/lang/Object", name := "<init>", desc := "()V" } : Jvm.MethodName)), (Jvm.Cond.classLink "PondStair$Reader" (9 : Nat) "PondStair$Tokens"), (Jvm.Cond.instantiable "PondStair$Tokens" (6 : Nat)), (Jvm.Cond.methodLinkNest "PondStair$Reader" (11 : Nat) ({ cls := "PondStair$Tokens", name := "<init>", desc := "()V" } : Jvm.MethodName) "PondStair"), (Jvm.Cond.instanceMethod ({ cls := "PondStair$Tokens", name := "<init>", desc := "()V" } : Jvm.MethodName))]
def tw_1_6 : List Cond := [(Jvm.Cond.code ({ cls := "PondStair$Tokens", name := "<init>", desc := "()V" } : Jvm.MethodName) prog_8_method_1_code (1 : Nat) (Option.none : Option Jvm.ClassFile.FieldType)), (Jvm.Cond.methodLink "PondStair$Tokens" (1 : Nat) ({ cls := "java/lang/Object", name := "<init>", desc := "()V" } : Jvm.MethodName)), (Jvm.Cond.fieldLink "PondStair$Tokens" (7 : Nat) "PondStair$Tokens" "tape" "[B"), (Jvm.Cond.fieldLink "PondStair$Tokens" (13 : Nat) "PondStair$Tokens" "length" "I"), (Jvm.Cond.fieldLinkNest "PondStair$Reader" (72 : Nat) "PondStair$Tokens" "length" "I" "PondStair"), (Jvm.Cond.fieldLink "PondStair$Tokens" (17 : Nat) "PondStair$Tokens" "next" "I"), (Jvm.Cond.fieldLink "PondStair$Tokens" (20 : Nat) "PondStair$Tokens" "kind" "I"), (Jvm.Cond.fieldLinkNest "PondStair$Reader" (82 : Nat) "PondStair$Tokens" "kind" "I" "PondStair"), (Jvm.Cond.fieldLink "PondStair$Tokens" (23 : Nat) "PondStair$Tokens" "start" "I"), (Jvm.Cond.fieldLinkNest "PondStair$Reader" (89 : Nat) "PondStair$Tokens" "start" "I" "PondStair"), (Jvm.Cond.fieldLink "PondStair$Tokens" (26 : Nat) "PondStair$Tokens" "value" "I"), (Jvm.Cond.fieldLinkNest "PondStair$Reader" (102 : Nat) "PondStair$Tokens" "value" "I" "PondStair"), (Jvm.Cond.lays "PondStair$Tokens" "PondStair$Tokens" "tape" "[B"), (Jvm.Cond.soleField "PondStair$Tokens" "tape"), (Jvm.Cond.lays "PondStair$Tokens" "PondStair$Tokens" "length" "I"), (Jvm.Cond.soleField "PondStair$Tokens" "length"), (Jvm.Cond.lays "PondStair$Tokens" "PondStair$Tokens" "next" "I"), (Jvm.Cond.soleField "PondStair$Tokens" "next"), (Jvm.Cond.lays "PondStair$Tokens" "PondStair$Tokens" "kind" "I"), (Jvm.Cond.soleField "PondStair$Tokens" "kind"), (Jvm.Cond.lays "PondStair$Tokens" "PondStair$Tokens" "start" "I"), (Jvm.Cond.soleField "PondStair$Tokens" "start"), (Jvm.Cond.lays "PondStair$Tokens" "PondStair$Tokens" "value" "I"), (Jvm.Cond.soleField "PondStair$Tokens" "value")]
def tw_1_7 : List Cond := [(Jvm.Cond.superclass "PondStair$Tokens" "java/lang/Object"), (Jvm.Cond.arrayClass Jvm.ClassFile.FieldType.boolean), (Jvm.Cond.classLink "PondStair$Reader" (18 : Nat) "PondStair$Hill"), (Jvm.Cond.methodLinkNest "PondStair$Reader" (20 : Nat) ({ cls := "PondStair$Hill", name := "<init>", desc := "()V" } : Jvm.MethodName) "PondStair"), (Jvm.Cond.classLink "PondStair$Reader" (25 : Nat) "PondStair$Works"), (Jvm.Cond.methodLinkNest "PondStair$Reader" (27 : Nat) ({ cls := "PondStair$Works", name := "<init>", desc := "()V" } : Jvm.MethodName) "PondStair"), (Jvm.Cond.fieldLink "PondStair$Reader" (12 : Nat) "PondStair$Reader" "tokens" "LPondStair$Tokens;"), (Jvm.Cond.fieldLink "PondStair$Reader" (21 : Nat) "PondStair$Reader" "hill" "LPondStair$Hill;"), (Jvm.Cond.fieldLinkNest "PondStair$Told" (45 : Nat) "PondStair$Reader" "hill" "LPondStair$Hill;" "PondStair"), (Jvm.Cond.fieldLink "PondStair$Reader" (28 : Nat) "PondStair$Reader" "works" "LPondStair$Works;"), (Jvm.Cond.fieldLinkNest "PondStair$Told" (60 : Nat) "PondStair$Reader" "works" "LPondStair$Works;" "PondStair"), (Jvm.Cond.fieldLink "PondStair$Reader" (32 : Nat) "PondStair$Reader" "numbers" "[I"), (Jvm.Cond.fieldLink "PondStair$Reader" (36 : Nat) "PondStair$Reader" "places" "[I"), (Jvm.Cond.fieldLink "PondStair$Reader" (39 : Nat) "PondStair$Reader" "fault" "I"), (Jvm.Cond.fieldLinkNest "PondStair" (97 : Nat) "PondStair$Reader" "fault" "I" "PondStair"), (Jvm.Cond.fieldLink "PondStair$Reader" (43 : Nat) "PondStair$Reader" "place" "I"), (Jvm.Cond.fieldLinkNest "PondStair" (98 : Nat) "PondStair$Reader" "place" "I" "PondStair"), (Jvm.Cond.laysFinal "PondStair$Reader" "PondStair$Reader" "tokens" "LPondStair$Tokens;"), (Jvm.Cond.soleField "PondStair$Reader" "tokens"), (Jvm.Cond.laysFinal "PondStair$Reader" "PondStair$Reader" "hill" "LPondStair$Hill;"), (Jvm.Cond.soleField "PondStair$Reader" "hill"), (Jvm.Cond.laysFinal "PondStair$Reader" "PondStair$Reader" "works" "LPondStair$Works;"), (Jvm.Cond.soleField "PondStair$Reader" "works"), (Jvm.Cond.laysFinal "PondStair$Reader" "PondStair$Reader" "numbers" "[I")]
def tw_1_8 : List Cond := [(Jvm.Cond.soleField "PondStair$Reader" "numbers"), (Jvm.Cond.laysFinal "PondStair$Reader" "PondStair$Reader" "places" "[I"), (Jvm.Cond.soleField "PondStair$Reader" "places"), (Jvm.Cond.lays "PondStair$Reader" "PondStair$Reader" "fault" "I"), (Jvm.Cond.soleField "PondStair$Reader" "fault"), (Jvm.Cond.lays "PondStair$Reader" "PondStair$Reader" "place" "I"), (Jvm.Cond.soleField "PondStair$Reader" "place"), (Jvm.Cond.superclass "PondStair$Reader" "java/lang/Object"), (Jvm.Cond.classLink "PondStair" (31 : Nat) "PondStair$Site"), (Jvm.Cond.instantiable "PondStair$Site" (4 : Nat)), (Jvm.Cond.methodLinkNest "PondStair" (33 : Nat) ({ cls := "PondStair$Site", name := "<init>", desc := "()V" } : Jvm.MethodName) "PondStair"), (Jvm.Cond.instanceMethod ({ cls := "PondStair$Site", name := "<init>", desc := "()V" } : Jvm.MethodName)), (Jvm.Cond.code ({ cls := "PondStair$Site", name := "<init>", desc := "()V" } : Jvm.MethodName) prog_6_method_1_code (1 : Nat) (Option.none : Option Jvm.ClassFile.FieldType)), (Jvm.Cond.methodLink "PondStair$Site" (3 : Nat) ({ cls := "java/lang/Object", name := "<init>", desc := "()V" } : Jvm.MethodName)), (Jvm.Cond.classLink "PondStair$Site" (9 : Nat) "PondStair$Hill"), (Jvm.Cond.methodLinkNest "PondStair$Site" (11 : Nat) ({ cls := "PondStair$Hill", name := "<init>", desc := "()V" } : Jvm.MethodName) "PondStair"), (Jvm.Cond.fieldLink "PondStair$Site" (12 : Nat) "PondStair$Site" "ground" "LPondStair$Hill;"), (Jvm.Cond.fieldLinkNest "PondStair" (118 : Nat) "PondStair$Site" "ground" "LPondStair$Hill;" "PondStair"), (Jvm.Cond.fieldLink "PondStair$Site" (18 : Nat) "PondStair$Site" "stop" "I"), (Jvm.Cond.fieldLinkNest "PondStair" (136 : Nat) "PondStair$Site" "stop" "I" "PondStair"), (Jvm.Cond.fieldLink "PondStair$Site" (22 : Nat) "PondStair$Site" "days" "I"), (Jvm.Cond.fieldLinkNest "PondStair" (139 : Nat) "PondStair$Site" "days" "I" "PondStair"), (Jvm.Cond.fieldLink "PondStair$Site" (25 : Nat) "PondStair$Site" "lost" "I"), (Jvm.Cond.fieldLinkNest "PondStair" (142 : Nat) "PondStair$Site" "lost" "I" "PondStair")]
def tw_1_9 : List Cond := [(Jvm.Cond.laysFinal "PondStair$Site" "PondStair$Site" "ground" "LPondStair$Hill;"), (Jvm.Cond.soleField "PondStair$Site" "ground"), (Jvm.Cond.lays "PondStair$Site" "PondStair$Site" "stop" "I"), (Jvm.Cond.soleField "PondStair$Site" "stop"), (Jvm.Cond.lays "PondStair$Site" "PondStair$Site" "days" "I"), (Jvm.Cond.soleField "PondStair$Site" "days"), (Jvm.Cond.lays "PondStair$Site" "PondStair$Site" "lost" "I"), (Jvm.Cond.soleField "PondStair$Site" "lost"), (Jvm.Cond.superclass "PondStair$Site" "java/lang/Object"), (Jvm.Cond.classLink "PondStair" (38 : Nat) "PondStair$Works"), (Jvm.Cond.methodLinkNest "PondStair" (40 : Nat) ({ cls := "PondStair$Works", name := "<init>", desc := "()V" } : Jvm.MethodName) "PondStair"), (Jvm.Cond.classLink "PondStair" (45 : Nat) "PondStair$Storm"), (Jvm.Cond.instantiable "PondStair$Storm" (7 : Nat)), (Jvm.Cond.methodLinkNest "PondStair" (47 : Nat) ({ cls := "PondStair$Storm", name := "<init>", desc := "()V" } : Jvm.MethodName) "PondStair"), (Jvm.Cond.instanceMethod ({ cls := "PondStair$Storm", name := "<init>", desc := "()V" } : Jvm.MethodName)), (Jvm.Cond.code ({ cls := "PondStair$Storm", name := "<init>", desc := "()V" } : Jvm.MethodName) prog_7_method_1_code (1 : Nat) (Option.none : Option Jvm.ClassFile.FieldType)), (Jvm.Cond.methodLink "PondStair$Storm" (3 : Nat) ({ cls := "java/lang/Object", name := "<init>", desc := "()V" } : Jvm.MethodName)), (Jvm.Cond.fieldLink "PondStair$Storm" (9 : Nat) "PondStair$Storm" "ponds" "I"), (Jvm.Cond.fieldLink "PondStair$Storm" (15 : Nat) "PondStair$Storm" "went" "I"), (Jvm.Cond.fieldLinkNest "PondStair$Odds" (62 : Nat) "PondStair$Storm" "went" "I" "PondStair"), (Jvm.Cond.fieldLinkNest "PondStair$Years" (38 : Nat) "PondStair$Storm" "went" "I" "PondStair"), (Jvm.Cond.fieldLinkNest "PondStair" (193 : Nat) "PondStair$Storm" "went" "I" "PondStair"), (Jvm.Cond.fieldLink "PondStair$Storm" (18 : Nat) "PondStair$Storm" "harm" "I"), (Jvm.Cond.fieldLinkNest "PondStair$Years" (35 : Nat) "PondStair$Storm" "harm" "I" "PondStair")]
set_option maxRecDepth 100000 in
theorem tp_1 : tables_1_1 = tw_1_0 ++ (tw_1_1 ++ (tw_1_2 ++ (tw_1_3 ++ (tw_1_4 ++ (tw_1_5 ++ (tw_1_6 ++ (tw_1_7 ++ (tw_1_8 ++ (tw_1_9))))))))) := rfl
theorem gt_m1 {w : Cond} (hm : w ∈ tables_1_1) (hg : goodWord w = true) : w ∈ gt := by
  refine List.mem_filter.mpr ⟨?_, hg⟩
  unfold lw_tbl tables_1
  simp only [List.mem_append]
  simp only [hm, true_or, or_true]
theorem gt_1_0 {w : Cond} {i : Nat} (h : tw_1_0[i]? = some w) (hg : goodWord w = true) : w ∈ gt := by
  have hm := List.mem_of_getElem? h
  refine gt_m1 ?_ hg
  rw [tp_1]
  simp only [List.mem_append]
  simp only [hm, true_or, or_true]
theorem gt_1_1 {w : Cond} {i : Nat} (h : tw_1_1[i]? = some w) (hg : goodWord w = true) : w ∈ gt := by
  have hm := List.mem_of_getElem? h
  refine gt_m1 ?_ hg
  rw [tp_1]
  simp only [List.mem_append]
  simp only [hm, true_or, or_true]
theorem gt_1_2 {w : Cond} {i : Nat} (h : tw_1_2[i]? = some w) (hg : goodWord w = true) : w ∈ gt := by
  have hm := List.mem_of_getElem? h
  refine gt_m1 ?_ hg
  rw [tp_1]
  simp only [List.mem_append]
  simp only [hm, true_or, or_true]
theorem gt_1_3 {w : Cond} {i : Nat} (h : tw_1_3[i]? = some w) (hg : goodWord w = true) : w ∈ gt := by
  have hm := List.mem_of_getElem? h
  refine gt_m1 ?_ hg
  rw [tp_1]
  simp only [List.mem_append]
  simp only [hm, true_or, or_true]
theorem gt_1_4 {w : Cond} {i : Nat} (h : tw_1_4[i]? = some w) (hg : goodWord w = true) : w ∈ gt := by
  have hm := List.mem_of_getElem? h
  refine gt_m1 ?_ hg
  rw [tp_1]
  simp only [List.mem_append]
  simp only [hm, true_or, or_true]
theorem gt_1_5 {w : Cond} {i : Nat} (h : tw_1_5[i]? = some w) (hg : goodWord w = true) : w ∈ gt := by
  have hm := List.mem_of_getElem? h
  refine gt_m1 ?_ hg
  rw [tp_1]
  simp only [List.mem_append]
  simp only [hm, true_or, or_true]
theorem gt_1_6 {w : Cond} {i : Nat} (h : tw_1_6[i]? = some w) (hg : goodWord w = true) : w ∈ gt := by
  have hm := List.mem_of_getElem? h
  refine gt_m1 ?_ hg
  rw [tp_1]
  simp only [List.mem_append]
  simp only [hm, true_or, or_true]
theorem gt_1_7 {w : Cond} {i : Nat} (h : tw_1_7[i]? = some w) (hg : goodWord w = true) : w ∈ gt := by
  have hm := List.mem_of_getElem? h
  refine gt_m1 ?_ hg
  rw [tp_1]
  simp only [List.mem_append]
  simp only [hm, true_or, or_true]
theorem gt_1_8 {w : Cond} {i : Nat} (h : tw_1_8[i]? = some w) (hg : goodWord w = true) : w ∈ gt := by
  have hm := List.mem_of_getElem? h
  refine gt_m1 ?_ hg
  rw [tp_1]
  simp only [List.mem_append]
  simp only [hm, true_or, or_true]
theorem gt_1_9 {w : Cond} {i : Nat} (h : tw_1_9[i]? = some w) (hg : goodWord w = true) : w ∈ gt := by
  have hm := List.mem_of_getElem? h
  refine gt_m1 ?_ hg
  rw [tp_1]
  simp only [List.mem_append]
  simp only [hm, true_or, or_true]
theorem nt_m1 {w : Cond} (hm : w ∈ tables_1_1) (hg : nw w = true) : w ∈ nt := by
  refine List.mem_filter.mpr ⟨?_, hg⟩
  unfold lw_tbl tables_1
  simp only [List.mem_append]
  simp only [hm, true_or, or_true]
theorem nt_1_1 {w : Cond} {i : Nat} (h : tw_1_1[i]? = some w) (hg : nw w = true) : w ∈ nt := by
  have hm := List.mem_of_getElem? h
  refine nt_m1 ?_ hg
  rw [tp_1]
  simp only [List.mem_append]
  simp only [hm, true_or, or_true]
theorem nt_1_2 {w : Cond} {i : Nat} (h : tw_1_2[i]? = some w) (hg : nw w = true) : w ∈ nt := by
  have hm := List.mem_of_getElem? h
  refine nt_m1 ?_ hg
  rw [tp_1]
  simp only [List.mem_append]
  simp only [hm, true_or, or_true]
theorem nt_1_3 {w : Cond} {i : Nat} (h : tw_1_3[i]? = some w) (hg : nw w = true) : w ∈ nt := by
  have hm := List.mem_of_getElem? h
  refine nt_m1 ?_ hg
  rw [tp_1]
  simp only [List.mem_append]
  simp only [hm, true_or, or_true]
theorem nt_1_4 {w : Cond} {i : Nat} (h : tw_1_4[i]? = some w) (hg : nw w = true) : w ∈ nt := by
  have hm := List.mem_of_getElem? h
  refine nt_m1 ?_ hg
  rw [tp_1]
  simp only [List.mem_append]
  simp only [hm, true_or, or_true]
theorem nt_1_5 {w : Cond} {i : Nat} (h : tw_1_5[i]? = some w) (hg : nw w = true) : w ∈ nt := by
  have hm := List.mem_of_getElem? h
  refine nt_m1 ?_ hg
  rw [tp_1]
  simp only [List.mem_append]
  simp only [hm, true_or, or_true]
theorem nt_1_6 {w : Cond} {i : Nat} (h : tw_1_6[i]? = some w) (hg : nw w = true) : w ∈ nt := by
  have hm := List.mem_of_getElem? h
  refine nt_m1 ?_ hg
  rw [tp_1]
  simp only [List.mem_append]
  simp only [hm, true_or, or_true]
theorem nt_1_7 {w : Cond} {i : Nat} (h : tw_1_7[i]? = some w) (hg : nw w = true) : w ∈ nt := by
  have hm := List.mem_of_getElem? h
  refine nt_m1 ?_ hg
  rw [tp_1]
  simp only [List.mem_append]
  simp only [hm, true_or, or_true]
theorem nt_1_8 {w : Cond} {i : Nat} (h : tw_1_8[i]? = some w) (hg : nw w = true) : w ∈ nt := by
  have hm := List.mem_of_getElem? h
  refine nt_m1 ?_ hg
  rw [tp_1]
  simp only [List.mem_append]
  simp only [hm, true_or, or_true]
theorem nt_1_9 {w : Cond} {i : Nat} (h : tw_1_9[i]? = some w) (hg : nw w = true) : w ∈ nt := by
  have hm := List.mem_of_getElem? h
  refine nt_m1 ?_ hg
  rw [tp_1]
  simp only [List.mem_append]
  simp only [hm, true_or, or_true]
def tw_2_0 : List Cond := [(Jvm.Cond.fieldLink "PondStair$Storm" (21 : Nat) "PondStair$Storm" "heard" "I"), (Jvm.Cond.fieldLink "PondStair$Storm" (24 : Nat) "PondStair$Storm" "brook" "I"), (Jvm.Cond.fieldLinkNest "PondStair$Odds" (124 : Nat) "PondStair$Storm" "brook" "I" "PondStair"), (Jvm.Cond.fieldLink "PondStair$Storm" (27 : Nat) "PondStair$Storm" "water" "[I"), (Jvm.Cond.fieldLink "PondStair$Storm" (31 : Nat) "PondStair$Storm" "left" "[I"), (Jvm.Cond.lays "PondStair$Storm" "PondStair$Storm" "ponds" "I"), (Jvm.Cond.soleField "PondStair$Storm" "ponds"), (Jvm.Cond.lays "PondStair$Storm" "PondStair$Storm" "went" "I"), (Jvm.Cond.soleField "PondStair$Storm" "went"), (Jvm.Cond.lays "PondStair$Storm" "PondStair$Storm" "harm" "I"), (Jvm.Cond.soleField "PondStair$Storm" "harm"), (Jvm.Cond.lays "PondStair$Storm" "PondStair$Storm" "heard" "I"), (Jvm.Cond.soleField "PondStair$Storm" "heard"), (Jvm.Cond.lays "PondStair$Storm" "PondStair$Storm" "brook" "I"), (Jvm.Cond.soleField "PondStair$Storm" "brook"), (Jvm.Cond.laysFinal "PondStair$Storm" "PondStair$Storm" "water" "[I"), (Jvm.Cond.soleField "PondStair$Storm" "water"), (Jvm.Cond.laysFinal "PondStair$Storm" "PondStair$Storm" "left" "[I"), (Jvm.Cond.soleField "PondStair$Storm" "left"), (Jvm.Cond.superclass "PondStair$Storm" "java/lang/Object"), (Jvm.Cond.classLink "PondStair" (52 : Nat) "PondStair$Choice"), (Jvm.Cond.instantiable "PondStair$Choice" (10 : Nat)), (Jvm.Cond.methodLinkNest "PondStair" (54 : Nat) ({ cls := "PondStair$Choice", name := "<init>", desc := "()V" } : Jvm.MethodName) "PondStair"), (Jvm.Cond.instanceMethod ({ cls := "PondStair$Choice", name := "<init>", desc := "()V" } : Jvm.MethodName))]
def tw_2_1 : List Cond := [(Jvm.Cond.code ({ cls := "PondStair$Choice", name := "<init>", desc := "()V" } : Jvm.MethodName) prog_2_method_1_code (1 : Nat) (Option.none : Option Jvm.ClassFile.FieldType)), (Jvm.Cond.methodLink "PondStair$Choice" (3 : Nat) ({ cls := "java/lang/Object", name := "<init>", desc := "()V" } : Jvm.MethodName)), (Jvm.Cond.classLink "PondStair$Choice" (9 : Nat) "PondStair$Odds"), (Jvm.Cond.instantiable "PondStair$Odds" (6 : Nat)), (Jvm.Cond.methodLinkNest "PondStair$Choice" (11 : Nat) ({ cls := "PondStair$Odds", name := "<init>", desc := "()V" } : Jvm.MethodName) "PondStair"), (Jvm.Cond.instanceMethod ({ cls := "PondStair$Odds", name := "<init>", desc := "()V" } : Jvm.MethodName)), (Jvm.Cond.code ({ cls := "PondStair$Odds", name := "<init>", desc := "()V" } : Jvm.MethodName) prog_4_method_1_code (1 : Nat) (Option.none : Option Jvm.ClassFile.FieldType)), (Jvm.Cond.methodLink "PondStair$Odds" (3 : Nat) ({ cls := "java/lang/Object", name := "<init>", desc := "()V" } : Jvm.MethodName)), (Jvm.Cond.classLink "PondStair$Odds" (9 : Nat) "PondStair$Storm"), (Jvm.Cond.methodLinkNest "PondStair$Odds" (11 : Nat) ({ cls := "PondStair$Storm", name := "<init>", desc := "()V" } : Jvm.MethodName) "PondStair"), (Jvm.Cond.classLink "PondStair$Odds" (18 : Nat) "PondStair$Hill"), (Jvm.Cond.methodLinkNest "PondStair$Odds" (20 : Nat) ({ cls := "PondStair$Hill", name := "<init>", desc := "()V" } : Jvm.MethodName) "PondStair"), (Jvm.Cond.fieldLink "PondStair$Odds" (12 : Nat) "PondStair$Odds" "flow" "LPondStair$Storm;"), (Jvm.Cond.fieldLink "PondStair$Odds" (21 : Nat) "PondStair$Odds" "hill" "LPondStair$Hill;"), (Jvm.Cond.fieldLinkNest "PondStair$Choice" (57 : Nat) "PondStair$Odds" "hill" "LPondStair$Hill;" "PondStair"), (Jvm.Cond.fieldLink "PondStair$Odds" (25 : Nat) "PondStair$Odds" "went" "[I"), (Jvm.Cond.fieldLink "PondStair$Odds" (29 : Nat) "PondStair$Odds" "harm" "[I"), (Jvm.Cond.fieldLink "PondStair$Odds" (32 : Nat) "PondStair$Odds" "weight" "[J"), (Jvm.Cond.fieldLink "PondStair$Odds" (36 : Nat) "PondStair$Odds" "together" "[J"), (Jvm.Cond.fieldLinkNest "PondStair" (186 : Nat) "PondStair$Odds" "together" "[J" "PondStair"), (Jvm.Cond.laysFinal "PondStair$Odds" "PondStair$Odds" "flow" "LPondStair$Storm;"), (Jvm.Cond.soleField "PondStair$Odds" "flow"), (Jvm.Cond.laysFinal "PondStair$Odds" "PondStair$Odds" "hill" "LPondStair$Hill;"), (Jvm.Cond.soleField "PondStair$Odds" "hill")]
def tw_2_2 : List Cond := [(Jvm.Cond.laysFinal "PondStair$Odds" "PondStair$Odds" "went" "[I"), (Jvm.Cond.soleField "PondStair$Odds" "went"), (Jvm.Cond.laysFinal "PondStair$Odds" "PondStair$Odds" "harm" "[I"), (Jvm.Cond.soleField "PondStair$Odds" "harm"), (Jvm.Cond.laysFinal "PondStair$Odds" "PondStair$Odds" "weight" "[J"), (Jvm.Cond.soleField "PondStair$Odds" "weight"), (Jvm.Cond.laysFinal "PondStair$Odds" "PondStair$Odds" "together" "[J"), (Jvm.Cond.soleField "PondStair$Odds" "together"), (Jvm.Cond.superclass "PondStair$Odds" "java/lang/Object"), (Jvm.Cond.arrayClass Jvm.ClassFile.FieldType.long), (Jvm.Cond.classLink "PondStair$Choice" (18 : Nat) "PondStair$Hill"), (Jvm.Cond.methodLinkNest "PondStair$Choice" (20 : Nat) ({ cls := "PondStair$Hill", name := "<init>", desc := "()V" } : Jvm.MethodName) "PondStair"), (Jvm.Cond.fieldLink "PondStair$Choice" (12 : Nat) "PondStair$Choice" "odds" "LPondStair$Odds;"), (Jvm.Cond.fieldLinkNest "PondStair" (59 : Nat) "PondStair$Choice" "odds" "LPondStair$Odds;" "PondStair"), (Jvm.Cond.fieldLink "PondStair$Choice" (21 : Nat) "PondStair$Choice" "trial" "LPondStair$Hill;"), (Jvm.Cond.fieldLink "PondStair$Choice" (25 : Nat) "PondStair$Choice" "first" "I"), (Jvm.Cond.fieldLinkNest "PondStair" (233 : Nat) "PondStair$Choice" "first" "I" "PondStair"), (Jvm.Cond.fieldLink "PondStair$Choice" (29 : Nat) "PondStair$Choice" "second" "I"), (Jvm.Cond.fieldLinkNest "PondStair" (319 : Nat) "PondStair$Choice" "second" "I" "PondStair"), (Jvm.Cond.fieldLink "PondStair$Choice" (32 : Nat) "PondStair$Choice" "least" "J"), (Jvm.Cond.fieldLinkNest "PondStair" (229 : Nat) "PondStair$Choice" "least" "J" "PondStair"), (Jvm.Cond.fieldLink "PondStair$Choice" (36 : Nat) "PondStair$Choice" "filling" "I"), (Jvm.Cond.fieldLink "PondStair$Choice" (39 : Nat) "PondStair$Choice" "toFill" "[I"), (Jvm.Cond.fieldLink "PondStair$Choice" (43 : Nat) "PondStair$Choice" "order" "[I")]
def tw_2_3 : List Cond := [(Jvm.Cond.fieldLink "PondStair$Choice" (46 : Nat) "PondStair$Choice" "tried" "[I"), (Jvm.Cond.fieldLink "PondStair$Choice" (49 : Nat) "PondStair$Choice" "filledMean" "[J"), (Jvm.Cond.laysFinal "PondStair$Choice" "PondStair$Choice" "odds" "LPondStair$Odds;"), (Jvm.Cond.soleField "PondStair$Choice" "odds"), (Jvm.Cond.laysFinal "PondStair$Choice" "PondStair$Choice" "trial" "LPondStair$Hill;"), (Jvm.Cond.soleField "PondStair$Choice" "trial"), (Jvm.Cond.lays "PondStair$Choice" "PondStair$Choice" "first" "I"), (Jvm.Cond.soleField "PondStair$Choice" "first"), (Jvm.Cond.lays "PondStair$Choice" "PondStair$Choice" "second" "I"), (Jvm.Cond.soleField "PondStair$Choice" "second"), (Jvm.Cond.lays "PondStair$Choice" "PondStair$Choice" "least" "J"), (Jvm.Cond.soleField "PondStair$Choice" "least"), (Jvm.Cond.lays "PondStair$Choice" "PondStair$Choice" "filling" "I"), (Jvm.Cond.soleField "PondStair$Choice" "filling"), (Jvm.Cond.laysFinal "PondStair$Choice" "PondStair$Choice" "toFill" "[I"), (Jvm.Cond.soleField "PondStair$Choice" "toFill"), (Jvm.Cond.laysFinal "PondStair$Choice" "PondStair$Choice" "order" "[I"), (Jvm.Cond.soleField "PondStair$Choice" "order"), (Jvm.Cond.laysFinal "PondStair$Choice" "PondStair$Choice" "tried" "[I"), (Jvm.Cond.soleField "PondStair$Choice" "tried"), (Jvm.Cond.laysFinal "PondStair$Choice" "PondStair$Choice" "filledMean" "[J"), (Jvm.Cond.soleField "PondStair$Choice" "filledMean"), (Jvm.Cond.superclass "PondStair$Choice" "java/lang/Object"), (Jvm.Cond.classLink "PondStair" (64 : Nat) "PondStair$Hill")]
def tw_2_4 : List Cond := [(Jvm.Cond.methodLinkNest "PondStair" (66 : Nat) ({ cls := "PondStair$Hill", name := "<init>", desc := "()V" } : Jvm.MethodName) "PondStair"), (Jvm.Cond.fieldLink "PondStair" (10 : Nat) "PondStair" "told" "LPondStair$Told;"), (Jvm.Cond.fieldLink "PondStair" (16 : Nat) "PondStair" "images" "[LPondStair$Told;"), (Jvm.Cond.fieldLink "PondStair" (20 : Nat) "PondStair" "taken" "[Z"), (Jvm.Cond.fieldLink "PondStair" (27 : Nat) "PondStair" "reader" "LPondStair$Reader;"), (Jvm.Cond.fieldLink "PondStair" (34 : Nat) "PondStair" "site" "LPondStair$Site;"), (Jvm.Cond.fieldLink "PondStair" (41 : Nat) "PondStair" "nothing" "LPondStair$Works;"), (Jvm.Cond.fieldLink "PondStair" (48 : Nat) "PondStair" "flow" "LPondStair$Storm;"), (Jvm.Cond.fieldLink "PondStair" (55 : Nat) "PondStair" "choice" "LPondStair$Choice;"), (Jvm.Cond.fieldLink "PondStair" (63 : Nat) "PondStair" "odds" "LPondStair$Odds;"), (Jvm.Cond.fieldLink "PondStair" (67 : Nat) "PondStair" "trial" "LPondStair$Hill;"), (Jvm.Cond.laysFinal "PondStair" "PondStair" "told" "LPondStair$Told;"), (Jvm.Cond.soleField "PondStair" "told"), (Jvm.Cond.laysFinal "PondStair" "PondStair" "images" "[LPondStair$Told;"), (Jvm.Cond.soleField "PondStair" "images"), (Jvm.Cond.laysFinal "PondStair" "PondStair" "taken" "[Z"), (Jvm.Cond.soleField "PondStair" "taken"), (Jvm.Cond.laysFinal "PondStair" "PondStair" "reader" "LPondStair$Reader;"), (Jvm.Cond.soleField "PondStair" "reader"), (Jvm.Cond.laysFinal "PondStair" "PondStair" "site" "LPondStair$Site;"), (Jvm.Cond.soleField "PondStair" "site"), (Jvm.Cond.laysFinal "PondStair" "PondStair" "nothing" "LPondStair$Works;"), (Jvm.Cond.soleField "PondStair" "nothing"), (Jvm.Cond.laysFinal "PondStair" "PondStair" "flow" "LPondStair$Storm;")]
def tw_2_5 : List Cond := [(Jvm.Cond.soleField "PondStair" "flow"), (Jvm.Cond.laysFinal "PondStair" "PondStair" "choice" "LPondStair$Choice;"), (Jvm.Cond.soleField "PondStair" "choice"), (Jvm.Cond.laysFinal "PondStair" "PondStair" "odds" "LPondStair$Odds;"), (Jvm.Cond.soleField "PondStair" "odds"), (Jvm.Cond.laysFinal "PondStair" "PondStair" "trial" "LPondStair$Hill;"), (Jvm.Cond.soleField "PondStair" "trial"), (Jvm.Cond.superclass "PondStair" "java/lang/Object"), (Jvm.Cond.methodLink "PondStairLaw" (13 : Nat) ({ cls := "PondStair", name := "feed", desc := "(IIIII)I" } : Jvm.MethodName)), (Jvm.Cond.instanceMethod ({ cls := "PondStair", name := "feed", desc := "(IIIII)I" } : Jvm.MethodName)), (Jvm.Cond.selects "PondStair" ({ cls := "PondStair", name := "feed", desc := "(IIIII)I" } : Jvm.MethodName) ({ cls := "PondStair", name := "feed", desc := "(IIIII)I" } : Jvm.MethodName)), (Jvm.Cond.code ({ cls := "PondStair", name := "feed", desc := "(IIIII)I" } : Jvm.MethodName) prog_1_method_2_code (6 : Nat) (Option.some Jvm.ClassFile.FieldType.int)), (Jvm.Cond.methodLink "PondStair" (75 : Nat) ({ cls := "PondStair$Told", name := "append", desc := "(I)V" } : Jvm.MethodName)), (Jvm.Cond.instanceMethod ({ cls := "PondStair$Told", name := "append", desc := "(I)V" } : Jvm.MethodName)), (Jvm.Cond.selects "PondStair$Told" ({ cls := "PondStair$Told", name := "append", desc := "(I)V" } : Jvm.MethodName) ({ cls := "PondStair$Told", name := "append", desc := "(I)V" } : Jvm.MethodName)), (Jvm.Cond.code ({ cls := "PondStair$Told", name := "append", desc := "(I)V" } : Jvm.MethodName) prog_9_method_2_code (3 : Nat) (Option.none : Option Jvm.ClassFile.FieldType)), (Jvm.Cond.methodLink "PondStairLaw" (18 : Nat) ({ cls := "PondStair", name := "end", desc := "(I)I" } : Jvm.MethodName)), (Jvm.Cond.instanceMethod ({ cls := "PondStair", name := "end", desc := "(I)I" } : Jvm.MethodName)), (Jvm.Cond.selects "PondStair" ({ cls := "PondStair", name := "end", desc := "(I)I" } : Jvm.MethodName) ({ cls := "PondStair", name := "end", desc := "(I)I" } : Jvm.MethodName)), (Jvm.Cond.code ({ cls := "PondStair", name := "end", desc := "(I)I" } : Jvm.MethodName) prog_1_method_3_code (2 : Nat) (Option.some Jvm.ClassFile.FieldType.int)), (Jvm.Cond.methodLink "PondStairLaw" (23 : Nat) ({ cls := "PondStair", name := "text", desc := "(II)I" } : Jvm.MethodName)), (Jvm.Cond.instanceMethod ({ cls := "PondStair", name := "text", desc := "(II)I" } : Jvm.MethodName)), (Jvm.Cond.selects "PondStair" ({ cls := "PondStair", name := "text", desc := "(II)I" } : Jvm.MethodName) ({ cls := "PondStair", name := "text", desc := "(II)I" } : Jvm.MethodName)), (Jvm.Cond.code ({ cls := "PondStair", name := "text", desc := "(II)I" } : Jvm.MethodName) prog_1_method_4_code (5 : Nat) (Option.some Jvm.ClassFile.FieldType.int))]
def tw_2_6 : List Cond := [(Jvm.Cond.methodLink "PondStair" (85 : Nat) ({ cls := "PondStair$Told", name := "numberFor", desc := "(II)I" } : Jvm.MethodName)), (Jvm.Cond.instanceMethod ({ cls := "PondStair$Told", name := "numberFor", desc := "(II)I" } : Jvm.MethodName)), (Jvm.Cond.selects "PondStair$Told" ({ cls := "PondStair$Told", name := "numberFor", desc := "(II)I" } : Jvm.MethodName) ({ cls := "PondStair$Told", name := "numberFor", desc := "(II)I" } : Jvm.MethodName)), (Jvm.Cond.code ({ cls := "PondStair$Told", name := "numberFor", desc := "(II)I" } : Jvm.MethodName) prog_9_method_5_code (5 : Nat) (Option.some Jvm.ClassFile.FieldType.int)), (Jvm.Cond.methodLink "PondStair" (93 : Nat) ({ cls := "PondStair$Reader", name := "read", desc := "([BII)V" } : Jvm.MethodName)), (Jvm.Cond.instanceMethod ({ cls := "PondStair$Reader", name := "read", desc := "([BII)V" } : Jvm.MethodName)), (Jvm.Cond.selects "PondStair$Reader" ({ cls := "PondStair$Reader", name := "read", desc := "([BII)V" } : Jvm.MethodName) ({ cls := "PondStair$Reader", name := "read", desc := "([BII)V" } : Jvm.MethodName)), (Jvm.Cond.code ({ cls := "PondStair$Reader", name := "read", desc := "([BII)V" } : Jvm.MethodName) prog_5_method_2_code (6 : Nat) (Option.none : Option Jvm.ClassFile.FieldType)), (Jvm.Cond.methodLink "PondStair$Reader" (46 : Nat) ({ cls := "PondStair$Hill", name := "clear", desc := "()V" } : Jvm.MethodName)), (Jvm.Cond.instanceMethod ({ cls := "PondStair$Hill", name := "clear", desc := "()V" } : Jvm.MethodName)), (Jvm.Cond.selects "PondStair$Hill" ({ cls := "PondStair$Hill", name := "clear", desc := "()V" } : Jvm.MethodName) ({ cls := "PondStair$Hill", name := "clear", desc := "()V" } : Jvm.MethodName)), (Jvm.Cond.code ({ cls := "PondStair$Hill", name := "clear", desc := "()V" } : Jvm.MethodName) prog_3_method_2_code (1 : Nat) (Option.none : Option Jvm.ClassFile.FieldType)), (Jvm.Cond.methodLink "PondStair$Hill" (31 : Nat) ({ cls := "java/util/Arrays", name := "fill", desc := "([II)V" } : Jvm.MethodName)), (Jvm.Cond.static ({ cls := "java/util/Arrays", name := "fill", desc := "([II)V" } : Jvm.MethodName)), (Jvm.Cond.code ({ cls := "java/util/Arrays", name := "fill", desc := "([II)V" } : Jvm.MethodName) prog_20_method_103_code (4 : Nat) (Option.none : Option Jvm.ClassFile.FieldType)), (Jvm.Cond.methodLink "PondStair$Reader" (49 : Nat) ({ cls := "PondStair$Works", name := "clear", desc := "()V" } : Jvm.MethodName)), (Jvm.Cond.instanceMethod ({ cls := "PondStair$Works", name := "clear", desc := "()V" } : Jvm.MethodName)), (Jvm.Cond.selects "PondStair$Works" ({ cls := "PondStair$Works", name := "clear", desc := "()V" } : Jvm.MethodName) ({ cls := "PondStair$Works", name := "clear", desc := "()V" } : Jvm.MethodName)), (Jvm.Cond.code ({ cls := "PondStair$Works", name := "clear", desc := "()V" } : Jvm.MethodName) prog_10_method_2_code (1 : Nat) (Option.none : Option Jvm.ClassFile.FieldType)), (Jvm.Cond.methodLink "PondStair$Reader" (50 : Nat) ({ cls := "PondStair$Tokens", name := "begin", desc := "([BI)V" } : Jvm.MethodName)), (Jvm.Cond.instanceMethod ({ cls := "PondStair$Tokens", name := "begin", desc := "([BI)V" } : Jvm.MethodName)), (Jvm.Cond.selects "PondStair$Tokens" ({ cls := "PondStair$Tokens", name := "begin", desc := "([BI)V" } : Jvm.MethodName) ({ cls := "PondStair$Tokens", name := "begin", desc := "([BI)V" } : Jvm.MethodName)), (Jvm.Cond.code ({ cls := "PondStair$Tokens", name := "begin", desc := "([BI)V" } : Jvm.MethodName) prog_8_method_2_code (3 : Nat) (Option.none : Option Jvm.ClassFile.FieldType)), (Jvm.Cond.methodLink "PondStair$Tokens" (29 : Nat) ({ cls := "java/lang/Math", name := "min", desc := "(II)I" } : Jvm.MethodName))]
def tw_2_7 : List Cond := [(Jvm.Cond.static ({ cls := "java/lang/Math", name := "min", desc := "(II)I" } : Jvm.MethodName)), (Jvm.Cond.code ({ cls := "java/lang/Math", name := "min", desc := "(II)I" } : Jvm.MethodName) prog_15_method_69_code (2 : Nat) (Option.some Jvm.ClassFile.FieldType.int)), (Jvm.Cond.methodLink "PondStair$Reader" (54 : Nat) ({ cls := "PondStair$Reader", name := "readLine", desc := "(I)Z" } : Jvm.MethodName)), (Jvm.Cond.privateMethod ({ cls := "PondStair$Reader", name := "readLine", desc := "(I)Z" } : Jvm.MethodName)), (Jvm.Cond.instanceMethod ({ cls := "PondStair$Reader", name := "readLine", desc := "(I)Z" } : Jvm.MethodName)), (Jvm.Cond.code ({ cls := "PondStair$Reader", name := "readLine", desc := "(I)Z" } : Jvm.MethodName) prog_5_method_4_code (6 : Nat) (Option.some Jvm.ClassFile.FieldType.boolean)), (Jvm.Cond.methodLink "PondStair$Reader" (79 : Nat) ({ cls := "PondStair$Tokens", name := "advance", desc := "()V" } : Jvm.MethodName)), (Jvm.Cond.instanceMethod ({ cls := "PondStair$Tokens", name := "advance", desc := "()V" } : Jvm.MethodName)), (Jvm.Cond.selects "PondStair$Tokens" ({ cls := "PondStair$Tokens", name := "advance", desc := "()V" } : Jvm.MethodName) ({ cls := "PondStair$Tokens", name := "advance", desc := "()V" } : Jvm.MethodName)), (Jvm.Cond.code ({ cls := "PondStair$Tokens", name := "advance", desc := "()V" } : Jvm.MethodName) prog_8_method_3_code (1 : Nat) (Option.none : Option Jvm.ClassFile.FieldType)), (Jvm.Cond.methodLink "PondStair$Tokens" (35 : Nat) ({ cls := "PondStair$Tokens", name := "isBlank", desc := "(I)Z" } : Jvm.MethodName)), (Jvm.Cond.static ({ cls := "PondStair$Tokens", name := "isBlank", desc := "(I)Z" } : Jvm.MethodName)), (Jvm.Cond.code ({ cls := "PondStair$Tokens", name := "isBlank", desc := "(I)Z" } : Jvm.MethodName) prog_8_method_7_code (1 : Nat) (Option.some Jvm.ClassFile.FieldType.boolean)), (Jvm.Cond.methodLink "PondStair$Tokens" (39 : Nat) ({ cls := "PondStair$Tokens", name := "isLetter", desc := "(I)Z" } : Jvm.MethodName)), (Jvm.Cond.static ({ cls := "PondStair$Tokens", name := "isLetter", desc := "(I)Z" } : Jvm.MethodName)), (Jvm.Cond.code ({ cls := "PondStair$Tokens", name := "isLetter", desc := "(I)Z" } : Jvm.MethodName) prog_8_method_8_code (1 : Nat) (Option.some Jvm.ClassFile.FieldType.boolean)), (Jvm.Cond.methodLink "PondStair$Tokens" (42 : Nat) ({ cls := "PondStair$Tokens", name := "takeWord", desc := "()V" } : Jvm.MethodName)), (Jvm.Cond.privateMethod ({ cls := "PondStair$Tokens", name := "takeWord", desc := "()V" } : Jvm.MethodName)), (Jvm.Cond.instanceMethod ({ cls := "PondStair$Tokens", name := "takeWord", desc := "()V" } : Jvm.MethodName)), (Jvm.Cond.code ({ cls := "PondStair$Tokens", name := "takeWord", desc := "()V" } : Jvm.MethodName) prog_8_method_4_code (1 : Nat) (Option.none : Option Jvm.ClassFile.FieldType)), (Jvm.Cond.methodLink "PondStair$Tokens" (45 : Nat) ({ cls := "PondStair$Tokens", name := "isDigit", desc := "(I)Z" } : Jvm.MethodName)), (Jvm.Cond.static ({ cls := "PondStair$Tokens", name := "isDigit", desc := "(I)Z" } : Jvm.MethodName)), (Jvm.Cond.code ({ cls := "PondStair$Tokens", name := "isDigit", desc := "(I)Z" } : Jvm.MethodName) prog_8_method_9_code (1 : Nat) (Option.some Jvm.ClassFile.FieldType.boolean)), (Jvm.Cond.methodLink "PondStair$Tokens" (48 : Nat) ({ cls := "PondStair$Tokens", name := "takeNumber", desc := "()V" } : Jvm.MethodName))]
def tw_2_8 : List Cond := [(Jvm.Cond.privateMethod ({ cls := "PondStair$Tokens", name := "takeNumber", desc := "()V" } : Jvm.MethodName)), (Jvm.Cond.instanceMethod ({ cls := "PondStair$Tokens", name := "takeNumber", desc := "()V" } : Jvm.MethodName)), (Jvm.Cond.code ({ cls := "PondStair$Tokens", name := "takeNumber", desc := "()V" } : Jvm.MethodName) prog_8_method_5_code (1 : Nat) (Option.none : Option Jvm.ClassFile.FieldType)), (Jvm.Cond.methodLink "PondStair$Reader" (85 : Nat) ({ cls := "PondStair$Reader", name := "lineOf", desc := "(I)I" } : Jvm.MethodName)), (Jvm.Cond.privateMethod ({ cls := "PondStair$Reader", name := "lineOf", desc := "(I)I" } : Jvm.MethodName)), (Jvm.Cond.instanceMethod ({ cls := "PondStair$Reader", name := "lineOf", desc := "(I)I" } : Jvm.MethodName)), (Jvm.Cond.code ({ cls := "PondStair$Reader", name := "lineOf", desc := "(I)I" } : Jvm.MethodName) prog_5_method_7_code (4 : Nat) (Option.some Jvm.ClassFile.FieldType.int)), (Jvm.Cond.methodLink "PondStair$Reader" (109 : Nat) ({ cls := "PondStair$Reader", name := "hillWord", desc := "(I)Ljava/lang/String;" } : Jvm.MethodName)), (Jvm.Cond.static ({ cls := "PondStair$Reader", name := "hillWord", desc := "(I)Ljava/lang/String;" } : Jvm.MethodName)), (Jvm.Cond.code ({ cls := "PondStair$Reader", name := "hillWord", desc := "(I)Ljava/lang/String;" } : Jvm.MethodName) prog_5_method_8_code (1 : Nat) (Option.some (Jvm.ClassFile.FieldType.object "java/lang/String"))), (Jvm.Cond.stringRef "PondStair$Reader" (120 : Nat) "pond"), (Jvm.Cond.stringRef "PondStair$Reader" (122 : Nat) "down"), (Jvm.Cond.stringRef "PondStair$Reader" (124 : Nat) "aside"), (Jvm.Cond.stringRef "PondStair$Reader" (126 : Nat) "bears"), (Jvm.Cond.stringRef "PondStair$Reader" (128 : Nat) "goes"), (Jvm.Cond.stringRef "PondStair$Reader" (130 : Nat) "harm"), (Jvm.Cond.stringRef "PondStair$Reader" (132 : Nat) "owner"), (Jvm.Cond.stringRef "PondStair$Reader" (134 : Nat) "rice"), (Jvm.Cond.stringRef "PondStair$Reader" (136 : Nat) "way"), (Jvm.Cond.stringRef "PondStair$Reader" (138 : Nat) "gate"), (Jvm.Cond.stringRef "PondStair$Reader" (140 : Nat) "sign"), (Jvm.Cond.stringRef "PondStair$Reader" (142 : Nat) "rain"), (Jvm.Cond.stringRef "PondStair$Reader" (144 : Nat) "mend"), (Jvm.Cond.stringRef "PondStair$Reader" (146 : Nat) "wide")]
def tw_2_9 : List Cond := [(Jvm.Cond.stringRef "PondStair$Reader" (148 : Nat) "round"), (Jvm.Cond.methodLink "PondStair$Reader" (113 : Nat) ({ cls := "PondStair$Reader", name := "planWord", desc := "(I)Ljava/lang/String;" } : Jvm.MethodName)), (Jvm.Cond.static ({ cls := "PondStair$Reader", name := "planWord", desc := "(I)Ljava/lang/String;" } : Jvm.MethodName)), (Jvm.Cond.code ({ cls := "PondStair$Reader", name := "planWord", desc := "(I)Ljava/lang/String;" } : Jvm.MethodName) prog_5_method_9_code (1 : Nat) (Option.some (Jvm.ClassFile.FieldType.object "java/lang/String"))), (Jvm.Cond.stringRef "PondStair$Reader" (150 : Nat) "low"), (Jvm.Cond.stringRef "PondStair$Reader" (152 : Nat) "widen"), (Jvm.Cond.stringRef "PondStair$Reader" (154 : Nat) "out"), (Jvm.Cond.methodLink "PondStair$Reader" (116 : Nat) ({ cls := "PondStair$Tokens", name := "isWord", desc := "(Ljava/lang/String;)Z" } : Jvm.MethodName)), (Jvm.Cond.instanceMethod ({ cls := "PondStair$Tokens", name := "isWord", desc := "(Ljava/lang/String;)Z" } : Jvm.MethodName)), (Jvm.Cond.selects "PondStair$Tokens" ({ cls := "PondStair$Tokens", name := "isWord", desc := "(Ljava/lang/String;)Z" } : Jvm.MethodName) ({ cls := "PondStair$Tokens", name := "isWord", desc := "(Ljava/lang/String;)Z" } : Jvm.MethodName)), (Jvm.Cond.code ({ cls := "PondStair$Tokens", name := "isWord", desc := "(Ljava/lang/String;)Z" } : Jvm.MethodName) prog_8_method_6_code (3 : Nat) (Option.some Jvm.ClassFile.FieldType.boolean)), (Jvm.Cond.methodLink "PondStair$Tokens" (51 : Nat) ({ cls := "java/lang/String", name := "length", desc := "()I" } : Jvm.MethodName)), (Jvm.Cond.instanceMethod ({ cls := "java/lang/String", name := "length", desc := "()I" } : Jvm.MethodName)), (Jvm.Cond.selects "java/lang/String" ({ cls := "java/lang/String", name := "length", desc := "()I" } : Jvm.MethodName) ({ cls := "java/lang/String", name := "length", desc := "()I" } : Jvm.MethodName)), (Jvm.Cond.code ({ cls := "java/lang/String", name := "length", desc := "()I" } : Jvm.MethodName) prog_16_method_54_code (1 : Nat) (Option.some Jvm.ClassFile.FieldType.int)), (Jvm.Cond.methodLink "java/lang/String" (335 : Nat) ({ cls := "java/lang/String", name := "coder", desc := "()B" } : Jvm.MethodName)), (Jvm.Cond.instanceMethod ({ cls := "java/lang/String", name := "coder", desc := "()B" } : Jvm.MethodName)), (Jvm.Cond.selects "java/lang/String" ({ cls := "java/lang/String", name := "coder", desc := "()B" } : Jvm.MethodName) ({ cls := "java/lang/String", name := "coder", desc := "()B" } : Jvm.MethodName)), (Jvm.Cond.code ({ cls := "java/lang/String", name := "coder", desc := "()B" } : Jvm.MethodName) prog_16_method_152_code (1 : Nat) (Option.some Jvm.ClassFile.FieldType.byte)), (Jvm.Cond.fieldLink "java/lang/String" (38 : Nat) "java/lang/String" "COMPACT_STRINGS" "Z"), (Jvm.Cond.laysStatic "java/lang/String" "COMPACT_STRINGS" "Z"), (Jvm.Cond.methodLink "PondStair$Tokens" (56 : Nat) ({ cls := "java/lang/String", name := "charAt", desc := "(I)C" } : Jvm.MethodName)), (Jvm.Cond.instanceMethod ({ cls := "java/lang/String", name := "charAt", desc := "(I)C" } : Jvm.MethodName)), (Jvm.Cond.selects "java/lang/String" ({ cls := "java/lang/String", name := "charAt", desc := "(I)C" } : Jvm.MethodName) ({ cls := "java/lang/String", name := "charAt", desc := "(I)C" } : Jvm.MethodName))]
set_option maxRecDepth 100000 in
theorem tp_2 : tables_1_2 = tw_2_0 ++ (tw_2_1 ++ (tw_2_2 ++ (tw_2_3 ++ (tw_2_4 ++ (tw_2_5 ++ (tw_2_6 ++ (tw_2_7 ++ (tw_2_8 ++ (tw_2_9))))))))) := rfl
theorem gt_m2 {w : Cond} (hm : w ∈ tables_1_2) (hg : goodWord w = true) : w ∈ gt := by
  refine List.mem_filter.mpr ⟨?_, hg⟩
  unfold lw_tbl tables_1
  simp only [List.mem_append]
  simp only [hm, true_or, or_true]
theorem gt_2_0 {w : Cond} {i : Nat} (h : tw_2_0[i]? = some w) (hg : goodWord w = true) : w ∈ gt := by
  have hm := List.mem_of_getElem? h
  refine gt_m2 ?_ hg
  rw [tp_2]
  simp only [List.mem_append]
  simp only [hm, true_or, or_true]
theorem gt_2_1 {w : Cond} {i : Nat} (h : tw_2_1[i]? = some w) (hg : goodWord w = true) : w ∈ gt := by
  have hm := List.mem_of_getElem? h
  refine gt_m2 ?_ hg
  rw [tp_2]
  simp only [List.mem_append]
  simp only [hm, true_or, or_true]
theorem gt_2_2 {w : Cond} {i : Nat} (h : tw_2_2[i]? = some w) (hg : goodWord w = true) : w ∈ gt := by
  have hm := List.mem_of_getElem? h
  refine gt_m2 ?_ hg
  rw [tp_2]
  simp only [List.mem_append]
  simp only [hm, true_or, or_true]
theorem gt_2_3 {w : Cond} {i : Nat} (h : tw_2_3[i]? = some w) (hg : goodWord w = true) : w ∈ gt := by
  have hm := List.mem_of_getElem? h
  refine gt_m2 ?_ hg
  rw [tp_2]
  simp only [List.mem_append]
  simp only [hm, true_or, or_true]
theorem gt_2_4 {w : Cond} {i : Nat} (h : tw_2_4[i]? = some w) (hg : goodWord w = true) : w ∈ gt := by
  have hm := List.mem_of_getElem? h
  refine gt_m2 ?_ hg
  rw [tp_2]
  simp only [List.mem_append]
  simp only [hm, true_or, or_true]
theorem gt_2_5 {w : Cond} {i : Nat} (h : tw_2_5[i]? = some w) (hg : goodWord w = true) : w ∈ gt := by
  have hm := List.mem_of_getElem? h
  refine gt_m2 ?_ hg
  rw [tp_2]
  simp only [List.mem_append]
  simp only [hm, true_or, or_true]
theorem gt_2_6 {w : Cond} {i : Nat} (h : tw_2_6[i]? = some w) (hg : goodWord w = true) : w ∈ gt := by
  have hm := List.mem_of_getElem? h
  refine gt_m2 ?_ hg
  rw [tp_2]
  simp only [List.mem_append]
  simp only [hm, true_or, or_true]
theorem gt_2_7 {w : Cond} {i : Nat} (h : tw_2_7[i]? = some w) (hg : goodWord w = true) : w ∈ gt := by
  have hm := List.mem_of_getElem? h
  refine gt_m2 ?_ hg
  rw [tp_2]
  simp only [List.mem_append]
  simp only [hm, true_or, or_true]
theorem gt_2_8 {w : Cond} {i : Nat} (h : tw_2_8[i]? = some w) (hg : goodWord w = true) : w ∈ gt := by
  have hm := List.mem_of_getElem? h
  refine gt_m2 ?_ hg
  rw [tp_2]
  simp only [List.mem_append]
  simp only [hm, true_or, or_true]
theorem gt_2_9 {w : Cond} {i : Nat} (h : tw_2_9[i]? = some w) (hg : goodWord w = true) : w ∈ gt := by
  have hm := List.mem_of_getElem? h
  refine gt_m2 ?_ hg
  rw [tp_2]
  simp only [List.mem_append]
  simp only [hm, true_or, or_true]
theorem nt_m2 {w : Cond} (hm : w ∈ tables_1_2) (hg : nw w = true) : w ∈ nt := by
  refine List.mem_filter.mpr ⟨?_, hg⟩
  unfold lw_tbl tables_1
  simp only [List.mem_append]
  simp only [hm, true_or, or_true]
theorem nt_2_0 {w : Cond} {i : Nat} (h : tw_2_0[i]? = some w) (hg : nw w = true) : w ∈ nt := by
  have hm := List.mem_of_getElem? h
  refine nt_m2 ?_ hg
  rw [tp_2]
  simp only [List.mem_append]
  simp only [hm, true_or, or_true]
theorem nt_2_1 {w : Cond} {i : Nat} (h : tw_2_1[i]? = some w) (hg : nw w = true) : w ∈ nt := by
  have hm := List.mem_of_getElem? h
  refine nt_m2 ?_ hg
  rw [tp_2]
  simp only [List.mem_append]
  simp only [hm, true_or, or_true]
theorem nt_2_2 {w : Cond} {i : Nat} (h : tw_2_2[i]? = some w) (hg : nw w = true) : w ∈ nt := by
  have hm := List.mem_of_getElem? h
  refine nt_m2 ?_ hg
  rw [tp_2]
  simp only [List.mem_append]
  simp only [hm, true_or, or_true]
theorem nt_2_4 {w : Cond} {i : Nat} (h : tw_2_4[i]? = some w) (hg : nw w = true) : w ∈ nt := by
  have hm := List.mem_of_getElem? h
  refine nt_m2 ?_ hg
  rw [tp_2]
  simp only [List.mem_append]
  simp only [hm, true_or, or_true]
def tw_3_0 : List Cond := [(Jvm.Cond.code ({ cls := "java/lang/String", name := "charAt", desc := "(I)C" } : Jvm.MethodName) prog_16_method_56_code (2 : Nat) (Option.some Jvm.ClassFile.FieldType.char)), (Jvm.Cond.methodLink "java/lang/String" (492 : Nat) ({ cls := "java/lang/String", name := "isLatin1", desc := "()Z" } : Jvm.MethodName)), (Jvm.Cond.instanceMethod ({ cls := "java/lang/String", name := "isLatin1", desc := "()Z" } : Jvm.MethodName)), (Jvm.Cond.selects "java/lang/String" ({ cls := "java/lang/String", name := "isLatin1", desc := "()Z" } : Jvm.MethodName) ({ cls := "java/lang/String", name := "isLatin1", desc := "()Z" } : Jvm.MethodName)), (Jvm.Cond.code ({ cls := "java/lang/String", name := "isLatin1", desc := "()Z" } : Jvm.MethodName) prog_16_method_154_code (1 : Nat) (Option.some Jvm.ClassFile.FieldType.boolean)), (Jvm.Cond.methodLink "java/lang/String" (495 : Nat) ({ cls := "java/lang/StringLatin1", name := "charAt", desc := "([BI)C" } : Jvm.MethodName)), (Jvm.Cond.static ({ cls := "java/lang/StringLatin1", name := "charAt", desc := "([BI)C" } : Jvm.MethodName)), (Jvm.Cond.code ({ cls := "java/lang/StringLatin1", name := "charAt", desc := "([BI)C" } : Jvm.MethodName) prog_17_method_2_code (2 : Nat) (Option.some Jvm.ClassFile.FieldType.char)), (Jvm.Cond.methodLink "java/lang/StringLatin1" (9 : Nat) ({ cls := "java/lang/String", name := "checkIndex", desc := "(II)V" } : Jvm.MethodName)), (Jvm.Cond.static ({ cls := "java/lang/String", name := "checkIndex", desc := "(II)V" } : Jvm.MethodName)), (Jvm.Cond.code ({ cls := "java/lang/String", name := "checkIndex", desc := "(II)V" } : Jvm.MethodName) prog_16_method_155_code (2 : Nat) (Option.none : Option Jvm.ClassFile.FieldType)), (Jvm.Cond.fieldLink "java/lang/String" (1053 : Nat) "jdk/internal/util/Preconditions" "SIOOBE_FORMATTER" "Ljava/util/function/BiFunction;"), (Jvm.Cond.laysStatic "jdk/internal/util/Preconditions" "SIOOBE_FORMATTER" "Ljava/util/function/BiFunction;"), (Jvm.Cond.methodLink "java/lang/String" (1059 : Nat) ({ cls := "jdk/internal/util/Preconditions", name := "checkIndex", desc := "(IILjava/util/function/BiFunction;)I" } : Jvm.MethodName)), (Jvm.Cond.static ({ cls := "jdk/internal/util/Preconditions", name := "checkIndex", desc := "(IILjava/util/function/BiFunction;)I" } : Jvm.MethodName)), (Jvm.Cond.code ({ cls := "jdk/internal/util/Preconditions", name := "checkIndex", desc := "(IILjava/util/function/BiFunction;)I" } : Jvm.MethodName) prog_21_method_11_code (3 : Nat) (Option.some Jvm.ClassFile.FieldType.int)), (Jvm.Cond.methodLink "java/lang/String" (498 : Nat) ({ cls := "java/lang/StringUTF16", name := "charAt", desc := "([BI)C" } : Jvm.MethodName)), (Jvm.Cond.static ({ cls := "java/lang/StringUTF16", name := "charAt", desc := "([BI)C" } : Jvm.MethodName)), (Jvm.Cond.code ({ cls := "java/lang/StringUTF16", name := "charAt", desc := "([BI)C" } : Jvm.MethodName) prog_18_method_83_code (2 : Nat) (Option.some Jvm.ClassFile.FieldType.char)), (Jvm.Cond.methodLink "java/lang/StringUTF16" (67 : Nat) ({ cls := "java/lang/StringUTF16", name := "checkIndex", desc := "(I[B)V" } : Jvm.MethodName)), (Jvm.Cond.static ({ cls := "java/lang/StringUTF16", name := "checkIndex", desc := "(I[B)V" } : Jvm.MethodName)), (Jvm.Cond.code ({ cls := "java/lang/StringUTF16", name := "checkIndex", desc := "(I[B)V" } : Jvm.MethodName) prog_18_method_91_code (2 : Nat) (Option.none : Option Jvm.ClassFile.FieldType)), (Jvm.Cond.methodLink "java/lang/StringUTF16" (48 : Nat) ({ cls := "java/lang/StringUTF16", name := "length", desc := "([B)I" } : Jvm.MethodName)), (Jvm.Cond.static ({ cls := "java/lang/StringUTF16", name := "length", desc := "([B)I" } : Jvm.MethodName))]
def tw_3_1 : List Cond := [(Jvm.Cond.code ({ cls := "java/lang/StringUTF16", name := "length", desc := "([B)I" } : Jvm.MethodName) prog_18_method_6_code (1 : Nat) (Option.some Jvm.ClassFile.FieldType.int)), (Jvm.Cond.methodLink "java/lang/StringUTF16" (414 : Nat) ({ cls := "java/lang/String", name := "checkIndex", desc := "(II)V" } : Jvm.MethodName)), (Jvm.Cond.methodLink "java/lang/StringUTF16" (71 : Nat) ({ cls := "java/lang/StringUTF16", name := "getChar", desc := "([BI)C" } : Jvm.MethodName)), (Jvm.Cond.static ({ cls := "java/lang/StringUTF16", name := "getChar", desc := "([BI)C" } : Jvm.MethodName)), (Jvm.Cond.code ({ cls := "java/lang/StringUTF16", name := "getChar", desc := "([BI)C" } : Jvm.MethodName) prog_18_method_5_code (2 : Nat) (Option.some Jvm.ClassFile.FieldType.char)), (Jvm.Cond.fieldLink "java/lang/StringUTF16" (44 : Nat) "java/lang/StringUTF16" "$assertionsDisabled" "Z"), (Jvm.Cond.laysStatic "java/lang/StringUTF16" "$assertionsDisabled" "Z"), (Jvm.Cond.fieldLink "java/lang/StringUTF16" (59 : Nat) "java/lang/StringUTF16" "HI_BYTE_SHIFT" "I"), (Jvm.Cond.laysStatic "java/lang/StringUTF16" "HI_BYTE_SHIFT" "I"), (Jvm.Cond.fieldLink "java/lang/StringUTF16" (63 : Nat) "java/lang/StringUTF16" "LO_BYTE_SHIFT" "I"), (Jvm.Cond.laysStatic "java/lang/StringUTF16" "LO_BYTE_SHIFT" "I"), (Jvm.Cond.methodLink "PondStair$Reader" (92 : Nat) ({ cls := "PondStair$Reader", name := "breaksOff", desc := "()Z" } : Jvm.MethodName)), (Jvm.Cond.privateMethod ({ cls := "PondStair$Reader", name := "breaksOff", desc := "()Z" } : Jvm.MethodName)), (Jvm.Cond.instanceMethod ({ cls := "PondStair$Reader", name := "breaksOff", desc := "()Z" } : Jvm.MethodName)), (Jvm.Cond.code ({ cls := "PondStair$Reader", name := "breaksOff", desc := "()Z" } : Jvm.MethodName) prog_5_method_5_code (1 : Nat) (Option.some Jvm.ClassFile.FieldType.boolean)), (Jvm.Cond.fieldLink "PondStair$Reader" (96 : Nat) "PondStair$Reader" "HILL_COUNT" "[I"), (Jvm.Cond.laysStatic "PondStair$Reader" "HILL_COUNT" "[I"), (Jvm.Cond.fieldLink "PondStair$Reader" (99 : Nat) "PondStair$Reader" "PLAN_COUNT" "[I"), (Jvm.Cond.laysStatic "PondStair$Reader" "PLAN_COUNT" "[I"), (Jvm.Cond.methodLink "PondStair$Reader" (105 : Nat) ({ cls := "PondStair$Reader", name := "take", desc := "(IIII)V" } : Jvm.MethodName)), (Jvm.Cond.privateMethod ({ cls := "PondStair$Reader", name := "take", desc := "(IIII)V" } : Jvm.MethodName)), (Jvm.Cond.instanceMethod ({ cls := "PondStair$Reader", name := "take", desc := "(IIII)V" } : Jvm.MethodName)), (Jvm.Cond.code ({ cls := "PondStair$Reader", name := "take", desc := "(IIII)V" } : Jvm.MethodName) prog_5_method_10_code (6 : Nat) (Option.none : Option Jvm.ClassFile.FieldType)), (Jvm.Cond.methodLink "PondStair$Reader" (156 : Nat) ({ cls := "PondStair$Reader", name := "isFull", desc := "(I)Z" } : Jvm.MethodName))]
def tw_3_2 : List Cond := [(Jvm.Cond.privateMethod ({ cls := "PondStair$Reader", name := "isFull", desc := "(I)Z" } : Jvm.MethodName)), (Jvm.Cond.instanceMethod ({ cls := "PondStair$Reader", name := "isFull", desc := "(I)Z" } : Jvm.MethodName)), (Jvm.Cond.code ({ cls := "PondStair$Reader", name := "isFull", desc := "(I)Z" } : Jvm.MethodName) prog_5_method_11_code (2 : Nat) (Option.some Jvm.ClassFile.FieldType.boolean)), (Jvm.Cond.methodLink "PondStair$Reader" (75 : Nat) ({ cls := "PondStair$Reader", name := "remember", desc := "(II)V" } : Jvm.MethodName)), (Jvm.Cond.privateMethod ({ cls := "PondStair$Reader", name := "remember", desc := "(II)V" } : Jvm.MethodName)), (Jvm.Cond.instanceMethod ({ cls := "PondStair$Reader", name := "remember", desc := "(II)V" } : Jvm.MethodName)), (Jvm.Cond.code ({ cls := "PondStair$Reader", name := "remember", desc := "(II)V" } : Jvm.MethodName) prog_5_method_6_code (3 : Nat) (Option.none : Option Jvm.ClassFile.FieldType)), (Jvm.Cond.methodLink "PondStair$Reader" (161 : Nat) ({ cls := "PondStair$Reader", name := "canBeInHill", desc := "(II)Z" } : Jvm.MethodName)), (Jvm.Cond.privateMethod ({ cls := "PondStair$Reader", name := "canBeInHill", desc := "(II)Z" } : Jvm.MethodName)), (Jvm.Cond.instanceMethod ({ cls := "PondStair$Reader", name := "canBeInHill", desc := "(II)Z" } : Jvm.MethodName)), (Jvm.Cond.code ({ cls := "PondStair$Reader", name := "canBeInHill", desc := "(II)Z" } : Jvm.MethodName) prog_5_method_12_code (4 : Nat) (Option.some Jvm.ClassFile.FieldType.boolean)), (Jvm.Cond.fieldLink "PondStair$Reader" (177 : Nat) "PondStair$Reader" "HILL_MOST" "[I"), (Jvm.Cond.laysStatic "PondStair$Reader" "HILL_MOST" "[I"), (Jvm.Cond.methodLink "PondStair$Reader" (164 : Nat) ({ cls := "PondStair$Reader", name := "canBeInPlan", desc := "(II)Z" } : Jvm.MethodName)), (Jvm.Cond.privateMethod ({ cls := "PondStair$Reader", name := "canBeInPlan", desc := "(II)Z" } : Jvm.MethodName)), (Jvm.Cond.instanceMethod ({ cls := "PondStair$Reader", name := "canBeInPlan", desc := "(II)Z" } : Jvm.MethodName)), (Jvm.Cond.code ({ cls := "PondStair$Reader", name := "canBeInPlan", desc := "(II)Z" } : Jvm.MethodName) prog_5_method_13_code (4 : Nat) (Option.some Jvm.ClassFile.FieldType.boolean)), (Jvm.Cond.fieldLink "PondStair$Reader" (180 : Nat) "PondStair$Reader" "PLAN_LEAST" "[I"), (Jvm.Cond.laysStatic "PondStair$Reader" "PLAN_LEAST" "[I"), (Jvm.Cond.fieldLink "PondStair$Reader" (183 : Nat) "PondStair$Reader" "PLAN_MOST" "[I"), (Jvm.Cond.laysStatic "PondStair$Reader" "PLAN_MOST" "[I"), (Jvm.Cond.methodLink "PondStair$Reader" (167 : Nat) ({ cls := "PondStair$Reader", name := "takeForHill", desc := "(II)V" } : Jvm.MethodName)), (Jvm.Cond.privateMethod ({ cls := "PondStair$Reader", name := "takeForHill", desc := "(II)V" } : Jvm.MethodName)), (Jvm.Cond.instanceMethod ({ cls := "PondStair$Reader", name := "takeForHill", desc := "(II)V" } : Jvm.MethodName))]
def tw_3_3 : List Cond := [(Jvm.Cond.code ({ cls := "PondStair$Reader", name := "takeForHill", desc := "(II)V" } : Jvm.MethodName) prog_5_method_14_code (3 : Nat) (Option.none : Option Jvm.ClassFile.FieldType)), (Jvm.Cond.methodLink "PondStair$Reader" (186 : Nat) ({ cls := "PondStair$Hill", name := "addPond", desc := "(III)Z" } : Jvm.MethodName)), (Jvm.Cond.instanceMethod ({ cls := "PondStair$Hill", name := "addPond", desc := "(III)Z" } : Jvm.MethodName)), (Jvm.Cond.selects "PondStair$Hill" ({ cls := "PondStair$Hill", name := "addPond", desc := "(III)Z" } : Jvm.MethodName) ({ cls := "PondStair$Hill", name := "addPond", desc := "(III)Z" } : Jvm.MethodName)), (Jvm.Cond.code ({ cls := "PondStair$Hill", name := "addPond", desc := "(III)Z" } : Jvm.MethodName) prog_3_method_4_code (5 : Nat) (Option.some Jvm.ClassFile.FieldType.boolean)), (Jvm.Cond.methodLink "PondStair$Hill" (43 : Nat) ({ cls := "java/util/Arrays", name := "fill", desc := "([IIII)V" } : Jvm.MethodName)), (Jvm.Cond.static ({ cls := "java/util/Arrays", name := "fill", desc := "([IIII)V" } : Jvm.MethodName)), (Jvm.Cond.code ({ cls := "java/util/Arrays", name := "fill", desc := "([IIII)V" } : Jvm.MethodName) prog_20_method_104_code (5 : Nat) (Option.none : Option Jvm.ClassFile.FieldType)), (Jvm.Cond.methodLink "java/util/Arrays" (13 : Nat) ({ cls := "java/util/Arrays", name := "rangeCheck", desc := "(III)V" } : Jvm.MethodName)), (Jvm.Cond.static ({ cls := "java/util/Arrays", name := "rangeCheck", desc := "(III)V" } : Jvm.MethodName)), (Jvm.Cond.code ({ cls := "java/util/Arrays", name := "rangeCheck", desc := "(III)V" } : Jvm.MethodName) prog_20_method_30_code (3 : Nat) (Option.none : Option Jvm.ClassFile.FieldType)), (Jvm.Cond.methodLink "PondStair$Hill" (46 : Nat) ({ cls := "PondStair$Hill", name := "put", desc := "(III)V" } : Jvm.MethodName)), (Jvm.Cond.instanceMethod ({ cls := "PondStair$Hill", name := "put", desc := "(III)V" } : Jvm.MethodName)), (Jvm.Cond.selects "PondStair$Hill" ({ cls := "PondStair$Hill", name := "put", desc := "(III)V" } : Jvm.MethodName) ({ cls := "PondStair$Hill", name := "put", desc := "(III)V" } : Jvm.MethodName)), (Jvm.Cond.code ({ cls := "PondStair$Hill", name := "put", desc := "(III)V" } : Jvm.MethodName) prog_3_method_12_code (4 : Nat) (Option.none : Option Jvm.ClassFile.FieldType)), (Jvm.Cond.methodLink "PondStair$Reader" (64 : Nat) ({ cls := "PondStair$Hill", name := "addRain", desc := "(II)Z" } : Jvm.MethodName)), (Jvm.Cond.instanceMethod ({ cls := "PondStair$Hill", name := "addRain", desc := "(II)Z" } : Jvm.MethodName)), (Jvm.Cond.selects "PondStair$Hill" ({ cls := "PondStair$Hill", name := "addRain", desc := "(II)Z" } : Jvm.MethodName) ({ cls := "PondStair$Hill", name := "addRain", desc := "(II)Z" } : Jvm.MethodName)), (Jvm.Cond.code ({ cls := "PondStair$Hill", name := "addRain", desc := "(II)Z" } : Jvm.MethodName) prog_3_method_5_code (3 : Nat) (Option.some Jvm.ClassFile.FieldType.boolean)), (Jvm.Cond.fieldLink "PondStair$Reader" (192 : Nat) "PondStair$Reader" "HILL_COLUMN" "[I"), (Jvm.Cond.laysStatic "PondStair$Reader" "HILL_COLUMN" "[I"), (Jvm.Cond.methodLink "PondStair$Reader" (195 : Nat) ({ cls := "PondStair$Hill", name := "put", desc := "(III)V" } : Jvm.MethodName)), (Jvm.Cond.methodLink "PondStair$Reader" (170 : Nat) ({ cls := "PondStair$Works", name := "add", desc := "(III)Z" } : Jvm.MethodName)), (Jvm.Cond.instanceMethod ({ cls := "PondStair$Works", name := "add", desc := "(III)Z" } : Jvm.MethodName))]
def tw_3_4 : List Cond := [(Jvm.Cond.selects "PondStair$Works" ({ cls := "PondStair$Works", name := "add", desc := "(III)Z" } : Jvm.MethodName) ({ cls := "PondStair$Works", name := "add", desc := "(III)Z" } : Jvm.MethodName)), (Jvm.Cond.code ({ cls := "PondStair$Works", name := "add", desc := "(III)Z" } : Jvm.MethodName) prog_10_method_3_code (4 : Nat) (Option.some Jvm.ClassFile.FieldType.boolean)), (Jvm.Cond.methodLink "PondStair$Reader" (58 : Nat) ({ cls := "PondStair$Reader", name := "closeRains", desc := "()V" } : Jvm.MethodName)), (Jvm.Cond.privateMethod ({ cls := "PondStair$Reader", name := "closeRains", desc := "()V" } : Jvm.MethodName)), (Jvm.Cond.instanceMethod ({ cls := "PondStair$Reader", name := "closeRains", desc := "()V" } : Jvm.MethodName)), (Jvm.Cond.code ({ cls := "PondStair$Reader", name := "closeRains", desc := "()V" } : Jvm.MethodName) prog_5_method_3_code (1 : Nat) (Option.none : Option Jvm.ClassFile.FieldType)), (Jvm.Cond.methodLink "PondStair$Reader" (68 : Nat) ({ cls := "PondStair$Hill", name := "chancesTogether", desc := "()I" } : Jvm.MethodName)), (Jvm.Cond.instanceMethod ({ cls := "PondStair$Hill", name := "chancesTogether", desc := "()I" } : Jvm.MethodName)), (Jvm.Cond.selects "PondStair$Hill" ({ cls := "PondStair$Hill", name := "chancesTogether", desc := "()I" } : Jvm.MethodName) ({ cls := "PondStair$Hill", name := "chancesTogether", desc := "()I" } : Jvm.MethodName)), (Jvm.Cond.code ({ cls := "PondStair$Hill", name := "chancesTogether", desc := "()I" } : Jvm.MethodName) prog_3_method_17_code (3 : Nat) (Option.some Jvm.ClassFile.FieldType.int)), (Jvm.Cond.methodLink "PondStair$Hill" (65 : Nat) ({ cls := "PondStair$Hill", name := "chanceOf", desc := "(I)I" } : Jvm.MethodName)), (Jvm.Cond.instanceMethod ({ cls := "PondStair$Hill", name := "chanceOf", desc := "(I)I" } : Jvm.MethodName)), (Jvm.Cond.selects "PondStair$Hill" ({ cls := "PondStair$Hill", name := "chanceOf", desc := "(I)I" } : Jvm.MethodName) ({ cls := "PondStair$Hill", name := "chanceOf", desc := "(I)I" } : Jvm.MethodName)), (Jvm.Cond.code ({ cls := "PondStair$Hill", name := "chanceOf", desc := "(I)I" } : Jvm.MethodName) prog_3_method_16_code (2 : Nat) (Option.some Jvm.ClassFile.FieldType.int)), (Jvm.Cond.methodLink "PondStair" (99 : Nat) ({ cls := "PondStair$Told", name := "keep", desc := "(IILPondStair$Reader;)V" } : Jvm.MethodName)), (Jvm.Cond.instanceMethod ({ cls := "PondStair$Told", name := "keep", desc := "(IILPondStair$Reader;)V" } : Jvm.MethodName)), (Jvm.Cond.selects "PondStair$Told" ({ cls := "PondStair$Told", name := "keep", desc := "(IILPondStair$Reader;)V" } : Jvm.MethodName) ({ cls := "PondStair$Told", name := "keep", desc := "(IILPondStair$Reader;)V" } : Jvm.MethodName)), (Jvm.Cond.code ({ cls := "PondStair$Told", name := "keep", desc := "(IILPondStair$Reader;)V" } : Jvm.MethodName) prog_9_method_6_code (4 : Nat) (Option.none : Option Jvm.ClassFile.FieldType)), (Jvm.Cond.methodLink "PondStair$Told" (50 : Nat) ({ cls := "PondStair$Hill", name := "copy", desc := "(LPondStair$Hill;)V" } : Jvm.MethodName)), (Jvm.Cond.instanceMethod ({ cls := "PondStair$Hill", name := "copy", desc := "(LPondStair$Hill;)V" } : Jvm.MethodName)), (Jvm.Cond.selects "PondStair$Hill" ({ cls := "PondStair$Hill", name := "copy", desc := "(LPondStair$Hill;)V" } : Jvm.MethodName) ({ cls := "PondStair$Hill", name := "copy", desc := "(LPondStair$Hill;)V" } : Jvm.MethodName)), (Jvm.Cond.code ({ cls := "PondStair$Hill", name := "copy", desc := "(LPondStair$Hill;)V" } : Jvm.MethodName) prog_3_method_3_code (2 : Nat) (Option.none : Option Jvm.ClassFile.FieldType)), (Jvm.Cond.methodLink "PondStair$Hill" (37 : Nat) ({ cls := "java/lang/System", name := "arraycopy", desc := "(Ljava/lang/Object;ILjava/lang/Object;II)V" } : Jvm.MethodName)), (Jvm.Cond.static ({ cls := "java/lang/System", name := "arraycopy", desc := "(Ljava/lang/Object;ILjava/lang/Object;II)V" } : Jvm.MethodName))]
def tw_3_5 : List Cond := [(Jvm.Cond.native ({ cls := "java/lang/System", name := "arraycopy", desc := "(Ljava/lang/Object;ILjava/lang/Object;II)V" } : Jvm.MethodName)), (Jvm.Cond.methodLink "PondStair$Told" (54 : Nat) ({ cls := "java/lang/Math", name := "max", desc := "(II)I" } : Jvm.MethodName)), (Jvm.Cond.static ({ cls := "java/lang/Math", name := "max", desc := "(II)I" } : Jvm.MethodName)), (Jvm.Cond.code ({ cls := "java/lang/Math", name := "max", desc := "(II)I" } : Jvm.MethodName) prog_15_method_65_code (2 : Nat) (Option.some Jvm.ClassFile.FieldType.int)), (Jvm.Cond.methodLink "PondStair$Told" (63 : Nat) ({ cls := "PondStair$Works", name := "copy", desc := "(LPondStair$Works;)V" } : Jvm.MethodName)), (Jvm.Cond.instanceMethod ({ cls := "PondStair$Works", name := "copy", desc := "(LPondStair$Works;)V" } : Jvm.MethodName)), (Jvm.Cond.selects "PondStair$Works" ({ cls := "PondStair$Works", name := "copy", desc := "(LPondStair$Works;)V" } : Jvm.MethodName) ({ cls := "PondStair$Works", name := "copy", desc := "(LPondStair$Works;)V" } : Jvm.MethodName)), (Jvm.Cond.code ({ cls := "PondStair$Works", name := "copy", desc := "(LPondStair$Works;)V" } : Jvm.MethodName) prog_10_method_4_code (2 : Nat) (Option.none : Option Jvm.ClassFile.FieldType)), (Jvm.Cond.methodLink "PondStair$Works" (25 : Nat) ({ cls := "java/lang/System", name := "arraycopy", desc := "(Ljava/lang/Object;ILjava/lang/Object;II)V" } : Jvm.MethodName)), (Jvm.Cond.methodLink "PondStairLaw" (28 : Nat) ({ cls := "PondStair", name := "fault", desc := "(I)I" } : Jvm.MethodName)), (Jvm.Cond.instanceMethod ({ cls := "PondStair", name := "fault", desc := "(I)I" } : Jvm.MethodName)), (Jvm.Cond.selects "PondStair" ({ cls := "PondStair", name := "fault", desc := "(I)I" } : Jvm.MethodName) ({ cls := "PondStair", name := "fault", desc := "(I)I" } : Jvm.MethodName)), (Jvm.Cond.code ({ cls := "PondStair", name := "fault", desc := "(I)I" } : Jvm.MethodName) prog_1_method_5_code (2 : Nat) (Option.some Jvm.ClassFile.FieldType.int)), (Jvm.Cond.methodLink "PondStairLaw" (32 : Nat) ({ cls := "PondStair", name := "hill", desc := "(II)I" } : Jvm.MethodName)), (Jvm.Cond.instanceMethod ({ cls := "PondStair", name := "hill", desc := "(II)I" } : Jvm.MethodName)), (Jvm.Cond.selects "PondStair" ({ cls := "PondStair", name := "hill", desc := "(II)I" } : Jvm.MethodName) ({ cls := "PondStair", name := "hill", desc := "(II)I" } : Jvm.MethodName)), (Jvm.Cond.code ({ cls := "PondStair", name := "hill", desc := "(II)I" } : Jvm.MethodName) prog_1_method_6_code (3 : Nat) (Option.some Jvm.ClassFile.FieldType.int)), (Jvm.Cond.methodLink "PondStair" (103 : Nat) ({ cls := "PondStair$Told", name := "hasHill", desc := "(I)Z" } : Jvm.MethodName)), (Jvm.Cond.instanceMethod ({ cls := "PondStair$Told", name := "hasHill", desc := "(I)Z" } : Jvm.MethodName)), (Jvm.Cond.selects "PondStair$Told" ({ cls := "PondStair$Told", name := "hasHill", desc := "(I)Z" } : Jvm.MethodName) ({ cls := "PondStair$Told", name := "hasHill", desc := "(I)Z" } : Jvm.MethodName)), (Jvm.Cond.code ({ cls := "PondStair$Told", name := "hasHill", desc := "(I)Z" } : Jvm.MethodName) prog_9_method_3_code (2 : Nat) (Option.some Jvm.ClassFile.FieldType.boolean)), (Jvm.Cond.methodLink "PondStair" (111 : Nat) ({ cls := "PondStair$Hill", name := "told", desc := "(I)I" } : Jvm.MethodName)), (Jvm.Cond.instanceMethod ({ cls := "PondStair$Hill", name := "told", desc := "(I)I" } : Jvm.MethodName)), (Jvm.Cond.selects "PondStair$Hill" ({ cls := "PondStair$Hill", name := "told", desc := "(I)I" } : Jvm.MethodName) ({ cls := "PondStair$Hill", name := "told", desc := "(I)I" } : Jvm.MethodName))]
def tw_3_6 : List Cond := [(Jvm.Cond.code ({ cls := "PondStair$Hill", name := "told", desc := "(I)I" } : Jvm.MethodName) prog_3_method_18_code (2 : Nat) (Option.some Jvm.ClassFile.FieldType.int)), (Jvm.Cond.methodLink "PondStair$Hill" (54 : Nat) ({ cls := "PondStair$Hill", name := "hasRain", desc := "(I)Z" } : Jvm.MethodName)), (Jvm.Cond.instanceMethod ({ cls := "PondStair$Hill", name := "hasRain", desc := "(I)Z" } : Jvm.MethodName)), (Jvm.Cond.selects "PondStair$Hill" ({ cls := "PondStair$Hill", name := "hasRain", desc := "(I)Z" } : Jvm.MethodName) ({ cls := "PondStair$Hill", name := "hasRain", desc := "(I)Z" } : Jvm.MethodName)), (Jvm.Cond.code ({ cls := "PondStair$Hill", name := "hasRain", desc := "(I)Z" } : Jvm.MethodName) prog_3_method_8_code (2 : Nat) (Option.some Jvm.ClassFile.FieldType.boolean)), (Jvm.Cond.methodLink "PondStair$Hill" (69 : Nat) ({ cls := "PondStair$Hill", name := "stepsOf", desc := "(I)I" } : Jvm.MethodName)), (Jvm.Cond.instanceMethod ({ cls := "PondStair$Hill", name := "stepsOf", desc := "(I)I" } : Jvm.MethodName)), (Jvm.Cond.selects "PondStair$Hill" ({ cls := "PondStair$Hill", name := "stepsOf", desc := "(I)I" } : Jvm.MethodName) ({ cls := "PondStair$Hill", name := "stepsOf", desc := "(I)I" } : Jvm.MethodName)), (Jvm.Cond.code ({ cls := "PondStair$Hill", name := "stepsOf", desc := "(I)I" } : Jvm.MethodName) prog_3_method_15_code (2 : Nat) (Option.some Jvm.ClassFile.FieldType.int)), (Jvm.Cond.methodLink "PondStairLaw" (36 : Nat) ({ cls := "PondStair", name := "pond", desc := "(IIII)I" } : Jvm.MethodName)), (Jvm.Cond.instanceMethod ({ cls := "PondStair", name := "pond", desc := "(IIII)I" } : Jvm.MethodName)), (Jvm.Cond.selects "PondStair" ({ cls := "PondStair", name := "pond", desc := "(IIII)I" } : Jvm.MethodName) ({ cls := "PondStair", name := "pond", desc := "(IIII)I" } : Jvm.MethodName)), (Jvm.Cond.code ({ cls := "PondStair", name := "pond", desc := "(IIII)I" } : Jvm.MethodName) prog_1_method_7_code (5 : Nat) (Option.some Jvm.ClassFile.FieldType.int)), (Jvm.Cond.methodLink "PondStair" (114 : Nat) ({ cls := "PondStair", name := "lays", desc := "(II)Z" } : Jvm.MethodName)), (Jvm.Cond.privateMethod ({ cls := "PondStair", name := "lays", desc := "(II)Z" } : Jvm.MethodName)), (Jvm.Cond.instanceMethod ({ cls := "PondStair", name := "lays", desc := "(II)Z" } : Jvm.MethodName)), (Jvm.Cond.code ({ cls := "PondStair", name := "lays", desc := "(II)Z" } : Jvm.MethodName) prog_1_method_45_code (3 : Nat) (Option.some Jvm.ClassFile.FieldType.boolean)), (Jvm.Cond.methodLink "PondStair" (127 : Nat) ({ cls := "PondStair$Told", name := "hasPlan", desc := "(I)Z" } : Jvm.MethodName)), (Jvm.Cond.instanceMethod ({ cls := "PondStair$Told", name := "hasPlan", desc := "(I)Z" } : Jvm.MethodName)), (Jvm.Cond.selects "PondStair$Told" ({ cls := "PondStair$Told", name := "hasPlan", desc := "(I)Z" } : Jvm.MethodName) ({ cls := "PondStair$Told", name := "hasPlan", desc := "(I)Z" } : Jvm.MethodName)), (Jvm.Cond.code ({ cls := "PondStair$Told", name := "hasPlan", desc := "(I)Z" } : Jvm.MethodName) prog_9_method_4_code (2 : Nat) (Option.some Jvm.ClassFile.FieldType.boolean)), (Jvm.Cond.methodLink "PondStair" (337 : Nat) ({ cls := "PondStair$Site", name := "lay", desc := "(LPondStair$Hill;LPondStair$Works;)V" } : Jvm.MethodName)), (Jvm.Cond.instanceMethod ({ cls := "PondStair$Site", name := "lay", desc := "(LPondStair$Hill;LPondStair$Works;)V" } : Jvm.MethodName)), (Jvm.Cond.selects "PondStair$Site" ({ cls := "PondStair$Site", name := "lay", desc := "(LPondStair$Hill;LPondStair$Works;)V" } : Jvm.MethodName) ({ cls := "PondStair$Site", name := "lay", desc := "(LPondStair$Hill;LPondStair$Works;)V" } : Jvm.MethodName))]
def tw_3_7 : List Cond := [(Jvm.Cond.code ({ cls := "PondStair$Site", name := "lay", desc := "(LPondStair$Hill;LPondStair$Works;)V" } : Jvm.MethodName) prog_6_method_2_code (4 : Nat) (Option.none : Option Jvm.ClassFile.FieldType)), (Jvm.Cond.methodLink "PondStair$Site" (28 : Nat) ({ cls := "PondStair$Hill", name := "copy", desc := "(LPondStair$Hill;)V" } : Jvm.MethodName)), (Jvm.Cond.methodLink "PondStair$Site" (47 : Nat) ({ cls := "PondStair$Site", name := "builds", desc := "(III)Z" } : Jvm.MethodName)), (Jvm.Cond.privateMethod ({ cls := "PondStair$Site", name := "builds", desc := "(III)Z" } : Jvm.MethodName)), (Jvm.Cond.instanceMethod ({ cls := "PondStair$Site", name := "builds", desc := "(III)Z" } : Jvm.MethodName)), (Jvm.Cond.code ({ cls := "PondStair$Site", name := "builds", desc := "(III)Z" } : Jvm.MethodName) prog_6_method_3_code (4 : Nat) (Option.some Jvm.ClassFile.FieldType.boolean)), (Jvm.Cond.methodLink "PondStair$Site" (51 : Nat) ({ cls := "PondStair$Hill", name := "has", desc := "(I)Z" } : Jvm.MethodName)), (Jvm.Cond.instanceMethod ({ cls := "PondStair$Hill", name := "has", desc := "(I)Z" } : Jvm.MethodName)), (Jvm.Cond.selects "PondStair$Hill" ({ cls := "PondStair$Hill", name := "has", desc := "(I)Z" } : Jvm.MethodName) ({ cls := "PondStair$Hill", name := "has", desc := "(I)Z" } : Jvm.MethodName)), (Jvm.Cond.code ({ cls := "PondStair$Hill", name := "has", desc := "(I)Z" } : Jvm.MethodName) prog_3_method_6_code (2 : Nat) (Option.some Jvm.ClassFile.FieldType.boolean)), (Jvm.Cond.methodLink "PondStair$Site" (55 : Nat) ({ cls := "PondStair$Hill", name := "isOut", desc := "(I)Z" } : Jvm.MethodName)), (Jvm.Cond.instanceMethod ({ cls := "PondStair$Hill", name := "isOut", desc := "(I)Z" } : Jvm.MethodName)), (Jvm.Cond.selects "PondStair$Hill" ({ cls := "PondStair$Hill", name := "isOut", desc := "(I)Z" } : Jvm.MethodName) ({ cls := "PondStair$Hill", name := "isOut", desc := "(I)Z" } : Jvm.MethodName)), (Jvm.Cond.code ({ cls := "PondStair$Hill", name := "isOut", desc := "(I)Z" } : Jvm.MethodName) prog_3_method_13_code (2 : Nat) (Option.some Jvm.ClassFile.FieldType.boolean)), (Jvm.Cond.methodLink "PondStair$Hill" (61 : Nat) ({ cls := "PondStair$Hill", name := "of", desc := "(II)I" } : Jvm.MethodName)), (Jvm.Cond.instanceMethod ({ cls := "PondStair$Hill", name := "of", desc := "(II)I" } : Jvm.MethodName)), (Jvm.Cond.selects "PondStair$Hill" ({ cls := "PondStair$Hill", name := "of", desc := "(II)I" } : Jvm.MethodName) ({ cls := "PondStair$Hill", name := "of", desc := "(II)I" } : Jvm.MethodName)), (Jvm.Cond.code ({ cls := "PondStair$Hill", name := "of", desc := "(II)I" } : Jvm.MethodName) prog_3_method_11_code (3 : Nat) (Option.some Jvm.ClassFile.FieldType.int)), (Jvm.Cond.methodLink "PondStair$Site" (58 : Nat) ({ cls := "PondStair$Site", name := "mends", desc := "(II)Z" } : Jvm.MethodName)), (Jvm.Cond.privateMethod ({ cls := "PondStair$Site", name := "mends", desc := "(II)Z" } : Jvm.MethodName)), (Jvm.Cond.instanceMethod ({ cls := "PondStair$Site", name := "mends", desc := "(II)Z" } : Jvm.MethodName)), (Jvm.Cond.code ({ cls := "PondStair$Site", name := "mends", desc := "(II)Z" } : Jvm.MethodName) prog_6_method_4_code (3 : Nat) (Option.some Jvm.ClassFile.FieldType.boolean)), (Jvm.Cond.methodLink "PondStair$Site" (71 : Nat) ({ cls := "PondStair$Hill", name := "of", desc := "(II)I" } : Jvm.MethodName)), (Jvm.Cond.methodLink "PondStair$Site" (79 : Nat) ({ cls := "PondStair$Hill", name := "put", desc := "(III)V" } : Jvm.MethodName))]
def tw_3_8 : List Cond := [(Jvm.Cond.methodLink "PondStair$Site" (62 : Nat) ({ cls := "PondStair$Site", name := "lowers", desc := "(II)Z" } : Jvm.MethodName)), (Jvm.Cond.privateMethod ({ cls := "PondStair$Site", name := "lowers", desc := "(II)Z" } : Jvm.MethodName)), (Jvm.Cond.instanceMethod ({ cls := "PondStair$Site", name := "lowers", desc := "(II)Z" } : Jvm.MethodName)), (Jvm.Cond.code ({ cls := "PondStair$Site", name := "lowers", desc := "(II)Z" } : Jvm.MethodName) prog_6_method_5_code (3 : Nat) (Option.some Jvm.ClassFile.FieldType.boolean)), (Jvm.Cond.methodLink "PondStair$Site" (65 : Nat) ({ cls := "PondStair$Site", name := "widens", desc := "(II)Z" } : Jvm.MethodName)), (Jvm.Cond.privateMethod ({ cls := "PondStair$Site", name := "widens", desc := "(II)Z" } : Jvm.MethodName)), (Jvm.Cond.instanceMethod ({ cls := "PondStair$Site", name := "widens", desc := "(II)Z" } : Jvm.MethodName)), (Jvm.Cond.code ({ cls := "PondStair$Site", name := "widens", desc := "(II)Z" } : Jvm.MethodName) prog_6_method_6_code (3 : Nat) (Option.some Jvm.ClassFile.FieldType.boolean)), (Jvm.Cond.methodLink "PondStair$Site" (68 : Nat) ({ cls := "PondStair$Site", name := "leads", desc := "(II)Z" } : Jvm.MethodName)), (Jvm.Cond.privateMethod ({ cls := "PondStair$Site", name := "leads", desc := "(II)Z" } : Jvm.MethodName)), (Jvm.Cond.instanceMethod ({ cls := "PondStair$Site", name := "leads", desc := "(II)Z" } : Jvm.MethodName)), (Jvm.Cond.code ({ cls := "PondStair$Site", name := "leads", desc := "(II)Z" } : Jvm.MethodName) prog_6_method_7_code (3 : Nat) (Option.some Jvm.ClassFile.FieldType.boolean)), (Jvm.Cond.methodLink "PondStair$Site" (75 : Nat) ({ cls := "PondStair$Hill", name := "takeOut", desc := "(I)V" } : Jvm.MethodName)), (Jvm.Cond.instanceMethod ({ cls := "PondStair$Hill", name := "takeOut", desc := "(I)V" } : Jvm.MethodName)), (Jvm.Cond.selects "PondStair$Hill" ({ cls := "PondStair$Hill", name := "takeOut", desc := "(I)V" } : Jvm.MethodName) ({ cls := "PondStair$Hill", name := "takeOut", desc := "(I)V" } : Jvm.MethodName)), (Jvm.Cond.code ({ cls := "PondStair$Hill", name := "takeOut", desc := "(I)V" } : Jvm.MethodName) prog_3_method_14_code (2 : Nat) (Option.none : Option Jvm.ClassFile.FieldType)), (Jvm.Cond.methodLink "PondStair" (121 : Nat) ({ cls := "PondStair$Hill", name := "has", desc := "(I)Z" } : Jvm.MethodName)), (Jvm.Cond.methodLink "PondStair" (124 : Nat) ({ cls := "PondStair$Hill", name := "of", desc := "(II)I" } : Jvm.MethodName)), (Jvm.Cond.methodLink "PondStairLaw" (41 : Nat) ({ cls := "PondStair", name := "work", desc := "(III)I" } : Jvm.MethodName)), (Jvm.Cond.instanceMethod ({ cls := "PondStair", name := "work", desc := "(III)I" } : Jvm.MethodName)), (Jvm.Cond.selects "PondStair" ({ cls := "PondStair", name := "work", desc := "(III)I" } : Jvm.MethodName) ({ cls := "PondStair", name := "work", desc := "(III)I" } : Jvm.MethodName)), (Jvm.Cond.code ({ cls := "PondStair", name := "work", desc := "(III)I" } : Jvm.MethodName) prog_1_method_8_code (4 : Nat) (Option.some Jvm.ClassFile.FieldType.int)), (Jvm.Cond.methodLink "PondStair" (134 : Nat) ({ cls := "PondStair$Works", name := "told", desc := "(II)I" } : Jvm.MethodName)), (Jvm.Cond.instanceMethod ({ cls := "PondStair$Works", name := "told", desc := "(II)I" } : Jvm.MethodName))]
def tw_3_9 : List Cond := [(Jvm.Cond.selects "PondStair$Works" ({ cls := "PondStair$Works", name := "told", desc := "(II)I" } : Jvm.MethodName) ({ cls := "PondStair$Works", name := "told", desc := "(II)I" } : Jvm.MethodName)), (Jvm.Cond.code ({ cls := "PondStair$Works", name := "told", desc := "(II)I" } : Jvm.MethodName) prog_10_method_5_code (3 : Nat) (Option.some Jvm.ClassFile.FieldType.int)), (Jvm.Cond.methodLink "PondStairLaw" (46 : Nat) ({ cls := "PondStair", name := "plan", desc := "(III)I" } : Jvm.MethodName)), (Jvm.Cond.instanceMethod ({ cls := "PondStair", name := "plan", desc := "(III)I" } : Jvm.MethodName)), (Jvm.Cond.selects "PondStair" ({ cls := "PondStair", name := "plan", desc := "(III)I" } : Jvm.MethodName) ({ cls := "PondStair", name := "plan", desc := "(III)I" } : Jvm.MethodName)), (Jvm.Cond.code ({ cls := "PondStair", name := "plan", desc := "(III)I" } : Jvm.MethodName) prog_1_method_9_code (4 : Nat) (Option.some Jvm.ClassFile.FieldType.int)), (Jvm.Cond.methodLink "PondStairLaw" (50 : Nat) ({ cls := "PondStair", name := "storm", desc := "(IIIII)I" } : Jvm.MethodName)), (Jvm.Cond.instanceMethod ({ cls := "PondStair", name := "storm", desc := "(IIIII)I" } : Jvm.MethodName)), (Jvm.Cond.selects "PondStair" ({ cls := "PondStair", name := "storm", desc := "(IIIII)I" } : Jvm.MethodName) ({ cls := "PondStair", name := "storm", desc := "(IIIII)I" } : Jvm.MethodName)), (Jvm.Cond.code ({ cls := "PondStair", name := "storm", desc := "(IIIII)I" } : Jvm.MethodName) prog_1_method_10_code (6 : Nat) (Option.some Jvm.ClassFile.FieldType.int)), (Jvm.Cond.methodLink "PondStair" (145 : Nat) ({ cls := "PondStair$Hill", name := "hasStorm", desc := "(II)Z" } : Jvm.MethodName)), (Jvm.Cond.instanceMethod ({ cls := "PondStair$Hill", name := "hasStorm", desc := "(II)Z" } : Jvm.MethodName)), (Jvm.Cond.selects "PondStair$Hill" ({ cls := "PondStair$Hill", name := "hasStorm", desc := "(II)Z" } : Jvm.MethodName) ({ cls := "PondStair$Hill", name := "hasStorm", desc := "(II)Z" } : Jvm.MethodName)), (Jvm.Cond.code ({ cls := "PondStair$Hill", name := "hasStorm", desc := "(II)Z" } : Jvm.MethodName) prog_3_method_9_code (3 : Nat) (Option.some Jvm.ClassFile.FieldType.boolean)), (Jvm.Cond.methodLink "PondStair$Hill" (58 : Nat) ({ cls := "PondStair$Hill", name := "hasSet", desc := "(I)Z" } : Jvm.MethodName)), (Jvm.Cond.instanceMethod ({ cls := "PondStair$Hill", name := "hasSet", desc := "(I)Z" } : Jvm.MethodName)), (Jvm.Cond.selects "PondStair$Hill" ({ cls := "PondStair$Hill", name := "hasSet", desc := "(I)Z" } : Jvm.MethodName) ({ cls := "PondStair$Hill", name := "hasSet", desc := "(I)Z" } : Jvm.MethodName)), (Jvm.Cond.code ({ cls := "PondStair$Hill", name := "hasSet", desc := "(I)Z" } : Jvm.MethodName) prog_3_method_7_code (2 : Nat) (Option.some Jvm.ClassFile.FieldType.boolean)), (Jvm.Cond.methodLink "PondStair$Hill" (50 : Nat) ({ cls := "PondStair$Hill", name := "all", desc := "()I" } : Jvm.MethodName)), (Jvm.Cond.instanceMethod ({ cls := "PondStair$Hill", name := "all", desc := "()I" } : Jvm.MethodName)), (Jvm.Cond.selects "PondStair$Hill" ({ cls := "PondStair$Hill", name := "all", desc := "()I" } : Jvm.MethodName) ({ cls := "PondStair$Hill", name := "all", desc := "()I" } : Jvm.MethodName)), (Jvm.Cond.code ({ cls := "PondStair$Hill", name := "all", desc := "()I" } : Jvm.MethodName) prog_3_method_10_code (1 : Nat) (Option.some Jvm.ClassFile.FieldType.int)), (Jvm.Cond.methodLink "PondStair" (148 : Nat) ({ cls := "PondStair$Hill", name := "stepsOf", desc := "(I)I" } : Jvm.MethodName)), (Jvm.Cond.methodLink "PondStair" (151 : Nat) ({ cls := "PondStair$Storm", name := "run", desc := "(LPondStair$Hill;III)V" } : Jvm.MethodName))]
set_option maxRecDepth 100000 in
theorem tp_3 : tables_1_3 = tw_3_0 ++ (tw_3_1 ++ (tw_3_2 ++ (tw_3_3 ++ (tw_3_4 ++ (tw_3_5 ++ (tw_3_6 ++ (tw_3_7 ++ (tw_3_8 ++ (tw_3_9))))))))) := rfl
theorem gt_m3 {w : Cond} (hm : w ∈ tables_1_3) (hg : goodWord w = true) : w ∈ gt := by
  refine List.mem_filter.mpr ⟨?_, hg⟩
  unfold lw_tbl tables_1
  simp only [List.mem_append]
  simp only [hm, true_or, or_true]
theorem gt_3_0 {w : Cond} {i : Nat} (h : tw_3_0[i]? = some w) (hg : goodWord w = true) : w ∈ gt := by
  have hm := List.mem_of_getElem? h
  refine gt_m3 ?_ hg
  rw [tp_3]
  simp only [List.mem_append]
  simp only [hm, true_or, or_true]
theorem gt_3_1 {w : Cond} {i : Nat} (h : tw_3_1[i]? = some w) (hg : goodWord w = true) : w ∈ gt := by
  have hm := List.mem_of_getElem? h
  refine gt_m3 ?_ hg
  rw [tp_3]
  simp only [List.mem_append]
  simp only [hm, true_or, or_true]
theorem gt_3_2 {w : Cond} {i : Nat} (h : tw_3_2[i]? = some w) (hg : goodWord w = true) : w ∈ gt := by
  have hm := List.mem_of_getElem? h
  refine gt_m3 ?_ hg
  rw [tp_3]
  simp only [List.mem_append]
  simp only [hm, true_or, or_true]
theorem gt_3_3 {w : Cond} {i : Nat} (h : tw_3_3[i]? = some w) (hg : goodWord w = true) : w ∈ gt := by
  have hm := List.mem_of_getElem? h
  refine gt_m3 ?_ hg
  rw [tp_3]
  simp only [List.mem_append]
  simp only [hm, true_or, or_true]
theorem gt_3_4 {w : Cond} {i : Nat} (h : tw_3_4[i]? = some w) (hg : goodWord w = true) : w ∈ gt := by
  have hm := List.mem_of_getElem? h
  refine gt_m3 ?_ hg
  rw [tp_3]
  simp only [List.mem_append]
  simp only [hm, true_or, or_true]
theorem gt_3_5 {w : Cond} {i : Nat} (h : tw_3_5[i]? = some w) (hg : goodWord w = true) : w ∈ gt := by
  have hm := List.mem_of_getElem? h
  refine gt_m3 ?_ hg
  rw [tp_3]
  simp only [List.mem_append]
  simp only [hm, true_or, or_true]
theorem gt_3_6 {w : Cond} {i : Nat} (h : tw_3_6[i]? = some w) (hg : goodWord w = true) : w ∈ gt := by
  have hm := List.mem_of_getElem? h
  refine gt_m3 ?_ hg
  rw [tp_3]
  simp only [List.mem_append]
  simp only [hm, true_or, or_true]
theorem gt_3_7 {w : Cond} {i : Nat} (h : tw_3_7[i]? = some w) (hg : goodWord w = true) : w ∈ gt := by
  have hm := List.mem_of_getElem? h
  refine gt_m3 ?_ hg
  rw [tp_3]
  simp only [List.mem_append]
  simp only [hm, true_or, or_true]
theorem gt_3_8 {w : Cond} {i : Nat} (h : tw_3_8[i]? = some w) (hg : goodWord w = true) : w ∈ gt := by
  have hm := List.mem_of_getElem? h
  refine gt_m3 ?_ hg
  rw [tp_3]
  simp only [List.mem_append]
  simp only [hm, true_or, or_true]
theorem gt_3_9 {w : Cond} {i : Nat} (h : tw_3_9[i]? = some w) (hg : goodWord w = true) : w ∈ gt := by
  have hm := List.mem_of_getElem? h
  refine gt_m3 ?_ hg
  rw [tp_3]
  simp only [List.mem_append]
  simp only [hm, true_or, or_true]
def tw_4_0 : List Cond := [(Jvm.Cond.instanceMethod ({ cls := "PondStair$Storm", name := "run", desc := "(LPondStair$Hill;III)V" } : Jvm.MethodName)), (Jvm.Cond.selects "PondStair$Storm" ({ cls := "PondStair$Storm", name := "run", desc := "(LPondStair$Hill;III)V" } : Jvm.MethodName) ({ cls := "PondStair$Storm", name := "run", desc := "(LPondStair$Hill;III)V" } : Jvm.MethodName)), (Jvm.Cond.code ({ cls := "PondStair$Storm", name := "run", desc := "(LPondStair$Hill;III)V" } : Jvm.MethodName) prog_7_method_2_code (7 : Nat) (Option.none : Option Jvm.ClassFile.FieldType)), (Jvm.Cond.methodLink "PondStair$Storm" (37 : Nat) ({ cls := "java/util/Arrays", name := "fill", desc := "([II)V" } : Jvm.MethodName)), (Jvm.Cond.methodLink "PondStair$Storm" (43 : Nat) ({ cls := "PondStair$Storm", name := "hears", desc := "(LPondStair$Hill;I)Z" } : Jvm.MethodName)), (Jvm.Cond.privateMethod ({ cls := "PondStair$Storm", name := "hears", desc := "(LPondStair$Hill;I)Z" } : Jvm.MethodName)), (Jvm.Cond.instanceMethod ({ cls := "PondStair$Storm", name := "hears", desc := "(LPondStair$Hill;I)Z" } : Jvm.MethodName)), (Jvm.Cond.code ({ cls := "PondStair$Storm", name := "hears", desc := "(LPondStair$Hill;I)Z" } : Jvm.MethodName) prog_7_method_3_code (6 : Nat) (Option.some Jvm.ClassFile.FieldType.boolean)), (Jvm.Cond.methodLink "PondStair$Storm" (47 : Nat) ({ cls := "PondStair$Hill", name := "of", desc := "(II)I" } : Jvm.MethodName)), (Jvm.Cond.methodLinkNest "PondStair$Storm" (70 : Nat) ({ cls := "PondStair", name := "isIn", desc := "(II)Z" } : Jvm.MethodName) "PondStair"), (Jvm.Cond.static ({ cls := "PondStair", name := "isIn", desc := "(II)Z" } : Jvm.MethodName)), (Jvm.Cond.code ({ cls := "PondStair", name := "isIn", desc := "(II)Z" } : Jvm.MethodName) prog_1_method_51_code (2 : Nat) (Option.some Jvm.ClassFile.FieldType.boolean)), (Jvm.Cond.methodLinkNest "PondStair$Storm" (51 : Nat) ({ cls := "PondStair", name := "bit", desc := "(I)I" } : Jvm.MethodName) "PondStair"), (Jvm.Cond.static ({ cls := "PondStair", name := "bit", desc := "(I)I" } : Jvm.MethodName)), (Jvm.Cond.code ({ cls := "PondStair", name := "bit", desc := "(I)I" } : Jvm.MethodName) prog_1_method_52_code (1 : Nat) (Option.some Jvm.ClassFile.FieldType.int)), (Jvm.Cond.methodLink "PondStair$Storm" (55 : Nat) ({ cls := "PondStair$Storm", name := "goes", desc := "(LPondStair$Hill;II)Z" } : Jvm.MethodName)), (Jvm.Cond.privateMethod ({ cls := "PondStair$Storm", name := "goes", desc := "(LPondStair$Hill;II)Z" } : Jvm.MethodName)), (Jvm.Cond.instanceMethod ({ cls := "PondStair$Storm", name := "goes", desc := "(LPondStair$Hill;II)Z" } : Jvm.MethodName)), (Jvm.Cond.code ({ cls := "PondStair$Storm", name := "goes", desc := "(LPondStair$Hill;II)Z" } : Jvm.MethodName) prog_7_method_4_code (4 : Nat) (Option.some Jvm.ClassFile.FieldType.boolean)), (Jvm.Cond.methodLink "PondStair$Storm" (59 : Nat) ({ cls := "PondStair$Storm", name := "leaving", desc := "(LPondStair$Hill;IZ)I" } : Jvm.MethodName)), (Jvm.Cond.privateMethod ({ cls := "PondStair$Storm", name := "leaving", desc := "(LPondStair$Hill;IZ)I" } : Jvm.MethodName)), (Jvm.Cond.instanceMethod ({ cls := "PondStair$Storm", name := "leaving", desc := "(LPondStair$Hill;IZ)I" } : Jvm.MethodName)), (Jvm.Cond.code ({ cls := "PondStair$Storm", name := "leaving", desc := "(LPondStair$Hill;IZ)I" } : Jvm.MethodName) prog_7_method_5_code (4 : Nat) (Option.some Jvm.ClassFile.FieldType.int)), (Jvm.Cond.methodLink "PondStair$Storm" (74 : Nat) ({ cls := "java/lang/Math", name := "max", desc := "(II)I" } : Jvm.MethodName))]
def tw_4_1 : List Cond := [(Jvm.Cond.methodLink "PondStair$Storm" (63 : Nat) ({ cls := "PondStair$Storm", name := "pass", desc := "(LPondStair$Hill;I)V" } : Jvm.MethodName)), (Jvm.Cond.privateMethod ({ cls := "PondStair$Storm", name := "pass", desc := "(LPondStair$Hill;I)V" } : Jvm.MethodName)), (Jvm.Cond.instanceMethod ({ cls := "PondStair$Storm", name := "pass", desc := "(LPondStair$Hill;I)V" } : Jvm.MethodName)), (Jvm.Cond.code ({ cls := "PondStair$Storm", name := "pass", desc := "(LPondStair$Hill;I)V" } : Jvm.MethodName) prog_7_method_6_code (6 : Nat) (Option.none : Option Jvm.ClassFile.FieldType)), (Jvm.Cond.methodLink "PondStair$Storm" (79 : Nat) ({ cls := "PondStair$Hill", name := "has", desc := "(I)Z" } : Jvm.MethodName)), (Jvm.Cond.methodLink "PondStair$Storm" (67 : Nat) ({ cls := "PondStair$Hill", name := "harmOf", desc := "(I)I" } : Jvm.MethodName)), (Jvm.Cond.instanceMethod ({ cls := "PondStair$Hill", name := "harmOf", desc := "(I)I" } : Jvm.MethodName)), (Jvm.Cond.selects "PondStair$Hill" ({ cls := "PondStair$Hill", name := "harmOf", desc := "(I)I" } : Jvm.MethodName) ({ cls := "PondStair$Hill", name := "harmOf", desc := "(I)I" } : Jvm.MethodName)), (Jvm.Cond.code ({ cls := "PondStair$Hill", name := "harmOf", desc := "(I)I" } : Jvm.MethodName) prog_3_method_22_code (4 : Nat) (Option.some Jvm.ClassFile.FieldType.int)), (Jvm.Cond.methodLinkNest "PondStair$Hill" (75 : Nat) ({ cls := "PondStair", name := "isIn", desc := "(II)Z" } : Jvm.MethodName) "PondStair"), (Jvm.Cond.methodLink "PondStair" (155 : Nat) ({ cls := "PondStair$Storm", name := "told", desc := "(I)I" } : Jvm.MethodName)), (Jvm.Cond.instanceMethod ({ cls := "PondStair$Storm", name := "told", desc := "(I)I" } : Jvm.MethodName)), (Jvm.Cond.selects "PondStair$Storm" ({ cls := "PondStair$Storm", name := "told", desc := "(I)I" } : Jvm.MethodName) ({ cls := "PondStair$Storm", name := "told", desc := "(I)I" } : Jvm.MethodName)), (Jvm.Cond.code ({ cls := "PondStair$Storm", name := "told", desc := "(I)I" } : Jvm.MethodName) prog_7_method_7_code (2 : Nat) (Option.some Jvm.ClassFile.FieldType.int)), (Jvm.Cond.methodLink "PondStair$Storm" (83 : Nat) ({ cls := "PondStair$Storm", name := "toldOfPond", desc := "(II)I" } : Jvm.MethodName)), (Jvm.Cond.privateMethod ({ cls := "PondStair$Storm", name := "toldOfPond", desc := "(II)I" } : Jvm.MethodName)), (Jvm.Cond.instanceMethod ({ cls := "PondStair$Storm", name := "toldOfPond", desc := "(II)I" } : Jvm.MethodName)), (Jvm.Cond.code ({ cls := "PondStair$Storm", name := "toldOfPond", desc := "(II)I" } : Jvm.MethodName) prog_7_method_8_code (3 : Nat) (Option.some Jvm.ClassFile.FieldType.int)), (Jvm.Cond.methodLink "PondStairLaw" (54 : Nat) ({ cls := "PondStair", name := "likely", desc := "(III)J" } : Jvm.MethodName)), (Jvm.Cond.instanceMethod ({ cls := "PondStair", name := "likely", desc := "(III)J" } : Jvm.MethodName)), (Jvm.Cond.selects "PondStair" ({ cls := "PondStair", name := "likely", desc := "(III)J" } : Jvm.MethodName) ({ cls := "PondStair", name := "likely", desc := "(III)J" } : Jvm.MethodName)), (Jvm.Cond.code ({ cls := "PondStair", name := "likely", desc := "(III)J" } : Jvm.MethodName) prog_1_method_11_code (4 : Nat) (Option.some Jvm.ClassFile.FieldType.long)), (Jvm.Cond.methodLink "PondStair" (156 : Nat) ({ cls := "PondStair", name := "looks", desc := "(II)Z" } : Jvm.MethodName)), (Jvm.Cond.privateMethod ({ cls := "PondStair", name := "looks", desc := "(II)Z" } : Jvm.MethodName))]
def tw_4_2 : List Cond := [(Jvm.Cond.instanceMethod ({ cls := "PondStair", name := "looks", desc := "(II)Z" } : Jvm.MethodName)), (Jvm.Cond.code ({ cls := "PondStair", name := "looks", desc := "(II)Z" } : Jvm.MethodName) prog_1_method_46_code (3 : Nat) (Option.some Jvm.ClassFile.FieldType.boolean)), (Jvm.Cond.methodLink "PondStair" (341 : Nat) ({ cls := "PondStair$Hill", name := "weak", desc := "()I" } : Jvm.MethodName)), (Jvm.Cond.instanceMethod ({ cls := "PondStair$Hill", name := "weak", desc := "()I" } : Jvm.MethodName)), (Jvm.Cond.selects "PondStair$Hill" ({ cls := "PondStair$Hill", name := "weak", desc := "()I" } : Jvm.MethodName) ({ cls := "PondStair$Hill", name := "weak", desc := "()I" } : Jvm.MethodName)), (Jvm.Cond.code ({ cls := "PondStair$Hill", name := "weak", desc := "()I" } : Jvm.MethodName) prog_3_method_20_code (3 : Nat) (Option.some Jvm.ClassFile.FieldType.int)), (Jvm.Cond.methodLinkNest "PondStair$Hill" (72 : Nat) ({ cls := "PondStair", name := "bit", desc := "(I)I" } : Jvm.MethodName) "PondStair"), (Jvm.Cond.methodLink "PondStair" (344 : Nat) ({ cls := "PondStair$Odds", name := "look", desc := "(LPondStair$Hill;II)V" } : Jvm.MethodName)), (Jvm.Cond.instanceMethod ({ cls := "PondStair$Odds", name := "look", desc := "(LPondStair$Hill;II)V" } : Jvm.MethodName)), (Jvm.Cond.selects "PondStair$Odds" ({ cls := "PondStair$Odds", name := "look", desc := "(LPondStair$Hill;II)V" } : Jvm.MethodName) ({ cls := "PondStair$Odds", name := "look", desc := "(LPondStair$Hill;II)V" } : Jvm.MethodName)), (Jvm.Cond.code ({ cls := "PondStair$Odds", name := "look", desc := "(LPondStair$Hill;II)V" } : Jvm.MethodName) prog_4_method_2_code (6 : Nat) (Option.none : Option Jvm.ClassFile.FieldType)), (Jvm.Cond.methodLink "PondStair$Odds" (39 : Nat) ({ cls := "PondStair$Hill", name := "copy", desc := "(LPondStair$Hill;)V" } : Jvm.MethodName)), (Jvm.Cond.methodLink "PondStair$Odds" (43 : Nat) ({ cls := "PondStair$Hill", name := "all", desc := "()I" } : Jvm.MethodName)), (Jvm.Cond.methodLink "PondStair$Odds" (47 : Nat) ({ cls := "PondStair$Hill", name := "harmOf", desc := "(I)I" } : Jvm.MethodName)), (Jvm.Cond.methodLink "PondStair$Odds" (55 : Nat) ({ cls := "PondStair$Hill", name := "stepsOf", desc := "(I)I" } : Jvm.MethodName)), (Jvm.Cond.methodLink "PondStair$Odds" (58 : Nat) ({ cls := "PondStair$Storm", name := "run", desc := "(LPondStair$Hill;III)V" } : Jvm.MethodName)), (Jvm.Cond.methodLink "PondStair$Odds" (64 : Nat) ({ cls := "PondStair$Odds", name := "weigh", desc := "(II)V" } : Jvm.MethodName)), (Jvm.Cond.instanceMethod ({ cls := "PondStair$Odds", name := "weigh", desc := "(II)V" } : Jvm.MethodName)), (Jvm.Cond.selects "PondStair$Odds" ({ cls := "PondStair$Odds", name := "weigh", desc := "(II)V" } : Jvm.MethodName) ({ cls := "PondStair$Odds", name := "weigh", desc := "(II)V" } : Jvm.MethodName)), (Jvm.Cond.code ({ cls := "PondStair$Odds", name := "weigh", desc := "(II)V" } : Jvm.MethodName) prog_4_method_3_code (7 : Nat) (Option.none : Option Jvm.ClassFile.FieldType)), (Jvm.Cond.methodLinkNest "PondStair$Odds" (71 : Nat) ({ cls := "PondStair", name := "isIn", desc := "(II)Z" } : Jvm.MethodName) "PondStair"), (Jvm.Cond.methodLink "PondStair$Odds" (75 : Nat) ({ cls := "PondStair$Hill", name := "of", desc := "(II)I" } : Jvm.MethodName)), (Jvm.Cond.methodLinkNest "PondStair$Odds" (79 : Nat) ({ cls := "PondStair", name := "bit", desc := "(I)I" } : Jvm.MethodName) "PondStair"), (Jvm.Cond.constantLong "PondStair" (159 : Nat) (-1 : Int64))]
def tw_4_3 : List Cond := [(Jvm.Cond.methodLink "PondStair" (161 : Nat) ({ cls := "PondStair", name := "bit", desc := "(I)I" } : Jvm.MethodName)), (Jvm.Cond.methodLink "PondStair" (164 : Nat) ({ cls := "PondStair$Odds", name := "partsOf", desc := "(I)J" } : Jvm.MethodName)), (Jvm.Cond.instanceMethod ({ cls := "PondStair$Odds", name := "partsOf", desc := "(I)J" } : Jvm.MethodName)), (Jvm.Cond.selects "PondStair$Odds" ({ cls := "PondStair$Odds", name := "partsOf", desc := "(I)J" } : Jvm.MethodName) ({ cls := "PondStair$Odds", name := "partsOf", desc := "(I)J" } : Jvm.MethodName)), (Jvm.Cond.code ({ cls := "PondStair$Odds", name := "partsOf", desc := "(I)J" } : Jvm.MethodName) prog_4_method_9_code (6 : Nat) (Option.some Jvm.ClassFile.FieldType.long)), (Jvm.Cond.methodLink "PondStair$Odds" (99 : Nat) ({ cls := "PondStair$Odds", name := "parts", desc := "(II)J" } : Jvm.MethodName)), (Jvm.Cond.privateMethod ({ cls := "PondStair$Odds", name := "parts", desc := "(II)J" } : Jvm.MethodName)), (Jvm.Cond.instanceMethod ({ cls := "PondStair$Odds", name := "parts", desc := "(II)J" } : Jvm.MethodName)), (Jvm.Cond.code ({ cls := "PondStair$Odds", name := "parts", desc := "(II)J" } : Jvm.MethodName) prog_4_method_4_code (3 : Nat) (Option.some Jvm.ClassFile.FieldType.long)), (Jvm.Cond.methodLink "PondStair$Odds" (82 : Nat) ({ cls := "PondStair$Odds", name := "isStorm", desc := "(II)Z" } : Jvm.MethodName)), (Jvm.Cond.static ({ cls := "PondStair$Odds", name := "isStorm", desc := "(II)Z" } : Jvm.MethodName)), (Jvm.Cond.code ({ cls := "PondStair$Odds", name := "isStorm", desc := "(II)Z" } : Jvm.MethodName) prog_4_method_6_code (2 : Nat) (Option.some Jvm.ClassFile.FieldType.boolean)), (Jvm.Cond.methodLink "PondStair$Odds" (85 : Nat) ({ cls := "PondStair$Hill", name := "chanceOf", desc := "(I)I" } : Jvm.MethodName)), (Jvm.Cond.methodLink "PondStair$Odds" (103 : Nat) ({ cls := "PondStair$Odds", name := "wentBy", desc := "(II)I" } : Jvm.MethodName)), (Jvm.Cond.privateMethod ({ cls := "PondStair$Odds", name := "wentBy", desc := "(II)I" } : Jvm.MethodName)), (Jvm.Cond.instanceMethod ({ cls := "PondStair$Odds", name := "wentBy", desc := "(II)I" } : Jvm.MethodName)), (Jvm.Cond.code ({ cls := "PondStair$Odds", name := "wentBy", desc := "(II)I" } : Jvm.MethodName) prog_4_method_5_code (3 : Nat) (Option.some Jvm.ClassFile.FieldType.int)), (Jvm.Cond.methodLink "PondStairLaw" (59 : Nat) ({ cls := "PondStair", name := "mean", desc := "(III)J" } : Jvm.MethodName)), (Jvm.Cond.instanceMethod ({ cls := "PondStair", name := "mean", desc := "(III)J" } : Jvm.MethodName)), (Jvm.Cond.selects "PondStair" ({ cls := "PondStair", name := "mean", desc := "(III)J" } : Jvm.MethodName) ({ cls := "PondStair", name := "mean", desc := "(III)J" } : Jvm.MethodName)), (Jvm.Cond.code ({ cls := "PondStair", name := "mean", desc := "(III)J" } : Jvm.MethodName) prog_1_method_12_code (4 : Nat) (Option.some Jvm.ClassFile.FieldType.long)), (Jvm.Cond.methodLink "PondStair" (170 : Nat) ({ cls := "PondStair", name := "isOwner", desc := "(I)Z" } : Jvm.MethodName)), (Jvm.Cond.static ({ cls := "PondStair", name := "isOwner", desc := "(I)Z" } : Jvm.MethodName)), (Jvm.Cond.code ({ cls := "PondStair", name := "isOwner", desc := "(I)Z" } : Jvm.MethodName) prog_1_method_50_code (1 : Nat) (Option.some Jvm.ClassFile.FieldType.boolean))]
def tw_4_4 : List Cond := [(Jvm.Cond.methodLink "PondStair" (173 : Nat) ({ cls := "PondStair$Hill", name := "all", desc := "()I" } : Jvm.MethodName)), (Jvm.Cond.methodLink "PondStair" (177 : Nat) ({ cls := "PondStair$Hill", name := "ownedBy", desc := "(I)I" } : Jvm.MethodName)), (Jvm.Cond.instanceMethod ({ cls := "PondStair$Hill", name := "ownedBy", desc := "(I)I" } : Jvm.MethodName)), (Jvm.Cond.selects "PondStair$Hill" ({ cls := "PondStair$Hill", name := "ownedBy", desc := "(I)I" } : Jvm.MethodName) ({ cls := "PondStair$Hill", name := "ownedBy", desc := "(I)I" } : Jvm.MethodName)), (Jvm.Cond.code ({ cls := "PondStair$Hill", name := "ownedBy", desc := "(I)I" } : Jvm.MethodName) prog_3_method_19_code (4 : Nat) (Option.some Jvm.ClassFile.FieldType.int)), (Jvm.Cond.methodLink "PondStair" (180 : Nat) ({ cls := "PondStair$Odds", name := "meanOf", desc := "(I)J" } : Jvm.MethodName)), (Jvm.Cond.instanceMethod ({ cls := "PondStair$Odds", name := "meanOf", desc := "(I)J" } : Jvm.MethodName)), (Jvm.Cond.selects "PondStair$Odds" ({ cls := "PondStair$Odds", name := "meanOf", desc := "(I)J" } : Jvm.MethodName) ({ cls := "PondStair$Odds", name := "meanOf", desc := "(I)J" } : Jvm.MethodName)), (Jvm.Cond.code ({ cls := "PondStair$Odds", name := "meanOf", desc := "(I)J" } : Jvm.MethodName) prog_4_method_8_code (6 : Nat) (Option.some Jvm.ClassFile.FieldType.long)), (Jvm.Cond.methodLink "PondStairLaw" (63 : Nat) ({ cls := "PondStair", name := "rows", desc := "(IIZ)J" } : Jvm.MethodName)), (Jvm.Cond.instanceMethod ({ cls := "PondStair", name := "rows", desc := "(IIZ)J" } : Jvm.MethodName)), (Jvm.Cond.selects "PondStair" ({ cls := "PondStair", name := "rows", desc := "(IIZ)J" } : Jvm.MethodName) ({ cls := "PondStair", name := "rows", desc := "(IIZ)J" } : Jvm.MethodName)), (Jvm.Cond.code ({ cls := "PondStair", name := "rows", desc := "(IIZ)J" } : Jvm.MethodName) prog_1_method_13_code (5 : Nat) (Option.some Jvm.ClassFile.FieldType.long)), (Jvm.Cond.methodLink "PondStair" (183 : Nat) ({ cls := "PondStair$Odds", name := "likeliest", desc := "()I" } : Jvm.MethodName)), (Jvm.Cond.instanceMethod ({ cls := "PondStair$Odds", name := "likeliest", desc := "()I" } : Jvm.MethodName)), (Jvm.Cond.selects "PondStair$Odds" ({ cls := "PondStair$Odds", name := "likeliest", desc := "()I" } : Jvm.MethodName) ({ cls := "PondStair$Odds", name := "likeliest", desc := "()I" } : Jvm.MethodName)), (Jvm.Cond.code ({ cls := "PondStair$Odds", name := "likeliest", desc := "()I" } : Jvm.MethodName) prog_4_method_10_code (3 : Nat) (Option.some Jvm.ClassFile.FieldType.int)), (Jvm.Cond.methodLink "PondStair$Odds" (106 : Nat) ({ cls := "java/util/Arrays", name := "fill", desc := "([JJ)V" } : Jvm.MethodName)), (Jvm.Cond.static ({ cls := "java/util/Arrays", name := "fill", desc := "([JJ)V" } : Jvm.MethodName)), (Jvm.Cond.code ({ cls := "java/util/Arrays", name := "fill", desc := "([JJ)V" } : Jvm.MethodName) prog_20_method_101_code (5 : Nat) (Option.none : Option Jvm.ClassFile.FieldType)), (Jvm.Cond.methodLink "PondStairLaw" (68 : Nat) ({ cls := "PondStair", name := "brings", desc := "(IIII)I" } : Jvm.MethodName)), (Jvm.Cond.instanceMethod ({ cls := "PondStair", name := "brings", desc := "(IIII)I" } : Jvm.MethodName)), (Jvm.Cond.selects "PondStair" ({ cls := "PondStair", name := "brings", desc := "(IIII)I" } : Jvm.MethodName) ({ cls := "PondStair", name := "brings", desc := "(IIII)I" } : Jvm.MethodName)), (Jvm.Cond.code ({ cls := "PondStair", name := "brings", desc := "(IIII)I" } : Jvm.MethodName) prog_1_method_14_code (7 : Nat) (Option.some Jvm.ClassFile.FieldType.int))]
def tw_4_5 : List Cond := [(Jvm.Cond.methodLink "PondStair" (190 : Nat) ({ cls := "PondStair$Hill", name := "hasRain", desc := "(I)Z" } : Jvm.MethodName)), (Jvm.Cond.methodLink "PondStair" (196 : Nat) ({ cls := "PondStair", name := "isIn", desc := "(II)Z" } : Jvm.MethodName)), (Jvm.Cond.methodLink "PondStair" (199 : Nat) ({ cls := "java/lang/Integer", name := "bitCount", desc := "(I)I" } : Jvm.MethodName)), (Jvm.Cond.static ({ cls := "java/lang/Integer", name := "bitCount", desc := "(I)I" } : Jvm.MethodName)), (Jvm.Cond.code ({ cls := "java/lang/Integer", name := "bitCount", desc := "(I)I" } : Jvm.MethodName) prog_14_method_49_code (1 : Nat) (Option.some Jvm.ClassFile.FieldType.int)), (Jvm.Cond.constant "java/lang/Integer" (265 : Nat) (1431655765 : Int32)), (Jvm.Cond.constant "java/lang/Integer" (266 : Nat) (858993459 : Int32)), (Jvm.Cond.constant "java/lang/Integer" (267 : Nat) (252645135 : Int32)), (Jvm.Cond.methodLink "PondStairLaw" (72 : Nat) ({ cls := "PondStair", name := "best", desc := "(IIII)I" } : Jvm.MethodName)), (Jvm.Cond.instanceMethod ({ cls := "PondStair", name := "best", desc := "(IIII)I" } : Jvm.MethodName)), (Jvm.Cond.selects "PondStair" ({ cls := "PondStair", name := "best", desc := "(IIII)I" } : Jvm.MethodName) ({ cls := "PondStair", name := "best", desc := "(IIII)I" } : Jvm.MethodName)), (Jvm.Cond.code ({ cls := "PondStair", name := "best", desc := "(IIII)I" } : Jvm.MethodName) prog_1_method_15_code (5 : Nat) (Option.some Jvm.ClassFile.FieldType.int)), (Jvm.Cond.methodLink "PondStair" (204 : Nat) ({ cls := "PondStair", name := "canMend", desc := "(IIIII)Z" } : Jvm.MethodName)), (Jvm.Cond.privateMethod ({ cls := "PondStair", name := "canMend", desc := "(IIIII)Z" } : Jvm.MethodName)), (Jvm.Cond.instanceMethod ({ cls := "PondStair", name := "canMend", desc := "(IIIII)Z" } : Jvm.MethodName)), (Jvm.Cond.code ({ cls := "PondStair", name := "canMend", desc := "(IIIII)Z" } : Jvm.MethodName) prog_1_method_48_code (6 : Nat) (Option.some Jvm.ClassFile.FieldType.boolean)), (Jvm.Cond.methodLink "PondStair" (215 : Nat) ({ cls := "PondStair$Hill", name := "hasSet", desc := "(I)Z" } : Jvm.MethodName)), (Jvm.Cond.methodLink "PondStair" (208 : Nat) ({ cls := "PondStair$Choice", name := "bestSet", desc := "(LPondStair$Hill;II)I" } : Jvm.MethodName)), (Jvm.Cond.instanceMethod ({ cls := "PondStair$Choice", name := "bestSet", desc := "(LPondStair$Hill;II)I" } : Jvm.MethodName)), (Jvm.Cond.selects "PondStair$Choice" ({ cls := "PondStair$Choice", name := "bestSet", desc := "(LPondStair$Hill;II)I" } : Jvm.MethodName) ({ cls := "PondStair$Choice", name := "bestSet", desc := "(LPondStair$Hill;II)I" } : Jvm.MethodName)), (Jvm.Cond.code ({ cls := "PondStair$Choice", name := "bestSet", desc := "(LPondStair$Hill;II)I" } : Jvm.MethodName) prog_2_method_3_code (9 : Nat) (Option.some Jvm.ClassFile.FieldType.int)), (Jvm.Cond.methodLink "PondStair$Choice" (68 : Nat) ({ cls := "PondStair$Hill", name := "weak", desc := "()I" } : Jvm.MethodName)), (Jvm.Cond.methodLink "PondStair$Choice" (71 : Nat) ({ cls := "PondStair$Odds", name := "look", desc := "(LPondStair$Hill;II)V" } : Jvm.MethodName)), (Jvm.Cond.methodLink "PondStair$Choice" (75 : Nat) ({ cls := "PondStair$Choice", name := "meanMended", desc := "(I)J" } : Jvm.MethodName))]
def tw_4_6 : List Cond := [(Jvm.Cond.privateMethod ({ cls := "PondStair$Choice", name := "meanMended", desc := "(I)J" } : Jvm.MethodName)), (Jvm.Cond.instanceMethod ({ cls := "PondStair$Choice", name := "meanMended", desc := "(I)J" } : Jvm.MethodName)), (Jvm.Cond.code ({ cls := "PondStair$Choice", name := "meanMended", desc := "(I)J" } : Jvm.MethodName) prog_2_method_2_code (2 : Nat) (Option.some Jvm.ClassFile.FieldType.long)), (Jvm.Cond.methodLink "PondStair$Choice" (53 : Nat) ({ cls := "PondStair$Odds", name := "weigh", desc := "(II)V" } : Jvm.MethodName)), (Jvm.Cond.methodLink "PondStair$Choice" (60 : Nat) ({ cls := "PondStair$Hill", name := "all", desc := "()I" } : Jvm.MethodName)), (Jvm.Cond.methodLink "PondStair$Choice" (64 : Nat) ({ cls := "PondStair$Odds", name := "meanOf", desc := "(I)J" } : Jvm.MethodName)), (Jvm.Cond.methodLink "PondStair$Choice" (78 : Nat) ({ cls := "PondStair$Hill", name := "daysToMend", desc := "(I)I" } : Jvm.MethodName)), (Jvm.Cond.instanceMethod ({ cls := "PondStair$Hill", name := "daysToMend", desc := "(I)I" } : Jvm.MethodName)), (Jvm.Cond.selects "PondStair$Hill" ({ cls := "PondStair$Hill", name := "daysToMend", desc := "(I)I" } : Jvm.MethodName) ({ cls := "PondStair$Hill", name := "daysToMend", desc := "(I)I" } : Jvm.MethodName)), (Jvm.Cond.code ({ cls := "PondStair$Hill", name := "daysToMend", desc := "(I)I" } : Jvm.MethodName) prog_3_method_21_code (4 : Nat) (Option.some Jvm.ClassFile.FieldType.int)), (Jvm.Cond.methodLink "PondStairLaw" (76 : Nat) ({ cls := "PondStair", name := "steps", desc := "(IIII)I" } : Jvm.MethodName)), (Jvm.Cond.instanceMethod ({ cls := "PondStair", name := "steps", desc := "(IIII)I" } : Jvm.MethodName)), (Jvm.Cond.selects "PondStair" ({ cls := "PondStair", name := "steps", desc := "(IIII)I" } : Jvm.MethodName) ({ cls := "PondStair", name := "steps", desc := "(IIII)I" } : Jvm.MethodName)), (Jvm.Cond.code ({ cls := "PondStair", name := "steps", desc := "(IIII)I" } : Jvm.MethodName) prog_1_method_16_code (5 : Nat) (Option.some Jvm.ClassFile.FieldType.int)), (Jvm.Cond.methodLink "PondStair" (212 : Nat) ({ cls := "PondStair$Choice", name := "stepByStep", desc := "(LPondStair$Hill;II)I" } : Jvm.MethodName)), (Jvm.Cond.instanceMethod ({ cls := "PondStair$Choice", name := "stepByStep", desc := "(LPondStair$Hill;II)I" } : Jvm.MethodName)), (Jvm.Cond.selects "PondStair$Choice" ({ cls := "PondStair$Choice", name := "stepByStep", desc := "(LPondStair$Hill;II)I" } : Jvm.MethodName) ({ cls := "PondStair$Choice", name := "stepByStep", desc := "(LPondStair$Hill;II)I" } : Jvm.MethodName)), (Jvm.Cond.code ({ cls := "PondStair$Choice", name := "stepByStep", desc := "(LPondStair$Hill;II)I" } : Jvm.MethodName) prog_2_method_5_code (8 : Nat) (Option.some Jvm.ClassFile.FieldType.int)), (Jvm.Cond.methodLink "PondStair$Choice" (84 : Nat) ({ cls := "PondStair$Choice", name := "nextStep", desc := "(LPondStair$Hill;III)I" } : Jvm.MethodName)), (Jvm.Cond.privateMethod ({ cls := "PondStair$Choice", name := "nextStep", desc := "(LPondStair$Hill;III)I" } : Jvm.MethodName)), (Jvm.Cond.instanceMethod ({ cls := "PondStair$Choice", name := "nextStep", desc := "(LPondStair$Hill;III)I" } : Jvm.MethodName)), (Jvm.Cond.code ({ cls := "PondStair$Choice", name := "nextStep", desc := "(LPondStair$Hill;III)I" } : Jvm.MethodName) prog_2_method_6_code (16 : Nat) (Option.some Jvm.ClassFile.FieldType.int)), (Jvm.Cond.methodLinkNest "PondStair$Choice" (88 : Nat) ({ cls := "PondStair", name := "bit", desc := "(I)I" } : Jvm.MethodName) "PondStair"), (Jvm.Cond.methodLinkNest "PondStair$Choice" (94 : Nat) ({ cls := "PondStair", name := "isIn", desc := "(II)Z" } : Jvm.MethodName) "PondStair")]
def tw_4_7 : List Cond := [(Jvm.Cond.methodLink "PondStair$Choice" (98 : Nat) ({ cls := "PondStair$Hill", name := "of", desc := "(II)I" } : Jvm.MethodName)), (Jvm.Cond.methodLink "PondStair$Choice" (102 : Nat) ({ cls := "PondStair$Choice", name := "isBetterBuy", desc := "(JJJJ)Z" } : Jvm.MethodName)), (Jvm.Cond.static ({ cls := "PondStair$Choice", name := "isBetterBuy", desc := "(JJJJ)Z" } : Jvm.MethodName)), (Jvm.Cond.code ({ cls := "PondStair$Choice", name := "isBetterBuy", desc := "(JJJJ)Z" } : Jvm.MethodName) prog_2_method_7_code (8 : Nat) (Option.some Jvm.ClassFile.FieldType.boolean)), (Jvm.Cond.methodLink "PondStair$Choice" (106 : Nat) ({ cls := "java/lang/Math", name := "max", desc := "(JJ)J" } : Jvm.MethodName)), (Jvm.Cond.static ({ cls := "java/lang/Math", name := "max", desc := "(JJ)J" } : Jvm.MethodName)), (Jvm.Cond.code ({ cls := "java/lang/Math", name := "max", desc := "(JJ)J" } : Jvm.MethodName) prog_15_method_66_code (4 : Nat) (Option.some Jvm.ClassFile.FieldType.long)), (Jvm.Cond.methodLink "PondStairLaw" (80 : Nat) ({ cls := "PondStair", name := "mended", desc := "(III)J" } : Jvm.MethodName)), (Jvm.Cond.instanceMethod ({ cls := "PondStair", name := "mended", desc := "(III)J" } : Jvm.MethodName)), (Jvm.Cond.selects "PondStair" ({ cls := "PondStair", name := "mended", desc := "(III)J" } : Jvm.MethodName) ({ cls := "PondStair", name := "mended", desc := "(III)J" } : Jvm.MethodName)), (Jvm.Cond.code ({ cls := "PondStair", name := "mended", desc := "(III)J" } : Jvm.MethodName) prog_1_method_17_code (4 : Nat) (Option.some Jvm.ClassFile.FieldType.long)), (Jvm.Cond.methodLink "PondStair" (218 : Nat) ({ cls := "PondStair$Odds", name := "weigh", desc := "(II)V" } : Jvm.MethodName)), (Jvm.Cond.methodLink "PondStairLaw" (84 : Nat) ({ cls := "PondStair", name := "one", desc := "(IIZ)J" } : Jvm.MethodName)), (Jvm.Cond.instanceMethod ({ cls := "PondStair", name := "one", desc := "(IIZ)J" } : Jvm.MethodName)), (Jvm.Cond.selects "PondStair" ({ cls := "PondStair", name := "one", desc := "(IIZ)J" } : Jvm.MethodName) ({ cls := "PondStair", name := "one", desc := "(IIZ)J" } : Jvm.MethodName)), (Jvm.Cond.code ({ cls := "PondStair", name := "one", desc := "(IIZ)J" } : Jvm.MethodName) prog_1_method_18_code (4 : Nat) (Option.some Jvm.ClassFile.FieldType.long)), (Jvm.Cond.methodLink "PondStair" (225 : Nat) ({ cls := "PondStair$Choice", name := "holdAll", desc := "(LPondStair$Hill;)V" } : Jvm.MethodName)), (Jvm.Cond.instanceMethod ({ cls := "PondStair$Choice", name := "holdAll", desc := "(LPondStair$Hill;)V" } : Jvm.MethodName)), (Jvm.Cond.selects "PondStair$Choice" ({ cls := "PondStair$Choice", name := "holdAll", desc := "(LPondStair$Hill;)V" } : Jvm.MethodName) ({ cls := "PondStair$Choice", name := "holdAll", desc := "(LPondStair$Hill;)V" } : Jvm.MethodName)), (Jvm.Cond.code ({ cls := "PondStair$Choice", name := "holdAll", desc := "(LPondStair$Hill;)V" } : Jvm.MethodName) prog_2_method_8_code (5 : Nat) (Option.none : Option Jvm.ClassFile.FieldType)), (Jvm.Cond.methodLink "PondStair$Choice" (112 : Nat) ({ cls := "PondStair$Odds", name := "wholeMean", desc := "(LPondStair$Hill;I)J" } : Jvm.MethodName)), (Jvm.Cond.instanceMethod ({ cls := "PondStair$Odds", name := "wholeMean", desc := "(LPondStair$Hill;I)J" } : Jvm.MethodName)), (Jvm.Cond.selects "PondStair$Odds" ({ cls := "PondStair$Odds", name := "wholeMean", desc := "(LPondStair$Hill;I)J" } : Jvm.MethodName) ({ cls := "PondStair$Odds", name := "wholeMean", desc := "(LPondStair$Hill;I)J" } : Jvm.MethodName)), (Jvm.Cond.code ({ cls := "PondStair$Odds", name := "wholeMean", desc := "(LPondStair$Hill;I)J" } : Jvm.MethodName) prog_4_method_7_code (3 : Nat) (Option.some Jvm.ClassFile.FieldType.long))]
def tw_4_8 : List Cond := [(Jvm.Cond.methodLink "PondStair$Odds" (88 : Nat) ({ cls := "PondStair$Hill", name := "weak", desc := "()I" } : Jvm.MethodName)), (Jvm.Cond.methodLink "PondStair$Odds" (91 : Nat) ({ cls := "PondStair$Odds", name := "look", desc := "(LPondStair$Hill;II)V" } : Jvm.MethodName)), (Jvm.Cond.methodLink "PondStair$Odds" (95 : Nat) ({ cls := "PondStair$Odds", name := "meanOf", desc := "(I)J" } : Jvm.MethodName)), (Jvm.Cond.methodLink "PondStairLaw" (88 : Nat) ({ cls := "PondStair", name := "low", desc := "(III)I" } : Jvm.MethodName)), (Jvm.Cond.instanceMethod ({ cls := "PondStair", name := "low", desc := "(III)I" } : Jvm.MethodName)), (Jvm.Cond.selects "PondStair" ({ cls := "PondStair", name := "low", desc := "(III)I" } : Jvm.MethodName) ({ cls := "PondStair", name := "low", desc := "(III)I" } : Jvm.MethodName)), (Jvm.Cond.code ({ cls := "PondStair", name := "low", desc := "(III)I" } : Jvm.MethodName) prog_1_method_19_code (4 : Nat) (Option.some Jvm.ClassFile.FieldType.int)), (Jvm.Cond.methodLink "PondStair" (236 : Nat) ({ cls := "PondStair", name := "hasPond", desc := "(III)Z" } : Jvm.MethodName)), (Jvm.Cond.privateMethod ({ cls := "PondStair", name := "hasPond", desc := "(III)Z" } : Jvm.MethodName)), (Jvm.Cond.instanceMethod ({ cls := "PondStair", name := "hasPond", desc := "(III)Z" } : Jvm.MethodName)), (Jvm.Cond.code ({ cls := "PondStair", name := "hasPond", desc := "(III)Z" } : Jvm.MethodName) prog_1_method_47_code (4 : Nat) (Option.some Jvm.ClassFile.FieldType.boolean)), (Jvm.Cond.methodLink "PondStair" (240 : Nat) ({ cls := "PondStair$Choice", name := "lowerBy", desc := "(LPondStair$Hill;I)I" } : Jvm.MethodName)), (Jvm.Cond.instanceMethod ({ cls := "PondStair$Choice", name := "lowerBy", desc := "(LPondStair$Hill;I)I" } : Jvm.MethodName)), (Jvm.Cond.selects "PondStair$Choice" ({ cls := "PondStair$Choice", name := "lowerBy", desc := "(LPondStair$Hill;I)I" } : Jvm.MethodName) ({ cls := "PondStair$Choice", name := "lowerBy", desc := "(LPondStair$Hill;I)I" } : Jvm.MethodName)), (Jvm.Cond.code ({ cls := "PondStair$Choice", name := "lowerBy", desc := "(LPondStair$Hill;I)I" } : Jvm.MethodName) prog_2_method_9_code (8 : Nat) (Option.some Jvm.ClassFile.FieldType.int)), (Jvm.Cond.methodLink "PondStair$Choice" (116 : Nat) ({ cls := "PondStair$Hill", name := "copy", desc := "(LPondStair$Hill;)V" } : Jvm.MethodName)), (Jvm.Cond.methodLink "PondStair$Choice" (120 : Nat) ({ cls := "PondStair$Hill", name := "put", desc := "(III)V" } : Jvm.MethodName)), (Jvm.Cond.methodLink "PondStair$Choice" (124 : Nat) ({ cls := "PondStair$Odds", name := "partsOf", desc := "(I)J" } : Jvm.MethodName)), (Jvm.Cond.methodLink "PondStairLaw" (92 : Nat) ({ cls := "PondStair", name := "helps", desc := "(IIII)J" } : Jvm.MethodName)), (Jvm.Cond.instanceMethod ({ cls := "PondStair", name := "helps", desc := "(IIII)J" } : Jvm.MethodName)), (Jvm.Cond.selects "PondStair" ({ cls := "PondStair", name := "helps", desc := "(IIII)J" } : Jvm.MethodName) ({ cls := "PondStair", name := "helps", desc := "(IIII)J" } : Jvm.MethodName)), (Jvm.Cond.code ({ cls := "PondStair", name := "helps", desc := "(IIII)J" } : Jvm.MethodName) prog_1_method_20_code (8 : Nat) (Option.some Jvm.ClassFile.FieldType.long)), (Jvm.Cond.methodLink "PondStairLaw" (97 : Nat) ({ cls := "PondStair", name := "alone", desc := "(III)J" } : Jvm.MethodName)), (Jvm.Cond.instanceMethod ({ cls := "PondStair", name := "alone", desc := "(III)J" } : Jvm.MethodName))]
def tw_4_9 : List Cond := [(Jvm.Cond.selects "PondStair" ({ cls := "PondStair", name := "alone", desc := "(III)J" } : Jvm.MethodName) ({ cls := "PondStair", name := "alone", desc := "(III)J" } : Jvm.MethodName)), (Jvm.Cond.code ({ cls := "PondStair", name := "alone", desc := "(III)J" } : Jvm.MethodName) prog_1_method_21_code (5 : Nat) (Option.some Jvm.ClassFile.FieldType.long)), (Jvm.Cond.methodLink "PondStairLaw" (101 : Nat) ({ cls := "PondStair", name := "hear", desc := "(IIII)J" } : Jvm.MethodName)), (Jvm.Cond.instanceMethod ({ cls := "PondStair", name := "hear", desc := "(IIII)J" } : Jvm.MethodName)), (Jvm.Cond.selects "PondStair" ({ cls := "PondStair", name := "hear", desc := "(IIII)J" } : Jvm.MethodName) ({ cls := "PondStair", name := "hear", desc := "(IIII)J" } : Jvm.MethodName)), (Jvm.Cond.code ({ cls := "PondStair", name := "hear", desc := "(IIII)J" } : Jvm.MethodName) prog_1_method_22_code (7 : Nat) (Option.some Jvm.ClassFile.FieldType.long)), (Jvm.Cond.constantLong "PondStair" (246 : Nat) (-9223372036854775808 : Int64)), (Jvm.Cond.methodLink "PondStair" (248 : Nat) ({ cls := "PondStair$Odds", name := "wholeMean", desc := "(LPondStair$Hill;I)J" } : Jvm.MethodName)), (Jvm.Cond.methodLink "PondStair" (252 : Nat) ({ cls := "PondStair$Hill", name := "copy", desc := "(LPondStair$Hill;)V" } : Jvm.MethodName)), (Jvm.Cond.methodLink "PondStair" (255 : Nat) ({ cls := "PondStair$Hill", name := "put", desc := "(III)V" } : Jvm.MethodName)), (Jvm.Cond.methodLink "PondStairLaw" (105 : Nat) ({ cls := "PondStair", name := "may", desc := "(IIIZ)J" } : Jvm.MethodName)), (Jvm.Cond.instanceMethod ({ cls := "PondStair", name := "may", desc := "(IIIZ)J" } : Jvm.MethodName)), (Jvm.Cond.selects "PondStair" ({ cls := "PondStair", name := "may", desc := "(IIIZ)J" } : Jvm.MethodName) ({ cls := "PondStair", name := "may", desc := "(IIIZ)J" } : Jvm.MethodName)), (Jvm.Cond.code ({ cls := "PondStair", name := "may", desc := "(IIIZ)J" } : Jvm.MethodName) prog_1_method_23_code (5 : Nat) (Option.some Jvm.ClassFile.FieldType.long)), (Jvm.Cond.methodLink "PondStair" (259 : Nat) ({ cls := "PondStair", name := "canFill", desc := "(III)Z" } : Jvm.MethodName)), (Jvm.Cond.privateMethod ({ cls := "PondStair", name := "canFill", desc := "(III)Z" } : Jvm.MethodName)), (Jvm.Cond.instanceMethod ({ cls := "PondStair", name := "canFill", desc := "(III)Z" } : Jvm.MethodName)), (Jvm.Cond.code ({ cls := "PondStair", name := "canFill", desc := "(III)Z" } : Jvm.MethodName) prog_1_method_49_code (4 : Nat) (Option.some Jvm.ClassFile.FieldType.boolean)), (Jvm.Cond.methodLink "PondStair" (262 : Nat) ({ cls := "PondStair$Choice", name := "lookAtFilled", desc := "(LPondStair$Hill;I)V" } : Jvm.MethodName)), (Jvm.Cond.instanceMethod ({ cls := "PondStair$Choice", name := "lookAtFilled", desc := "(LPondStair$Hill;I)V" } : Jvm.MethodName)), (Jvm.Cond.selects "PondStair$Choice" ({ cls := "PondStair$Choice", name := "lookAtFilled", desc := "(LPondStair$Hill;I)V" } : Jvm.MethodName) ({ cls := "PondStair$Choice", name := "lookAtFilled", desc := "(LPondStair$Hill;I)V" } : Jvm.MethodName)), (Jvm.Cond.code ({ cls := "PondStair$Choice", name := "lookAtFilled", desc := "(LPondStair$Hill;I)V" } : Jvm.MethodName) prog_2_method_14_code (5 : Nat) (Option.none : Option Jvm.ClassFile.FieldType)), (Jvm.Cond.methodLink "PondStair$Choice" (153 : Nat) ({ cls := "PondStair$Hill", name := "addRain", desc := "(II)Z" } : Jvm.MethodName)), (Jvm.Cond.methodLink "PondStair" (266 : Nat) ({ cls := "PondStair$Choice", name := "downwards", desc := "()J" } : Jvm.MethodName))]
set_option maxRecDepth 100000 in
theorem tp_4 : tables_1_4 = tw_4_0 ++ (tw_4_1 ++ (tw_4_2 ++ (tw_4_3 ++ (tw_4_4 ++ (tw_4_5 ++ (tw_4_6 ++ (tw_4_7 ++ (tw_4_8 ++ (tw_4_9))))))))) := rfl
theorem gt_m4 {w : Cond} (hm : w ∈ tables_1_4) (hg : goodWord w = true) : w ∈ gt := by
  refine List.mem_filter.mpr ⟨?_, hg⟩
  unfold lw_tbl tables_1
  simp only [List.mem_append]
  simp only [hm, true_or, or_true]
theorem gt_4_0 {w : Cond} {i : Nat} (h : tw_4_0[i]? = some w) (hg : goodWord w = true) : w ∈ gt := by
  have hm := List.mem_of_getElem? h
  refine gt_m4 ?_ hg
  rw [tp_4]
  simp only [List.mem_append]
  simp only [hm, true_or, or_true]
theorem gt_4_1 {w : Cond} {i : Nat} (h : tw_4_1[i]? = some w) (hg : goodWord w = true) : w ∈ gt := by
  have hm := List.mem_of_getElem? h
  refine gt_m4 ?_ hg
  rw [tp_4]
  simp only [List.mem_append]
  simp only [hm, true_or, or_true]
theorem gt_4_2 {w : Cond} {i : Nat} (h : tw_4_2[i]? = some w) (hg : goodWord w = true) : w ∈ gt := by
  have hm := List.mem_of_getElem? h
  refine gt_m4 ?_ hg
  rw [tp_4]
  simp only [List.mem_append]
  simp only [hm, true_or, or_true]
theorem gt_4_3 {w : Cond} {i : Nat} (h : tw_4_3[i]? = some w) (hg : goodWord w = true) : w ∈ gt := by
  have hm := List.mem_of_getElem? h
  refine gt_m4 ?_ hg
  rw [tp_4]
  simp only [List.mem_append]
  simp only [hm, true_or, or_true]
theorem gt_4_4 {w : Cond} {i : Nat} (h : tw_4_4[i]? = some w) (hg : goodWord w = true) : w ∈ gt := by
  have hm := List.mem_of_getElem? h
  refine gt_m4 ?_ hg
  rw [tp_4]
  simp only [List.mem_append]
  simp only [hm, true_or, or_true]
theorem gt_4_5 {w : Cond} {i : Nat} (h : tw_4_5[i]? = some w) (hg : goodWord w = true) : w ∈ gt := by
  have hm := List.mem_of_getElem? h
  refine gt_m4 ?_ hg
  rw [tp_4]
  simp only [List.mem_append]
  simp only [hm, true_or, or_true]
theorem gt_4_6 {w : Cond} {i : Nat} (h : tw_4_6[i]? = some w) (hg : goodWord w = true) : w ∈ gt := by
  have hm := List.mem_of_getElem? h
  refine gt_m4 ?_ hg
  rw [tp_4]
  simp only [List.mem_append]
  simp only [hm, true_or, or_true]
theorem gt_4_7 {w : Cond} {i : Nat} (h : tw_4_7[i]? = some w) (hg : goodWord w = true) : w ∈ gt := by
  have hm := List.mem_of_getElem? h
  refine gt_m4 ?_ hg
  rw [tp_4]
  simp only [List.mem_append]
  simp only [hm, true_or, or_true]
theorem gt_4_8 {w : Cond} {i : Nat} (h : tw_4_8[i]? = some w) (hg : goodWord w = true) : w ∈ gt := by
  have hm := List.mem_of_getElem? h
  refine gt_m4 ?_ hg
  rw [tp_4]
  simp only [List.mem_append]
  simp only [hm, true_or, or_true]
theorem gt_4_9 {w : Cond} {i : Nat} (h : tw_4_9[i]? = some w) (hg : goodWord w = true) : w ∈ gt := by
  have hm := List.mem_of_getElem? h
  refine gt_m4 ?_ hg
  rw [tp_4]
  simp only [List.mem_append]
  simp only [hm, true_or, or_true]
theorem nt_m4 {w : Cond} (hm : w ∈ tables_1_4) (hg : nw w = true) : w ∈ nt := by
  refine List.mem_filter.mpr ⟨?_, hg⟩
  unfold lw_tbl tables_1
  simp only [List.mem_append]
  simp only [hm, true_or, or_true]
theorem nt_4_0 {w : Cond} {i : Nat} (h : tw_4_0[i]? = some w) (hg : nw w = true) : w ∈ nt := by
  have hm := List.mem_of_getElem? h
  refine nt_m4 ?_ hg
  rw [tp_4]
  simp only [List.mem_append]
  simp only [hm, true_or, or_true]
theorem nt_4_1 {w : Cond} {i : Nat} (h : tw_4_1[i]? = some w) (hg : nw w = true) : w ∈ nt := by
  have hm := List.mem_of_getElem? h
  refine nt_m4 ?_ hg
  rw [tp_4]
  simp only [List.mem_append]
  simp only [hm, true_or, or_true]
theorem nt_4_2 {w : Cond} {i : Nat} (h : tw_4_2[i]? = some w) (hg : nw w = true) : w ∈ nt := by
  have hm := List.mem_of_getElem? h
  refine nt_m4 ?_ hg
  rw [tp_4]
  simp only [List.mem_append]
  simp only [hm, true_or, or_true]
theorem nt_4_6 {w : Cond} {i : Nat} (h : tw_4_6[i]? = some w) (hg : nw w = true) : w ∈ nt := by
  have hm := List.mem_of_getElem? h
  refine nt_m4 ?_ hg
  rw [tp_4]
  simp only [List.mem_append]
  simp only [hm, true_or, or_true]
def tw_5_0 : List Cond := [(Jvm.Cond.instanceMethod ({ cls := "PondStair$Choice", name := "downwards", desc := "()J" } : Jvm.MethodName)), (Jvm.Cond.selects "PondStair$Choice" ({ cls := "PondStair$Choice", name := "downwards", desc := "()J" } : Jvm.MethodName) ({ cls := "PondStair$Choice", name := "downwards", desc := "()J" } : Jvm.MethodName)), (Jvm.Cond.code ({ cls := "PondStair$Choice", name := "downwards", desc := "()J" } : Jvm.MethodName) prog_2_method_17_code (2 : Nat) (Option.some Jvm.ClassFile.FieldType.long)), (Jvm.Cond.methodLink "PondStair$Choice" (140 : Nat) ({ cls := "PondStair$Choice", name := "mayOfTried", desc := "()J" } : Jvm.MethodName)), (Jvm.Cond.privateMethod ({ cls := "PondStair$Choice", name := "mayOfTried", desc := "()J" } : Jvm.MethodName)), (Jvm.Cond.instanceMethod ({ cls := "PondStair$Choice", name := "mayOfTried", desc := "()J" } : Jvm.MethodName)), (Jvm.Cond.code ({ cls := "PondStair$Choice", name := "mayOfTried", desc := "()J" } : Jvm.MethodName) prog_2_method_16_code (5 : Nat) (Option.some Jvm.ClassFile.FieldType.long)), (Jvm.Cond.methodLink "PondStair" (270 : Nat) ({ cls := "PondStair$Choice", name := "findOrder", desc := "()V" } : Jvm.MethodName)), (Jvm.Cond.instanceMethod ({ cls := "PondStair$Choice", name := "findOrder", desc := "()V" } : Jvm.MethodName)), (Jvm.Cond.selects "PondStair$Choice" ({ cls := "PondStair$Choice", name := "findOrder", desc := "()V" } : Jvm.MethodName) ({ cls := "PondStair$Choice", name := "findOrder", desc := "()V" } : Jvm.MethodName)), (Jvm.Cond.code ({ cls := "PondStair$Choice", name := "findOrder", desc := "()V" } : Jvm.MethodName) prog_2_method_13_code (6 : Nat) (Option.none : Option Jvm.ClassFile.FieldType)), (Jvm.Cond.methodLink "PondStair$Choice" (137 : Nat) ({ cls := "PondStair$Choice", name := "takeOrder", desc := "(I)Z" } : Jvm.MethodName)), (Jvm.Cond.privateMethod ({ cls := "PondStair$Choice", name := "takeOrder", desc := "(I)Z" } : Jvm.MethodName)), (Jvm.Cond.instanceMethod ({ cls := "PondStair$Choice", name := "takeOrder", desc := "(I)Z" } : Jvm.MethodName)), (Jvm.Cond.code ({ cls := "PondStair$Choice", name := "takeOrder", desc := "(I)Z" } : Jvm.MethodName) prog_2_method_15_code (4 : Nat) (Option.some Jvm.ClassFile.FieldType.boolean)), (Jvm.Cond.methodLink "PondStair$Choice" (144 : Nat) ({ cls := "java/lang/System", name := "arraycopy", desc := "(Ljava/lang/Object;ILjava/lang/Object;II)V" } : Jvm.MethodName)), (Jvm.Cond.methodLink "PondStairLaw" (110 : Nat) ({ cls := "PondStair", name := "order", desc := "(IIII)I" } : Jvm.MethodName)), (Jvm.Cond.instanceMethod ({ cls := "PondStair", name := "order", desc := "(IIII)I" } : Jvm.MethodName)), (Jvm.Cond.selects "PondStair" ({ cls := "PondStair", name := "order", desc := "(IIII)I" } : Jvm.MethodName) ({ cls := "PondStair", name := "order", desc := "(IIII)I" } : Jvm.MethodName)), (Jvm.Cond.code ({ cls := "PondStair", name := "order", desc := "(IIII)I" } : Jvm.MethodName) prog_1_method_24_code (5 : Nat) (Option.some Jvm.ClassFile.FieldType.int)), (Jvm.Cond.methodLink "PondStair" (273 : Nat) ({ cls := "PondStair$Choice", name := "filledAt", desc := "(I)I" } : Jvm.MethodName)), (Jvm.Cond.instanceMethod ({ cls := "PondStair$Choice", name := "filledAt", desc := "(I)I" } : Jvm.MethodName)), (Jvm.Cond.selects "PondStair$Choice" ({ cls := "PondStair$Choice", name := "filledAt", desc := "(I)I" } : Jvm.MethodName) ({ cls := "PondStair$Choice", name := "filledAt", desc := "(I)I" } : Jvm.MethodName)), (Jvm.Cond.code ({ cls := "PondStair$Choice", name := "filledAt", desc := "(I)I" } : Jvm.MethodName) prog_2_method_18_code (2 : Nat) (Option.some Jvm.ClassFile.FieldType.int))]
def tw_5_1 : List Cond := [(Jvm.Cond.methodLink "PondStairLaw" (114 : Nat) ({ cls := "PondStair", name := "think", desc := "(IIIZ)I" } : Jvm.MethodName)), (Jvm.Cond.instanceMethod ({ cls := "PondStair", name := "think", desc := "(IIIZ)I" } : Jvm.MethodName)), (Jvm.Cond.selects "PondStair" ({ cls := "PondStair", name := "think", desc := "(IIIZ)I" } : Jvm.MethodName) ({ cls := "PondStair", name := "think", desc := "(IIIZ)I" } : Jvm.MethodName)), (Jvm.Cond.code ({ cls := "PondStair", name := "think", desc := "(IIIZ)I" } : Jvm.MethodName) prog_1_method_25_code (7 : Nat) (Option.some Jvm.ClassFile.FieldType.int)), (Jvm.Cond.methodLink "PondStair" (276 : Nat) ({ cls := "PondStair$Hill", name := "seenAndGoes", desc := "(I)I" } : Jvm.MethodName)), (Jvm.Cond.instanceMethod ({ cls := "PondStair$Hill", name := "seenAndGoes", desc := "(I)I" } : Jvm.MethodName)), (Jvm.Cond.selects "PondStair$Hill" ({ cls := "PondStair$Hill", name := "seenAndGoes", desc := "(I)I" } : Jvm.MethodName) ({ cls := "PondStair$Hill", name := "seenAndGoes", desc := "(I)I" } : Jvm.MethodName)), (Jvm.Cond.code ({ cls := "PondStair$Hill", name := "seenAndGoes", desc := "(I)I" } : Jvm.MethodName) prog_3_method_26_code (2 : Nat) (Option.some Jvm.ClassFile.FieldType.int)), (Jvm.Cond.methodLink "PondStair" (279 : Nat) ({ cls := "PondStair$Hill", name := "seen", desc := "(I)I" } : Jvm.MethodName)), (Jvm.Cond.instanceMethod ({ cls := "PondStair$Hill", name := "seen", desc := "(I)I" } : Jvm.MethodName)), (Jvm.Cond.selects "PondStair$Hill" ({ cls := "PondStair$Hill", name := "seen", desc := "(I)I" } : Jvm.MethodName) ({ cls := "PondStair$Hill", name := "seen", desc := "(I)I" } : Jvm.MethodName)), (Jvm.Cond.code ({ cls := "PondStair$Hill", name := "seen", desc := "(I)I" } : Jvm.MethodName) prog_3_method_27_code (2 : Nat) (Option.some Jvm.ClassFile.FieldType.int)), (Jvm.Cond.methodLink "PondStair$Hill" (82 : Nat) ({ cls := "PondStair$Hill", name := "seenAndGoes", desc := "(I)I" } : Jvm.MethodName)), (Jvm.Cond.methodLink "PondStair" (282 : Nat) ({ cls := "PondStair", name := "inLeastTerms", desc := "(JJZ)J" } : Jvm.MethodName)), (Jvm.Cond.static ({ cls := "PondStair", name := "inLeastTerms", desc := "(JJZ)J" } : Jvm.MethodName)), (Jvm.Cond.code ({ cls := "PondStair", name := "inLeastTerms", desc := "(JJZ)J" } : Jvm.MethodName) prog_1_method_53_code (7 : Nat) (Option.some Jvm.ClassFile.FieldType.long)), (Jvm.Cond.methodLink "PondStair" (348 : Nat) ({ cls := "PondStair", name := "commonDivisor", desc := "(JJ)J" } : Jvm.MethodName)), (Jvm.Cond.static ({ cls := "PondStair", name := "commonDivisor", desc := "(JJ)J" } : Jvm.MethodName)), (Jvm.Cond.code ({ cls := "PondStair", name := "commonDivisor", desc := "(JJ)J" } : Jvm.MethodName) prog_1_method_54_code (11 : Nat) (Option.some Jvm.ClassFile.FieldType.long)), (Jvm.Cond.methodLink "PondStair" (352 : Nat) ({ cls := "java/lang/Math", name := "max", desc := "(JJ)J" } : Jvm.MethodName)), (Jvm.Cond.methodLink "PondStairLaw" (119 : Nat) ({ cls := "PondStair", name := "now", desc := "(II)I" } : Jvm.MethodName)), (Jvm.Cond.instanceMethod ({ cls := "PondStair", name := "now", desc := "(II)I" } : Jvm.MethodName)), (Jvm.Cond.selects "PondStair" ({ cls := "PondStair", name := "now", desc := "(II)I" } : Jvm.MethodName) ({ cls := "PondStair", name := "now", desc := "(II)I" } : Jvm.MethodName)), (Jvm.Cond.code ({ cls := "PondStair", name := "now", desc := "(II)I" } : Jvm.MethodName) prog_1_method_26_code (3 : Nat) (Option.some Jvm.ClassFile.FieldType.int))]
def tw_5_2 : List Cond := [(Jvm.Cond.methodLink "PondStair" (286 : Nat) ({ cls := "PondStair$Choice", name := "mostUrgent", desc := "(LPondStair$Hill;)I" } : Jvm.MethodName)), (Jvm.Cond.instanceMethod ({ cls := "PondStair$Choice", name := "mostUrgent", desc := "(LPondStair$Hill;)I" } : Jvm.MethodName)), (Jvm.Cond.selects "PondStair$Choice" ({ cls := "PondStair$Choice", name := "mostUrgent", desc := "(LPondStair$Hill;)I" } : Jvm.MethodName) ({ cls := "PondStair$Choice", name := "mostUrgent", desc := "(LPondStair$Hill;)I" } : Jvm.MethodName)), (Jvm.Cond.code ({ cls := "PondStair$Choice", name := "mostUrgent", desc := "(LPondStair$Hill;)I" } : Jvm.MethodName) prog_2_method_10_code (8 : Nat) (Option.some Jvm.ClassFile.FieldType.int)), (Jvm.Cond.methodLink "PondStair$Choice" (127 : Nat) ({ cls := "PondStair$Hill", name := "seenAndGoes", desc := "(I)I" } : Jvm.MethodName)), (Jvm.Cond.methodLink "PondStair$Choice" (130 : Nat) ({ cls := "PondStair$Hill", name := "seen", desc := "(I)I" } : Jvm.MethodName)), (Jvm.Cond.methodLink "PondStairLaw" (123 : Nat) ({ cls := "PondStair", name := "years", desc := "(IIIII)J" } : Jvm.MethodName)), (Jvm.Cond.instanceMethod ({ cls := "PondStair", name := "years", desc := "(IIIII)J" } : Jvm.MethodName)), (Jvm.Cond.selects "PondStair" ({ cls := "PondStair", name := "years", desc := "(IIIII)J" } : Jvm.MethodName) ({ cls := "PondStair", name := "years", desc := "(IIIII)J" } : Jvm.MethodName)), (Jvm.Cond.code ({ cls := "PondStair", name := "years", desc := "(IIIII)J" } : Jvm.MethodName) prog_1_method_27_code (6 : Nat) (Option.some Jvm.ClassFile.FieldType.long)), (Jvm.Cond.classLink "PondStair" (290 : Nat) "PondStair$Years"), (Jvm.Cond.instantiable "PondStair$Years" (1 : Nat)), (Jvm.Cond.methodLink "PondStair" (292 : Nat) ({ cls := "PondStair$Years", name := "<init>", desc := "(I)V" } : Jvm.MethodName)), (Jvm.Cond.instanceMethod ({ cls := "PondStair$Years", name := "<init>", desc := "(I)V" } : Jvm.MethodName)), (Jvm.Cond.code ({ cls := "PondStair$Years", name := "<init>", desc := "(I)V" } : Jvm.MethodName) prog_11_method_1_code (2 : Nat) (Option.none : Option Jvm.ClassFile.FieldType)), (Jvm.Cond.methodLink "PondStair$Years" (3 : Nat) ({ cls := "java/lang/Object", name := "<init>", desc := "()V" } : Jvm.MethodName)), (Jvm.Cond.fieldLink "PondStair$Years" (9 : Nat) "PondStair$Years" "x" "I"), (Jvm.Cond.lays "PondStair$Years" "PondStair$Years" "x" "I"), (Jvm.Cond.soleField "PondStair$Years" "x"), (Jvm.Cond.superclass "PondStair$Years" "java/lang/Object"), (Jvm.Cond.methodLink "PondStair" (294 : Nat) ({ cls := "PondStair$Years", name := "tally", desc := "(LPondStair$Hill;LPondStair$Storm;II)J" } : Jvm.MethodName)), (Jvm.Cond.instanceMethod ({ cls := "PondStair$Years", name := "tally", desc := "(LPondStair$Hill;LPondStair$Storm;II)J" } : Jvm.MethodName)), (Jvm.Cond.selects "PondStair$Years" ({ cls := "PondStair$Years", name := "tally", desc := "(LPondStair$Hill;LPondStair$Storm;II)J" } : Jvm.MethodName) ({ cls := "PondStair$Years", name := "tally", desc := "(LPondStair$Hill;LPondStair$Storm;II)J" } : Jvm.MethodName)), (Jvm.Cond.code ({ cls := "PondStair$Years", name := "tally", desc := "(LPondStair$Hill;LPondStair$Storm;II)J" } : Jvm.MethodName) prog_11_method_3_code (9 : Nat) (Option.some Jvm.ClassFile.FieldType.long))]
def tw_5_3 : List Cond := [(Jvm.Cond.methodLink "PondStair$Years" (16 : Nat) ({ cls := "PondStair$Years", name := "drawRain", desc := "(LPondStair$Hill;)I" } : Jvm.MethodName)), (Jvm.Cond.privateMethod ({ cls := "PondStair$Years", name := "drawRain", desc := "(LPondStair$Hill;)I" } : Jvm.MethodName)), (Jvm.Cond.instanceMethod ({ cls := "PondStair$Years", name := "drawRain", desc := "(LPondStair$Hill;)I" } : Jvm.MethodName)), (Jvm.Cond.code ({ cls := "PondStair$Years", name := "drawRain", desc := "(LPondStair$Hill;)I" } : Jvm.MethodName) prog_11_method_4_code (5 : Nat) (Option.some Jvm.ClassFile.FieldType.int)), (Jvm.Cond.methodLink "PondStair$Years" (41 : Nat) ({ cls := "PondStair$Years", name := "draw", desc := "(I)I" } : Jvm.MethodName)), (Jvm.Cond.privateMethod ({ cls := "PondStair$Years", name := "draw", desc := "(I)I" } : Jvm.MethodName)), (Jvm.Cond.instanceMethod ({ cls := "PondStair$Years", name := "draw", desc := "(I)I" } : Jvm.MethodName)), (Jvm.Cond.code ({ cls := "PondStair$Years", name := "draw", desc := "(I)I" } : Jvm.MethodName) prog_11_method_2_code (2 : Nat) (Option.some Jvm.ClassFile.FieldType.int)), (Jvm.Cond.constant "PondStair$Years" (15 : Nat) (1103515245 : Int32)), (Jvm.Cond.methodLink "PondStair$Years" (47 : Nat) ({ cls := "PondStair$Hill", name := "chanceOf", desc := "(I)I" } : Jvm.MethodName)), (Jvm.Cond.methodLink "PondStair$Years" (20 : Nat) ({ cls := "PondStair$Hill", name := "stepsOf", desc := "(I)I" } : Jvm.MethodName)), (Jvm.Cond.methodLink "PondStair$Years" (26 : Nat) ({ cls := "PondStair$Years", name := "drawBanks", desc := "(LPondStair$Hill;)I" } : Jvm.MethodName)), (Jvm.Cond.privateMethod ({ cls := "PondStair$Years", name := "drawBanks", desc := "(LPondStair$Hill;)I" } : Jvm.MethodName)), (Jvm.Cond.instanceMethod ({ cls := "PondStair$Years", name := "drawBanks", desc := "(LPondStair$Hill;)I" } : Jvm.MethodName)), (Jvm.Cond.code ({ cls := "PondStair$Years", name := "drawBanks", desc := "(LPondStair$Hill;)I" } : Jvm.MethodName) prog_11_method_5_code (4 : Nat) (Option.some Jvm.ClassFile.FieldType.int)), (Jvm.Cond.methodLink "PondStair$Years" (53 : Nat) ({ cls := "PondStair$Hill", name := "of", desc := "(II)I" } : Jvm.MethodName)), (Jvm.Cond.methodLinkNest "PondStair$Years" (57 : Nat) ({ cls := "PondStair", name := "bit", desc := "(I)I" } : Jvm.MethodName) "PondStair"), (Jvm.Cond.methodLink "PondStair$Years" (29 : Nat) ({ cls := "PondStair$Storm", name := "run", desc := "(LPondStair$Hill;III)V" } : Jvm.MethodName)), (Jvm.Cond.methodLink "PondStairLaw" (128 : Nat) ({ cls := "PondStair", name := "spared", desc := "(III)I" } : Jvm.MethodName)), (Jvm.Cond.instanceMethod ({ cls := "PondStair", name := "spared", desc := "(III)I" } : Jvm.MethodName)), (Jvm.Cond.selects "PondStair" ({ cls := "PondStair", name := "spared", desc := "(III)I" } : Jvm.MethodName) ({ cls := "PondStair", name := "spared", desc := "(III)I" } : Jvm.MethodName)), (Jvm.Cond.code ({ cls := "PondStair", name := "spared", desc := "(III)I" } : Jvm.MethodName) prog_1_method_28_code (6 : Nat) (Option.some Jvm.ClassFile.FieldType.int)), (Jvm.Cond.methodLink "PondStairLaw" (132 : Nat) ({ cls := "PondStair", name := "deep", desc := "(II)I" } : Jvm.MethodName)), (Jvm.Cond.instanceMethod ({ cls := "PondStair", name := "deep", desc := "(II)I" } : Jvm.MethodName))]
def tw_5_4 : List Cond := [(Jvm.Cond.selects "PondStair" ({ cls := "PondStair", name := "deep", desc := "(II)I" } : Jvm.MethodName) ({ cls := "PondStair", name := "deep", desc := "(II)I" } : Jvm.MethodName)), (Jvm.Cond.code ({ cls := "PondStair", name := "deep", desc := "(II)I" } : Jvm.MethodName) prog_1_method_29_code (3 : Nat) (Option.some Jvm.ClassFile.FieldType.int)), (Jvm.Cond.methodLink "PondStair" (298 : Nat) ({ cls := "PondStair$Odds", name := "mostThatWent", desc := "()I" } : Jvm.MethodName)), (Jvm.Cond.instanceMethod ({ cls := "PondStair$Odds", name := "mostThatWent", desc := "()I" } : Jvm.MethodName)), (Jvm.Cond.selects "PondStair$Odds" ({ cls := "PondStair$Odds", name := "mostThatWent", desc := "()I" } : Jvm.MethodName) ({ cls := "PondStair$Odds", name := "mostThatWent", desc := "()I" } : Jvm.MethodName)), (Jvm.Cond.code ({ cls := "PondStair$Odds", name := "mostThatWent", desc := "()I" } : Jvm.MethodName) prog_4_method_11_code (5 : Nat) (Option.some Jvm.ClassFile.FieldType.int)), (Jvm.Cond.methodLink "PondStair$Odds" (112 : Nat) ({ cls := "java/lang/Integer", name := "bitCount", desc := "(I)I" } : Jvm.MethodName)), (Jvm.Cond.methodLink "PondStair$Odds" (117 : Nat) ({ cls := "java/lang/Math", name := "max", desc := "(II)I" } : Jvm.MethodName)), (Jvm.Cond.methodLink "PondStairLaw" (136 : Nat) ({ cls := "PondStair", name := "safe", desc := "(II)I" } : Jvm.MethodName)), (Jvm.Cond.instanceMethod ({ cls := "PondStair", name := "safe", desc := "(II)I" } : Jvm.MethodName)), (Jvm.Cond.selects "PondStair" ({ cls := "PondStair", name := "safe", desc := "(II)I" } : Jvm.MethodName) ({ cls := "PondStair", name := "safe", desc := "(II)I" } : Jvm.MethodName)), (Jvm.Cond.code ({ cls := "PondStair", name := "safe", desc := "(II)I" } : Jvm.MethodName) prog_1_method_30_code (4 : Nat) (Option.some Jvm.ClassFile.FieldType.int)), (Jvm.Cond.methodLink "PondStairLaw" (140 : Nat) ({ cls := "PondStair", name := "weighs", desc := "(II)I" } : Jvm.MethodName)), (Jvm.Cond.instanceMethod ({ cls := "PondStair", name := "weighs", desc := "(II)I" } : Jvm.MethodName)), (Jvm.Cond.selects "PondStair" ({ cls := "PondStair", name := "weighs", desc := "(II)I" } : Jvm.MethodName) ({ cls := "PondStair", name := "weighs", desc := "(II)I" } : Jvm.MethodName)), (Jvm.Cond.code ({ cls := "PondStair", name := "weighs", desc := "(II)I" } : Jvm.MethodName) prog_1_method_31_code (3 : Nat) (Option.some Jvm.ClassFile.FieldType.int)), (Jvm.Cond.methodLink "PondStair" (301 : Nat) ({ cls := "PondStair$Choice", name := "heaviest", desc := "(LPondStair$Hill;)I" } : Jvm.MethodName)), (Jvm.Cond.instanceMethod ({ cls := "PondStair$Choice", name := "heaviest", desc := "(LPondStair$Hill;)I" } : Jvm.MethodName)), (Jvm.Cond.selects "PondStair$Choice" ({ cls := "PondStair$Choice", name := "heaviest", desc := "(LPondStair$Hill;)I" } : Jvm.MethodName) ({ cls := "PondStair$Choice", name := "heaviest", desc := "(LPondStair$Hill;)I" } : Jvm.MethodName)), (Jvm.Cond.code ({ cls := "PondStair$Choice", name := "heaviest", desc := "(LPondStair$Hill;)I" } : Jvm.MethodName) prog_2_method_11_code (10 : Nat) (Option.some Jvm.ClassFile.FieldType.int)), (Jvm.Cond.methodLink "PondStairLaw" (144 : Nat) ({ cls := "PondStair", name := "upon", desc := "(IIIZ)I" } : Jvm.MethodName)), (Jvm.Cond.instanceMethod ({ cls := "PondStair", name := "upon", desc := "(IIIZ)I" } : Jvm.MethodName)), (Jvm.Cond.selects "PondStair" ({ cls := "PondStair", name := "upon", desc := "(IIIZ)I" } : Jvm.MethodName) ({ cls := "PondStair", name := "upon", desc := "(IIIZ)I" } : Jvm.MethodName)), (Jvm.Cond.code ({ cls := "PondStair", name := "upon", desc := "(IIIZ)I" } : Jvm.MethodName) prog_1_method_32_code (5 : Nat) (Option.some Jvm.ClassFile.FieldType.int))]
def tw_5_5 : List Cond := [(Jvm.Cond.methodLink "PondStair" (304 : Nat) ({ cls := "PondStair$Hill", name := "reachedFrom", desc := "(I)I" } : Jvm.MethodName)), (Jvm.Cond.instanceMethod ({ cls := "PondStair$Hill", name := "reachedFrom", desc := "(I)I" } : Jvm.MethodName)), (Jvm.Cond.selects "PondStair$Hill" ({ cls := "PondStair$Hill", name := "reachedFrom", desc := "(I)I" } : Jvm.MethodName) ({ cls := "PondStair$Hill", name := "reachedFrom", desc := "(I)I" } : Jvm.MethodName)), (Jvm.Cond.code ({ cls := "PondStair$Hill", name := "reachedFrom", desc := "(I)I" } : Jvm.MethodName) prog_3_method_24_code (4 : Nat) (Option.some Jvm.ClassFile.FieldType.int)), (Jvm.Cond.methodLink "PondStair$Hill" (79 : Nat) ({ cls := "PondStair$Hill", name := "nextOf", desc := "(I)I" } : Jvm.MethodName)), (Jvm.Cond.instanceMethod ({ cls := "PondStair$Hill", name := "nextOf", desc := "(I)I" } : Jvm.MethodName)), (Jvm.Cond.selects "PondStair$Hill" ({ cls := "PondStair$Hill", name := "nextOf", desc := "(I)I" } : Jvm.MethodName) ({ cls := "PondStair$Hill", name := "nextOf", desc := "(I)I" } : Jvm.MethodName)), (Jvm.Cond.code ({ cls := "PondStair$Hill", name := "nextOf", desc := "(I)I" } : Jvm.MethodName) prog_3_method_23_code (2 : Nat) (Option.some Jvm.ClassFile.FieldType.int)), (Jvm.Cond.methodLink "PondStair" (307 : Nat) ({ cls := "PondStair$Hill", name := "reaching", desc := "(I)I" } : Jvm.MethodName)), (Jvm.Cond.instanceMethod ({ cls := "PondStair$Hill", name := "reaching", desc := "(I)I" } : Jvm.MethodName)), (Jvm.Cond.selects "PondStair$Hill" ({ cls := "PondStair$Hill", name := "reaching", desc := "(I)I" } : Jvm.MethodName) ({ cls := "PondStair$Hill", name := "reaching", desc := "(I)I" } : Jvm.MethodName)), (Jvm.Cond.code ({ cls := "PondStair$Hill", name := "reaching", desc := "(I)I" } : Jvm.MethodName) prog_3_method_25_code (4 : Nat) (Option.some Jvm.ClassFile.FieldType.int)), (Jvm.Cond.methodLink "PondStairLaw" (148 : Nat) ({ cls := "PondStair", name := "runs", desc := "(III)I" } : Jvm.MethodName)), (Jvm.Cond.instanceMethod ({ cls := "PondStair", name := "runs", desc := "(III)I" } : Jvm.MethodName)), (Jvm.Cond.selects "PondStair" ({ cls := "PondStair", name := "runs", desc := "(III)I" } : Jvm.MethodName) ({ cls := "PondStair", name := "runs", desc := "(III)I" } : Jvm.MethodName)), (Jvm.Cond.code ({ cls := "PondStair", name := "runs", desc := "(III)I" } : Jvm.MethodName) prog_1_method_33_code (5 : Nat) (Option.some Jvm.ClassFile.FieldType.int)), (Jvm.Cond.methodLink "PondStairLaw" (152 : Nat) ({ cls := "PondStair", name := "joint", desc := "(IIII)J" } : Jvm.MethodName)), (Jvm.Cond.instanceMethod ({ cls := "PondStair", name := "joint", desc := "(IIII)J" } : Jvm.MethodName)), (Jvm.Cond.selects "PondStair" ({ cls := "PondStair", name := "joint", desc := "(IIII)J" } : Jvm.MethodName) ({ cls := "PondStair", name := "joint", desc := "(IIII)J" } : Jvm.MethodName)), (Jvm.Cond.code ({ cls := "PondStair", name := "joint", desc := "(IIII)J" } : Jvm.MethodName) prog_1_method_34_code (5 : Nat) (Option.some Jvm.ClassFile.FieldType.long)), (Jvm.Cond.methodLink "PondStairLaw" (156 : Nat) ({ cls := "PondStair", name := "given", desc := "(IIIIZ)J" } : Jvm.MethodName)), (Jvm.Cond.instanceMethod ({ cls := "PondStair", name := "given", desc := "(IIIIZ)J" } : Jvm.MethodName)), (Jvm.Cond.selects "PondStair" ({ cls := "PondStair", name := "given", desc := "(IIIIZ)J" } : Jvm.MethodName) ({ cls := "PondStair", name := "given", desc := "(IIIIZ)J" } : Jvm.MethodName)), (Jvm.Cond.code ({ cls := "PondStair", name := "given", desc := "(IIIIZ)J" } : Jvm.MethodName) prog_1_method_35_code (8 : Nat) (Option.some Jvm.ClassFile.FieldType.long))]
def tw_5_6 : List Cond := [(Jvm.Cond.methodLink "PondStairLaw" (161 : Nat) ({ cls := "PondStair", name := "worst", desc := "(III)J" } : Jvm.MethodName)), (Jvm.Cond.instanceMethod ({ cls := "PondStair", name := "worst", desc := "(III)J" } : Jvm.MethodName)), (Jvm.Cond.selects "PondStair" ({ cls := "PondStair", name := "worst", desc := "(III)J" } : Jvm.MethodName) ({ cls := "PondStair", name := "worst", desc := "(III)J" } : Jvm.MethodName)), (Jvm.Cond.code ({ cls := "PondStair", name := "worst", desc := "(III)J" } : Jvm.MethodName) prog_1_method_36_code (4 : Nat) (Option.some Jvm.ClassFile.FieldType.long)), (Jvm.Cond.methodLink "PondStair" (310 : Nat) ({ cls := "PondStair$Odds", name := "worstTold", desc := "(I)J" } : Jvm.MethodName)), (Jvm.Cond.instanceMethod ({ cls := "PondStair$Odds", name := "worstTold", desc := "(I)J" } : Jvm.MethodName)), (Jvm.Cond.selects "PondStair$Odds" ({ cls := "PondStair$Odds", name := "worstTold", desc := "(I)J" } : Jvm.MethodName) ({ cls := "PondStair$Odds", name := "worstTold", desc := "(I)J" } : Jvm.MethodName)), (Jvm.Cond.code ({ cls := "PondStair$Odds", name := "worstTold", desc := "(I)J" } : Jvm.MethodName) prog_4_method_12_code (7 : Nat) (Option.some Jvm.ClassFile.FieldType.long)), (Jvm.Cond.constantLong "PondStair$Odds" (122 : Nat) (-1 : Int64)), (Jvm.Cond.methodLink "PondStairLaw" (165 : Nat) ({ cls := "PondStair", name := "flood", desc := "(II)I" } : Jvm.MethodName)), (Jvm.Cond.instanceMethod ({ cls := "PondStair", name := "flood", desc := "(II)I" } : Jvm.MethodName)), (Jvm.Cond.selects "PondStair" ({ cls := "PondStair", name := "flood", desc := "(II)I" } : Jvm.MethodName) ({ cls := "PondStair", name := "flood", desc := "(II)I" } : Jvm.MethodName)), (Jvm.Cond.code ({ cls := "PondStair", name := "flood", desc := "(II)I" } : Jvm.MethodName) prog_1_method_37_code (3 : Nat) (Option.some Jvm.ClassFile.FieldType.int)), (Jvm.Cond.methodLink "PondStair" (313 : Nat) ({ cls := "PondStair$Odds", name := "mostInBrook", desc := "()I" } : Jvm.MethodName)), (Jvm.Cond.instanceMethod ({ cls := "PondStair$Odds", name := "mostInBrook", desc := "()I" } : Jvm.MethodName)), (Jvm.Cond.selects "PondStair$Odds" ({ cls := "PondStair$Odds", name := "mostInBrook", desc := "()I" } : Jvm.MethodName) ({ cls := "PondStair$Odds", name := "mostInBrook", desc := "()I" } : Jvm.MethodName)), (Jvm.Cond.code ({ cls := "PondStair$Odds", name := "mostInBrook", desc := "()I" } : Jvm.MethodName) prog_4_method_13_code (4 : Nat) (Option.some Jvm.ClassFile.FieldType.int)), (Jvm.Cond.methodLink "PondStairLaw" (169 : Nat) ({ cls := "PondStair", name := "around", desc := "(IIZ)I" } : Jvm.MethodName)), (Jvm.Cond.instanceMethod ({ cls := "PondStair", name := "around", desc := "(IIZ)I" } : Jvm.MethodName)), (Jvm.Cond.selects "PondStair" ({ cls := "PondStair", name := "around", desc := "(IIZ)I" } : Jvm.MethodName) ({ cls := "PondStair", name := "around", desc := "(IIZ)I" } : Jvm.MethodName)), (Jvm.Cond.code ({ cls := "PondStair", name := "around", desc := "(IIZ)I" } : Jvm.MethodName) prog_1_method_38_code (4 : Nat) (Option.some Jvm.ClassFile.FieldType.int)), (Jvm.Cond.methodLink "PondStair" (316 : Nat) ({ cls := "PondStair$Choice", name := "turnAround", desc := "(LPondStair$Hill;)V" } : Jvm.MethodName)), (Jvm.Cond.instanceMethod ({ cls := "PondStair$Choice", name := "turnAround", desc := "(LPondStair$Hill;)V" } : Jvm.MethodName)), (Jvm.Cond.selects "PondStair$Choice" ({ cls := "PondStair$Choice", name := "turnAround", desc := "(LPondStair$Hill;)V" } : Jvm.MethodName) ({ cls := "PondStair$Choice", name := "turnAround", desc := "(LPondStair$Hill;)V" } : Jvm.MethodName))]
def tw_5_7 : List Cond := [(Jvm.Cond.code ({ cls := "PondStair$Choice", name := "turnAround", desc := "(LPondStair$Hill;)V" } : Jvm.MethodName) prog_2_method_12_code (6 : Nat) (Option.none : Option Jvm.ClassFile.FieldType)), (Jvm.Cond.methodLink "PondStair$Choice" (133 : Nat) ({ cls := "PondStair$Hill", name := "isOut", desc := "(I)Z" } : Jvm.MethodName)), (Jvm.Cond.methodLink "PondStairLaw" (174 : Nat) ({ cls := "PondStair", name := "twice", desc := "(IIIIIII)I" } : Jvm.MethodName)), (Jvm.Cond.instanceMethod ({ cls := "PondStair", name := "twice", desc := "(IIIIIII)I" } : Jvm.MethodName)), (Jvm.Cond.selects "PondStair" ({ cls := "PondStair", name := "twice", desc := "(IIIIIII)I" } : Jvm.MethodName) ({ cls := "PondStair", name := "twice", desc := "(IIIIIII)I" } : Jvm.MethodName)), (Jvm.Cond.code ({ cls := "PondStair", name := "twice", desc := "(IIIIIII)I" } : Jvm.MethodName) prog_1_method_39_code (8 : Nat) (Option.some Jvm.ClassFile.FieldType.int)), (Jvm.Cond.methodLink "PondStair" (322 : Nat) ({ cls := "PondStair$Storm", name := "leaveBehind", desc := "(LPondStair$Hill;)V" } : Jvm.MethodName)), (Jvm.Cond.instanceMethod ({ cls := "PondStair$Storm", name := "leaveBehind", desc := "(LPondStair$Hill;)V" } : Jvm.MethodName)), (Jvm.Cond.selects "PondStair$Storm" ({ cls := "PondStair$Storm", name := "leaveBehind", desc := "(LPondStair$Hill;)V" } : Jvm.MethodName) ({ cls := "PondStair$Storm", name := "leaveBehind", desc := "(LPondStair$Hill;)V" } : Jvm.MethodName)), (Jvm.Cond.code ({ cls := "PondStair$Storm", name := "leaveBehind", desc := "(LPondStair$Hill;)V" } : Jvm.MethodName) prog_7_method_9_code (3 : Nat) (Option.none : Option Jvm.ClassFile.FieldType)), (Jvm.Cond.methodLink "PondStair$Storm" (86 : Nat) ({ cls := "PondStair$Hill", name := "takeOut", desc := "(I)V" } : Jvm.MethodName)), (Jvm.Cond.methodLink "PondStair$Storm" (90 : Nat) ({ cls := "PondStair$Hill", name := "isOut", desc := "(I)Z" } : Jvm.MethodName)), (Jvm.Cond.methodLink "PondStair$Storm" (93 : Nat) ({ cls := "java/lang/Math", name := "min", desc := "(II)I" } : Jvm.MethodName)), (Jvm.Cond.methodLink "PondStair$Storm" (96 : Nat) ({ cls := "PondStair$Hill", name := "put", desc := "(III)V" } : Jvm.MethodName)), (Jvm.Cond.methodLink "PondStairLaw" (179 : Nat) ({ cls := "PondStair", name := "better", desc := "(III)I" } : Jvm.MethodName)), (Jvm.Cond.instanceMethod ({ cls := "PondStair", name := "better", desc := "(III)I" } : Jvm.MethodName)), (Jvm.Cond.selects "PondStair" ({ cls := "PondStair", name := "better", desc := "(III)I" } : Jvm.MethodName) ({ cls := "PondStair", name := "better", desc := "(III)I" } : Jvm.MethodName)), (Jvm.Cond.code ({ cls := "PondStair", name := "better", desc := "(III)I" } : Jvm.MethodName) prog_1_method_40_code (8 : Nat) (Option.some Jvm.ClassFile.FieldType.int)), (Jvm.Cond.methodLink "PondStairLaw" (183 : Nat) ({ cls := "PondStair", name := "spend", desc := "(IIII)I" } : Jvm.MethodName)), (Jvm.Cond.instanceMethod ({ cls := "PondStair", name := "spend", desc := "(IIII)I" } : Jvm.MethodName)), (Jvm.Cond.selects "PondStair" ({ cls := "PondStair", name := "spend", desc := "(IIII)I" } : Jvm.MethodName) ({ cls := "PondStair", name := "spend", desc := "(IIII)I" } : Jvm.MethodName)), (Jvm.Cond.code ({ cls := "PondStair", name := "spend", desc := "(IIII)I" } : Jvm.MethodName) prog_1_method_41_code (5 : Nat) (Option.some Jvm.ClassFile.FieldType.int)), (Jvm.Cond.methodLink "PondStair" (325 : Nat) ({ cls := "PondStair$Choice", name := "fewestDays", desc := "(LPondStair$Hill;II)I" } : Jvm.MethodName)), (Jvm.Cond.instanceMethod ({ cls := "PondStair$Choice", name := "fewestDays", desc := "(LPondStair$Hill;II)I" } : Jvm.MethodName))]
def tw_5_8 : List Cond := [(Jvm.Cond.selects "PondStair$Choice" ({ cls := "PondStair$Choice", name := "fewestDays", desc := "(LPondStair$Hill;II)I" } : Jvm.MethodName) ({ cls := "PondStair$Choice", name := "fewestDays", desc := "(LPondStair$Hill;II)I" } : Jvm.MethodName)), (Jvm.Cond.code ({ cls := "PondStair$Choice", name := "fewestDays", desc := "(LPondStair$Hill;II)I" } : Jvm.MethodName) prog_2_method_4_code (9 : Nat) (Option.some Jvm.ClassFile.FieldType.int)), (Jvm.Cond.constantLong "PondStair$Choice" (82 : Nat) (100 : Int64)), (Jvm.Cond.methodLink "PondStairLaw" (187 : Nat) ({ cls := "PondStair", name := "count", desc := "(I)I" } : Jvm.MethodName)), (Jvm.Cond.instanceMethod ({ cls := "PondStair", name := "count", desc := "(I)I" } : Jvm.MethodName)), (Jvm.Cond.selects "PondStair" ({ cls := "PondStair", name := "count", desc := "(I)I" } : Jvm.MethodName) ({ cls := "PondStair", name := "count", desc := "(I)I" } : Jvm.MethodName)), (Jvm.Cond.code ({ cls := "PondStair", name := "count", desc := "(I)I" } : Jvm.MethodName) prog_1_method_42_code (2 : Nat) (Option.some Jvm.ClassFile.FieldType.int)), (Jvm.Cond.methodLink "PondStairLaw" (191 : Nat) ({ cls := "PondStair", name := "image", desc := "(I)Z" } : Jvm.MethodName)), (Jvm.Cond.instanceMethod ({ cls := "PondStair", name := "image", desc := "(I)Z" } : Jvm.MethodName)), (Jvm.Cond.selects "PondStair" ({ cls := "PondStair", name := "image", desc := "(I)Z" } : Jvm.MethodName) ({ cls := "PondStair", name := "image", desc := "(I)Z" } : Jvm.MethodName)), (Jvm.Cond.code ({ cls := "PondStair", name := "image", desc := "(I)Z" } : Jvm.MethodName) prog_1_method_43_code (2 : Nat) (Option.some Jvm.ClassFile.FieldType.boolean)), (Jvm.Cond.methodLink "PondStair" (334 : Nat) ({ cls := "PondStair$Told", name := "copy", desc := "(LPondStair$Told;)V" } : Jvm.MethodName)), (Jvm.Cond.instanceMethod ({ cls := "PondStair$Told", name := "copy", desc := "(LPondStair$Told;)V" } : Jvm.MethodName)), (Jvm.Cond.selects "PondStair$Told" ({ cls := "PondStair$Told", name := "copy", desc := "(LPondStair$Told;)V" } : Jvm.MethodName) ({ cls := "PondStair$Told", name := "copy", desc := "(LPondStair$Told;)V" } : Jvm.MethodName)), (Jvm.Cond.code ({ cls := "PondStair$Told", name := "copy", desc := "(LPondStair$Told;)V" } : Jvm.MethodName) prog_9_method_7_code (3 : Nat) (Option.none : Option Jvm.ClassFile.FieldType)), (Jvm.Cond.methodLink "PondStair$Told" (66 : Nat) ({ cls := "java/lang/System", name := "arraycopy", desc := "(Ljava/lang/Object;ILjava/lang/Object;II)V" } : Jvm.MethodName)), (Jvm.Cond.methodLink "PondStairLaw" (196 : Nat) ({ cls := "PondStair", name := "again", desc := "(I)Z" } : Jvm.MethodName)), (Jvm.Cond.instanceMethod ({ cls := "PondStair", name := "again", desc := "(I)Z" } : Jvm.MethodName)), (Jvm.Cond.selects "PondStair" ({ cls := "PondStair", name := "again", desc := "(I)Z" } : Jvm.MethodName) ({ cls := "PondStair", name := "again", desc := "(I)Z" } : Jvm.MethodName)), (Jvm.Cond.code ({ cls := "PondStair", name := "again", desc := "(I)Z" } : Jvm.MethodName) prog_1_method_44_code (2 : Nat) (Option.some Jvm.ClassFile.FieldType.boolean)), (Jvm.Cond.classLink "PondStairLaw" (10 : Nat) "PondStairModel"), (Jvm.Cond.instantiable "PondStairModel" (43 : Nat)), (Jvm.Cond.methodLink "PondStairLaw" (12 : Nat) ({ cls := "PondStairModel", name := "<init>", desc := "()V" } : Jvm.MethodName)), (Jvm.Cond.instanceMethod ({ cls := "PondStairModel", name := "<init>", desc := "()V" } : Jvm.MethodName))]
def tw_5_9 : List Cond := [(Jvm.Cond.code ({ cls := "PondStairModel", name := "<init>", desc := "()V" } : Jvm.MethodName) prog_13_method_1_code (1 : Nat) (Option.none : Option Jvm.ClassFile.FieldType)), (Jvm.Cond.methodLink "PondStairModel" (1 : Nat) ({ cls := "java/lang/Object", name := "<init>", desc := "()V" } : Jvm.MethodName)), (Jvm.Cond.fieldLink "PondStairModel" (70 : Nat) "PondStairModel" "code" "I"), (Jvm.Cond.fieldLink "PondStairModel" (7 : Nat) "PondStairModel" "tape" "[B"), (Jvm.Cond.fieldLink "PondStairModel" (13 : Nat) "PondStairModel" "size" "[I"), (Jvm.Cond.fieldLink "PondStairModel" (17 : Nat) "PondStairModel" "fault" "[I"), (Jvm.Cond.fieldLink "PondStairModel" (20 : Nat) "PondStairModel" "faultPlace" "[I"), (Jvm.Cond.fieldLink "PondStairModel" (23 : Nat) "PondStairModel" "many" "[I"), (Jvm.Cond.fieldLink "PondStairModel" (26 : Nat) "PondStairModel" "hills" "[I"), (Jvm.Cond.fieldLink "PondStairModel" (29 : Nat) "PondStairModel" "plans" "[I"), (Jvm.Cond.fieldLink "PondStairModel" (86 : Nat) "PondStairModel" "ahead" "I"), (Jvm.Cond.fieldLink "PondStairModel" (89 : Nat) "PondStairModel" "length" "I"), (Jvm.Cond.fieldLink "PondStairModel" (96 : Nat) "PondStairModel" "begins" "I"), (Jvm.Cond.fieldLink "PondStairModel" (103 : Nat) "PondStairModel" "sort" "I"), (Jvm.Cond.fieldLink "PondStairModel" (106 : Nat) "PondStairModel" "value" "I"), (Jvm.Cond.fieldLink "PondStairModel" (99 : Nat) "PondStairModel" "word" "J"), (Jvm.Cond.fieldLink "PondStairModel" (109 : Nat) "PondStairModel" "wrongAt" "I"), (Jvm.Cond.fieldLink "PondStairModel" (112 : Nat) "PondStairModel" "laterFault" "I"), (Jvm.Cond.fieldLink "PondStairModel" (115 : Nat) "PondStairModel" "laterPlace" "I"), (Jvm.Cond.fieldLink "PondStairModel" (122 : Nat) "PondStairModel" "read" "I"), (Jvm.Cond.fieldLink "PondStairModel" (129 : Nat) "PondStairModel" "good" "Z"), (Jvm.Cond.fieldLink "PondStairModel" (32 : Nat) "PondStairModel" "row" "[I"), (Jvm.Cond.fieldLink "PondStairModel" (35 : Nat) "PondStairModel" "got" "[I"), (Jvm.Cond.fieldLink "PondStairModel" (38 : Nat) "PondStairModel" "now" "[I")]
set_option maxRecDepth 100000 in
theorem tp_5 : tables_1_5 = tw_5_0 ++ (tw_5_1 ++ (tw_5_2 ++ (tw_5_3 ++ (tw_5_4 ++ (tw_5_5 ++ (tw_5_6 ++ (tw_5_7 ++ (tw_5_8 ++ (tw_5_9))))))))) := rfl
theorem gt_m5 {w : Cond} (hm : w ∈ tables_1_5) (hg : goodWord w = true) : w ∈ gt := by
  refine List.mem_filter.mpr ⟨?_, hg⟩
  unfold lw_tbl tables_1
  simp only [List.mem_append]
  simp only [hm, true_or, or_true]
theorem gt_5_0 {w : Cond} {i : Nat} (h : tw_5_0[i]? = some w) (hg : goodWord w = true) : w ∈ gt := by
  have hm := List.mem_of_getElem? h
  refine gt_m5 ?_ hg
  rw [tp_5]
  simp only [List.mem_append]
  simp only [hm, true_or, or_true]
theorem gt_5_1 {w : Cond} {i : Nat} (h : tw_5_1[i]? = some w) (hg : goodWord w = true) : w ∈ gt := by
  have hm := List.mem_of_getElem? h
  refine gt_m5 ?_ hg
  rw [tp_5]
  simp only [List.mem_append]
  simp only [hm, true_or, or_true]
theorem gt_5_2 {w : Cond} {i : Nat} (h : tw_5_2[i]? = some w) (hg : goodWord w = true) : w ∈ gt := by
  have hm := List.mem_of_getElem? h
  refine gt_m5 ?_ hg
  rw [tp_5]
  simp only [List.mem_append]
  simp only [hm, true_or, or_true]
theorem gt_5_3 {w : Cond} {i : Nat} (h : tw_5_3[i]? = some w) (hg : goodWord w = true) : w ∈ gt := by
  have hm := List.mem_of_getElem? h
  refine gt_m5 ?_ hg
  rw [tp_5]
  simp only [List.mem_append]
  simp only [hm, true_or, or_true]
theorem gt_5_4 {w : Cond} {i : Nat} (h : tw_5_4[i]? = some w) (hg : goodWord w = true) : w ∈ gt := by
  have hm := List.mem_of_getElem? h
  refine gt_m5 ?_ hg
  rw [tp_5]
  simp only [List.mem_append]
  simp only [hm, true_or, or_true]
theorem gt_5_5 {w : Cond} {i : Nat} (h : tw_5_5[i]? = some w) (hg : goodWord w = true) : w ∈ gt := by
  have hm := List.mem_of_getElem? h
  refine gt_m5 ?_ hg
  rw [tp_5]
  simp only [List.mem_append]
  simp only [hm, true_or, or_true]
theorem gt_5_6 {w : Cond} {i : Nat} (h : tw_5_6[i]? = some w) (hg : goodWord w = true) : w ∈ gt := by
  have hm := List.mem_of_getElem? h
  refine gt_m5 ?_ hg
  rw [tp_5]
  simp only [List.mem_append]
  simp only [hm, true_or, or_true]
theorem gt_5_7 {w : Cond} {i : Nat} (h : tw_5_7[i]? = some w) (hg : goodWord w = true) : w ∈ gt := by
  have hm := List.mem_of_getElem? h
  refine gt_m5 ?_ hg
  rw [tp_5]
  simp only [List.mem_append]
  simp only [hm, true_or, or_true]
theorem gt_5_8 {w : Cond} {i : Nat} (h : tw_5_8[i]? = some w) (hg : goodWord w = true) : w ∈ gt := by
  have hm := List.mem_of_getElem? h
  refine gt_m5 ?_ hg
  rw [tp_5]
  simp only [List.mem_append]
  simp only [hm, true_or, or_true]
theorem gt_5_9 {w : Cond} {i : Nat} (h : tw_5_9[i]? = some w) (hg : goodWord w = true) : w ∈ gt := by
  have hm := List.mem_of_getElem? h
  refine gt_m5 ?_ hg
  rw [tp_5]
  simp only [List.mem_append]
  simp only [hm, true_or, or_true]
theorem nt_m5 {w : Cond} (hm : w ∈ tables_1_5) (hg : nw w = true) : w ∈ nt := by
  refine List.mem_filter.mpr ⟨?_, hg⟩
  unfold lw_tbl tables_1
  simp only [List.mem_append]
  simp only [hm, true_or, or_true]
theorem nt_5_3 {w : Cond} {i : Nat} (h : tw_5_3[i]? = some w) (hg : nw w = true) : w ∈ nt := by
  have hm := List.mem_of_getElem? h
  refine nt_m5 ?_ hg
  rw [tp_5]
  simp only [List.mem_append]
  simp only [hm, true_or, or_true]
def tw_6_0 : List Cond := [(Jvm.Cond.fieldLink "PondStairModel" (208 : Nat) "PondStairModel" "ponds" "I"), (Jvm.Cond.fieldLink "PondStairModel" (228 : Nat) "PondStairModel" "done" "I"), (Jvm.Cond.fieldLink "PondStairModel" (219 : Nat) "PondStairModel" "days" "I"), (Jvm.Cond.fieldLink "PondStairModel" (222 : Nat) "PondStairModel" "lost" "I"), (Jvm.Cond.fieldLink "PondStairModel" (231 : Nat) "PondStairModel" "kept" "I"), (Jvm.Cond.fieldLink "PondStairModel" (234 : Nat) "PondStairModel" "dry" "Z"), (Jvm.Cond.fieldLink "PondStairModel" (41 : Nat) "PondStairModel" "water" "[I"), (Jvm.Cond.fieldLink "PondStairModel" (44 : Nat) "PondStairModel" "comes" "[I"), (Jvm.Cond.fieldLink "PondStairModel" (47 : Nat) "PondStairModel" "left" "[I"), (Jvm.Cond.fieldLink "PondStairModel" (246 : Nat) "PondStairModel" "went" "I"), (Jvm.Cond.fieldLink "PondStairModel" (252 : Nat) "PondStairModel" "heard" "I"), (Jvm.Cond.fieldLink "PondStairModel" (255 : Nat) "PondStairModel" "brook" "I"), (Jvm.Cond.fieldLink "PondStairModel" (50 : Nat) "PondStairModel" "partsOfSet" "[J"), (Jvm.Cond.fieldLink "PondStairModel" (54 : Nat) "PondStairModel" "chance" "[I"), (Jvm.Cond.fieldLink "PondStairModel" (57 : Nat) "PondStairModel" "level" "[I"), (Jvm.Cond.fieldLink "PondStairModel" (60 : Nat) "PondStairModel" "row4" "[I"), (Jvm.Cond.fieldLink "PondStairModel" (63 : Nat) "PondStairModel" "best4" "[I"), (Jvm.Cond.fieldLink "PondStairModel" (337 : Nat) "PondStairModel" "filled" "I"), (Jvm.Cond.fieldLink "PondStairModel" (343 : Nat) "PondStairModel" "leastMay" "J"), (Jvm.Cond.fieldLink "PondStairModel" (361 : Nat) "PondStairModel" "drawn" "I"), (Jvm.Cond.fieldLink "PondStairModel" (66 : Nat) "PondStairModel" "stored" "[Z"), (Jvm.Cond.lays "PondStairModel" "PondStairModel" "code" "I"), (Jvm.Cond.soleField "PondStairModel" "code"), (Jvm.Cond.laysFinal "PondStairModel" "PondStairModel" "tape" "[B")]
def tw_6_1 : List Cond := [(Jvm.Cond.soleField "PondStairModel" "tape"), (Jvm.Cond.laysFinal "PondStairModel" "PondStairModel" "size" "[I"), (Jvm.Cond.soleField "PondStairModel" "size"), (Jvm.Cond.laysFinal "PondStairModel" "PondStairModel" "fault" "[I"), (Jvm.Cond.soleField "PondStairModel" "fault"), (Jvm.Cond.laysFinal "PondStairModel" "PondStairModel" "faultPlace" "[I"), (Jvm.Cond.soleField "PondStairModel" "faultPlace"), (Jvm.Cond.laysFinal "PondStairModel" "PondStairModel" "many" "[I"), (Jvm.Cond.soleField "PondStairModel" "many"), (Jvm.Cond.laysFinal "PondStairModel" "PondStairModel" "hills" "[I"), (Jvm.Cond.soleField "PondStairModel" "hills"), (Jvm.Cond.laysFinal "PondStairModel" "PondStairModel" "plans" "[I"), (Jvm.Cond.soleField "PondStairModel" "plans"), (Jvm.Cond.lays "PondStairModel" "PondStairModel" "ahead" "I"), (Jvm.Cond.soleField "PondStairModel" "ahead"), (Jvm.Cond.lays "PondStairModel" "PondStairModel" "length" "I"), (Jvm.Cond.soleField "PondStairModel" "length"), (Jvm.Cond.lays "PondStairModel" "PondStairModel" "begins" "I"), (Jvm.Cond.soleField "PondStairModel" "begins"), (Jvm.Cond.lays "PondStairModel" "PondStairModel" "sort" "I"), (Jvm.Cond.soleField "PondStairModel" "sort"), (Jvm.Cond.lays "PondStairModel" "PondStairModel" "value" "I"), (Jvm.Cond.soleField "PondStairModel" "value"), (Jvm.Cond.lays "PondStairModel" "PondStairModel" "word" "J")]
def tw_6_2 : List Cond := [(Jvm.Cond.soleField "PondStairModel" "word"), (Jvm.Cond.lays "PondStairModel" "PondStairModel" "wrongAt" "I"), (Jvm.Cond.soleField "PondStairModel" "wrongAt"), (Jvm.Cond.lays "PondStairModel" "PondStairModel" "laterFault" "I"), (Jvm.Cond.soleField "PondStairModel" "laterFault"), (Jvm.Cond.lays "PondStairModel" "PondStairModel" "laterPlace" "I"), (Jvm.Cond.soleField "PondStairModel" "laterPlace"), (Jvm.Cond.lays "PondStairModel" "PondStairModel" "read" "I"), (Jvm.Cond.soleField "PondStairModel" "read"), (Jvm.Cond.lays "PondStairModel" "PondStairModel" "good" "Z"), (Jvm.Cond.soleField "PondStairModel" "good"), (Jvm.Cond.laysFinal "PondStairModel" "PondStairModel" "row" "[I"), (Jvm.Cond.soleField "PondStairModel" "row"), (Jvm.Cond.laysFinal "PondStairModel" "PondStairModel" "got" "[I"), (Jvm.Cond.soleField "PondStairModel" "got"), (Jvm.Cond.laysFinal "PondStairModel" "PondStairModel" "now" "[I"), (Jvm.Cond.soleField "PondStairModel" "now"), (Jvm.Cond.lays "PondStairModel" "PondStairModel" "ponds" "I"), (Jvm.Cond.soleField "PondStairModel" "ponds"), (Jvm.Cond.lays "PondStairModel" "PondStairModel" "done" "I"), (Jvm.Cond.soleField "PondStairModel" "done"), (Jvm.Cond.lays "PondStairModel" "PondStairModel" "days" "I"), (Jvm.Cond.soleField "PondStairModel" "days"), (Jvm.Cond.lays "PondStairModel" "PondStairModel" "lost" "I")]
def tw_6_3 : List Cond := [(Jvm.Cond.soleField "PondStairModel" "lost"), (Jvm.Cond.lays "PondStairModel" "PondStairModel" "kept" "I"), (Jvm.Cond.soleField "PondStairModel" "kept"), (Jvm.Cond.lays "PondStairModel" "PondStairModel" "dry" "Z"), (Jvm.Cond.soleField "PondStairModel" "dry"), (Jvm.Cond.laysFinal "PondStairModel" "PondStairModel" "water" "[I"), (Jvm.Cond.soleField "PondStairModel" "water"), (Jvm.Cond.laysFinal "PondStairModel" "PondStairModel" "comes" "[I"), (Jvm.Cond.soleField "PondStairModel" "comes"), (Jvm.Cond.laysFinal "PondStairModel" "PondStairModel" "left" "[I"), (Jvm.Cond.soleField "PondStairModel" "left"), (Jvm.Cond.lays "PondStairModel" "PondStairModel" "went" "I"), (Jvm.Cond.soleField "PondStairModel" "went"), (Jvm.Cond.lays "PondStairModel" "PondStairModel" "heard" "I"), (Jvm.Cond.soleField "PondStairModel" "heard"), (Jvm.Cond.lays "PondStairModel" "PondStairModel" "brook" "I"), (Jvm.Cond.soleField "PondStairModel" "brook"), (Jvm.Cond.laysFinal "PondStairModel" "PondStairModel" "partsOfSet" "[J"), (Jvm.Cond.soleField "PondStairModel" "partsOfSet"), (Jvm.Cond.laysFinal "PondStairModel" "PondStairModel" "chance" "[I"), (Jvm.Cond.soleField "PondStairModel" "chance"), (Jvm.Cond.laysFinal "PondStairModel" "PondStairModel" "level" "[I"), (Jvm.Cond.soleField "PondStairModel" "level"), (Jvm.Cond.laysFinal "PondStairModel" "PondStairModel" "row4" "[I")]
def tw_6_4 : List Cond := [(Jvm.Cond.soleField "PondStairModel" "row4"), (Jvm.Cond.laysFinal "PondStairModel" "PondStairModel" "best4" "[I"), (Jvm.Cond.soleField "PondStairModel" "best4"), (Jvm.Cond.lays "PondStairModel" "PondStairModel" "filled" "I"), (Jvm.Cond.soleField "PondStairModel" "filled"), (Jvm.Cond.lays "PondStairModel" "PondStairModel" "leastMay" "J"), (Jvm.Cond.soleField "PondStairModel" "leastMay"), (Jvm.Cond.lays "PondStairModel" "PondStairModel" "drawn" "I"), (Jvm.Cond.soleField "PondStairModel" "drawn"), (Jvm.Cond.laysFinal "PondStairModel" "PondStairModel" "stored" "[Z"), (Jvm.Cond.soleField "PondStairModel" "stored"), (Jvm.Cond.superclass "PondStairModel" "java/lang/Object"), (Jvm.Cond.methodLink "PondStairLaw" (17 : Nat) ({ cls := "PondStairModel", name := "feed", desc := "(IIIII)I" } : Jvm.MethodName)), (Jvm.Cond.instanceMethod ({ cls := "PondStairModel", name := "feed", desc := "(IIIII)I" } : Jvm.MethodName)), (Jvm.Cond.selects "PondStairModel" ({ cls := "PondStairModel", name := "feed", desc := "(IIIII)I" } : Jvm.MethodName) ({ cls := "PondStairModel", name := "feed", desc := "(IIIII)I" } : Jvm.MethodName)), (Jvm.Cond.code ({ cls := "PondStairModel", name := "feed", desc := "(IIIII)I" } : Jvm.MethodName) prog_13_method_10_code (6 : Nat) (Option.some Jvm.ClassFile.FieldType.int)), (Jvm.Cond.methodLink "PondStairModel" (82 : Nat) ({ cls := "PondStairModel", name := "four", desc := "(I)V" } : Jvm.MethodName)), (Jvm.Cond.privateMethod ({ cls := "PondStairModel", name := "four", desc := "(I)V" } : Jvm.MethodName)), (Jvm.Cond.instanceMethod ({ cls := "PondStairModel", name := "four", desc := "(I)V" } : Jvm.MethodName)), (Jvm.Cond.code ({ cls := "PondStairModel", name := "four", desc := "(I)V" } : Jvm.MethodName) prog_13_method_11_code (3 : Nat) (Option.none : Option Jvm.ClassFile.FieldType)), (Jvm.Cond.methodLink "PondStairLaw" (22 : Nat) ({ cls := "PondStairModel", name := "end", desc := "(I)I" } : Jvm.MethodName)), (Jvm.Cond.instanceMethod ({ cls := "PondStairModel", name := "end", desc := "(I)I" } : Jvm.MethodName)), (Jvm.Cond.selects "PondStairModel" ({ cls := "PondStairModel", name := "end", desc := "(I)I" } : Jvm.MethodName) ({ cls := "PondStairModel", name := "end", desc := "(I)I" } : Jvm.MethodName)), (Jvm.Cond.code ({ cls := "PondStairModel", name := "end", desc := "(I)I" } : Jvm.MethodName) prog_13_method_12_code (2 : Nat) (Option.some Jvm.ClassFile.FieldType.int))]
def tw_6_5 : List Cond := [(Jvm.Cond.methodLink "PondStairModel" (78 : Nat) ({ cls := "PondStairModel", name := "in", desc := "(III)Z" } : Jvm.MethodName)), (Jvm.Cond.static ({ cls := "PondStairModel", name := "in", desc := "(III)Z" } : Jvm.MethodName)), (Jvm.Cond.code ({ cls := "PondStairModel", name := "in", desc := "(III)Z" } : Jvm.MethodName) prog_13_method_3_code (3 : Nat) (Option.some Jvm.ClassFile.FieldType.boolean)), (Jvm.Cond.methodLink "PondStairLaw" (27 : Nat) ({ cls := "PondStairModel", name := "text", desc := "(II)I" } : Jvm.MethodName)), (Jvm.Cond.instanceMethod ({ cls := "PondStairModel", name := "text", desc := "(II)I" } : Jvm.MethodName)), (Jvm.Cond.selects "PondStairModel" ({ cls := "PondStairModel", name := "text", desc := "(II)I" } : Jvm.MethodName) ({ cls := "PondStairModel", name := "text", desc := "(II)I" } : Jvm.MethodName)), (Jvm.Cond.code ({ cls := "PondStairModel", name := "text", desc := "(II)I" } : Jvm.MethodName) prog_13_method_27_code (5 : Nat) (Option.some Jvm.ClassFile.FieldType.int)), (Jvm.Cond.methodLink "PondStairModel" (202 : Nat) ({ cls := "PondStairModel", name := "readText", desc := "(I)Z" } : Jvm.MethodName)), (Jvm.Cond.privateMethod ({ cls := "PondStairModel", name := "readText", desc := "(I)Z" } : Jvm.MethodName)), (Jvm.Cond.instanceMethod ({ cls := "PondStairModel", name := "readText", desc := "(I)Z" } : Jvm.MethodName)), (Jvm.Cond.code ({ cls := "PondStairModel", name := "readText", desc := "(I)Z" } : Jvm.MethodName) prog_13_method_26_code (4 : Nat) (Option.some Jvm.ClassFile.FieldType.boolean)), (Jvm.Cond.methodLink "PondStairModel" (133 : Nat) ({ cls := "PondStairModel", name := "token", desc := "()V" } : Jvm.MethodName)), (Jvm.Cond.privateMethod ({ cls := "PondStairModel", name := "token", desc := "()V" } : Jvm.MethodName)), (Jvm.Cond.instanceMethod ({ cls := "PondStairModel", name := "token", desc := "()V" } : Jvm.MethodName)), (Jvm.Cond.code ({ cls := "PondStairModel", name := "token", desc := "()V" } : Jvm.MethodName) prog_13_method_14_code (3 : Nat) (Option.none : Option Jvm.ClassFile.FieldType)), (Jvm.Cond.methodLink "PondStairModel" (92 : Nat) ({ cls := "PondStairModel", name := "see", desc := "()I" } : Jvm.MethodName)), (Jvm.Cond.privateMethod ({ cls := "PondStairModel", name := "see", desc := "()I" } : Jvm.MethodName)), (Jvm.Cond.instanceMethod ({ cls := "PondStairModel", name := "see", desc := "()I" } : Jvm.MethodName)), (Jvm.Cond.code ({ cls := "PondStairModel", name := "see", desc := "()I" } : Jvm.MethodName) prog_13_method_13_code (1 : Nat) (Option.some Jvm.ClassFile.FieldType.int)), (Jvm.Cond.methodLink "PondStairModel" (193 : Nat) ({ cls := "PondStairModel", name := "hillLine", desc := "(I)Z" } : Jvm.MethodName)), (Jvm.Cond.privateMethod ({ cls := "PondStairModel", name := "hillLine", desc := "(I)Z" } : Jvm.MethodName)), (Jvm.Cond.instanceMethod ({ cls := "PondStairModel", name := "hillLine", desc := "(I)Z" } : Jvm.MethodName)), (Jvm.Cond.code ({ cls := "PondStairModel", name := "hillLine", desc := "(I)Z" } : Jvm.MethodName) prog_13_method_23_code (7 : Nat) (Option.some Jvm.ClassFile.FieldType.boolean)), (Jvm.Cond.constantLong "PondStairModel" (143 : Nat) (1835363940 : Int64))]
def tw_6_6 : List Cond := [(Jvm.Cond.constantLong "PondStairModel" (145 : Nat) (2003395685 : Int64)), (Jvm.Cond.constantLong "PondStairModel" (147 : Nat) (491496238692 : Int64)), (Jvm.Cond.constantLong "PondStairModel" (149 : Nat) (1685026670 : Int64)), (Jvm.Cond.constantLong "PondStairModel" (151 : Nat) (418548114533 : Int64)), (Jvm.Cond.constantLong "PondStairModel" (153 : Nat) (422607680115 : Int64)), (Jvm.Cond.constantLong "PondStairModel" (155 : Nat) (1735353715 : Int64)), (Jvm.Cond.constantLong "PondStairModel" (157 : Nat) (1751216749 : Int64)), (Jvm.Cond.constantLong "PondStairModel" (159 : Nat) (478745093490 : Int64)), (Jvm.Cond.constantLong "PondStairModel" (161 : Nat) (1919509349 : Int64)), (Jvm.Cond.constantLong "PondStairModel" (163 : Nat) (7823737 : Int64)), (Jvm.Cond.constantLong "PondStairModel" (165 : Nat) (1734440037 : Int64)), (Jvm.Cond.constantLong "PondStairModel" (167 : Nat) (1936287598 : Int64)), (Jvm.Cond.constantLong "PondStairModel" (169 : Nat) (1886350948 : Int64)), (Jvm.Cond.constantLong "PondStairModel" (171 : Nat) (1918986606 : Int64)), (Jvm.Cond.methodLink "PondStairModel" (118 : Nat) ({ cls := "PondStairModel", name := "stops", desc := "()Z" } : Jvm.MethodName)), (Jvm.Cond.privateMethod ({ cls := "PondStairModel", name := "stops", desc := "()Z" } : Jvm.MethodName)), (Jvm.Cond.instanceMethod ({ cls := "PondStairModel", name := "stops", desc := "()Z" } : Jvm.MethodName)), (Jvm.Cond.code ({ cls := "PondStairModel", name := "stops", desc := "()Z" } : Jvm.MethodName) prog_13_method_15_code (1 : Nat) (Option.some Jvm.ClassFile.FieldType.boolean)), (Jvm.Cond.methodLink "PondStairModel" (173 : Nat) ({ cls := "PondStairModel", name := "pondLine", desc := "(I)Z" } : Jvm.MethodName)), (Jvm.Cond.privateMethod ({ cls := "PondStairModel", name := "pondLine", desc := "(I)Z" } : Jvm.MethodName)), (Jvm.Cond.instanceMethod ({ cls := "PondStairModel", name := "pondLine", desc := "(I)Z" } : Jvm.MethodName)), (Jvm.Cond.code ({ cls := "PondStairModel", name := "pondLine", desc := "(I)Z" } : Jvm.MethodName) prog_13_method_19_code (5 : Nat) (Option.some Jvm.ClassFile.FieldType.boolean)), (Jvm.Cond.methodLink "PondStairModel" (125 : Nat) ({ cls := "PondStairModel", name := "later", desc := "(II)V" } : Jvm.MethodName)), (Jvm.Cond.privateMethod ({ cls := "PondStairModel", name := "later", desc := "(II)V" } : Jvm.MethodName))]
def tw_6_7 : List Cond := [(Jvm.Cond.instanceMethod ({ cls := "PondStairModel", name := "later", desc := "(II)V" } : Jvm.MethodName)), (Jvm.Cond.code ({ cls := "PondStairModel", name := "later", desc := "(II)V" } : Jvm.MethodName) prog_13_method_16_code (3 : Nat) (Option.none : Option Jvm.ClassFile.FieldType)), (Jvm.Cond.methodLink "PondStairModel" (140 : Nat) ({ cls := "PondStairModel", name := "take", desc := "(III)Z" } : Jvm.MethodName)), (Jvm.Cond.privateMethod ({ cls := "PondStairModel", name := "take", desc := "(III)Z" } : Jvm.MethodName)), (Jvm.Cond.instanceMethod ({ cls := "PondStairModel", name := "take", desc := "(III)Z" } : Jvm.MethodName)), (Jvm.Cond.code ({ cls := "PondStairModel", name := "take", desc := "(III)Z" } : Jvm.MethodName) prog_13_method_18_code (5 : Nat) (Option.some Jvm.ClassFile.FieldType.boolean)), (Jvm.Cond.methodLink "PondStairModel" (136 : Nat) ({ cls := "PondStairModel", name := "number", desc := "(II)Z" } : Jvm.MethodName)), (Jvm.Cond.privateMethod ({ cls := "PondStairModel", name := "number", desc := "(II)Z" } : Jvm.MethodName)), (Jvm.Cond.instanceMethod ({ cls := "PondStairModel", name := "number", desc := "(II)Z" } : Jvm.MethodName)), (Jvm.Cond.code ({ cls := "PondStairModel", name := "number", desc := "(II)Z" } : Jvm.MethodName) prog_13_method_17_code (3 : Nat) (Option.some Jvm.ClassFile.FieldType.boolean)), (Jvm.Cond.methodLink "PondStairModel" (177 : Nat) ({ cls := "PondStairModel", name := "rainLine", desc := "(I)Z" } : Jvm.MethodName)), (Jvm.Cond.privateMethod ({ cls := "PondStairModel", name := "rainLine", desc := "(I)Z" } : Jvm.MethodName)), (Jvm.Cond.instanceMethod ({ cls := "PondStairModel", name := "rainLine", desc := "(I)Z" } : Jvm.MethodName)), (Jvm.Cond.code ({ cls := "PondStairModel", name := "rainLine", desc := "(I)Z" } : Jvm.MethodName) prog_13_method_20_code (3 : Nat) (Option.some Jvm.ClassFile.FieldType.boolean)), (Jvm.Cond.methodLink "PondStairModel" (180 : Nat) ({ cls := "PondStairModel", name := "daysLine", desc := "(I)Z" } : Jvm.MethodName)), (Jvm.Cond.privateMethod ({ cls := "PondStairModel", name := "daysLine", desc := "(I)Z" } : Jvm.MethodName)), (Jvm.Cond.instanceMethod ({ cls := "PondStairModel", name := "daysLine", desc := "(I)Z" } : Jvm.MethodName)), (Jvm.Cond.code ({ cls := "PondStairModel", name := "daysLine", desc := "(I)Z" } : Jvm.MethodName) prog_13_method_22_code (3 : Nat) (Option.some Jvm.ClassFile.FieldType.boolean)), (Jvm.Cond.methodLink "PondStairModel" (183 : Nat) ({ cls := "PondStairModel", name := "ofPond", desc := "(IIIII)Z" } : Jvm.MethodName)), (Jvm.Cond.privateMethod ({ cls := "PondStairModel", name := "ofPond", desc := "(IIIII)Z" } : Jvm.MethodName)), (Jvm.Cond.instanceMethod ({ cls := "PondStairModel", name := "ofPond", desc := "(IIIII)Z" } : Jvm.MethodName)), (Jvm.Cond.code ({ cls := "PondStairModel", name := "ofPond", desc := "(IIIII)Z" } : Jvm.MethodName) prog_13_method_21_code (7 : Nat) (Option.some Jvm.ClassFile.FieldType.boolean)), (Jvm.Cond.methodLink "PondStairModel" (196 : Nat) ({ cls := "PondStairModel", name := "workLine", desc := "(I)Z" } : Jvm.MethodName)), (Jvm.Cond.privateMethod ({ cls := "PondStairModel", name := "workLine", desc := "(I)Z" } : Jvm.MethodName))]
def tw_6_8 : List Cond := [(Jvm.Cond.instanceMethod ({ cls := "PondStairModel", name := "workLine", desc := "(I)Z" } : Jvm.MethodName)), (Jvm.Cond.code ({ cls := "PondStairModel", name := "workLine", desc := "(I)Z" } : Jvm.MethodName) prog_13_method_24_code (6 : Nat) (Option.some Jvm.ClassFile.FieldType.boolean)), (Jvm.Cond.constantLong "PondStairModel" (187 : Nat) (7106423 : Int64)), (Jvm.Cond.constantLong "PondStairModel" (189 : Nat) (512869295470 : Int64)), (Jvm.Cond.constantLong "PondStairModel" (191 : Nat) (7304564 : Int64)), (Jvm.Cond.methodLink "PondStairModel" (199 : Nat) ({ cls := "PondStairModel", name := "endsHill", desc := "()V" } : Jvm.MethodName)), (Jvm.Cond.privateMethod ({ cls := "PondStairModel", name := "endsHill", desc := "()V" } : Jvm.MethodName)), (Jvm.Cond.instanceMethod ({ cls := "PondStairModel", name := "endsHill", desc := "()V" } : Jvm.MethodName)), (Jvm.Cond.code ({ cls := "PondStairModel", name := "endsHill", desc := "()V" } : Jvm.MethodName) prog_13_method_25_code (3 : Nat) (Option.none : Option Jvm.ClassFile.FieldType)), (Jvm.Cond.methodLink "PondStairLaw" (31 : Nat) ({ cls := "PondStairModel", name := "fault", desc := "(I)I" } : Jvm.MethodName)), (Jvm.Cond.instanceMethod ({ cls := "PondStairModel", name := "fault", desc := "(I)I" } : Jvm.MethodName)), (Jvm.Cond.selects "PondStairModel" ({ cls := "PondStairModel", name := "fault", desc := "(I)I" } : Jvm.MethodName) ({ cls := "PondStairModel", name := "fault", desc := "(I)I" } : Jvm.MethodName)), (Jvm.Cond.code ({ cls := "PondStairModel", name := "fault", desc := "(I)I" } : Jvm.MethodName) prog_13_method_28_code (2 : Nat) (Option.some Jvm.ClassFile.FieldType.int)), (Jvm.Cond.methodLink "PondStairLaw" (35 : Nat) ({ cls := "PondStairModel", name := "hill", desc := "(II)I" } : Jvm.MethodName)), (Jvm.Cond.instanceMethod ({ cls := "PondStairModel", name := "hill", desc := "(II)I" } : Jvm.MethodName)), (Jvm.Cond.selects "PondStairModel" ({ cls := "PondStairModel", name := "hill", desc := "(II)I" } : Jvm.MethodName) ({ cls := "PondStairModel", name := "hill", desc := "(II)I" } : Jvm.MethodName)), (Jvm.Cond.code ({ cls := "PondStairModel", name := "hill", desc := "(II)I" } : Jvm.MethodName) prog_13_method_29_code (4 : Nat) (Option.some Jvm.ClassFile.FieldType.int)), (Jvm.Cond.methodLink "PondStairModel" (205 : Nat) ({ cls := "PondStairModel", name := "isHill", desc := "(I)Z" } : Jvm.MethodName)), (Jvm.Cond.privateMethod ({ cls := "PondStairModel", name := "isHill", desc := "(I)Z" } : Jvm.MethodName)), (Jvm.Cond.instanceMethod ({ cls := "PondStairModel", name := "isHill", desc := "(I)Z" } : Jvm.MethodName)), (Jvm.Cond.code ({ cls := "PondStairModel", name := "isHill", desc := "(I)Z" } : Jvm.MethodName) prog_13_method_8_code (2 : Nat) (Option.some Jvm.ClassFile.FieldType.boolean)), (Jvm.Cond.methodLink "PondStairLaw" (40 : Nat) ({ cls := "PondStairModel", name := "pond", desc := "(IIII)I" } : Jvm.MethodName)), (Jvm.Cond.instanceMethod ({ cls := "PondStairModel", name := "pond", desc := "(IIII)I" } : Jvm.MethodName)), (Jvm.Cond.selects "PondStairModel" ({ cls := "PondStairModel", name := "pond", desc := "(IIII)I" } : Jvm.MethodName) ({ cls := "PondStairModel", name := "pond", desc := "(IIII)I" } : Jvm.MethodName))]
def tw_6_9 : List Cond := [(Jvm.Cond.code ({ cls := "PondStairModel", name := "pond", desc := "(IIII)I" } : Jvm.MethodName) prog_13_method_36_code (5 : Nat) (Option.some Jvm.ClassFile.FieldType.int)), (Jvm.Cond.methodLink "PondStairModel" (240 : Nat) ({ cls := "PondStairModel", name := "lay", desc := "(II)Z" } : Jvm.MethodName)), (Jvm.Cond.privateMethod ({ cls := "PondStairModel", name := "lay", desc := "(II)Z" } : Jvm.MethodName)), (Jvm.Cond.instanceMethod ({ cls := "PondStairModel", name := "lay", desc := "(II)Z" } : Jvm.MethodName)), (Jvm.Cond.code ({ cls := "PondStairModel", name := "lay", desc := "(II)Z" } : Jvm.MethodName) prog_13_method_33_code (5 : Nat) (Option.some Jvm.ClassFile.FieldType.boolean)), (Jvm.Cond.methodLink "PondStairModel" (225 : Nat) ({ cls := "PondStairModel", name := "isPlan", desc := "(I)Z" } : Jvm.MethodName)), (Jvm.Cond.privateMethod ({ cls := "PondStairModel", name := "isPlan", desc := "(I)Z" } : Jvm.MethodName)), (Jvm.Cond.instanceMethod ({ cls := "PondStairModel", name := "isPlan", desc := "(I)Z" } : Jvm.MethodName)), (Jvm.Cond.code ({ cls := "PondStairModel", name := "isPlan", desc := "(I)Z" } : Jvm.MethodName) prog_13_method_9_code (2 : Nat) (Option.some Jvm.ClassFile.FieldType.boolean)), (Jvm.Cond.methodLink "PondStairModel" (237 : Nat) ({ cls := "PondStairModel", name := "does", desc := "(III)Z" } : Jvm.MethodName)), (Jvm.Cond.privateMethod ({ cls := "PondStairModel", name := "does", desc := "(III)Z" } : Jvm.MethodName)), (Jvm.Cond.instanceMethod ({ cls := "PondStairModel", name := "does", desc := "(III)Z" } : Jvm.MethodName)), (Jvm.Cond.code ({ cls := "PondStairModel", name := "does", desc := "(III)Z" } : Jvm.MethodName) prog_13_method_32_code (4 : Nat) (Option.some Jvm.ClassFile.FieldType.boolean)), (Jvm.Cond.methodLink "PondStairModel" (211 : Nat) ({ cls := "PondStairModel", name := "of", desc := "(II)I" } : Jvm.MethodName)), (Jvm.Cond.privateMethod ({ cls := "PondStairModel", name := "of", desc := "(II)I" } : Jvm.MethodName)), (Jvm.Cond.instanceMethod ({ cls := "PondStairModel", name := "of", desc := "(II)I" } : Jvm.MethodName)), (Jvm.Cond.code ({ cls := "PondStairModel", name := "of", desc := "(II)I" } : Jvm.MethodName) prog_13_method_30_code (3 : Nat) (Option.some Jvm.ClassFile.FieldType.int)), (Jvm.Cond.methodLink "PondStairModel" (215 : Nat) ({ cls := "PondStairModel", name := "set", desc := "(III)V" } : Jvm.MethodName)), (Jvm.Cond.privateMethod ({ cls := "PondStairModel", name := "set", desc := "(III)V" } : Jvm.MethodName)), (Jvm.Cond.instanceMethod ({ cls := "PondStairModel", name := "set", desc := "(III)V" } : Jvm.MethodName)), (Jvm.Cond.code ({ cls := "PondStairModel", name := "set", desc := "(III)V" } : Jvm.MethodName) prog_13_method_31_code (4 : Nat) (Option.none : Option Jvm.ClassFile.FieldType)), (Jvm.Cond.methodLink "PondStairModel" (243 : Nat) ({ cls := "PondStairModel", name := "isPond", desc := "(I)Z" } : Jvm.MethodName)), (Jvm.Cond.privateMethod ({ cls := "PondStairModel", name := "isPond", desc := "(I)Z" } : Jvm.MethodName)), (Jvm.Cond.instanceMethod ({ cls := "PondStairModel", name := "isPond", desc := "(I)Z" } : Jvm.MethodName))]
set_option maxRecDepth 100000 in
theorem tp_6 : tables_1_6 = tw_6_0 ++ (tw_6_1 ++ (tw_6_2 ++ (tw_6_3 ++ (tw_6_4 ++ (tw_6_5 ++ (tw_6_6 ++ (tw_6_7 ++ (tw_6_8 ++ (tw_6_9))))))))) := rfl
theorem gt_m6 {w : Cond} (hm : w ∈ tables_1_6) (hg : goodWord w = true) : w ∈ gt := by
  refine List.mem_filter.mpr ⟨?_, hg⟩
  unfold lw_tbl tables_1
  simp only [List.mem_append]
  simp only [hm, true_or, or_true]
theorem gt_6_0 {w : Cond} {i : Nat} (h : tw_6_0[i]? = some w) (hg : goodWord w = true) : w ∈ gt := by
  have hm := List.mem_of_getElem? h
  refine gt_m6 ?_ hg
  rw [tp_6]
  simp only [List.mem_append]
  simp only [hm, true_or, or_true]
theorem gt_6_4 {w : Cond} {i : Nat} (h : tw_6_4[i]? = some w) (hg : goodWord w = true) : w ∈ gt := by
  have hm := List.mem_of_getElem? h
  refine gt_m6 ?_ hg
  rw [tp_6]
  simp only [List.mem_append]
  simp only [hm, true_or, or_true]
theorem gt_6_5 {w : Cond} {i : Nat} (h : tw_6_5[i]? = some w) (hg : goodWord w = true) : w ∈ gt := by
  have hm := List.mem_of_getElem? h
  refine gt_m6 ?_ hg
  rw [tp_6]
  simp only [List.mem_append]
  simp only [hm, true_or, or_true]
theorem gt_6_6 {w : Cond} {i : Nat} (h : tw_6_6[i]? = some w) (hg : goodWord w = true) : w ∈ gt := by
  have hm := List.mem_of_getElem? h
  refine gt_m6 ?_ hg
  rw [tp_6]
  simp only [List.mem_append]
  simp only [hm, true_or, or_true]
theorem gt_6_7 {w : Cond} {i : Nat} (h : tw_6_7[i]? = some w) (hg : goodWord w = true) : w ∈ gt := by
  have hm := List.mem_of_getElem? h
  refine gt_m6 ?_ hg
  rw [tp_6]
  simp only [List.mem_append]
  simp only [hm, true_or, or_true]
theorem gt_6_8 {w : Cond} {i : Nat} (h : tw_6_8[i]? = some w) (hg : goodWord w = true) : w ∈ gt := by
  have hm := List.mem_of_getElem? h
  refine gt_m6 ?_ hg
  rw [tp_6]
  simp only [List.mem_append]
  simp only [hm, true_or, or_true]
theorem gt_6_9 {w : Cond} {i : Nat} (h : tw_6_9[i]? = some w) (hg : goodWord w = true) : w ∈ gt := by
  have hm := List.mem_of_getElem? h
  refine gt_m6 ?_ hg
  rw [tp_6]
  simp only [List.mem_append]
  simp only [hm, true_or, or_true]
def tw_7_0 : List Cond := [(Jvm.Cond.code ({ cls := "PondStairModel", name := "isPond", desc := "(I)Z" } : Jvm.MethodName) prog_13_method_34_code (2 : Nat) (Option.some Jvm.ClassFile.FieldType.boolean)), (Jvm.Cond.methodLink "PondStairLaw" (45 : Nat) ({ cls := "PondStairModel", name := "work", desc := "(III)I" } : Jvm.MethodName)), (Jvm.Cond.instanceMethod ({ cls := "PondStairModel", name := "work", desc := "(III)I" } : Jvm.MethodName)), (Jvm.Cond.selects "PondStairModel" ({ cls := "PondStairModel", name := "work", desc := "(III)I" } : Jvm.MethodName) ({ cls := "PondStairModel", name := "work", desc := "(III)I" } : Jvm.MethodName)), (Jvm.Cond.code ({ cls := "PondStairModel", name := "work", desc := "(III)I" } : Jvm.MethodName) prog_13_method_37_code (4 : Nat) (Option.some Jvm.ClassFile.FieldType.int)), (Jvm.Cond.methodLink "PondStairLaw" (49 : Nat) ({ cls := "PondStairModel", name := "plan", desc := "(III)I" } : Jvm.MethodName)), (Jvm.Cond.instanceMethod ({ cls := "PondStairModel", name := "plan", desc := "(III)I" } : Jvm.MethodName)), (Jvm.Cond.selects "PondStairModel" ({ cls := "PondStairModel", name := "plan", desc := "(III)I" } : Jvm.MethodName) ({ cls := "PondStairModel", name := "plan", desc := "(III)I" } : Jvm.MethodName)), (Jvm.Cond.code ({ cls := "PondStairModel", name := "plan", desc := "(III)I" } : Jvm.MethodName) prog_13_method_38_code (4 : Nat) (Option.some Jvm.ClassFile.FieldType.int)), (Jvm.Cond.methodLink "PondStairLaw" (53 : Nat) ({ cls := "PondStairModel", name := "storm", desc := "(IIIII)I" } : Jvm.MethodName)), (Jvm.Cond.instanceMethod ({ cls := "PondStairModel", name := "storm", desc := "(IIIII)I" } : Jvm.MethodName)), (Jvm.Cond.selects "PondStairModel" ({ cls := "PondStairModel", name := "storm", desc := "(IIIII)I" } : Jvm.MethodName) ({ cls := "PondStairModel", name := "storm", desc := "(IIIII)I" } : Jvm.MethodName)), (Jvm.Cond.code ({ cls := "PondStairModel", name := "storm", desc := "(IIIII)I" } : Jvm.MethodName) prog_13_method_45_code (6 : Nat) (Option.some Jvm.ClassFile.FieldType.int)), (Jvm.Cond.methodLink "PondStairModel" (265 : Nat) ({ cls := "PondStairModel", name := "isRain", desc := "(I)Z" } : Jvm.MethodName)), (Jvm.Cond.privateMethod ({ cls := "PondStairModel", name := "isRain", desc := "(I)Z" } : Jvm.MethodName)), (Jvm.Cond.instanceMethod ({ cls := "PondStairModel", name := "isRain", desc := "(I)Z" } : Jvm.MethodName)), (Jvm.Cond.code ({ cls := "PondStairModel", name := "isRain", desc := "(I)Z" } : Jvm.MethodName) prog_13_method_43_code (2 : Nat) (Option.some Jvm.ClassFile.FieldType.boolean)), (Jvm.Cond.methodLink "PondStairModel" (268 : Nat) ({ cls := "PondStairModel", name := "arePonds", desc := "(I)Z" } : Jvm.MethodName)), (Jvm.Cond.privateMethod ({ cls := "PondStairModel", name := "arePonds", desc := "(I)Z" } : Jvm.MethodName)), (Jvm.Cond.instanceMethod ({ cls := "PondStairModel", name := "arePonds", desc := "(I)Z" } : Jvm.MethodName)), (Jvm.Cond.code ({ cls := "PondStairModel", name := "arePonds", desc := "(I)Z" } : Jvm.MethodName) prog_13_method_35_code (2 : Nat) (Option.some Jvm.ClassFile.FieldType.boolean)), (Jvm.Cond.methodLink "PondStairModel" (271 : Nat) ({ cls := "PondStairModel", name := "stepsOf", desc := "(I)I" } : Jvm.MethodName)), (Jvm.Cond.privateMethod ({ cls := "PondStairModel", name := "stepsOf", desc := "(I)I" } : Jvm.MethodName)), (Jvm.Cond.instanceMethod ({ cls := "PondStairModel", name := "stepsOf", desc := "(I)I" } : Jvm.MethodName))]
def tw_7_1 : List Cond := [(Jvm.Cond.code ({ cls := "PondStairModel", name := "stepsOf", desc := "(I)I" } : Jvm.MethodName) prog_13_method_42_code (2 : Nat) (Option.some Jvm.ClassFile.FieldType.int)), (Jvm.Cond.methodLink "PondStairModel" (275 : Nat) ({ cls := "PondStairModel", name := "blow", desc := "(II)V" } : Jvm.MethodName)), (Jvm.Cond.privateMethod ({ cls := "PondStairModel", name := "blow", desc := "(II)V" } : Jvm.MethodName)), (Jvm.Cond.instanceMethod ({ cls := "PondStairModel", name := "blow", desc := "(II)V" } : Jvm.MethodName)), (Jvm.Cond.code ({ cls := "PondStairModel", name := "blow", desc := "(II)V" } : Jvm.MethodName) prog_13_method_40_code (5 : Nat) (Option.none : Option Jvm.ClassFile.FieldType)), (Jvm.Cond.methodLink "PondStairModel" (249 : Nat) ({ cls := "PondStairModel", name := "has", desc := "(II)Z" } : Jvm.MethodName)), (Jvm.Cond.static ({ cls := "PondStairModel", name := "has", desc := "(II)Z" } : Jvm.MethodName)), (Jvm.Cond.code ({ cls := "PondStairModel", name := "has", desc := "(II)Z" } : Jvm.MethodName) prog_13_method_4_code (2 : Nat) (Option.some Jvm.ClassFile.FieldType.boolean)), (Jvm.Cond.methodLink "PondStairModel" (258 : Nat) ({ cls := "PondStairModel", name := "pass", desc := "(IIZ)V" } : Jvm.MethodName)), (Jvm.Cond.privateMethod ({ cls := "PondStairModel", name := "pass", desc := "(IIZ)V" } : Jvm.MethodName)), (Jvm.Cond.instanceMethod ({ cls := "PondStairModel", name := "pass", desc := "(IIZ)V" } : Jvm.MethodName)), (Jvm.Cond.code ({ cls := "PondStairModel", name := "pass", desc := "(IIZ)V" } : Jvm.MethodName) prog_13_method_41_code (7 : Nat) (Option.none : Option Jvm.ClassFile.FieldType)), (Jvm.Cond.methodLink "PondStairModel" (262 : Nat) ({ cls := "PondStairModel", name := "hears", desc := "(I)Z" } : Jvm.MethodName)), (Jvm.Cond.privateMethod ({ cls := "PondStairModel", name := "hears", desc := "(I)Z" } : Jvm.MethodName)), (Jvm.Cond.instanceMethod ({ cls := "PondStairModel", name := "hears", desc := "(I)Z" } : Jvm.MethodName)), (Jvm.Cond.code ({ cls := "PondStairModel", name := "hears", desc := "(I)Z" } : Jvm.MethodName) prog_13_method_39_code (3 : Nat) (Option.some Jvm.ClassFile.FieldType.boolean)), (Jvm.Cond.methodLink "PondStairModel" (278 : Nat) ({ cls := "PondStairModel", name := "told", desc := "(I)I" } : Jvm.MethodName)), (Jvm.Cond.privateMethod ({ cls := "PondStairModel", name := "told", desc := "(I)I" } : Jvm.MethodName)), (Jvm.Cond.instanceMethod ({ cls := "PondStairModel", name := "told", desc := "(I)I" } : Jvm.MethodName)), (Jvm.Cond.code ({ cls := "PondStairModel", name := "told", desc := "(I)I" } : Jvm.MethodName) prog_13_method_46_code (2 : Nat) (Option.some Jvm.ClassFile.FieldType.int)), (Jvm.Cond.methodLink "PondStairModel" (281 : Nat) ({ cls := "PondStairModel", name := "harmOf", desc := "(I)I" } : Jvm.MethodName)), (Jvm.Cond.privateMethod ({ cls := "PondStairModel", name := "harmOf", desc := "(I)I" } : Jvm.MethodName)), (Jvm.Cond.instanceMethod ({ cls := "PondStairModel", name := "harmOf", desc := "(I)I" } : Jvm.MethodName)), (Jvm.Cond.code ({ cls := "PondStairModel", name := "harmOf", desc := "(I)I" } : Jvm.MethodName) prog_13_method_44_code (4 : Nat) (Option.some Jvm.ClassFile.FieldType.int))]
def tw_7_2 : List Cond := [(Jvm.Cond.methodLink "PondStairLaw" (58 : Nat) ({ cls := "PondStairModel", name := "likely", desc := "(III)J" } : Jvm.MethodName)), (Jvm.Cond.instanceMethod ({ cls := "PondStairModel", name := "likely", desc := "(III)J" } : Jvm.MethodName)), (Jvm.Cond.selects "PondStairModel" ({ cls := "PondStairModel", name := "likely", desc := "(III)J" } : Jvm.MethodName) ({ cls := "PondStairModel", name := "likely", desc := "(III)J" } : Jvm.MethodName)), (Jvm.Cond.code ({ cls := "PondStairModel", name := "likely", desc := "(III)J" } : Jvm.MethodName) prog_13_method_50_code (10 : Nat) (Option.some Jvm.ClassFile.FieldType.long)), (Jvm.Cond.constantLong "PondStairModel" (292 : Nat) (-1 : Int64)), (Jvm.Cond.methodLink "PondStairModel" (288 : Nat) ({ cls := "PondStairModel", name := "partsOf", desc := "(II)J" } : Jvm.MethodName)), (Jvm.Cond.privateMethod ({ cls := "PondStairModel", name := "partsOf", desc := "(II)J" } : Jvm.MethodName)), (Jvm.Cond.instanceMethod ({ cls := "PondStairModel", name := "partsOf", desc := "(II)J" } : Jvm.MethodName)), (Jvm.Cond.code ({ cls := "PondStairModel", name := "partsOf", desc := "(II)J" } : Jvm.MethodName) prog_13_method_47_code (6 : Nat) (Option.some Jvm.ClassFile.FieldType.long)), (Jvm.Cond.methodLink "PondStairModel" (294 : Nat) ({ cls := "PondStairModel", name := "allParts", desc := "()J" } : Jvm.MethodName)), (Jvm.Cond.privateMethod ({ cls := "PondStairModel", name := "allParts", desc := "()J" } : Jvm.MethodName)), (Jvm.Cond.instanceMethod ({ cls := "PondStairModel", name := "allParts", desc := "()J" } : Jvm.MethodName)), (Jvm.Cond.code ({ cls := "PondStairModel", name := "allParts", desc := "()J" } : Jvm.MethodName) prog_13_method_48_code (4 : Nat) (Option.some Jvm.ClassFile.FieldType.long)), (Jvm.Cond.constantLong "PondStairModel" (284 : Nat) (100 : Int64)), (Jvm.Cond.constantLong "PondStairModel" (286 : Nat) (10 : Int64)), (Jvm.Cond.methodLink "PondStairLaw" (62 : Nat) ({ cls := "PondStairModel", name := "mean", desc := "(III)J" } : Jvm.MethodName)), (Jvm.Cond.instanceMethod ({ cls := "PondStairModel", name := "mean", desc := "(III)J" } : Jvm.MethodName)), (Jvm.Cond.selects "PondStairModel" ({ cls := "PondStairModel", name := "mean", desc := "(III)J" } : Jvm.MethodName) ({ cls := "PondStairModel", name := "mean", desc := "(III)J" } : Jvm.MethodName)), (Jvm.Cond.code ({ cls := "PondStairModel", name := "mean", desc := "(III)J" } : Jvm.MethodName) prog_13_method_52_code (4 : Nat) (Option.some Jvm.ClassFile.FieldType.long)), (Jvm.Cond.methodLink "PondStairModel" (298 : Nat) ({ cls := "PondStairModel", name := "isOwner", desc := "(I)Z" } : Jvm.MethodName)), (Jvm.Cond.static ({ cls := "PondStairModel", name := "isOwner", desc := "(I)Z" } : Jvm.MethodName)), (Jvm.Cond.code ({ cls := "PondStairModel", name := "isOwner", desc := "(I)Z" } : Jvm.MethodName) prog_13_method_51_code (1 : Nat) (Option.some Jvm.ClassFile.FieldType.boolean)), (Jvm.Cond.methodLink "PondStairModel" (301 : Nat) ({ cls := "PondStairModel", name := "meanBy", desc := "(I)J" } : Jvm.MethodName)), (Jvm.Cond.privateMethod ({ cls := "PondStairModel", name := "meanBy", desc := "(I)J" } : Jvm.MethodName))]
def tw_7_3 : List Cond := [(Jvm.Cond.instanceMethod ({ cls := "PondStairModel", name := "meanBy", desc := "(I)J" } : Jvm.MethodName)), (Jvm.Cond.code ({ cls := "PondStairModel", name := "meanBy", desc := "(I)J" } : Jvm.MethodName) prog_13_method_49_code (8 : Nat) (Option.some Jvm.ClassFile.FieldType.long)), (Jvm.Cond.methodLink "PondStairLaw" (67 : Nat) ({ cls := "PondStairModel", name := "rows", desc := "(IIZ)J" } : Jvm.MethodName)), (Jvm.Cond.instanceMethod ({ cls := "PondStairModel", name := "rows", desc := "(IIZ)J" } : Jvm.MethodName)), (Jvm.Cond.selects "PondStairModel" ({ cls := "PondStairModel", name := "rows", desc := "(IIZ)J" } : Jvm.MethodName) ({ cls := "PondStairModel", name := "rows", desc := "(IIZ)J" } : Jvm.MethodName)), (Jvm.Cond.code ({ cls := "PondStairModel", name := "rows", desc := "(IIZ)J" } : Jvm.MethodName) prog_13_method_53_code (8 : Nat) (Option.some Jvm.ClassFile.FieldType.long)), (Jvm.Cond.methodLink "PondStairLaw" (71 : Nat) ({ cls := "PondStairModel", name := "brings", desc := "(IIII)I" } : Jvm.MethodName)), (Jvm.Cond.instanceMethod ({ cls := "PondStairModel", name := "brings", desc := "(IIII)I" } : Jvm.MethodName)), (Jvm.Cond.selects "PondStairModel" ({ cls := "PondStairModel", name := "brings", desc := "(IIII)I" } : Jvm.MethodName) ({ cls := "PondStairModel", name := "brings", desc := "(IIII)I" } : Jvm.MethodName)), (Jvm.Cond.code ({ cls := "PondStairModel", name := "brings", desc := "(IIII)I" } : Jvm.MethodName) prog_13_method_54_code (7 : Nat) (Option.some Jvm.ClassFile.FieldType.int)), (Jvm.Cond.methodLink "PondStairModel" (305 : Nat) ({ cls := "PondStairModel", name := "ones", desc := "(I)I" } : Jvm.MethodName)), (Jvm.Cond.static ({ cls := "PondStairModel", name := "ones", desc := "(I)I" } : Jvm.MethodName)), (Jvm.Cond.code ({ cls := "PondStairModel", name := "ones", desc := "(I)I" } : Jvm.MethodName) prog_13_method_5_code (3 : Nat) (Option.some Jvm.ClassFile.FieldType.int)), (Jvm.Cond.methodLink "PondStairLaw" (75 : Nat) ({ cls := "PondStairModel", name := "best", desc := "(IIII)I" } : Jvm.MethodName)), (Jvm.Cond.instanceMethod ({ cls := "PondStairModel", name := "best", desc := "(IIII)I" } : Jvm.MethodName)), (Jvm.Cond.selects "PondStairModel" ({ cls := "PondStairModel", name := "best", desc := "(IIII)I" } : Jvm.MethodName) ({ cls := "PondStairModel", name := "best", desc := "(IIII)I" } : Jvm.MethodName)), (Jvm.Cond.code ({ cls := "PondStairModel", name := "best", desc := "(IIII)I" } : Jvm.MethodName) prog_13_method_60_code (11 : Nat) (Option.some Jvm.ClassFile.FieldType.int)), (Jvm.Cond.methodLink "PondStairModel" (314 : Nat) ({ cls := "PondStairModel", name := "canMend", desc := "(IIII)Z" } : Jvm.MethodName)), (Jvm.Cond.privateMethod ({ cls := "PondStairModel", name := "canMend", desc := "(IIII)Z" } : Jvm.MethodName)), (Jvm.Cond.instanceMethod ({ cls := "PondStairModel", name := "canMend", desc := "(IIII)Z" } : Jvm.MethodName)), (Jvm.Cond.code ({ cls := "PondStairModel", name := "canMend", desc := "(IIII)Z" } : Jvm.MethodName) prog_13_method_59_code (5 : Nat) (Option.some Jvm.ClassFile.FieldType.boolean)), (Jvm.Cond.methodLink "PondStairModel" (311 : Nat) ({ cls := "PondStairModel", name := "keepChances", desc := "()V" } : Jvm.MethodName)), (Jvm.Cond.privateMethod ({ cls := "PondStairModel", name := "keepChances", desc := "()V" } : Jvm.MethodName)), (Jvm.Cond.instanceMethod ({ cls := "PondStairModel", name := "keepChances", desc := "()V" } : Jvm.MethodName))]
def tw_7_4 : List Cond := [(Jvm.Cond.code ({ cls := "PondStairModel", name := "keepChances", desc := "()V" } : Jvm.MethodName) prog_13_method_55_code (2 : Nat) (Option.none : Option Jvm.ClassFile.FieldType)), (Jvm.Cond.methodLink "PondStairModel" (318 : Nat) ({ cls := "PondStairModel", name := "costOf", desc := "(I)I" } : Jvm.MethodName)), (Jvm.Cond.privateMethod ({ cls := "PondStairModel", name := "costOf", desc := "(I)I" } : Jvm.MethodName)), (Jvm.Cond.instanceMethod ({ cls := "PondStairModel", name := "costOf", desc := "(I)I" } : Jvm.MethodName)), (Jvm.Cond.code ({ cls := "PondStairModel", name := "costOf", desc := "(I)I" } : Jvm.MethodName) prog_13_method_58_code (4 : Nat) (Option.some Jvm.ClassFile.FieldType.int)), (Jvm.Cond.methodLink "PondStairModel" (321 : Nat) ({ cls := "PondStairModel", name := "meanMended", desc := "(II)J" } : Jvm.MethodName)), (Jvm.Cond.privateMethod ({ cls := "PondStairModel", name := "meanMended", desc := "(II)J" } : Jvm.MethodName)), (Jvm.Cond.instanceMethod ({ cls := "PondStairModel", name := "meanMended", desc := "(II)J" } : Jvm.MethodName)), (Jvm.Cond.code ({ cls := "PondStairModel", name := "meanMended", desc := "(II)J" } : Jvm.MethodName) prog_13_method_57_code (5 : Nat) (Option.some Jvm.ClassFile.FieldType.long)), (Jvm.Cond.methodLink "PondStairModel" (308 : Nat) ({ cls := "PondStairModel", name := "mendAll", desc := "(I)V" } : Jvm.MethodName)), (Jvm.Cond.privateMethod ({ cls := "PondStairModel", name := "mendAll", desc := "(I)V" } : Jvm.MethodName)), (Jvm.Cond.instanceMethod ({ cls := "PondStairModel", name := "mendAll", desc := "(I)V" } : Jvm.MethodName)), (Jvm.Cond.code ({ cls := "PondStairModel", name := "mendAll", desc := "(I)V" } : Jvm.MethodName) prog_13_method_56_code (3 : Nat) (Option.none : Option Jvm.ClassFile.FieldType)), (Jvm.Cond.methodLink "PondStairLaw" (79 : Nat) ({ cls := "PondStairModel", name := "steps", desc := "(IIII)I" } : Jvm.MethodName)), (Jvm.Cond.instanceMethod ({ cls := "PondStairModel", name := "steps", desc := "(IIII)I" } : Jvm.MethodName)), (Jvm.Cond.selects "PondStairModel" ({ cls := "PondStairModel", name := "steps", desc := "(IIII)I" } : Jvm.MethodName) ({ cls := "PondStairModel", name := "steps", desc := "(IIII)I" } : Jvm.MethodName)), (Jvm.Cond.code ({ cls := "PondStairModel", name := "steps", desc := "(IIII)I" } : Jvm.MethodName) prog_13_method_61_code (8 : Nat) (Option.some Jvm.ClassFile.FieldType.int)), (Jvm.Cond.methodLink "PondStairModel" (324 : Nat) ({ cls := "PondStairModel", name := "nextOf", desc := "(III)I" } : Jvm.MethodName)), (Jvm.Cond.privateMethod ({ cls := "PondStairModel", name := "nextOf", desc := "(III)I" } : Jvm.MethodName)), (Jvm.Cond.instanceMethod ({ cls := "PondStairModel", name := "nextOf", desc := "(III)I" } : Jvm.MethodName)), (Jvm.Cond.code ({ cls := "PondStairModel", name := "nextOf", desc := "(III)I" } : Jvm.MethodName) prog_13_method_62_code (14 : Nat) (Option.some Jvm.ClassFile.FieldType.int)), (Jvm.Cond.methodLink "PondStairModel" (328 : Nat) ({ cls := "PondStairModel", name := "isSooner", desc := "(JIJI)Z" } : Jvm.MethodName)), (Jvm.Cond.static ({ cls := "PondStairModel", name := "isSooner", desc := "(JIJI)Z" } : Jvm.MethodName)), (Jvm.Cond.code ({ cls := "PondStairModel", name := "isSooner", desc := "(JIJI)Z" } : Jvm.MethodName) prog_13_method_63_code (6 : Nat) (Option.some Jvm.ClassFile.FieldType.boolean))]
def tw_7_5 : List Cond := [(Jvm.Cond.methodLink "PondStairLaw" (83 : Nat) ({ cls := "PondStairModel", name := "mended", desc := "(III)J" } : Jvm.MethodName)), (Jvm.Cond.instanceMethod ({ cls := "PondStairModel", name := "mended", desc := "(III)J" } : Jvm.MethodName)), (Jvm.Cond.selects "PondStairModel" ({ cls := "PondStairModel", name := "mended", desc := "(III)J" } : Jvm.MethodName) ({ cls := "PondStairModel", name := "mended", desc := "(III)J" } : Jvm.MethodName)), (Jvm.Cond.code ({ cls := "PondStairModel", name := "mended", desc := "(III)J" } : Jvm.MethodName) prog_13_method_64_code (4 : Nat) (Option.some Jvm.ClassFile.FieldType.long)), (Jvm.Cond.methodLink "PondStairLaw" (87 : Nat) ({ cls := "PondStairModel", name := "one", desc := "(IIZ)J" } : Jvm.MethodName)), (Jvm.Cond.instanceMethod ({ cls := "PondStairModel", name := "one", desc := "(IIZ)J" } : Jvm.MethodName)), (Jvm.Cond.selects "PondStairModel" ({ cls := "PondStairModel", name := "one", desc := "(IIZ)J" } : Jvm.MethodName) ({ cls := "PondStairModel", name := "one", desc := "(IIZ)J" } : Jvm.MethodName)), (Jvm.Cond.code ({ cls := "PondStairModel", name := "one", desc := "(IIZ)J" } : Jvm.MethodName) prog_13_method_65_code (10 : Nat) (Option.some Jvm.ClassFile.FieldType.long)), (Jvm.Cond.methodLink "PondStairLaw" (91 : Nat) ({ cls := "PondStairModel", name := "low", desc := "(III)I" } : Jvm.MethodName)), (Jvm.Cond.instanceMethod ({ cls := "PondStairModel", name := "low", desc := "(III)I" } : Jvm.MethodName)), (Jvm.Cond.selects "PondStairModel" ({ cls := "PondStairModel", name := "low", desc := "(III)I" } : Jvm.MethodName) ({ cls := "PondStairModel", name := "low", desc := "(III)I" } : Jvm.MethodName)), (Jvm.Cond.code ({ cls := "PondStairModel", name := "low", desc := "(III)I" } : Jvm.MethodName) prog_13_method_66_code (11 : Nat) (Option.some Jvm.ClassFile.FieldType.int)), (Jvm.Cond.methodLink "PondStairLaw" (96 : Nat) ({ cls := "PondStairModel", name := "helps", desc := "(IIII)J" } : Jvm.MethodName)), (Jvm.Cond.instanceMethod ({ cls := "PondStairModel", name := "helps", desc := "(IIII)J" } : Jvm.MethodName)), (Jvm.Cond.selects "PondStairModel" ({ cls := "PondStairModel", name := "helps", desc := "(IIII)J" } : Jvm.MethodName) ({ cls := "PondStairModel", name := "helps", desc := "(IIII)J" } : Jvm.MethodName)), (Jvm.Cond.code ({ cls := "PondStairModel", name := "helps", desc := "(IIII)J" } : Jvm.MethodName) prog_13_method_68_code (5 : Nat) (Option.some Jvm.ClassFile.FieldType.long)), (Jvm.Cond.methodLink "PondStairModel" (332 : Nat) ({ cls := "PondStairModel", name := "pondsOf", desc := "(I)I" } : Jvm.MethodName)), (Jvm.Cond.privateMethod ({ cls := "PondStairModel", name := "pondsOf", desc := "(I)I" } : Jvm.MethodName)), (Jvm.Cond.instanceMethod ({ cls := "PondStairModel", name := "pondsOf", desc := "(I)I" } : Jvm.MethodName)), (Jvm.Cond.code ({ cls := "PondStairModel", name := "pondsOf", desc := "(I)I" } : Jvm.MethodName) prog_13_method_67_code (4 : Nat) (Option.some Jvm.ClassFile.FieldType.int)), (Jvm.Cond.methodLink "PondStairLaw" (100 : Nat) ({ cls := "PondStairModel", name := "alone", desc := "(III)J" } : Jvm.MethodName)), (Jvm.Cond.instanceMethod ({ cls := "PondStairModel", name := "alone", desc := "(III)J" } : Jvm.MethodName)), (Jvm.Cond.selects "PondStairModel" ({ cls := "PondStairModel", name := "alone", desc := "(III)J" } : Jvm.MethodName) ({ cls := "PondStairModel", name := "alone", desc := "(III)J" } : Jvm.MethodName)), (Jvm.Cond.code ({ cls := "PondStairModel", name := "alone", desc := "(III)J" } : Jvm.MethodName) prog_13_method_69_code (4 : Nat) (Option.some Jvm.ClassFile.FieldType.long))]
def tw_7_6 : List Cond := [(Jvm.Cond.methodLink "PondStairLaw" (104 : Nat) ({ cls := "PondStairModel", name := "hear", desc := "(IIII)J" } : Jvm.MethodName)), (Jvm.Cond.instanceMethod ({ cls := "PondStairModel", name := "hear", desc := "(IIII)J" } : Jvm.MethodName)), (Jvm.Cond.selects "PondStairModel" ({ cls := "PondStairModel", name := "hear", desc := "(IIII)J" } : Jvm.MethodName) ({ cls := "PondStairModel", name := "hear", desc := "(IIII)J" } : Jvm.MethodName)), (Jvm.Cond.code ({ cls := "PondStairModel", name := "hear", desc := "(IIII)J" } : Jvm.MethodName) prog_13_method_70_code (7 : Nat) (Option.some Jvm.ClassFile.FieldType.long)), (Jvm.Cond.constantLong "PondStairModel" (335 : Nat) (-9223372036854775808 : Int64)), (Jvm.Cond.methodLink "PondStairLaw" (109 : Nat) ({ cls := "PondStairModel", name := "may", desc := "(IIIZ)J" } : Jvm.MethodName)), (Jvm.Cond.instanceMethod ({ cls := "PondStairModel", name := "may", desc := "(IIIZ)J" } : Jvm.MethodName)), (Jvm.Cond.selects "PondStairModel" ({ cls := "PondStairModel", name := "may", desc := "(IIIZ)J" } : Jvm.MethodName) ({ cls := "PondStairModel", name := "may", desc := "(IIIZ)J" } : Jvm.MethodName)), (Jvm.Cond.code ({ cls := "PondStairModel", name := "may", desc := "(IIIZ)J" } : Jvm.MethodName) prog_13_method_74_code (7 : Nat) (Option.some Jvm.ClassFile.FieldType.long)), (Jvm.Cond.methodLink "PondStairModel" (346 : Nat) ({ cls := "PondStairModel", name := "isFilled", desc := "(III)Z" } : Jvm.MethodName)), (Jvm.Cond.privateMethod ({ cls := "PondStairModel", name := "isFilled", desc := "(III)Z" } : Jvm.MethodName)), (Jvm.Cond.instanceMethod ({ cls := "PondStairModel", name := "isFilled", desc := "(III)Z" } : Jvm.MethodName)), (Jvm.Cond.code ({ cls := "PondStairModel", name := "isFilled", desc := "(III)Z" } : Jvm.MethodName) prog_13_method_73_code (4 : Nat) (Option.some Jvm.ClassFile.FieldType.boolean)), (Jvm.Cond.methodLink "PondStairModel" (349 : Nat) ({ cls := "PondStairModel", name := "findOrder", desc := "(I)V" } : Jvm.MethodName)), (Jvm.Cond.privateMethod ({ cls := "PondStairModel", name := "findOrder", desc := "(I)V" } : Jvm.MethodName)), (Jvm.Cond.instanceMethod ({ cls := "PondStairModel", name := "findOrder", desc := "(I)V" } : Jvm.MethodName)), (Jvm.Cond.code ({ cls := "PondStairModel", name := "findOrder", desc := "(I)V" } : Jvm.MethodName) prog_13_method_72_code (9 : Nat) (Option.none : Option Jvm.ClassFile.FieldType)), (Jvm.Cond.methodLink "PondStairModel" (340 : Nat) ({ cls := "PondStairModel", name := "fillAll", desc := "(I)J" } : Jvm.MethodName)), (Jvm.Cond.privateMethod ({ cls := "PondStairModel", name := "fillAll", desc := "(I)J" } : Jvm.MethodName)), (Jvm.Cond.instanceMethod ({ cls := "PondStairModel", name := "fillAll", desc := "(I)J" } : Jvm.MethodName)), (Jvm.Cond.code ({ cls := "PondStairModel", name := "fillAll", desc := "(I)J" } : Jvm.MethodName) prog_13_method_71_code (5 : Nat) (Option.some Jvm.ClassFile.FieldType.long)), (Jvm.Cond.methodLink "PondStairLaw" (113 : Nat) ({ cls := "PondStairModel", name := "order", desc := "(IIII)I" } : Jvm.MethodName)), (Jvm.Cond.instanceMethod ({ cls := "PondStairModel", name := "order", desc := "(IIII)I" } : Jvm.MethodName)), (Jvm.Cond.selects "PondStairModel" ({ cls := "PondStairModel", name := "order", desc := "(IIII)I" } : Jvm.MethodName) ({ cls := "PondStairModel", name := "order", desc := "(IIII)I" } : Jvm.MethodName))]
def tw_7_7 : List Cond := [(Jvm.Cond.code ({ cls := "PondStairModel", name := "order", desc := "(IIII)I" } : Jvm.MethodName) prog_13_method_75_code (5 : Nat) (Option.some Jvm.ClassFile.FieldType.int)), (Jvm.Cond.methodLink "PondStairLaw" (118 : Nat) ({ cls := "PondStairModel", name := "think", desc := "(IIIZ)I" } : Jvm.MethodName)), (Jvm.Cond.instanceMethod ({ cls := "PondStairModel", name := "think", desc := "(IIIZ)I" } : Jvm.MethodName)), (Jvm.Cond.selects "PondStairModel" ({ cls := "PondStairModel", name := "think", desc := "(IIIZ)I" } : Jvm.MethodName) ({ cls := "PondStairModel", name := "think", desc := "(IIIZ)I" } : Jvm.MethodName)), (Jvm.Cond.code ({ cls := "PondStairModel", name := "think", desc := "(IIIZ)I" } : Jvm.MethodName) prog_13_method_79_code (7 : Nat) (Option.some Jvm.ClassFile.FieldType.int)), (Jvm.Cond.methodLink "PondStairModel" (352 : Nat) ({ cls := "PondStairModel", name := "seenBy", desc := "(I)I" } : Jvm.MethodName)), (Jvm.Cond.privateMethod ({ cls := "PondStairModel", name := "seenBy", desc := "(I)I" } : Jvm.MethodName)), (Jvm.Cond.instanceMethod ({ cls := "PondStairModel", name := "seenBy", desc := "(I)I" } : Jvm.MethodName)), (Jvm.Cond.code ({ cls := "PondStairModel", name := "seenBy", desc := "(I)I" } : Jvm.MethodName) prog_13_method_76_code (2 : Nat) (Option.some Jvm.ClassFile.FieldType.int)), (Jvm.Cond.methodLink "PondStairModel" (355 : Nat) ({ cls := "PondStairModel", name := "seenAll", desc := "(I)I" } : Jvm.MethodName)), (Jvm.Cond.privateMethod ({ cls := "PondStairModel", name := "seenAll", desc := "(I)I" } : Jvm.MethodName)), (Jvm.Cond.instanceMethod ({ cls := "PondStairModel", name := "seenAll", desc := "(I)I" } : Jvm.MethodName)), (Jvm.Cond.code ({ cls := "PondStairModel", name := "seenAll", desc := "(I)I" } : Jvm.MethodName) prog_13_method_77_code (2 : Nat) (Option.some Jvm.ClassFile.FieldType.int)), (Jvm.Cond.methodLink "PondStairModel" (358 : Nat) ({ cls := "PondStairModel", name := "common", desc := "(II)I" } : Jvm.MethodName)), (Jvm.Cond.static ({ cls := "PondStairModel", name := "common", desc := "(II)I" } : Jvm.MethodName)), (Jvm.Cond.code ({ cls := "PondStairModel", name := "common", desc := "(II)I" } : Jvm.MethodName) prog_13_method_78_code (5 : Nat) (Option.some Jvm.ClassFile.FieldType.int)), (Jvm.Cond.methodLink "PondStairLaw" (122 : Nat) ({ cls := "PondStairModel", name := "now", desc := "(II)I" } : Jvm.MethodName)), (Jvm.Cond.instanceMethod ({ cls := "PondStairModel", name := "now", desc := "(II)I" } : Jvm.MethodName)), (Jvm.Cond.selects "PondStairModel" ({ cls := "PondStairModel", name := "now", desc := "(II)I" } : Jvm.MethodName) ({ cls := "PondStairModel", name := "now", desc := "(II)I" } : Jvm.MethodName)), (Jvm.Cond.code ({ cls := "PondStairModel", name := "now", desc := "(II)I" } : Jvm.MethodName) prog_13_method_80_code (11 : Nat) (Option.some Jvm.ClassFile.FieldType.int)), (Jvm.Cond.methodLink "PondStairLaw" (127 : Nat) ({ cls := "PondStairModel", name := "years", desc := "(IIIII)J" } : Jvm.MethodName)), (Jvm.Cond.instanceMethod ({ cls := "PondStairModel", name := "years", desc := "(IIIII)J" } : Jvm.MethodName)), (Jvm.Cond.selects "PondStairModel" ({ cls := "PondStairModel", name := "years", desc := "(IIIII)J" } : Jvm.MethodName) ({ cls := "PondStairModel", name := "years", desc := "(IIIII)J" } : Jvm.MethodName)), (Jvm.Cond.code ({ cls := "PondStairModel", name := "years", desc := "(IIIII)J" } : Jvm.MethodName) prog_13_method_83_code (12 : Nat) (Option.some Jvm.ClassFile.FieldType.long))]
def tw_7_8 : List Cond := [(Jvm.Cond.methodLink "PondStairModel" (368 : Nat) ({ cls := "PondStairModel", name := "year", desc := "()V" } : Jvm.MethodName)), (Jvm.Cond.privateMethod ({ cls := "PondStairModel", name := "year", desc := "()V" } : Jvm.MethodName)), (Jvm.Cond.instanceMethod ({ cls := "PondStairModel", name := "year", desc := "()V" } : Jvm.MethodName)), (Jvm.Cond.code ({ cls := "PondStairModel", name := "year", desc := "()V" } : Jvm.MethodName) prog_13_method_82_code (5 : Nat) (Option.none : Option Jvm.ClassFile.FieldType)), (Jvm.Cond.methodLink "PondStairModel" (365 : Nat) ({ cls := "PondStairModel", name := "draw", desc := "(I)I" } : Jvm.MethodName)), (Jvm.Cond.privateMethod ({ cls := "PondStairModel", name := "draw", desc := "(I)I" } : Jvm.MethodName)), (Jvm.Cond.instanceMethod ({ cls := "PondStairModel", name := "draw", desc := "(I)I" } : Jvm.MethodName)), (Jvm.Cond.code ({ cls := "PondStairModel", name := "draw", desc := "(I)I" } : Jvm.MethodName) prog_13_method_81_code (2 : Nat) (Option.some Jvm.ClassFile.FieldType.int)), (Jvm.Cond.constant "PondStairModel" (364 : Nat) (1103515245 : Int32)), (Jvm.Cond.methodLink "PondStairLaw" (131 : Nat) ({ cls := "PondStairModel", name := "spared", desc := "(III)I" } : Jvm.MethodName)), (Jvm.Cond.instanceMethod ({ cls := "PondStairModel", name := "spared", desc := "(III)I" } : Jvm.MethodName)), (Jvm.Cond.selects "PondStairModel" ({ cls := "PondStairModel", name := "spared", desc := "(III)I" } : Jvm.MethodName) ({ cls := "PondStairModel", name := "spared", desc := "(III)I" } : Jvm.MethodName)), (Jvm.Cond.code ({ cls := "PondStairModel", name := "spared", desc := "(III)I" } : Jvm.MethodName) prog_13_method_84_code (6 : Nat) (Option.some Jvm.ClassFile.FieldType.int)), (Jvm.Cond.methodLink "PondStairLaw" (135 : Nat) ({ cls := "PondStairModel", name := "deep", desc := "(II)I" } : Jvm.MethodName)), (Jvm.Cond.instanceMethod ({ cls := "PondStairModel", name := "deep", desc := "(II)I" } : Jvm.MethodName)), (Jvm.Cond.selects "PondStairModel" ({ cls := "PondStairModel", name := "deep", desc := "(II)I" } : Jvm.MethodName) ({ cls := "PondStairModel", name := "deep", desc := "(II)I" } : Jvm.MethodName)), (Jvm.Cond.code ({ cls := "PondStairModel", name := "deep", desc := "(II)I" } : Jvm.MethodName) prog_13_method_85_code (7 : Nat) (Option.some Jvm.ClassFile.FieldType.int)), (Jvm.Cond.methodLink "PondStairLaw" (139 : Nat) ({ cls := "PondStairModel", name := "safe", desc := "(II)I" } : Jvm.MethodName)), (Jvm.Cond.instanceMethod ({ cls := "PondStairModel", name := "safe", desc := "(II)I" } : Jvm.MethodName)), (Jvm.Cond.selects "PondStairModel" ({ cls := "PondStairModel", name := "safe", desc := "(II)I" } : Jvm.MethodName) ({ cls := "PondStairModel", name := "safe", desc := "(II)I" } : Jvm.MethodName)), (Jvm.Cond.code ({ cls := "PondStairModel", name := "safe", desc := "(II)I" } : Jvm.MethodName) prog_13_method_86_code (5 : Nat) (Option.some Jvm.ClassFile.FieldType.int)), (Jvm.Cond.methodLink "PondStairLaw" (143 : Nat) ({ cls := "PondStairModel", name := "weighs", desc := "(II)I" } : Jvm.MethodName)), (Jvm.Cond.instanceMethod ({ cls := "PondStairModel", name := "weighs", desc := "(II)I" } : Jvm.MethodName)), (Jvm.Cond.selects "PondStairModel" ({ cls := "PondStairModel", name := "weighs", desc := "(II)I" } : Jvm.MethodName) ({ cls := "PondStairModel", name := "weighs", desc := "(II)I" } : Jvm.MethodName))]
def tw_7_9 : List Cond := [(Jvm.Cond.code ({ cls := "PondStairModel", name := "weighs", desc := "(II)I" } : Jvm.MethodName) prog_13_method_87_code (12 : Nat) (Option.some Jvm.ClassFile.FieldType.int)), (Jvm.Cond.methodLink "PondStairLaw" (147 : Nat) ({ cls := "PondStairModel", name := "upon", desc := "(IIIZ)I" } : Jvm.MethodName)), (Jvm.Cond.instanceMethod ({ cls := "PondStairModel", name := "upon", desc := "(IIIZ)I" } : Jvm.MethodName)), (Jvm.Cond.selects "PondStairModel" ({ cls := "PondStairModel", name := "upon", desc := "(IIIZ)I" } : Jvm.MethodName) ({ cls := "PondStairModel", name := "upon", desc := "(IIIZ)I" } : Jvm.MethodName)), (Jvm.Cond.code ({ cls := "PondStairModel", name := "upon", desc := "(IIIZ)I" } : Jvm.MethodName) prog_13_method_89_code (9 : Nat) (Option.some Jvm.ClassFile.FieldType.int)), (Jvm.Cond.methodLink "PondStairModel" (371 : Nat) ({ cls := "PondStairModel", name := "leads", desc := "(II)Z" } : Jvm.MethodName)), (Jvm.Cond.privateMethod ({ cls := "PondStairModel", name := "leads", desc := "(II)Z" } : Jvm.MethodName)), (Jvm.Cond.instanceMethod ({ cls := "PondStairModel", name := "leads", desc := "(II)Z" } : Jvm.MethodName)), (Jvm.Cond.code ({ cls := "PondStairModel", name := "leads", desc := "(II)Z" } : Jvm.MethodName) prog_13_method_88_code (3 : Nat) (Option.some Jvm.ClassFile.FieldType.boolean)), (Jvm.Cond.methodLink "PondStairLaw" (151 : Nat) ({ cls := "PondStairModel", name := "runs", desc := "(III)I" } : Jvm.MethodName)), (Jvm.Cond.instanceMethod ({ cls := "PondStairModel", name := "runs", desc := "(III)I" } : Jvm.MethodName)), (Jvm.Cond.selects "PondStairModel" ({ cls := "PondStairModel", name := "runs", desc := "(III)I" } : Jvm.MethodName) ({ cls := "PondStairModel", name := "runs", desc := "(III)I" } : Jvm.MethodName)), (Jvm.Cond.code ({ cls := "PondStairModel", name := "runs", desc := "(III)I" } : Jvm.MethodName) prog_13_method_90_code (5 : Nat) (Option.some Jvm.ClassFile.FieldType.int)), (Jvm.Cond.methodLink "PondStairLaw" (155 : Nat) ({ cls := "PondStairModel", name := "joint", desc := "(IIII)J" } : Jvm.MethodName)), (Jvm.Cond.instanceMethod ({ cls := "PondStairModel", name := "joint", desc := "(IIII)J" } : Jvm.MethodName)), (Jvm.Cond.selects "PondStairModel" ({ cls := "PondStairModel", name := "joint", desc := "(IIII)J" } : Jvm.MethodName) ({ cls := "PondStairModel", name := "joint", desc := "(IIII)J" } : Jvm.MethodName)), (Jvm.Cond.code ({ cls := "PondStairModel", name := "joint", desc := "(IIII)J" } : Jvm.MethodName) prog_13_method_92_code (5 : Nat) (Option.some Jvm.ClassFile.FieldType.long)), (Jvm.Cond.methodLink "PondStairModel" (374 : Nat) ({ cls := "PondStairModel", name := "together", desc := "(I)J" } : Jvm.MethodName)), (Jvm.Cond.privateMethod ({ cls := "PondStairModel", name := "together", desc := "(I)J" } : Jvm.MethodName)), (Jvm.Cond.instanceMethod ({ cls := "PondStairModel", name := "together", desc := "(I)J" } : Jvm.MethodName)), (Jvm.Cond.code ({ cls := "PondStairModel", name := "together", desc := "(I)J" } : Jvm.MethodName) prog_13_method_91_code (8 : Nat) (Option.some Jvm.ClassFile.FieldType.long)), (Jvm.Cond.methodLink "PondStairLaw" (160 : Nat) ({ cls := "PondStairModel", name := "given", desc := "(IIIIZ)J" } : Jvm.MethodName)), (Jvm.Cond.instanceMethod ({ cls := "PondStairModel", name := "given", desc := "(IIIIZ)J" } : Jvm.MethodName)), (Jvm.Cond.selects "PondStairModel" ({ cls := "PondStairModel", name := "given", desc := "(IIIIZ)J" } : Jvm.MethodName) ({ cls := "PondStairModel", name := "given", desc := "(IIIIZ)J" } : Jvm.MethodName))]
set_option maxRecDepth 100000 in
theorem tp_7 : tables_1_7 = tw_7_0 ++ (tw_7_1 ++ (tw_7_2 ++ (tw_7_3 ++ (tw_7_4 ++ (tw_7_5 ++ (tw_7_6 ++ (tw_7_7 ++ (tw_7_8 ++ (tw_7_9))))))))) := rfl
theorem gt_m7 {w : Cond} (hm : w ∈ tables_1_7) (hg : goodWord w = true) : w ∈ gt := by
  refine List.mem_filter.mpr ⟨?_, hg⟩
  unfold lw_tbl tables_1
  simp only [List.mem_append]
  simp only [hm, true_or, or_true]
theorem gt_7_0 {w : Cond} {i : Nat} (h : tw_7_0[i]? = some w) (hg : goodWord w = true) : w ∈ gt := by
  have hm := List.mem_of_getElem? h
  refine gt_m7 ?_ hg
  rw [tp_7]
  simp only [List.mem_append]
  simp only [hm, true_or, or_true]
theorem gt_7_1 {w : Cond} {i : Nat} (h : tw_7_1[i]? = some w) (hg : goodWord w = true) : w ∈ gt := by
  have hm := List.mem_of_getElem? h
  refine gt_m7 ?_ hg
  rw [tp_7]
  simp only [List.mem_append]
  simp only [hm, true_or, or_true]
theorem gt_7_2 {w : Cond} {i : Nat} (h : tw_7_2[i]? = some w) (hg : goodWord w = true) : w ∈ gt := by
  have hm := List.mem_of_getElem? h
  refine gt_m7 ?_ hg
  rw [tp_7]
  simp only [List.mem_append]
  simp only [hm, true_or, or_true]
theorem gt_7_3 {w : Cond} {i : Nat} (h : tw_7_3[i]? = some w) (hg : goodWord w = true) : w ∈ gt := by
  have hm := List.mem_of_getElem? h
  refine gt_m7 ?_ hg
  rw [tp_7]
  simp only [List.mem_append]
  simp only [hm, true_or, or_true]
theorem gt_7_4 {w : Cond} {i : Nat} (h : tw_7_4[i]? = some w) (hg : goodWord w = true) : w ∈ gt := by
  have hm := List.mem_of_getElem? h
  refine gt_m7 ?_ hg
  rw [tp_7]
  simp only [List.mem_append]
  simp only [hm, true_or, or_true]
theorem gt_7_5 {w : Cond} {i : Nat} (h : tw_7_5[i]? = some w) (hg : goodWord w = true) : w ∈ gt := by
  have hm := List.mem_of_getElem? h
  refine gt_m7 ?_ hg
  rw [tp_7]
  simp only [List.mem_append]
  simp only [hm, true_or, or_true]
theorem gt_7_6 {w : Cond} {i : Nat} (h : tw_7_6[i]? = some w) (hg : goodWord w = true) : w ∈ gt := by
  have hm := List.mem_of_getElem? h
  refine gt_m7 ?_ hg
  rw [tp_7]
  simp only [List.mem_append]
  simp only [hm, true_or, or_true]
theorem gt_7_7 {w : Cond} {i : Nat} (h : tw_7_7[i]? = some w) (hg : goodWord w = true) : w ∈ gt := by
  have hm := List.mem_of_getElem? h
  refine gt_m7 ?_ hg
  rw [tp_7]
  simp only [List.mem_append]
  simp only [hm, true_or, or_true]
theorem gt_7_8 {w : Cond} {i : Nat} (h : tw_7_8[i]? = some w) (hg : goodWord w = true) : w ∈ gt := by
  have hm := List.mem_of_getElem? h
  refine gt_m7 ?_ hg
  rw [tp_7]
  simp only [List.mem_append]
  simp only [hm, true_or, or_true]
theorem gt_7_9 {w : Cond} {i : Nat} (h : tw_7_9[i]? = some w) (hg : goodWord w = true) : w ∈ gt := by
  have hm := List.mem_of_getElem? h
  refine gt_m7 ?_ hg
  rw [tp_7]
  simp only [List.mem_append]
  simp only [hm, true_or, or_true]
def tw_8_0 : List Cond := [(Jvm.Cond.code ({ cls := "PondStairModel", name := "given", desc := "(IIIIZ)J" } : Jvm.MethodName) prog_13_method_94_code (10 : Nat) (Option.some Jvm.ClassFile.FieldType.long)), (Jvm.Cond.methodLink "PondStairModel" (377 : Nat) ({ cls := "PondStairModel", name := "commonOf", desc := "(JJ)J" } : Jvm.MethodName)), (Jvm.Cond.static ({ cls := "PondStairModel", name := "commonOf", desc := "(JJ)J" } : Jvm.MethodName)), (Jvm.Cond.code ({ cls := "PondStairModel", name := "commonOf", desc := "(JJ)J" } : Jvm.MethodName) prog_13_method_93_code (10 : Nat) (Option.some Jvm.ClassFile.FieldType.long)), (Jvm.Cond.methodLink "PondStairLaw" (164 : Nat) ({ cls := "PondStairModel", name := "worst", desc := "(III)J" } : Jvm.MethodName)), (Jvm.Cond.instanceMethod ({ cls := "PondStairModel", name := "worst", desc := "(III)J" } : Jvm.MethodName)), (Jvm.Cond.selects "PondStairModel" ({ cls := "PondStairModel", name := "worst", desc := "(III)J" } : Jvm.MethodName) ({ cls := "PondStairModel", name := "worst", desc := "(III)J" } : Jvm.MethodName)), (Jvm.Cond.code ({ cls := "PondStairModel", name := "worst", desc := "(III)J" } : Jvm.MethodName) prog_13_method_95_code (9 : Nat) (Option.some Jvm.ClassFile.FieldType.long)), (Jvm.Cond.methodLink "PondStairLaw" (168 : Nat) ({ cls := "PondStairModel", name := "flood", desc := "(II)I" } : Jvm.MethodName)), (Jvm.Cond.instanceMethod ({ cls := "PondStairModel", name := "flood", desc := "(II)I" } : Jvm.MethodName)), (Jvm.Cond.selects "PondStairModel" ({ cls := "PondStairModel", name := "flood", desc := "(II)I" } : Jvm.MethodName) ({ cls := "PondStairModel", name := "flood", desc := "(II)I" } : Jvm.MethodName)), (Jvm.Cond.code ({ cls := "PondStairModel", name := "flood", desc := "(II)I" } : Jvm.MethodName) prog_13_method_96_code (6 : Nat) (Option.some Jvm.ClassFile.FieldType.int)), (Jvm.Cond.methodLink "PondStairLaw" (173 : Nat) ({ cls := "PondStairModel", name := "around", desc := "(IIZ)I" } : Jvm.MethodName)), (Jvm.Cond.instanceMethod ({ cls := "PondStairModel", name := "around", desc := "(IIZ)I" } : Jvm.MethodName)), (Jvm.Cond.selects "PondStairModel" ({ cls := "PondStairModel", name := "around", desc := "(IIZ)I" } : Jvm.MethodName) ({ cls := "PondStairModel", name := "around", desc := "(IIZ)I" } : Jvm.MethodName)), (Jvm.Cond.code ({ cls := "PondStairModel", name := "around", desc := "(IIZ)I" } : Jvm.MethodName) prog_13_method_97_code (13 : Nat) (Option.some Jvm.ClassFile.FieldType.int)), (Jvm.Cond.methodLink "PondStairLaw" (178 : Nat) ({ cls := "PondStairModel", name := "twice", desc := "(IIIIIII)I" } : Jvm.MethodName)), (Jvm.Cond.instanceMethod ({ cls := "PondStairModel", name := "twice", desc := "(IIIIIII)I" } : Jvm.MethodName)), (Jvm.Cond.selects "PondStairModel" ({ cls := "PondStairModel", name := "twice", desc := "(IIIIIII)I" } : Jvm.MethodName) ({ cls := "PondStairModel", name := "twice", desc := "(IIIIIII)I" } : Jvm.MethodName)), (Jvm.Cond.code ({ cls := "PondStairModel", name := "twice", desc := "(IIIIIII)I" } : Jvm.MethodName) prog_13_method_98_code (9 : Nat) (Option.some Jvm.ClassFile.FieldType.int)), (Jvm.Cond.methodLink "PondStairLaw" (182 : Nat) ({ cls := "PondStairModel", name := "better", desc := "(III)I" } : Jvm.MethodName)), (Jvm.Cond.instanceMethod ({ cls := "PondStairModel", name := "better", desc := "(III)I" } : Jvm.MethodName)), (Jvm.Cond.selects "PondStairModel" ({ cls := "PondStairModel", name := "better", desc := "(III)I" } : Jvm.MethodName) ({ cls := "PondStairModel", name := "better", desc := "(III)I" } : Jvm.MethodName)), (Jvm.Cond.code ({ cls := "PondStairModel", name := "better", desc := "(III)I" } : Jvm.MethodName) prog_13_method_99_code (8 : Nat) (Option.some Jvm.ClassFile.FieldType.int))]
def tw_8_1 : List Cond := [(Jvm.Cond.methodLink "PondStairLaw" (186 : Nat) ({ cls := "PondStairModel", name := "spend", desc := "(IIII)I" } : Jvm.MethodName)), (Jvm.Cond.instanceMethod ({ cls := "PondStairModel", name := "spend", desc := "(IIII)I" } : Jvm.MethodName)), (Jvm.Cond.selects "PondStairModel" ({ cls := "PondStairModel", name := "spend", desc := "(IIII)I" } : Jvm.MethodName) ({ cls := "PondStairModel", name := "spend", desc := "(IIII)I" } : Jvm.MethodName)), (Jvm.Cond.code ({ cls := "PondStairModel", name := "spend", desc := "(IIII)I" } : Jvm.MethodName) prog_13_method_100_code (9 : Nat) (Option.some Jvm.ClassFile.FieldType.int)), (Jvm.Cond.methodLink "PondStairLaw" (190 : Nat) ({ cls := "PondStairModel", name := "count", desc := "(I)I" } : Jvm.MethodName)), (Jvm.Cond.instanceMethod ({ cls := "PondStairModel", name := "count", desc := "(I)I" } : Jvm.MethodName)), (Jvm.Cond.selects "PondStairModel" ({ cls := "PondStairModel", name := "count", desc := "(I)I" } : Jvm.MethodName) ({ cls := "PondStairModel", name := "count", desc := "(I)I" } : Jvm.MethodName)), (Jvm.Cond.code ({ cls := "PondStairModel", name := "count", desc := "(I)I" } : Jvm.MethodName) prog_13_method_101_code (2 : Nat) (Option.some Jvm.ClassFile.FieldType.int)), (Jvm.Cond.methodLink "PondStairLaw" (195 : Nat) ({ cls := "PondStairModel", name := "image", desc := "(I)Z" } : Jvm.MethodName)), (Jvm.Cond.instanceMethod ({ cls := "PondStairModel", name := "image", desc := "(I)Z" } : Jvm.MethodName)), (Jvm.Cond.selects "PondStairModel" ({ cls := "PondStairModel", name := "image", desc := "(I)Z" } : Jvm.MethodName) ({ cls := "PondStairModel", name := "image", desc := "(I)Z" } : Jvm.MethodName)), (Jvm.Cond.code ({ cls := "PondStairModel", name := "image", desc := "(I)Z" } : Jvm.MethodName) prog_13_method_102_code (2 : Nat) (Option.some Jvm.ClassFile.FieldType.boolean)), (Jvm.Cond.methodLink "PondStairModel" (381 : Nat) ({ cls := "PondStairModel", name := "copy", desc := "(II)V" } : Jvm.MethodName)), (Jvm.Cond.privateMethod ({ cls := "PondStairModel", name := "copy", desc := "(II)V" } : Jvm.MethodName)), (Jvm.Cond.instanceMethod ({ cls := "PondStairModel", name := "copy", desc := "(II)V" } : Jvm.MethodName)), (Jvm.Cond.code ({ cls := "PondStairModel", name := "copy", desc := "(II)V" } : Jvm.MethodName) prog_13_method_7_code (4 : Nat) (Option.none : Option Jvm.ClassFile.FieldType)), (Jvm.Cond.methodLink "PondStairModel" (74 : Nat) ({ cls := "PondStairModel", name := "move", desc := "([IIII)V" } : Jvm.MethodName)), (Jvm.Cond.static ({ cls := "PondStairModel", name := "move", desc := "([IIII)V" } : Jvm.MethodName)), (Jvm.Cond.code ({ cls := "PondStairModel", name := "move", desc := "([IIII)V" } : Jvm.MethodName) prog_13_method_6_code (5 : Nat) (Option.none : Option Jvm.ClassFile.FieldType)), (Jvm.Cond.methodLink "PondStairLaw" (199 : Nat) ({ cls := "PondStairModel", name := "again", desc := "(I)Z" } : Jvm.MethodName)), (Jvm.Cond.instanceMethod ({ cls := "PondStairModel", name := "again", desc := "(I)Z" } : Jvm.MethodName)), (Jvm.Cond.selects "PondStairModel" ({ cls := "PondStairModel", name := "again", desc := "(I)Z" } : Jvm.MethodName) ({ cls := "PondStairModel", name := "again", desc := "(I)Z" } : Jvm.MethodName)), (Jvm.Cond.code ({ cls := "PondStairModel", name := "again", desc := "(I)Z" } : Jvm.MethodName) prog_13_method_103_code (2 : Nat) (Option.some Jvm.ClassFile.FieldType.boolean)), (Jvm.Cond.fieldLink "java/lang/String" (9 : Nat) "java/lang/String" "value" "[B")]
def tw_8_2 : List Cond := [(Jvm.Cond.fieldLink "java/lang/String" (15 : Nat) "java/lang/String" "coder" "B")]
set_option maxRecDepth 100000 in
theorem tp_8 : tables_1_8 = tw_8_0 ++ (tw_8_1 ++ (tw_8_2)) := rfl
theorem gt_m8 {w : Cond} (hm : w ∈ tables_1_8) (hg : goodWord w = true) : w ∈ gt := by
  refine List.mem_filter.mpr ⟨?_, hg⟩
  unfold lw_tbl tables_1
  simp only [List.mem_append]
  simp only [hm, true_or, or_true]
theorem gt_8_0 {w : Cond} {i : Nat} (h : tw_8_0[i]? = some w) (hg : goodWord w = true) : w ∈ gt := by
  have hm := List.mem_of_getElem? h
  refine gt_m8 ?_ hg
  rw [tp_8]
  simp only [List.mem_append]
  simp only [hm, true_or, or_true]
theorem gt_8_1 {w : Cond} {i : Nat} (h : tw_8_1[i]? = some w) (hg : goodWord w = true) : w ∈ gt := by
  have hm := List.mem_of_getElem? h
  refine gt_m8 ?_ hg
  rw [tp_8]
  simp only [List.mem_append]
  simp only [hm, true_or, or_true]
theorem gt_8_2 {w : Cond} {i : Nat} (h : tw_8_2[i]? = some w) (hg : goodWord w = true) : w ∈ gt := by
  have hm := List.mem_of_getElem? h
  refine gt_m8 ?_ hg
  rw [tp_8]
  simp only [List.mem_append]
  simp only [hm, true_or, or_true]
theorem gt_of (ws : List Cond) (ps : List Nat) (hp : ws = ps.filterMap (fun i => lw_tbl[i]?)) (h : ws.all goodWord = true) : ∀ w ∈ ws, w ∈ gt := by
  intro w hw
  have h1 := List.all_eq_true.mp h w hw
  rw [hp] at hw
  obtain ⟨i, -, hi⟩ := List.mem_filterMap.mp hw
  exact gt_in i hi h1
def RX0 : String := "PondStair$Choice"
def TX0 : u_T := fun k => match k with
  | 0 => ("PondStair$Choice", "odds", "LPondStair$Odds;", true)
  | 1 => ("PondStair$Choice", "trial", "LPondStair$Hill;", true)
  | 2 => ("PondStair$Choice", "first", "I", false)
  | 3 => ("PondStair$Choice", "second", "I", false)
  | 4 => ("PondStair$Choice", "least", "J", false)
  | 5 => ("PondStair$Choice", "filling", "I", false)
  | 6 => ("PondStair$Choice", "toFill", "[I", true)
  | 7 => ("PondStair$Choice", "order", "[I", true)
  | 8 => ("PondStair$Choice", "tried", "[I", true)
  | _ => ("PondStair$Choice", "filledMean", "[J", true)
def tyX0 : Nat → FieldType := fun k => match k with
  | 0 => .object "PondStair$Odds"
  | 1 => .object "PondStair$Hill"
  | 2 => .int
  | 3 => .int
  | 4 => .long
  | 5 => .int
  | 6 => .array .int
  | 7 => .array .int
  | 8 => .array .int
  | _ => .array .long
theorem nmX0 : ∀ a, a < 10 → ∀ b, b < 10 → a ≠ b → (TX0 a).2.1 ≠ (TX0 b).2.1 := by decide +kernel
theorem tyX0_ok : ∀ k, k < 10 → parseFieldDescriptor (TX0 k).2.2.1 = some (tyX0 k) := by decide +kernel
abbrev cX0_init : ByteArray := prog_2_method_1_code
def yX0_init : MethodName := ⟨RX0, "<init>", "()V"⟩
abbrev cX0_meanMended : ByteArray := prog_2_method_2_code
def yX0_meanMended : MethodName := ⟨RX0, "meanMended", "(I)J"⟩
abbrev cX0_bestSet : ByteArray := prog_2_method_3_code
def yX0_bestSet : MethodName := ⟨RX0, "bestSet", "(LPondStair$Hill;II)I"⟩
abbrev cX0_fewestDays : ByteArray := prog_2_method_4_code
def yX0_fewestDays : MethodName := ⟨RX0, "fewestDays", "(LPondStair$Hill;II)I"⟩
abbrev cX0_stepByStep : ByteArray := prog_2_method_5_code
def yX0_stepByStep : MethodName := ⟨RX0, "stepByStep", "(LPondStair$Hill;II)I"⟩
abbrev cX0_nextStep : ByteArray := prog_2_method_6_code
def yX0_nextStep : MethodName := ⟨RX0, "nextStep", "(LPondStair$Hill;III)I"⟩
abbrev cX0_isBetterBuy : ByteArray := prog_2_method_7_code
def yX0_isBetterBuy : MethodName := ⟨RX0, "isBetterBuy", "(JJJJ)Z"⟩
abbrev cX0_holdAll : ByteArray := prog_2_method_8_code
def yX0_holdAll : MethodName := ⟨RX0, "holdAll", "(LPondStair$Hill;)V"⟩
abbrev cX0_lowerBy : ByteArray := prog_2_method_9_code
def yX0_lowerBy : MethodName := ⟨RX0, "lowerBy", "(LPondStair$Hill;I)I"⟩
abbrev cX0_mostUrgent : ByteArray := prog_2_method_10_code
def yX0_mostUrgent : MethodName := ⟨RX0, "mostUrgent", "(LPondStair$Hill;)I"⟩
abbrev cX0_heaviest : ByteArray := prog_2_method_11_code
def yX0_heaviest : MethodName := ⟨RX0, "heaviest", "(LPondStair$Hill;)I"⟩
abbrev cX0_turnAround : ByteArray := prog_2_method_12_code
def yX0_turnAround : MethodName := ⟨RX0, "turnAround", "(LPondStair$Hill;)V"⟩
abbrev cX0_findOrder : ByteArray := prog_2_method_13_code
def yX0_findOrder : MethodName := ⟨RX0, "findOrder", "()V"⟩
abbrev cX0_lookAtFilled : ByteArray := prog_2_method_14_code
def yX0_lookAtFilled : MethodName := ⟨RX0, "lookAtFilled", "(LPondStair$Hill;I)V"⟩
abbrev cX0_takeOrder : ByteArray := prog_2_method_15_code
def yX0_takeOrder : MethodName := ⟨RX0, "takeOrder", "(I)Z"⟩
abbrev cX0_mayOfTried : ByteArray := prog_2_method_16_code
def yX0_mayOfTried : MethodName := ⟨RX0, "mayOfTried", "()J"⟩
abbrev cX0_downwards : ByteArray := prog_2_method_17_code
def yX0_downwards : MethodName := ⟨RX0, "downwards", "()J"⟩
abbrev cX0_filledAt : ByteArray := prog_2_method_18_code
def yX0_filledAt : MethodName := ⟨RX0, "filledAt", "(I)I"⟩
def RX1 : String := "PondStair$Hill"
def TX1 : u_T := fun k => match k with
  | 0 => ("PondStair$Hill", "ponds", "I", false)
  | 1 => ("PondStair$Hill", "row", "[I", true)
  | 2 => ("PondStair$Hill", "rains", "I", false)
  | 3 => ("PondStair$Hill", "rainSteps", "[I", true)
  | 4 => ("PondStair$Hill", "rainChance", "[I", true)
  | _ => ("PondStair$Hill", "days", "[I", true)
def tyX1 : Nat → FieldType := fun k => match k with
  | 0 => .int
  | 1 => .array .int
  | 2 => .int
  | 3 => .array .int
  | 4 => .array .int
  | _ => .array .int
theorem nmX1 : ∀ a, a < 6 → ∀ b, b < 6 → a ≠ b → (TX1 a).2.1 ≠ (TX1 b).2.1 := by decide +kernel
theorem tyX1_ok : ∀ k, k < 6 → parseFieldDescriptor (TX1 k).2.2.1 = some (tyX1 k) := by decide +kernel
abbrev cX1_init : ByteArray := prog_3_method_1_code
def yX1_init : MethodName := ⟨RX1, "<init>", "()V"⟩
abbrev cX1_clear : ByteArray := prog_3_method_2_code
def yX1_clear : MethodName := ⟨RX1, "clear", "()V"⟩
abbrev cX1_copy : ByteArray := prog_3_method_3_code
def yX1_copy : MethodName := ⟨RX1, "copy", "(LPondStair$Hill;)V"⟩
abbrev cX1_addPond : ByteArray := prog_3_method_4_code
def yX1_addPond : MethodName := ⟨RX1, "addPond", "(III)Z"⟩
abbrev cX1_addRain : ByteArray := prog_3_method_5_code
def yX1_addRain : MethodName := ⟨RX1, "addRain", "(II)Z"⟩
abbrev cX1_has : ByteArray := prog_3_method_6_code
def yX1_has : MethodName := ⟨RX1, "has", "(I)Z"⟩
abbrev cX1_hasSet : ByteArray := prog_3_method_7_code
def yX1_hasSet : MethodName := ⟨RX1, "hasSet", "(I)Z"⟩
abbrev cX1_hasRain : ByteArray := prog_3_method_8_code
def yX1_hasRain : MethodName := ⟨RX1, "hasRain", "(I)Z"⟩
abbrev cX1_hasStorm : ByteArray := prog_3_method_9_code
def yX1_hasStorm : MethodName := ⟨RX1, "hasStorm", "(II)Z"⟩
abbrev cX1_all : ByteArray := prog_3_method_10_code
def yX1_all : MethodName := ⟨RX1, "all", "()I"⟩
abbrev cX1_of : ByteArray := prog_3_method_11_code
def yX1_of : MethodName := ⟨RX1, "of", "(II)I"⟩
abbrev cX1_put : ByteArray := prog_3_method_12_code
def yX1_put : MethodName := ⟨RX1, "put", "(III)V"⟩
abbrev cX1_isOut : ByteArray := prog_3_method_13_code
def yX1_isOut : MethodName := ⟨RX1, "isOut", "(I)Z"⟩
abbrev cX1_takeOut : ByteArray := prog_3_method_14_code
def yX1_takeOut : MethodName := ⟨RX1, "takeOut", "(I)V"⟩
abbrev cX1_stepsOf : ByteArray := prog_3_method_15_code
def yX1_stepsOf : MethodName := ⟨RX1, "stepsOf", "(I)I"⟩
abbrev cX1_chanceOf : ByteArray := prog_3_method_16_code
def yX1_chanceOf : MethodName := ⟨RX1, "chanceOf", "(I)I"⟩
abbrev cX1_chancesTogether : ByteArray := prog_3_method_17_code
def yX1_chancesTogether : MethodName := ⟨RX1, "chancesTogether", "()I"⟩
abbrev cX1_told : ByteArray := prog_3_method_18_code
def yX1_told : MethodName := ⟨RX1, "told", "(I)I"⟩
abbrev cX1_ownedBy : ByteArray := prog_3_method_19_code
def yX1_ownedBy : MethodName := ⟨RX1, "ownedBy", "(I)I"⟩
abbrev cX1_weak : ByteArray := prog_3_method_20_code
def yX1_weak : MethodName := ⟨RX1, "weak", "()I"⟩
abbrev cX1_daysToMend : ByteArray := prog_3_method_21_code
def yX1_daysToMend : MethodName := ⟨RX1, "daysToMend", "(I)I"⟩
abbrev cX1_harmOf : ByteArray := prog_3_method_22_code
def yX1_harmOf : MethodName := ⟨RX1, "harmOf", "(I)I"⟩
abbrev cX1_nextOf : ByteArray := prog_3_method_23_code
def yX1_nextOf : MethodName := ⟨RX1, "nextOf", "(I)I"⟩
abbrev cX1_reachedFrom : ByteArray := prog_3_method_24_code
def yX1_reachedFrom : MethodName := ⟨RX1, "reachedFrom", "(I)I"⟩
abbrev cX1_reaching : ByteArray := prog_3_method_25_code
def yX1_reaching : MethodName := ⟨RX1, "reaching", "(I)I"⟩
abbrev cX1_seenAndGoes : ByteArray := prog_3_method_26_code
def yX1_seenAndGoes : MethodName := ⟨RX1, "seenAndGoes", "(I)I"⟩
abbrev cX1_seen : ByteArray := prog_3_method_27_code
def yX1_seen : MethodName := ⟨RX1, "seen", "(I)I"⟩
def RX2 : String := "PondStair$Odds"
def TX2 : u_T := fun k => match k with
  | 0 => ("PondStair$Odds", "flow", "LPondStair$Storm;", true)
  | 1 => ("PondStair$Odds", "hill", "LPondStair$Hill;", true)
  | 2 => ("PondStair$Odds", "went", "[I", true)
  | 3 => ("PondStair$Odds", "harm", "[I", true)
  | 4 => ("PondStair$Odds", "weight", "[J", true)
  | _ => ("PondStair$Odds", "together", "[J", true)
def tyX2 : Nat → FieldType := fun k => match k with
  | 0 => .object "PondStair$Storm"
  | 1 => .object "PondStair$Hill"
  | 2 => .array .int
  | 3 => .array .int
  | 4 => .array .long
  | _ => .array .long
theorem nmX2 : ∀ a, a < 6 → ∀ b, b < 6 → a ≠ b → (TX2 a).2.1 ≠ (TX2 b).2.1 := by decide +kernel
theorem tyX2_ok : ∀ k, k < 6 → parseFieldDescriptor (TX2 k).2.2.1 = some (tyX2 k) := by decide +kernel
abbrev cX2_init : ByteArray := prog_4_method_1_code
def yX2_init : MethodName := ⟨RX2, "<init>", "()V"⟩
abbrev cX2_look : ByteArray := prog_4_method_2_code
def yX2_look : MethodName := ⟨RX2, "look", "(LPondStair$Hill;II)V"⟩
abbrev cX2_weigh : ByteArray := prog_4_method_3_code
def yX2_weigh : MethodName := ⟨RX2, "weigh", "(II)V"⟩
abbrev cX2_parts : ByteArray := prog_4_method_4_code
def yX2_parts : MethodName := ⟨RX2, "parts", "(II)J"⟩
abbrev cX2_wentBy : ByteArray := prog_4_method_5_code
def yX2_wentBy : MethodName := ⟨RX2, "wentBy", "(II)I"⟩
abbrev cX2_isStorm : ByteArray := prog_4_method_6_code
def yX2_isStorm : MethodName := ⟨RX2, "isStorm", "(II)Z"⟩
abbrev cX2_wholeMean : ByteArray := prog_4_method_7_code
def yX2_wholeMean : MethodName := ⟨RX2, "wholeMean", "(LPondStair$Hill;I)J"⟩
abbrev cX2_meanOf : ByteArray := prog_4_method_8_code
def yX2_meanOf : MethodName := ⟨RX2, "meanOf", "(I)J"⟩
abbrev cX2_partsOf : ByteArray := prog_4_method_9_code
def yX2_partsOf : MethodName := ⟨RX2, "partsOf", "(I)J"⟩
abbrev cX2_likeliest : ByteArray := prog_4_method_10_code
def yX2_likeliest : MethodName := ⟨RX2, "likeliest", "()I"⟩
abbrev cX2_mostThatWent : ByteArray := prog_4_method_11_code
def yX2_mostThatWent : MethodName := ⟨RX2, "mostThatWent", "()I"⟩
abbrev cX2_worstTold : ByteArray := prog_4_method_12_code
def yX2_worstTold : MethodName := ⟨RX2, "worstTold", "(I)J"⟩
abbrev cX2_mostInBrook : ByteArray := prog_4_method_13_code
def yX2_mostInBrook : MethodName := ⟨RX2, "mostInBrook", "()I"⟩
def RX3 : String := "PondStair$Reader"
def TX3 : u_T := fun k => match k with
  | 0 => ("PondStair$Reader", "tokens", "LPondStair$Tokens;", true)
  | 1 => ("PondStair$Reader", "hill", "LPondStair$Hill;", true)
  | 2 => ("PondStair$Reader", "works", "LPondStair$Works;", true)
  | 3 => ("PondStair$Reader", "numbers", "[I", true)
  | 4 => ("PondStair$Reader", "places", "[I", true)
  | 5 => ("PondStair$Reader", "fault", "I", false)
  | _ => ("PondStair$Reader", "place", "I", false)
def tyX3 : Nat → FieldType := fun k => match k with
  | 0 => .object "PondStair$Tokens"
  | 1 => .object "PondStair$Hill"
  | 2 => .object "PondStair$Works"
  | 3 => .array .int
  | 4 => .array .int
  | 5 => .int
  | _ => .int
theorem nmX3 : ∀ a, a < 7 → ∀ b, b < 7 → a ≠ b → (TX3 a).2.1 ≠ (TX3 b).2.1 := by decide +kernel
theorem tyX3_ok : ∀ k, k < 7 → parseFieldDescriptor (TX3 k).2.2.1 = some (tyX3 k) := by decide +kernel
abbrev cX3_init : ByteArray := prog_5_method_1_code
def yX3_init : MethodName := ⟨RX3, "<init>", "()V"⟩
abbrev cX3_read : ByteArray := prog_5_method_2_code
def yX3_read : MethodName := ⟨RX3, "read", "([BII)V"⟩
abbrev cX3_closeRains : ByteArray := prog_5_method_3_code
def yX3_closeRains : MethodName := ⟨RX3, "closeRains", "()V"⟩
abbrev cX3_readLine : ByteArray := prog_5_method_4_code
def yX3_readLine : MethodName := ⟨RX3, "readLine", "(I)Z"⟩
abbrev cX3_breaksOff : ByteArray := prog_5_method_5_code
def yX3_breaksOff : MethodName := ⟨RX3, "breaksOff", "()Z"⟩
abbrev cX3_remember : ByteArray := prog_5_method_6_code
def yX3_remember : MethodName := ⟨RX3, "remember", "(II)V"⟩
abbrev cX3_lineOf : ByteArray := prog_5_method_7_code
def yX3_lineOf : MethodName := ⟨RX3, "lineOf", "(I)I"⟩
abbrev cX3_hillWord : ByteArray := prog_5_method_8_code
def yX3_hillWord : MethodName := ⟨RX3, "hillWord", "(I)Ljava/lang/String;"⟩
abbrev cX3_planWord : ByteArray := prog_5_method_9_code
def yX3_planWord : MethodName := ⟨RX3, "planWord", "(I)Ljava/lang/String;"⟩
abbrev cX3_take : ByteArray := prog_5_method_10_code
def yX3_take : MethodName := ⟨RX3, "take", "(IIII)V"⟩
abbrev cX3_isFull : ByteArray := prog_5_method_11_code
def yX3_isFull : MethodName := ⟨RX3, "isFull", "(I)Z"⟩
abbrev cX3_canBeInHill : ByteArray := prog_5_method_12_code
def yX3_canBeInHill : MethodName := ⟨RX3, "canBeInHill", "(II)Z"⟩
abbrev cX3_canBeInPlan : ByteArray := prog_5_method_13_code
def yX3_canBeInPlan : MethodName := ⟨RX3, "canBeInPlan", "(II)Z"⟩
abbrev cX3_takeForHill : ByteArray := prog_5_method_14_code
def yX3_takeForHill : MethodName := ⟨RX3, "takeForHill", "(II)V"⟩
def RX4 : String := "PondStair$Site"
def TX4 : u_T := fun k => match k with
  | 0 => ("PondStair$Site", "ground", "LPondStair$Hill;", true)
  | 1 => ("PondStair$Site", "stop", "I", false)
  | 2 => ("PondStair$Site", "days", "I", false)
  | _ => ("PondStair$Site", "lost", "I", false)
def tyX4 : Nat → FieldType := fun k => match k with
  | 0 => .object "PondStair$Hill"
  | 1 => .int
  | 2 => .int
  | _ => .int
theorem nmX4 : ∀ a, a < 4 → ∀ b, b < 4 → a ≠ b → (TX4 a).2.1 ≠ (TX4 b).2.1 := by decide +kernel
theorem tyX4_ok : ∀ k, k < 4 → parseFieldDescriptor (TX4 k).2.2.1 = some (tyX4 k) := by decide +kernel
abbrev cX4_init : ByteArray := prog_6_method_1_code
def yX4_init : MethodName := ⟨RX4, "<init>", "()V"⟩
abbrev cX4_lay : ByteArray := prog_6_method_2_code
def yX4_lay : MethodName := ⟨RX4, "lay", "(LPondStair$Hill;LPondStair$Works;)V"⟩
abbrev cX4_builds : ByteArray := prog_6_method_3_code
def yX4_builds : MethodName := ⟨RX4, "builds", "(III)Z"⟩
abbrev cX4_mends : ByteArray := prog_6_method_4_code
def yX4_mends : MethodName := ⟨RX4, "mends", "(II)Z"⟩
abbrev cX4_lowers : ByteArray := prog_6_method_5_code
def yX4_lowers : MethodName := ⟨RX4, "lowers", "(II)Z"⟩
abbrev cX4_widens : ByteArray := prog_6_method_6_code
def yX4_widens : MethodName := ⟨RX4, "widens", "(II)Z"⟩
abbrev cX4_leads : ByteArray := prog_6_method_7_code
def yX4_leads : MethodName := ⟨RX4, "leads", "(II)Z"⟩
def RX5 : String := "PondStair$Storm"
def TX5 : u_T := fun k => match k with
  | 0 => ("PondStair$Storm", "ponds", "I", false)
  | 1 => ("PondStair$Storm", "went", "I", false)
  | 2 => ("PondStair$Storm", "harm", "I", false)
  | 3 => ("PondStair$Storm", "heard", "I", false)
  | 4 => ("PondStair$Storm", "brook", "I", false)
  | 5 => ("PondStair$Storm", "water", "[I", true)
  | _ => ("PondStair$Storm", "left", "[I", true)
def tyX5 : Nat → FieldType := fun k => match k with
  | 0 => .int
  | 1 => .int
  | 2 => .int
  | 3 => .int
  | 4 => .int
  | 5 => .array .int
  | _ => .array .int
theorem nmX5 : ∀ a, a < 7 → ∀ b, b < 7 → a ≠ b → (TX5 a).2.1 ≠ (TX5 b).2.1 := by decide +kernel
theorem tyX5_ok : ∀ k, k < 7 → parseFieldDescriptor (TX5 k).2.2.1 = some (tyX5 k) := by decide +kernel
abbrev cX5_init : ByteArray := prog_7_method_1_code
def yX5_init : MethodName := ⟨RX5, "<init>", "()V"⟩
abbrev cX5_run : ByteArray := prog_7_method_2_code
def yX5_run : MethodName := ⟨RX5, "run", "(LPondStair$Hill;III)V"⟩
abbrev cX5_hears : ByteArray := prog_7_method_3_code
def yX5_hears : MethodName := ⟨RX5, "hears", "(LPondStair$Hill;I)Z"⟩
abbrev cX5_goes : ByteArray := prog_7_method_4_code
def yX5_goes : MethodName := ⟨RX5, "goes", "(LPondStair$Hill;II)Z"⟩
abbrev cX5_leaving : ByteArray := prog_7_method_5_code
def yX5_leaving : MethodName := ⟨RX5, "leaving", "(LPondStair$Hill;IZ)I"⟩
abbrev cX5_pass : ByteArray := prog_7_method_6_code
def yX5_pass : MethodName := ⟨RX5, "pass", "(LPondStair$Hill;I)V"⟩
abbrev cX5_told : ByteArray := prog_7_method_7_code
def yX5_told : MethodName := ⟨RX5, "told", "(I)I"⟩
abbrev cX5_toldOfPond : ByteArray := prog_7_method_8_code
def yX5_toldOfPond : MethodName := ⟨RX5, "toldOfPond", "(II)I"⟩
abbrev cX5_leaveBehind : ByteArray := prog_7_method_9_code
def yX5_leaveBehind : MethodName := ⟨RX5, "leaveBehind", "(LPondStair$Hill;)V"⟩
def RX6 : String := "PondStair$Tokens"
def TX6 : u_T := fun k => match k with
  | 0 => ("PondStair$Tokens", "tape", "[B", false)
  | 1 => ("PondStair$Tokens", "length", "I", false)
  | 2 => ("PondStair$Tokens", "next", "I", false)
  | 3 => ("PondStair$Tokens", "kind", "I", false)
  | 4 => ("PondStair$Tokens", "start", "I", false)
  | _ => ("PondStair$Tokens", "value", "I", false)
def tyX6 : Nat → FieldType := fun k => match k with
  | 0 => .array .byte
  | 1 => .int
  | 2 => .int
  | 3 => .int
  | 4 => .int
  | _ => .int
theorem nmX6 : ∀ a, a < 6 → ∀ b, b < 6 → a ≠ b → (TX6 a).2.1 ≠ (TX6 b).2.1 := by decide +kernel
theorem tyX6_ok : ∀ k, k < 6 → parseFieldDescriptor (TX6 k).2.2.1 = some (tyX6 k) := by decide +kernel
abbrev cX6_init : ByteArray := prog_8_method_1_code
def yX6_init : MethodName := ⟨RX6, "<init>", "()V"⟩
abbrev cX6_begin : ByteArray := prog_8_method_2_code
def yX6_begin : MethodName := ⟨RX6, "begin", "([BI)V"⟩
abbrev cX6_advance : ByteArray := prog_8_method_3_code
def yX6_advance : MethodName := ⟨RX6, "advance", "()V"⟩
abbrev cX6_takeWord : ByteArray := prog_8_method_4_code
def yX6_takeWord : MethodName := ⟨RX6, "takeWord", "()V"⟩
abbrev cX6_takeNumber : ByteArray := prog_8_method_5_code
def yX6_takeNumber : MethodName := ⟨RX6, "takeNumber", "()V"⟩
abbrev cX6_isWord : ByteArray := prog_8_method_6_code
def yX6_isWord : MethodName := ⟨RX6, "isWord", "(Ljava/lang/String;)Z"⟩
abbrev cX6_isBlank : ByteArray := prog_8_method_7_code
def yX6_isBlank : MethodName := ⟨RX6, "isBlank", "(I)Z"⟩
abbrev cX6_isLetter : ByteArray := prog_8_method_8_code
def yX6_isLetter : MethodName := ⟨RX6, "isLetter", "(I)Z"⟩
abbrev cX6_isDigit : ByteArray := prog_8_method_9_code
def yX6_isDigit : MethodName := ⟨RX6, "isDigit", "(I)Z"⟩
def RX7 : String := "PondStair$Told"
def TX7 : u_T := fun k => match k with
  | 0 => ("PondStair$Told", "tape", "[B", true)
  | 1 => ("PondStair$Told", "length", "I", false)
  | 2 => ("PondStair$Told", "fault", "I", false)
  | 3 => ("PondStair$Told", "place", "I", false)
  | 4 => ("PondStair$Told", "hill", "[LPondStair$Hill;", true)
  | 5 => ("PondStair$Told", "hills", "I", false)
  | 6 => ("PondStair$Told", "works", "[LPondStair$Works;", true)
  | _ => ("PondStair$Told", "plans", "I", false)
def tyX7 : Nat → FieldType := fun k => match k with
  | 0 => .array .byte
  | 1 => .int
  | 2 => .int
  | 3 => .int
  | 4 => .array (.object "PondStair$Hill")
  | 5 => .int
  | 6 => .array (.object "PondStair$Works")
  | _ => .int
theorem nmX7 : ∀ a, a < 8 → ∀ b, b < 8 → a ≠ b → (TX7 a).2.1 ≠ (TX7 b).2.1 := by decide +kernel
theorem tyX7_ok : ∀ k, k < 8 → parseFieldDescriptor (TX7 k).2.2.1 = some (tyX7 k) := by decide +kernel
abbrev cX7_init : ByteArray := prog_9_method_1_code
def yX7_init : MethodName := ⟨RX7, "<init>", "()V"⟩
abbrev cX7_append : ByteArray := prog_9_method_2_code
def yX7_append : MethodName := ⟨RX7, "append", "(I)V"⟩
abbrev cX7_hasHill : ByteArray := prog_9_method_3_code
def yX7_hasHill : MethodName := ⟨RX7, "hasHill", "(I)Z"⟩
abbrev cX7_hasPlan : ByteArray := prog_9_method_4_code
def yX7_hasPlan : MethodName := ⟨RX7, "hasPlan", "(I)Z"⟩
abbrev cX7_numberFor : ByteArray := prog_9_method_5_code
def yX7_numberFor : MethodName := ⟨RX7, "numberFor", "(II)I"⟩
abbrev cX7_keep : ByteArray := prog_9_method_6_code
def yX7_keep : MethodName := ⟨RX7, "keep", "(IILPondStair$Reader;)V"⟩
abbrev cX7_copy : ByteArray := prog_9_method_7_code
def yX7_copy : MethodName := ⟨RX7, "copy", "(LPondStair$Told;)V"⟩
def RX8 : String := "PondStair$Works"
def TX8 : u_T := fun k => match k with
  | 0 => ("PondStair$Works", "works", "I", false)
  | 1 => ("PondStair$Works", "kind", "[I", true)
  | 2 => ("PondStair$Works", "where", "[I", true)
  | _ => ("PondStair$Works", "much", "[I", true)
def tyX8 : Nat → FieldType := fun k => match k with
  | 0 => .int
  | 1 => .array .int
  | 2 => .array .int
  | _ => .array .int
theorem nmX8 : ∀ a, a < 4 → ∀ b, b < 4 → a ≠ b → (TX8 a).2.1 ≠ (TX8 b).2.1 := by decide +kernel
theorem tyX8_ok : ∀ k, k < 4 → parseFieldDescriptor (TX8 k).2.2.1 = some (tyX8 k) := by decide +kernel
abbrev cX8_init : ByteArray := prog_10_method_1_code
def yX8_init : MethodName := ⟨RX8, "<init>", "()V"⟩
abbrev cX8_clear : ByteArray := prog_10_method_2_code
def yX8_clear : MethodName := ⟨RX8, "clear", "()V"⟩
abbrev cX8_add : ByteArray := prog_10_method_3_code
def yX8_add : MethodName := ⟨RX8, "add", "(III)Z"⟩
abbrev cX8_copy : ByteArray := prog_10_method_4_code
def yX8_copy : MethodName := ⟨RX8, "copy", "(LPondStair$Works;)V"⟩
abbrev cX8_told : ByteArray := prog_10_method_5_code
def yX8_told : MethodName := ⟨RX8, "told", "(II)I"⟩
def RX9 : String := "PondStair$Years"
def TX9 : u_T := fun k => match k with
  | _ => ("PondStair$Years", "x", "I", false)
def tyX9 : Nat → FieldType := fun k => match k with
  | _ => .int
theorem nmX9 : ∀ a, a < 1 → ∀ b, b < 1 → a ≠ b → (TX9 a).2.1 ≠ (TX9 b).2.1 := by decide +kernel
theorem tyX9_ok : ∀ k, k < 1 → parseFieldDescriptor (TX9 k).2.2.1 = some (tyX9 k) := by decide +kernel
abbrev cX9_init : ByteArray := prog_11_method_1_code
def yX9_init : MethodName := ⟨RX9, "<init>", "(I)V"⟩
abbrev cX9_draw : ByteArray := prog_11_method_2_code
def yX9_draw : MethodName := ⟨RX9, "draw", "(I)I"⟩
abbrev cX9_tally : ByteArray := prog_11_method_3_code
def yX9_tally : MethodName := ⟨RX9, "tally", "(LPondStair$Hill;LPondStair$Storm;II)J"⟩
abbrev cX9_drawRain : ByteArray := prog_11_method_4_code
def yX9_drawRain : MethodName := ⟨RX9, "drawRain", "(LPondStair$Hill;)I"⟩
abbrev cX9_drawBanks : ByteArray := prog_11_method_5_code
def yX9_drawBanks : MethodName := ⟨RX9, "drawBanks", "(LPondStair$Hill;)I"⟩
def RX10 : String := "PondStair"
def TX10 : u_T := fun k => match k with
  | 0 => ("PondStair", "told", "LPondStair$Told;", true)
  | 1 => ("PondStair", "images", "[LPondStair$Told;", true)
  | 2 => ("PondStair", "taken", "[Z", true)
  | 3 => ("PondStair", "reader", "LPondStair$Reader;", true)
  | 4 => ("PondStair", "site", "LPondStair$Site;", true)
  | 5 => ("PondStair", "nothing", "LPondStair$Works;", true)
  | 6 => ("PondStair", "flow", "LPondStair$Storm;", true)
  | 7 => ("PondStair", "choice", "LPondStair$Choice;", true)
  | 8 => ("PondStair", "odds", "LPondStair$Odds;", true)
  | _ => ("PondStair", "trial", "LPondStair$Hill;", true)
def tyX10 : Nat → FieldType := fun k => match k with
  | 0 => .object "PondStair$Told"
  | 1 => .array (.object "PondStair$Told")
  | 2 => .array .boolean
  | 3 => .object "PondStair$Reader"
  | 4 => .object "PondStair$Site"
  | 5 => .object "PondStair$Works"
  | 6 => .object "PondStair$Storm"
  | 7 => .object "PondStair$Choice"
  | 8 => .object "PondStair$Odds"
  | _ => .object "PondStair$Hill"
theorem nmX10 : ∀ a, a < 10 → ∀ b, b < 10 → a ≠ b → (TX10 a).2.1 ≠ (TX10 b).2.1 := by decide +kernel
theorem tyX10_ok : ∀ k, k < 10 → parseFieldDescriptor (TX10 k).2.2.1 = some (tyX10 k) := by decide +kernel
abbrev cX10_init : ByteArray := prog_1_method_1_code
def yX10_init : MethodName := ⟨RX10, "<init>", "()V"⟩
abbrev cX10_feed : ByteArray := prog_1_method_2_code
def yX10_feed : MethodName := ⟨RX10, "feed", "(IIIII)I"⟩
abbrev cX10_end : ByteArray := prog_1_method_3_code
def yX10_end : MethodName := ⟨RX10, "end", "(I)I"⟩
abbrev cX10_text : ByteArray := prog_1_method_4_code
def yX10_text : MethodName := ⟨RX10, "text", "(II)I"⟩
abbrev cX10_fault : ByteArray := prog_1_method_5_code
def yX10_fault : MethodName := ⟨RX10, "fault", "(I)I"⟩
abbrev cX10_hill : ByteArray := prog_1_method_6_code
def yX10_hill : MethodName := ⟨RX10, "hill", "(II)I"⟩
abbrev cX10_pond : ByteArray := prog_1_method_7_code
def yX10_pond : MethodName := ⟨RX10, "pond", "(IIII)I"⟩
abbrev cX10_work : ByteArray := prog_1_method_8_code
def yX10_work : MethodName := ⟨RX10, "work", "(III)I"⟩
abbrev cX10_plan : ByteArray := prog_1_method_9_code
def yX10_plan : MethodName := ⟨RX10, "plan", "(III)I"⟩
abbrev cX10_storm : ByteArray := prog_1_method_10_code
def yX10_storm : MethodName := ⟨RX10, "storm", "(IIIII)I"⟩
abbrev cX10_likely : ByteArray := prog_1_method_11_code
def yX10_likely : MethodName := ⟨RX10, "likely", "(III)J"⟩
abbrev cX10_mean : ByteArray := prog_1_method_12_code
def yX10_mean : MethodName := ⟨RX10, "mean", "(III)J"⟩
abbrev cX10_rows : ByteArray := prog_1_method_13_code
def yX10_rows : MethodName := ⟨RX10, "rows", "(IIZ)J"⟩
abbrev cX10_brings : ByteArray := prog_1_method_14_code
def yX10_brings : MethodName := ⟨RX10, "brings", "(IIII)I"⟩
abbrev cX10_best : ByteArray := prog_1_method_15_code
def yX10_best : MethodName := ⟨RX10, "best", "(IIII)I"⟩
abbrev cX10_steps : ByteArray := prog_1_method_16_code
def yX10_steps : MethodName := ⟨RX10, "steps", "(IIII)I"⟩
abbrev cX10_mended : ByteArray := prog_1_method_17_code
def yX10_mended : MethodName := ⟨RX10, "mended", "(III)J"⟩
abbrev cX10_one : ByteArray := prog_1_method_18_code
def yX10_one : MethodName := ⟨RX10, "one", "(IIZ)J"⟩
abbrev cX10_low : ByteArray := prog_1_method_19_code
def yX10_low : MethodName := ⟨RX10, "low", "(III)I"⟩
abbrev cX10_helps : ByteArray := prog_1_method_20_code
def yX10_helps : MethodName := ⟨RX10, "helps", "(IIII)J"⟩
abbrev cX10_alone : ByteArray := prog_1_method_21_code
def yX10_alone : MethodName := ⟨RX10, "alone", "(III)J"⟩
abbrev cX10_hear : ByteArray := prog_1_method_22_code
def yX10_hear : MethodName := ⟨RX10, "hear", "(IIII)J"⟩
abbrev cX10_may : ByteArray := prog_1_method_23_code
def yX10_may : MethodName := ⟨RX10, "may", "(IIIZ)J"⟩
abbrev cX10_order : ByteArray := prog_1_method_24_code
def yX10_order : MethodName := ⟨RX10, "order", "(IIII)I"⟩
abbrev cX10_think : ByteArray := prog_1_method_25_code
def yX10_think : MethodName := ⟨RX10, "think", "(IIIZ)I"⟩
abbrev cX10_now : ByteArray := prog_1_method_26_code
def yX10_now : MethodName := ⟨RX10, "now", "(II)I"⟩
abbrev cX10_years : ByteArray := prog_1_method_27_code
def yX10_years : MethodName := ⟨RX10, "years", "(IIIII)J"⟩
abbrev cX10_spared : ByteArray := prog_1_method_28_code
def yX10_spared : MethodName := ⟨RX10, "spared", "(III)I"⟩
abbrev cX10_deep : ByteArray := prog_1_method_29_code
def yX10_deep : MethodName := ⟨RX10, "deep", "(II)I"⟩
abbrev cX10_safe : ByteArray := prog_1_method_30_code
def yX10_safe : MethodName := ⟨RX10, "safe", "(II)I"⟩
abbrev cX10_weighs : ByteArray := prog_1_method_31_code
def yX10_weighs : MethodName := ⟨RX10, "weighs", "(II)I"⟩
abbrev cX10_upon : ByteArray := prog_1_method_32_code
def yX10_upon : MethodName := ⟨RX10, "upon", "(IIIZ)I"⟩
abbrev cX10_runs : ByteArray := prog_1_method_33_code
def yX10_runs : MethodName := ⟨RX10, "runs", "(III)I"⟩
abbrev cX10_joint : ByteArray := prog_1_method_34_code
def yX10_joint : MethodName := ⟨RX10, "joint", "(IIII)J"⟩
abbrev cX10_given : ByteArray := prog_1_method_35_code
def yX10_given : MethodName := ⟨RX10, "given", "(IIIIZ)J"⟩
abbrev cX10_worst : ByteArray := prog_1_method_36_code
def yX10_worst : MethodName := ⟨RX10, "worst", "(III)J"⟩
abbrev cX10_flood : ByteArray := prog_1_method_37_code
def yX10_flood : MethodName := ⟨RX10, "flood", "(II)I"⟩
abbrev cX10_around : ByteArray := prog_1_method_38_code
def yX10_around : MethodName := ⟨RX10, "around", "(IIZ)I"⟩
abbrev cX10_twice : ByteArray := prog_1_method_39_code
def yX10_twice : MethodName := ⟨RX10, "twice", "(IIIIIII)I"⟩
abbrev cX10_better : ByteArray := prog_1_method_40_code
def yX10_better : MethodName := ⟨RX10, "better", "(III)I"⟩
abbrev cX10_spend : ByteArray := prog_1_method_41_code
def yX10_spend : MethodName := ⟨RX10, "spend", "(IIII)I"⟩
abbrev cX10_count : ByteArray := prog_1_method_42_code
def yX10_count : MethodName := ⟨RX10, "count", "(I)I"⟩
abbrev cX10_image : ByteArray := prog_1_method_43_code
def yX10_image : MethodName := ⟨RX10, "image", "(I)Z"⟩
abbrev cX10_again : ByteArray := prog_1_method_44_code
def yX10_again : MethodName := ⟨RX10, "again", "(I)Z"⟩
abbrev cX10_lays : ByteArray := prog_1_method_45_code
def yX10_lays : MethodName := ⟨RX10, "lays", "(II)Z"⟩
abbrev cX10_looks : ByteArray := prog_1_method_46_code
def yX10_looks : MethodName := ⟨RX10, "looks", "(II)Z"⟩
abbrev cX10_hasPond : ByteArray := prog_1_method_47_code
def yX10_hasPond : MethodName := ⟨RX10, "hasPond", "(III)Z"⟩
abbrev cX10_canMend : ByteArray := prog_1_method_48_code
def yX10_canMend : MethodName := ⟨RX10, "canMend", "(IIIII)Z"⟩
abbrev cX10_canFill : ByteArray := prog_1_method_49_code
def yX10_canFill : MethodName := ⟨RX10, "canFill", "(III)Z"⟩
abbrev cX10_isOwner : ByteArray := prog_1_method_50_code
def yX10_isOwner : MethodName := ⟨RX10, "isOwner", "(I)Z"⟩
abbrev cX10_isIn : ByteArray := prog_1_method_51_code
def yX10_isIn : MethodName := ⟨RX10, "isIn", "(II)Z"⟩
abbrev cX10_bit : ByteArray := prog_1_method_52_code
def yX10_bit : MethodName := ⟨RX10, "bit", "(I)I"⟩
abbrev cX10_inLeastTerms : ByteArray := prog_1_method_53_code
def yX10_inLeastTerms : MethodName := ⟨RX10, "inLeastTerms", "(JJZ)J"⟩
abbrev cX10_commonDivisor : ByteArray := prog_1_method_54_code
def yX10_commonDivisor : MethodName := ⟨RX10, "commonDivisor", "(JJ)J"⟩
def RX11 : String := "PondStairModel"
def TX11 : u_T := fun k => match k with
  | 0 => ("PondStairModel", "code", "I", false)
  | 1 => ("PondStairModel", "tape", "[B", true)
  | 2 => ("PondStairModel", "size", "[I", true)
  | 3 => ("PondStairModel", "fault", "[I", true)
  | 4 => ("PondStairModel", "faultPlace", "[I", true)
  | 5 => ("PondStairModel", "many", "[I", true)
  | 6 => ("PondStairModel", "hills", "[I", true)
  | 7 => ("PondStairModel", "plans", "[I", true)
  | 8 => ("PondStairModel", "ahead", "I", false)
  | 9 => ("PondStairModel", "length", "I", false)
  | 10 => ("PondStairModel", "begins", "I", false)
  | 11 => ("PondStairModel", "sort", "I", false)
  | 12 => ("PondStairModel", "value", "I", false)
  | 13 => ("PondStairModel", "word", "J", false)
  | 14 => ("PondStairModel", "wrongAt", "I", false)
  | 15 => ("PondStairModel", "laterFault", "I", false)
  | 16 => ("PondStairModel", "laterPlace", "I", false)
  | 17 => ("PondStairModel", "read", "I", false)
  | 18 => ("PondStairModel", "good", "Z", false)
  | 19 => ("PondStairModel", "row", "[I", true)
  | 20 => ("PondStairModel", "got", "[I", true)
  | 21 => ("PondStairModel", "now", "[I", true)
  | 22 => ("PondStairModel", "ponds", "I", false)
  | 23 => ("PondStairModel", "done", "I", false)
  | 24 => ("PondStairModel", "days", "I", false)
  | 25 => ("PondStairModel", "lost", "I", false)
  | 26 => ("PondStairModel", "kept", "I", false)
  | 27 => ("PondStairModel", "dry", "Z", false)
  | 28 => ("PondStairModel", "water", "[I", true)
  | 29 => ("PondStairModel", "comes", "[I", true)
  | 30 => ("PondStairModel", "left", "[I", true)
  | 31 => ("PondStairModel", "went", "I", false)
  | 32 => ("PondStairModel", "heard", "I", false)
  | 33 => ("PondStairModel", "brook", "I", false)
  | 34 => ("PondStairModel", "partsOfSet", "[J", true)
  | 35 => ("PondStairModel", "chance", "[I", true)
  | 36 => ("PondStairModel", "level", "[I", true)
  | 37 => ("PondStairModel", "row4", "[I", true)
  | 38 => ("PondStairModel", "best4", "[I", true)
  | 39 => ("PondStairModel", "filled", "I", false)
  | 40 => ("PondStairModel", "leastMay", "J", false)
  | 41 => ("PondStairModel", "drawn", "I", false)
  | _ => ("PondStairModel", "stored", "[Z", true)
def tyX11 : Nat → FieldType := fun k => match k with
  | 0 => .int
  | 1 => .array .byte
  | 2 => .array .int
  | 3 => .array .int
  | 4 => .array .int
  | 5 => .array .int
  | 6 => .array .int
  | 7 => .array .int
  | 8 => .int
  | 9 => .int
  | 10 => .int
  | 11 => .int
  | 12 => .int
  | 13 => .long
  | 14 => .int
  | 15 => .int
  | 16 => .int
  | 17 => .int
  | 18 => .boolean
  | 19 => .array .int
  | 20 => .array .int
  | 21 => .array .int
  | 22 => .int
  | 23 => .int
  | 24 => .int
  | 25 => .int
  | 26 => .int
  | 27 => .boolean
  | 28 => .array .int
  | 29 => .array .int
  | 30 => .array .int
  | 31 => .int
  | 32 => .int
  | 33 => .int
  | 34 => .array .long
  | 35 => .array .int
  | 36 => .array .int
  | 37 => .array .int
  | 38 => .array .int
  | 39 => .int
  | 40 => .long
  | 41 => .int
  | _ => .array .boolean
theorem nmX11 : ∀ a, a < 43 → ∀ b, b < 43 → a ≠ b → (TX11 a).2.1 ≠ (TX11 b).2.1 := by decide +kernel
theorem tyX11_ok : ∀ k, k < 43 → parseFieldDescriptor (TX11 k).2.2.1 = some (tyX11 k) := by decide +kernel
abbrev cX11_init : ByteArray := prog_13_method_1_code
def yX11_init : MethodName := ⟨RX11, "<init>", "()V"⟩
abbrev cX11_in : ByteArray := prog_13_method_3_code
def yX11_in : MethodName := ⟨RX11, "in", "(III)Z"⟩
abbrev cX11_has : ByteArray := prog_13_method_4_code
def yX11_has : MethodName := ⟨RX11, "has", "(II)Z"⟩
abbrev cX11_ones : ByteArray := prog_13_method_5_code
def yX11_ones : MethodName := ⟨RX11, "ones", "(I)I"⟩
abbrev cX11_move : ByteArray := prog_13_method_6_code
def yX11_move : MethodName := ⟨RX11, "move", "([IIII)V"⟩
abbrev cX11_copy : ByteArray := prog_13_method_7_code
def yX11_copy : MethodName := ⟨RX11, "copy", "(II)V"⟩
abbrev cX11_isHill : ByteArray := prog_13_method_8_code
def yX11_isHill : MethodName := ⟨RX11, "isHill", "(I)Z"⟩
abbrev cX11_isPlan : ByteArray := prog_13_method_9_code
def yX11_isPlan : MethodName := ⟨RX11, "isPlan", "(I)Z"⟩
abbrev cX11_feed : ByteArray := prog_13_method_10_code
def yX11_feed : MethodName := ⟨RX11, "feed", "(IIIII)I"⟩
abbrev cX11_four : ByteArray := prog_13_method_11_code
def yX11_four : MethodName := ⟨RX11, "four", "(I)V"⟩
abbrev cX11_end : ByteArray := prog_13_method_12_code
def yX11_end : MethodName := ⟨RX11, "end", "(I)I"⟩
abbrev cX11_see : ByteArray := prog_13_method_13_code
def yX11_see : MethodName := ⟨RX11, "see", "()I"⟩
abbrev cX11_token : ByteArray := prog_13_method_14_code
def yX11_token : MethodName := ⟨RX11, "token", "()V"⟩
abbrev cX11_stops : ByteArray := prog_13_method_15_code
def yX11_stops : MethodName := ⟨RX11, "stops", "()Z"⟩
abbrev cX11_later : ByteArray := prog_13_method_16_code
def yX11_later : MethodName := ⟨RX11, "later", "(II)V"⟩
abbrev cX11_number : ByteArray := prog_13_method_17_code
def yX11_number : MethodName := ⟨RX11, "number", "(II)Z"⟩
abbrev cX11_take : ByteArray := prog_13_method_18_code
def yX11_take : MethodName := ⟨RX11, "take", "(III)Z"⟩
abbrev cX11_pondLine : ByteArray := prog_13_method_19_code
def yX11_pondLine : MethodName := ⟨RX11, "pondLine", "(I)Z"⟩
abbrev cX11_rainLine : ByteArray := prog_13_method_20_code
def yX11_rainLine : MethodName := ⟨RX11, "rainLine", "(I)Z"⟩
abbrev cX11_ofPond : ByteArray := prog_13_method_21_code
def yX11_ofPond : MethodName := ⟨RX11, "ofPond", "(IIIII)Z"⟩
abbrev cX11_daysLine : ByteArray := prog_13_method_22_code
def yX11_daysLine : MethodName := ⟨RX11, "daysLine", "(I)Z"⟩
abbrev cX11_hillLine : ByteArray := prog_13_method_23_code
def yX11_hillLine : MethodName := ⟨RX11, "hillLine", "(I)Z"⟩
abbrev cX11_workLine : ByteArray := prog_13_method_24_code
def yX11_workLine : MethodName := ⟨RX11, "workLine", "(I)Z"⟩
abbrev cX11_endsHill : ByteArray := prog_13_method_25_code
def yX11_endsHill : MethodName := ⟨RX11, "endsHill", "()V"⟩
abbrev cX11_readText : ByteArray := prog_13_method_26_code
def yX11_readText : MethodName := ⟨RX11, "readText", "(I)Z"⟩
abbrev cX11_text : ByteArray := prog_13_method_27_code
def yX11_text : MethodName := ⟨RX11, "text", "(II)I"⟩
abbrev cX11_fault : ByteArray := prog_13_method_28_code
def yX11_fault : MethodName := ⟨RX11, "fault", "(I)I"⟩
abbrev cX11_hill : ByteArray := prog_13_method_29_code
def yX11_hill : MethodName := ⟨RX11, "hill", "(II)I"⟩
abbrev cX11_of : ByteArray := prog_13_method_30_code
def yX11_of : MethodName := ⟨RX11, "of", "(II)I"⟩
abbrev cX11_set : ByteArray := prog_13_method_31_code
def yX11_set : MethodName := ⟨RX11, "set", "(III)V"⟩
abbrev cX11_does : ByteArray := prog_13_method_32_code
def yX11_does : MethodName := ⟨RX11, "does", "(III)Z"⟩
abbrev cX11_lay : ByteArray := prog_13_method_33_code
def yX11_lay : MethodName := ⟨RX11, "lay", "(II)Z"⟩
abbrev cX11_isPond : ByteArray := prog_13_method_34_code
def yX11_isPond : MethodName := ⟨RX11, "isPond", "(I)Z"⟩
abbrev cX11_arePonds : ByteArray := prog_13_method_35_code
def yX11_arePonds : MethodName := ⟨RX11, "arePonds", "(I)Z"⟩
abbrev cX11_pond : ByteArray := prog_13_method_36_code
def yX11_pond : MethodName := ⟨RX11, "pond", "(IIII)I"⟩
abbrev cX11_work : ByteArray := prog_13_method_37_code
def yX11_work : MethodName := ⟨RX11, "work", "(III)I"⟩
abbrev cX11_plan : ByteArray := prog_13_method_38_code
def yX11_plan : MethodName := ⟨RX11, "plan", "(III)I"⟩
abbrev cX11_hears : ByteArray := prog_13_method_39_code
def yX11_hears : MethodName := ⟨RX11, "hears", "(I)Z"⟩
abbrev cX11_blow : ByteArray := prog_13_method_40_code
def yX11_blow : MethodName := ⟨RX11, "blow", "(II)V"⟩
abbrev cX11_pass : ByteArray := prog_13_method_41_code
def yX11_pass : MethodName := ⟨RX11, "pass", "(IIZ)V"⟩
abbrev cX11_stepsOf : ByteArray := prog_13_method_42_code
def yX11_stepsOf : MethodName := ⟨RX11, "stepsOf", "(I)I"⟩
abbrev cX11_isRain : ByteArray := prog_13_method_43_code
def yX11_isRain : MethodName := ⟨RX11, "isRain", "(I)Z"⟩
abbrev cX11_harmOf : ByteArray := prog_13_method_44_code
def yX11_harmOf : MethodName := ⟨RX11, "harmOf", "(I)I"⟩
abbrev cX11_storm : ByteArray := prog_13_method_45_code
def yX11_storm : MethodName := ⟨RX11, "storm", "(IIIII)I"⟩
abbrev cX11_told : ByteArray := prog_13_method_46_code
def yX11_told : MethodName := ⟨RX11, "told", "(I)I"⟩
abbrev cX11_partsOf : ByteArray := prog_13_method_47_code
def yX11_partsOf : MethodName := ⟨RX11, "partsOf", "(II)J"⟩
abbrev cX11_allParts : ByteArray := prog_13_method_48_code
def yX11_allParts : MethodName := ⟨RX11, "allParts", "()J"⟩
abbrev cX11_meanBy : ByteArray := prog_13_method_49_code
def yX11_meanBy : MethodName := ⟨RX11, "meanBy", "(I)J"⟩
abbrev cX11_likely : ByteArray := prog_13_method_50_code
def yX11_likely : MethodName := ⟨RX11, "likely", "(III)J"⟩
abbrev cX11_isOwner : ByteArray := prog_13_method_51_code
def yX11_isOwner : MethodName := ⟨RX11, "isOwner", "(I)Z"⟩
abbrev cX11_mean : ByteArray := prog_13_method_52_code
def yX11_mean : MethodName := ⟨RX11, "mean", "(III)J"⟩
abbrev cX11_rows : ByteArray := prog_13_method_53_code
def yX11_rows : MethodName := ⟨RX11, "rows", "(IIZ)J"⟩
abbrev cX11_brings : ByteArray := prog_13_method_54_code
def yX11_brings : MethodName := ⟨RX11, "brings", "(IIII)I"⟩
abbrev cX11_keepChances : ByteArray := prog_13_method_55_code
def yX11_keepChances : MethodName := ⟨RX11, "keepChances", "()V"⟩
abbrev cX11_mendAll : ByteArray := prog_13_method_56_code
def yX11_mendAll : MethodName := ⟨RX11, "mendAll", "(I)V"⟩
abbrev cX11_meanMended : ByteArray := prog_13_method_57_code
def yX11_meanMended : MethodName := ⟨RX11, "meanMended", "(II)J"⟩
abbrev cX11_costOf : ByteArray := prog_13_method_58_code
def yX11_costOf : MethodName := ⟨RX11, "costOf", "(I)I"⟩
abbrev cX11_canMend : ByteArray := prog_13_method_59_code
def yX11_canMend : MethodName := ⟨RX11, "canMend", "(IIII)Z"⟩
abbrev cX11_best : ByteArray := prog_13_method_60_code
def yX11_best : MethodName := ⟨RX11, "best", "(IIII)I"⟩
abbrev cX11_steps : ByteArray := prog_13_method_61_code
def yX11_steps : MethodName := ⟨RX11, "steps", "(IIII)I"⟩
abbrev cX11_nextOf : ByteArray := prog_13_method_62_code
def yX11_nextOf : MethodName := ⟨RX11, "nextOf", "(III)I"⟩
abbrev cX11_isSooner : ByteArray := prog_13_method_63_code
def yX11_isSooner : MethodName := ⟨RX11, "isSooner", "(JIJI)Z"⟩
abbrev cX11_mended : ByteArray := prog_13_method_64_code
def yX11_mended : MethodName := ⟨RX11, "mended", "(III)J"⟩
abbrev cX11_one : ByteArray := prog_13_method_65_code
def yX11_one : MethodName := ⟨RX11, "one", "(IIZ)J"⟩
abbrev cX11_low : ByteArray := prog_13_method_66_code
def yX11_low : MethodName := ⟨RX11, "low", "(III)I"⟩
abbrev cX11_pondsOf : ByteArray := prog_13_method_67_code
def yX11_pondsOf : MethodName := ⟨RX11, "pondsOf", "(I)I"⟩
abbrev cX11_helps : ByteArray := prog_13_method_68_code
def yX11_helps : MethodName := ⟨RX11, "helps", "(IIII)J"⟩
abbrev cX11_alone : ByteArray := prog_13_method_69_code
def yX11_alone : MethodName := ⟨RX11, "alone", "(III)J"⟩
abbrev cX11_hear : ByteArray := prog_13_method_70_code
def yX11_hear : MethodName := ⟨RX11, "hear", "(IIII)J"⟩
abbrev cX11_fillAll : ByteArray := prog_13_method_71_code
def yX11_fillAll : MethodName := ⟨RX11, "fillAll", "(I)J"⟩
abbrev cX11_findOrder : ByteArray := prog_13_method_72_code
def yX11_findOrder : MethodName := ⟨RX11, "findOrder", "(I)V"⟩
abbrev cX11_isFilled : ByteArray := prog_13_method_73_code
def yX11_isFilled : MethodName := ⟨RX11, "isFilled", "(III)Z"⟩
abbrev cX11_may : ByteArray := prog_13_method_74_code
def yX11_may : MethodName := ⟨RX11, "may", "(IIIZ)J"⟩
abbrev cX11_order : ByteArray := prog_13_method_75_code
def yX11_order : MethodName := ⟨RX11, "order", "(IIII)I"⟩
abbrev cX11_seenBy : ByteArray := prog_13_method_76_code
def yX11_seenBy : MethodName := ⟨RX11, "seenBy", "(I)I"⟩
abbrev cX11_seenAll : ByteArray := prog_13_method_77_code
def yX11_seenAll : MethodName := ⟨RX11, "seenAll", "(I)I"⟩
abbrev cX11_common : ByteArray := prog_13_method_78_code
def yX11_common : MethodName := ⟨RX11, "common", "(II)I"⟩
abbrev cX11_think : ByteArray := prog_13_method_79_code
def yX11_think : MethodName := ⟨RX11, "think", "(IIIZ)I"⟩
abbrev cX11_now : ByteArray := prog_13_method_80_code
def yX11_now : MethodName := ⟨RX11, "now", "(II)I"⟩
abbrev cX11_draw : ByteArray := prog_13_method_81_code
def yX11_draw : MethodName := ⟨RX11, "draw", "(I)I"⟩
abbrev cX11_year : ByteArray := prog_13_method_82_code
def yX11_year : MethodName := ⟨RX11, "year", "()V"⟩
abbrev cX11_years : ByteArray := prog_13_method_83_code
def yX11_years : MethodName := ⟨RX11, "years", "(IIIII)J"⟩
abbrev cX11_spared : ByteArray := prog_13_method_84_code
def yX11_spared : MethodName := ⟨RX11, "spared", "(III)I"⟩
abbrev cX11_deep : ByteArray := prog_13_method_85_code
def yX11_deep : MethodName := ⟨RX11, "deep", "(II)I"⟩
abbrev cX11_safe : ByteArray := prog_13_method_86_code
def yX11_safe : MethodName := ⟨RX11, "safe", "(II)I"⟩
abbrev cX11_weighs : ByteArray := prog_13_method_87_code
def yX11_weighs : MethodName := ⟨RX11, "weighs", "(II)I"⟩
abbrev cX11_leads : ByteArray := prog_13_method_88_code
def yX11_leads : MethodName := ⟨RX11, "leads", "(II)Z"⟩
abbrev cX11_upon : ByteArray := prog_13_method_89_code
def yX11_upon : MethodName := ⟨RX11, "upon", "(IIIZ)I"⟩
abbrev cX11_runs : ByteArray := prog_13_method_90_code
def yX11_runs : MethodName := ⟨RX11, "runs", "(III)I"⟩
abbrev cX11_together : ByteArray := prog_13_method_91_code
def yX11_together : MethodName := ⟨RX11, "together", "(I)J"⟩
abbrev cX11_joint : ByteArray := prog_13_method_92_code
def yX11_joint : MethodName := ⟨RX11, "joint", "(IIII)J"⟩
abbrev cX11_commonOf : ByteArray := prog_13_method_93_code
def yX11_commonOf : MethodName := ⟨RX11, "commonOf", "(JJ)J"⟩
abbrev cX11_given : ByteArray := prog_13_method_94_code
def yX11_given : MethodName := ⟨RX11, "given", "(IIIIZ)J"⟩
abbrev cX11_worst : ByteArray := prog_13_method_95_code
def yX11_worst : MethodName := ⟨RX11, "worst", "(III)J"⟩
abbrev cX11_flood : ByteArray := prog_13_method_96_code
def yX11_flood : MethodName := ⟨RX11, "flood", "(II)I"⟩
abbrev cX11_around : ByteArray := prog_13_method_97_code
def yX11_around : MethodName := ⟨RX11, "around", "(IIZ)I"⟩
abbrev cX11_twice : ByteArray := prog_13_method_98_code
def yX11_twice : MethodName := ⟨RX11, "twice", "(IIIIIII)I"⟩
abbrev cX11_better : ByteArray := prog_13_method_99_code
def yX11_better : MethodName := ⟨RX11, "better", "(III)I"⟩
abbrev cX11_spend : ByteArray := prog_13_method_100_code
def yX11_spend : MethodName := ⟨RX11, "spend", "(IIII)I"⟩
abbrev cX11_count : ByteArray := prog_13_method_101_code
def yX11_count : MethodName := ⟨RX11, "count", "(I)I"⟩
abbrev cX11_image : ByteArray := prog_13_method_102_code
def yX11_image : MethodName := ⟨RX11, "image", "(I)Z"⟩
abbrev cX11_again : ByteArray := prog_13_method_103_code
def yX11_again : MethodName := ⟨RX11, "again", "(I)Z"⟩
def RJ6 : String := "java/lang/Integer"
abbrev cJ6_bitCount_0f7a4 : ByteArray := prog_14_method_49_code
def yJ6_bitCount_0f7a4 : MethodName := ⟨RJ6, "bitCount", "(I)I"⟩
def RJ9 : String := "java/lang/Math"
abbrev cJ9_max_f86c9 : ByteArray := prog_15_method_66_code
def yJ9_max_f86c9 : MethodName := ⟨RJ9, "max", "(JJ)J"⟩
def RJ0 : String := "java/lang/String"
abbrev cJ0_length_8abf5 : ByteArray := prog_16_method_54_code
def yJ0_length_8abf5 : MethodName := ⟨RJ0, "length", "()I"⟩
abbrev cJ0_charAt_5068e : ByteArray := prog_16_method_56_code
def yJ0_charAt_5068e : MethodName := ⟨RJ0, "charAt", "(I)C"⟩
abbrev cJ0_coder_7d493 : ByteArray := prog_16_method_152_code
def yJ0_coder_7d493 : MethodName := ⟨RJ0, "coder", "()B"⟩
abbrev cJ0_isLatin1_aae02 : ByteArray := prog_16_method_154_code
def yJ0_isLatin1_aae02 : MethodName := ⟨RJ0, "isLatin1", "()Z"⟩
abbrev cJ0_checkIndex_df160 : ByteArray := prog_16_method_155_code
def yJ0_checkIndex_df160 : MethodName := ⟨RJ0, "checkIndex", "(II)V"⟩
def RJ1 : String := "java/lang/StringLatin1"
abbrev cJ1_charAt_3b067 : ByteArray := prog_17_method_2_code
def yJ1_charAt_3b067 : MethodName := ⟨RJ1, "charAt", "([BI)C"⟩
def RJ10 : String := "java/lang/System"
def RJ7 : String := "java/util/Arrays"
abbrev cJ7_rangeCheck_23922 : ByteArray := prog_20_method_30_code
def yJ7_rangeCheck_23922 : MethodName := ⟨RJ7, "rangeCheck", "(III)V"⟩
abbrev cJ7_fill_d0a16 : ByteArray := prog_20_method_101_code
def yJ7_fill_d0a16 : MethodName := ⟨RJ7, "fill", "([JJ)V"⟩
abbrev cJ7_fill_53178 : ByteArray := prog_20_method_103_code
def yJ7_fill_53178 : MethodName := ⟨RJ7, "fill", "([II)V"⟩
abbrev cJ7_fill_fda19 : ByteArray := prog_20_method_104_code
def yJ7_fill_fda19 : MethodName := ⟨RJ7, "fill", "([IIII)V"⟩
def RJ3 : String := "jdk/internal/util/Preconditions"
abbrev cJ3_checkIndex_8e157 : ByteArray := prog_21_method_11_code
def yJ3_checkIndex_8e157 : MethodName := ⟨RJ3, "checkIndex", "(IILjava/util/function/BiFunction;)I"⟩
def RL : String := "PondStairLaw"
abbrev cL_law : ByteArray := code
def yL_law : MethodName := ⟨RL, "law", "([I)Z"⟩
abbrev vwCl : List vw_C := [(RX0, TX0, 10), (RX1, TX1, 6), (RX2, TX2, 6), (RX3, TX3, 7), (RX4, TX4, 4), (RX5, TX5, 7), (RX6, TX6, 6), (RX7, TX7, 8), (RX8, TX8, 4), (RX9, TX9, 1), (RX10, TX10, 10), (RX11, TX11, 43)]
theorem inG0 : ∀ w ∈ u_ws RX0 TX0 10, w ∈ gt := gt_of _ [400, 402, 404, 406, 408, 410, 412, 414, 416, 418] (by decide +kernel) (by decide +kernel)
theorem inG1 : ∀ w ∈ u_ws RX1 TX1 6, w ∈ gt := gt_of _ [148, 150, 152, 154, 156, 158] (by decide +kernel) (by decide +kernel)
theorem inG2 : ∀ w ∈ u_ws RX2 TX2 6, w ∈ gt := gt_of _ [370, 372, 374, 376, 378, 380] (by decide +kernel) (by decide +kernel)
theorem inG3 : ∀ w ∈ u_ws RX3 TX3 7, w ∈ gt := gt_of _ [271, 273, 275, 277, 279, 281, 283] (by decide +kernel) (by decide +kernel)
theorem inG4 : ∀ w ∈ u_ws RX4 TX4 4, w ∈ gt := gt_of _ [302, 304, 306, 308] (by decide +kernel) (by decide +kernel)
theorem inG5 : ∀ w ∈ u_ws RX5 TX5 7, w ∈ gt := gt_of _ [331, 333, 335, 337, 339, 341, 343] (by decide +kernel) (by decide +kernel)
theorem inG6 : ∀ w ∈ u_ws RX6 TX6 6, w ∈ gt := gt_of _ [242, 244, 246, 248, 250, 252] (by decide +kernel) (by decide +kernel)
theorem inG7 : ∀ w ∈ u_ws RX7 TX7 8, w ∈ gt := gt_of _ [202, 204, 206, 208, 210, 212, 214, 216] (by decide +kernel) (by decide +kernel)
theorem inG8 : ∀ w ∈ u_ws RX8 TX8 4, w ∈ gt := gt_of _ [177, 179, 181, 183] (by decide +kernel) (by decide +kernel)
theorem inG9 : ∀ w ∈ u_ws RX9 TX9 1, w ∈ gt := gt_of _ [1111] (by decide +kernel) (by decide +kernel)
theorem inG10 : ∀ w ∈ u_ws RX10 TX10 10, w ∈ gt := gt_of _ [433, 435, 437, 439, 441, 443, 445, 447, 449, 451] (by decide +kernel) (by decide +kernel)
theorem inG11 : ∀ w ∈ u_ws RX11 TX11 43, w ∈ gt := gt_of _ [1307, 1309, 1311, 1313, 1315, 1317, 1319, 1321, 1323, 1325, 1327, 1329, 1331, 1333, 1335, 1337, 1339, 1341, 1343, 1345, 1347, 1349, 1351, 1353, 1355, 1357, 1359, 1361, 1363, 1365, 1367, 1369, 1371, 1373, 1375, 1377, 1379, 1381, 1383, 1385, 1387, 1389, 1391] (by decide +kernel) (by decide +kernel)
theorem cq_RJ0 : RJ0 ≠ "java/lang/invoke/MethodHandle" ∧ RJ0 ≠ "java/lang/invoke/VarHandle" := by decide +kernel
theorem cq_RJ1 : RJ1 ≠ "java/lang/invoke/MethodHandle" ∧ RJ1 ≠ "java/lang/invoke/VarHandle" := by decide +kernel
theorem cq_RJ3 : RJ3 ≠ "java/lang/invoke/MethodHandle" ∧ RJ3 ≠ "java/lang/invoke/VarHandle" := by decide +kernel
theorem cq_RJ6 : RJ6 ≠ "java/lang/invoke/MethodHandle" ∧ RJ6 ≠ "java/lang/invoke/VarHandle" := by decide +kernel
theorem cq_RJ7 : RJ7 ≠ "java/lang/invoke/MethodHandle" ∧ RJ7 ≠ "java/lang/invoke/VarHandle" := by decide +kernel
theorem cq_RJ9 : RJ9 ≠ "java/lang/invoke/MethodHandle" ∧ RJ9 ≠ "java/lang/invoke/VarHandle" := by decide +kernel
theorem cq_RX0 : RX0 ≠ "java/lang/invoke/MethodHandle" ∧ RX0 ≠ "java/lang/invoke/VarHandle" := by decide +kernel
theorem cq_RX1 : RX1 ≠ "java/lang/invoke/MethodHandle" ∧ RX1 ≠ "java/lang/invoke/VarHandle" := by decide +kernel
theorem cq_RX10 : RX10 ≠ "java/lang/invoke/MethodHandle" ∧ RX10 ≠ "java/lang/invoke/VarHandle" := by decide +kernel
theorem cq_RX11 : RX11 ≠ "java/lang/invoke/MethodHandle" ∧ RX11 ≠ "java/lang/invoke/VarHandle" := by decide +kernel
theorem cq_RX2 : RX2 ≠ "java/lang/invoke/MethodHandle" ∧ RX2 ≠ "java/lang/invoke/VarHandle" := by decide +kernel
theorem cq_RX3 : RX3 ≠ "java/lang/invoke/MethodHandle" ∧ RX3 ≠ "java/lang/invoke/VarHandle" := by decide +kernel
theorem cq_RX4 : RX4 ≠ "java/lang/invoke/MethodHandle" ∧ RX4 ≠ "java/lang/invoke/VarHandle" := by decide +kernel
theorem cq_RX5 : RX5 ≠ "java/lang/invoke/MethodHandle" ∧ RX5 ≠ "java/lang/invoke/VarHandle" := by decide +kernel
theorem cq_RX6 : RX6 ≠ "java/lang/invoke/MethodHandle" ∧ RX6 ≠ "java/lang/invoke/VarHandle" := by decide +kernel
theorem cq_RX7 : RX7 ≠ "java/lang/invoke/MethodHandle" ∧ RX7 ≠ "java/lang/invoke/VarHandle" := by decide +kernel
theorem cq_RX8 : RX8 ≠ "java/lang/invoke/MethodHandle" ∧ RX8 ≠ "java/lang/invoke/VarHandle" := by decide +kernel
theorem cq_RX9 : RX9 ≠ "java/lang/invoke/MethodHandle" ∧ RX9 ≠ "java/lang/invoke/VarHandle" := by decide +kernel
theorem pd_0 : (parseMethodDescriptor "()B").map (fun d => d.parameters.length) = some 0 := by decide +kernel
theorem pd_1 : (parseMethodDescriptor "()I").map (fun d => d.parameters.length) = some 0 := by decide +kernel
theorem pd_2 : (parseMethodDescriptor "()J").map (fun d => d.parameters.length) = some 0 := by decide +kernel
theorem pd_3 : (parseMethodDescriptor "()V").map (fun d => d.parameters.length) = some 0 := by decide +kernel
theorem pd_4 : (parseMethodDescriptor "()Z").map (fun d => d.parameters.length) = some 0 := by decide +kernel
theorem pd_5 : (parseMethodDescriptor "(I)C").map (fun d => d.parameters.length) = some 1 := by decide +kernel
theorem pd_6 : (parseMethodDescriptor "(I)I").map (fun d => d.parameters.length) = some 1 := by decide +kernel
theorem pd_7 : (parseMethodDescriptor "(I)J").map (fun d => d.parameters.length) = some 1 := by decide +kernel
theorem pd_8 : (parseMethodDescriptor "(I)Ljava/lang/String;").map (fun d => d.parameters.length) = some 1 := by decide +kernel
theorem pd_9 : (parseMethodDescriptor "(I)V").map (fun d => d.parameters.length) = some 1 := by decide +kernel
theorem pd_10 : (parseMethodDescriptor "(I)Z").map (fun d => d.parameters.length) = some 1 := by decide +kernel
theorem pd_11 : (parseMethodDescriptor "(II)I").map (fun d => d.parameters.length) = some 2 := by decide +kernel
theorem pd_12 : (parseMethodDescriptor "(II)J").map (fun d => d.parameters.length) = some 2 := by decide +kernel
theorem pd_13 : (parseMethodDescriptor "(II)V").map (fun d => d.parameters.length) = some 2 := by decide +kernel
theorem pd_14 : (parseMethodDescriptor "(II)Z").map (fun d => d.parameters.length) = some 2 := by decide +kernel
theorem pd_15 : (parseMethodDescriptor "(III)I").map (fun d => d.parameters.length) = some 3 := by decide +kernel
theorem pd_16 : (parseMethodDescriptor "(III)J").map (fun d => d.parameters.length) = some 3 := by decide +kernel
theorem pd_17 : (parseMethodDescriptor "(III)V").map (fun d => d.parameters.length) = some 3 := by decide +kernel
theorem pd_18 : (parseMethodDescriptor "(III)Z").map (fun d => d.parameters.length) = some 3 := by decide +kernel
theorem pd_19 : (parseMethodDescriptor "(IIII)I").map (fun d => d.parameters.length) = some 4 := by decide +kernel
theorem pd_20 : (parseMethodDescriptor "(IIII)J").map (fun d => d.parameters.length) = some 4 := by decide +kernel
theorem pd_21 : (parseMethodDescriptor "(IIII)V").map (fun d => d.parameters.length) = some 4 := by decide +kernel
theorem pd_22 : (parseMethodDescriptor "(IIII)Z").map (fun d => d.parameters.length) = some 4 := by decide +kernel
theorem pd_23 : (parseMethodDescriptor "(IIIII)I").map (fun d => d.parameters.length) = some 5 := by decide +kernel
theorem pd_24 : (parseMethodDescriptor "(IIIII)J").map (fun d => d.parameters.length) = some 5 := by decide +kernel
theorem pd_25 : (parseMethodDescriptor "(IIIII)Z").map (fun d => d.parameters.length) = some 5 := by decide +kernel
theorem pd_26 : (parseMethodDescriptor "(IIIIIII)I").map (fun d => d.parameters.length) = some 7 := by decide +kernel
theorem pd_27 : (parseMethodDescriptor "(IIIIZ)J").map (fun d => d.parameters.length) = some 5 := by decide +kernel
theorem pd_28 : (parseMethodDescriptor "(IIIZ)I").map (fun d => d.parameters.length) = some 4 := by decide +kernel
theorem pd_29 : (parseMethodDescriptor "(IIIZ)J").map (fun d => d.parameters.length) = some 4 := by decide +kernel
theorem pd_30 : (parseMethodDescriptor "(IILPondStair$Reader;)V").map (fun d => d.parameters.length) = some 3 := by decide +kernel
theorem pd_31 : (parseMethodDescriptor "(IILjava/util/function/BiFunction;)I").map (fun d => d.parameters.length) = some 3 := by decide +kernel
theorem pd_32 : (parseMethodDescriptor "(IIZ)I").map (fun d => d.parameters.length) = some 3 := by decide +kernel
theorem pd_33 : (parseMethodDescriptor "(IIZ)J").map (fun d => d.parameters.length) = some 3 := by decide +kernel
theorem pd_34 : (parseMethodDescriptor "(IIZ)V").map (fun d => d.parameters.length) = some 3 := by decide +kernel
theorem pd_36 : (parseMethodDescriptor "(JIJI)Z").map (fun d => d.parameters.length) = some 4 := by decide +kernel
theorem pd_37 : (parseMethodDescriptor "(JJ)J").map (fun d => d.parameters.length) = some 2 := by decide +kernel
theorem pd_38 : (parseMethodDescriptor "(JJJJ)Z").map (fun d => d.parameters.length) = some 4 := by decide +kernel
theorem pd_39 : (parseMethodDescriptor "(JJZ)J").map (fun d => d.parameters.length) = some 3 := by decide +kernel
theorem pd_40 : (parseMethodDescriptor "(LPondStair$Hill;)I").map (fun d => d.parameters.length) = some 1 := by decide +kernel
theorem pd_41 : (parseMethodDescriptor "(LPondStair$Hill;)V").map (fun d => d.parameters.length) = some 1 := by decide +kernel
theorem pd_42 : (parseMethodDescriptor "(LPondStair$Hill;I)I").map (fun d => d.parameters.length) = some 2 := by decide +kernel
theorem pd_43 : (parseMethodDescriptor "(LPondStair$Hill;I)J").map (fun d => d.parameters.length) = some 2 := by decide +kernel
theorem pd_44 : (parseMethodDescriptor "(LPondStair$Hill;I)V").map (fun d => d.parameters.length) = some 2 := by decide +kernel
theorem pd_45 : (parseMethodDescriptor "(LPondStair$Hill;I)Z").map (fun d => d.parameters.length) = some 2 := by decide +kernel
theorem pd_46 : (parseMethodDescriptor "(LPondStair$Hill;II)I").map (fun d => d.parameters.length) = some 3 := by decide +kernel
theorem pd_47 : (parseMethodDescriptor "(LPondStair$Hill;II)V").map (fun d => d.parameters.length) = some 3 := by decide +kernel
theorem pd_48 : (parseMethodDescriptor "(LPondStair$Hill;II)Z").map (fun d => d.parameters.length) = some 3 := by decide +kernel
theorem pd_49 : (parseMethodDescriptor "(LPondStair$Hill;III)I").map (fun d => d.parameters.length) = some 4 := by decide +kernel
theorem pd_50 : (parseMethodDescriptor "(LPondStair$Hill;III)V").map (fun d => d.parameters.length) = some 4 := by decide +kernel
theorem pd_51 : (parseMethodDescriptor "(LPondStair$Hill;IZ)I").map (fun d => d.parameters.length) = some 3 := by decide +kernel
theorem pd_52 : (parseMethodDescriptor "(LPondStair$Hill;LPondStair$Storm;II)J").map (fun d => d.parameters.length) = some 4 := by decide +kernel
theorem pd_53 : (parseMethodDescriptor "(LPondStair$Hill;LPondStair$Works;)V").map (fun d => d.parameters.length) = some 2 := by decide +kernel
theorem pd_54 : (parseMethodDescriptor "(LPondStair$Told;)V").map (fun d => d.parameters.length) = some 1 := by decide +kernel
theorem pd_55 : (parseMethodDescriptor "(LPondStair$Works;)V").map (fun d => d.parameters.length) = some 1 := by decide +kernel
theorem pd_56 : (parseMethodDescriptor "(Ljava/lang/String;)Z").map (fun d => d.parameters.length) = some 1 := by decide +kernel
theorem pd_58 : (parseMethodDescriptor "([BI)C").map (fun d => d.parameters.length) = some 2 := by decide +kernel
theorem pd_59 : (parseMethodDescriptor "([BI)V").map (fun d => d.parameters.length) = some 2 := by decide +kernel
theorem pd_60 : (parseMethodDescriptor "([BII)V").map (fun d => d.parameters.length) = some 3 := by decide +kernel
theorem pd_62 : (parseMethodDescriptor "([II)V").map (fun d => d.parameters.length) = some 2 := by decide +kernel
theorem pd_63 : (parseMethodDescriptor "([IIII)V").map (fun d => d.parameters.length) = some 4 := by decide +kernel
theorem pd_64 : (parseMethodDescriptor "([JJ)V").map (fun d => d.parameters.length) = some 2 := by decide +kernel
end
section
/-! THE J LAYER: one world for all cells (class and reference), at addresses base + number; J: the machine at a pc, with locals, operands and world in these words, comes to its end -/
abbrev MA : Type := (Nat → Int32) ⊕ (Nat → Int64) ⊕ (Nat → Option Nat)
/-- a cell: an array (number of its kind, length, contents) or an object (number of its kind of vwCl, fields); references are numbers of cells -/
abbrev MC : Type := (Nat × Nat × MA) ⊕ (Nat × List Value)
/-- references: .ref i the i-th cell of the world, .retAddr k the k-th constant array -/
def rv (b : Nat) (ca : Nat → Nat) (v : Value) : Value := match v with
  | .ref i => .ref (b + i)
  | .retAddr k => .ref (ca k)
  | .int x => .int x
  | .long x => .long x
  | .float x => .float x
  | .double x => .double x
  | .null => .null
theorem rv_cat (b : Nat) (ca : Nat → Nat) (v : Value) : (rv b ca v).category = v.category := by cases v <;> rfl
def rl (b : Nat) (ca : Nat → Nat) (lv : List (Nat × Value)) : List (Nat × Value) := lv.map (fun q => (q.1, rv b ca q.2))
theorem rl_at {b : Nat} {ca : Nat → Nat} {lv : List (Nat × Value)} {ls : Array Slot} {nL i j : Nat} {v : Value} (h : lv_has ls nL (rl b ca lv)) (hj : lv[j]? = some (i, v)) : ls[i]? = some (.val (rv b ca v)) := by
  refine lv_at h j (i := i) (v := rv b ca v) ?_
  simp [rl, hj]
theorem rl_filter (b : Nat) (ca : Nat → Nat) (lv : List (Nat × Value)) (f : Nat → Nat → Bool) : (rl b ca lv).filter (fun q => f q.1 q.2.category) = rl b ca (lv.filter (fun q => f q.1 q.2.category)) := by
  induction lv with
  | nil => rfl
  | cons a t ih =>
    have ih' : List.filter (fun q => f q.1 q.2.category) (List.map (fun q => (q.1, rv b ca q.2)) t) = List.map (fun q => (q.1, rv b ca q.2)) (List.filter (fun q => f q.1 q.2.category) t) := ih
    simp only [rl, List.map_cons, List.filter_cons, rv_cat]
    by_cases h : f a.1 a.2.category = true
    · simp only [h, if_true, List.map_cons]
      rw [ih']
    · simp only [h, if_false, Bool.false_eq_true]
      rw [ih']
theorem rl_args (b : Nat) (ca : Nat → Nat) : ∀ (vs : List Value) (i : Nat), lv_args i (vs.map (rv b ca)) = rl b ca (lv_args i vs)
  | [], _ => rfl
  | v :: vs, i => by
    show (i, rv b ca v) :: lv_args (if (rv b ca v).category = 2 then i + 2 else i + 1) (vs.map (rv b ca)) = _
    rw [rv_cat, rl_args b ca vs]
    rfl
theorem rv_sl (b : Nat) (ca : Nat → Nat) (vs : List Value) : (lg_sl (vs.map (rv b ca))).length = (lg_sl vs).length := by
  induction vs with
  | nil => rfl
  | cons v t ih =>
    simp only [lg_sl, List.map_cons, List.flatMap_cons, List.length_append, rv_cat] at ih ⊢
    rw [ih]
    by_cases h : v.category = 2 <;> simp [h]
theorem rv_sum (b : Nat) (ca : Nat → Nat) (st : List Value) : ((st.map (rv b ca)).map fun v => v.category).sum = (st.map fun v => v.category).sum := by
  induction st with
  | nil => rfl
  | cons v t ih => simp only [List.map_cons, List.sum_cons, rv_cat, ih]
def rA (b : Nat) (a : MA) : (Nat → Int32) ⊕ (Nat → Int64) ⊕ (Nat → UInt32) ⊕ (Nat → UInt64) ⊕ (Nat → Option Nat) := match a with
  | .inl f => .inl f
  | .inr (.inl f) => .inr (.inl f)
  | .inr (.inr f) => .inr (.inr (.inr (.inr (fun j => (f j).map (fun i => b + i)))))
def rE (b : Nat) (ca : Nat → Nat) (cA : Nat → ClassId) (c : MC) : va_E := match c with
  | .inl (t, n, a) => .inl (cA t, n, rA b a)
  | .inr (c, fs) => .inr (c, fs.map (rv b ca))
def wz (b : Nat) (ca : Nat → Nat) (cA : Nat → ClassId) (h : List MC) : va_W := h.mapIdx (fun i c => (b + i, rE b ca cA c))
section
variable {b : Nat} {ca : Nat → Nat} {cA : Nat → ClassId} {h : List MC}
theorem wz_len : (wz b ca cA h).length = h.length := List.length_mapIdx
theorem wz_get {i : Nat} {c : MC} (hi : h[i]? = some c) : (wz b ca cA h)[i]? = some (b + i, rE b ca cA c) := by
  simp [wz, List.getElem?_mapIdx, hi]
theorem wz_of {i : Nat} {q : Nat × va_E} (hi : (wz b ca cA h)[i]? = some q) : i < h.length ∧ q.1 = b + i := by
  rw [wz, List.getElem?_mapIdx] at hi
  cases hc : h[i]? with
  | none => rw [hc] at hi; cases hi
  | some c =>
    rw [hc] at hi
    cases hi
    exact ⟨(List.getElem?_eq_some_iff.mp hc).1, rfl⟩
theorem wz_set {i : Nat} {c : MC} : (wz b ca cA h).set i (b + i, rE b ca cA c) = wz b ca cA (h.set i c) := by
  apply List.ext_getElem?
  intro j
  rw [List.getElem?_set, wz, wz, List.getElem?_mapIdx, List.getElem?_mapIdx, List.getElem?_set, List.length_mapIdx]
  by_cases hij : i = j
  · subst hij
    by_cases hl : i < h.length
    · simp [hl]
    · simp [hl]
  · simp [hij]
theorem wz_push {c : MC} : wz b ca cA h ++ [(b + h.length, rE b ca cA c)] = wz b ca cA (h ++ [c]) := by
  rw [wz, wz, List.mapIdx_append]
  simp
theorem wz_D : va_D (fun q => b ≤ q) (wz b ca cA h) := by
  refine ⟨fun i j p q hi hj hpq => ?_, fun k q hk => ?_⟩
  · have h1 := (wz_of hi).2
    have h2 := (wz_of hj).2
    omega
  · have h1 := (wz_of hk).2
    show b ≤ q.1
    omega
end
/-- the kinds of arrays -/
def tz (cA : Nat → ClassId) : List (ClassId × FieldType) := [(cA 0, .byte), (cA 1, .int), (cA 2, .long), (cA 3, .boolean), (cA 4, .object "PondStair$Hill"), (cA 5, .object "PondStair$Told"), (cA 6, .object "PondStair$Works")]
abbrev JK : Type := Nat → Option (Nat × (Nat → Int32))
/-- constant int arrays: below the base, never written -/
def CN (con : JK) (ca : Nat → Nat) (b : Nat) (s : State) : Prop := ∀ (k n : Nat) (f : Nat → Int32), con k = some (n, f) → va_X (ca k) n f s s.heap ∧ ca k < b ∧ b ≤ s.heap.size
/-- the static arrays of the reader, its words (String constants) -/
def sNm : Nat → String
  | 0 => "HILL_COUNT" | 1 => "HILL_COLUMN" | 2 => "HILL_MOST" | 3 => "PLAN_COUNT" | 4 => "PLAN_LEAST" | _ => "PLAN_MOST"
def sAr : Nat → List Int32
  | 0 => [3, 2, 3, 2, 2, 2, 2, 2, 2, 2, 3, 2, 1, 1, 1]
  | 1 => [-1, 8, 9, 3, 4, 5, 6, 7, 11, 12, 13, -1, -1, -1, -1]
  | 2 => [24, 24, 9, 8, 8, 0, 8, 8, 10, 8, 24, 0, 8, 10, 0, 8, 999, 0, 8, 3, 0, 8, 99, 0, 8, 99, 0, 8, 99, 0, 8, 10, 10, 9, 100, 0, 99, 0, 0, 99, 0, 0, 99, 0, 0]
  | 3 => [2, 2, 2, 2, 1]
  | 4 => [0, 1, 0, 0, 1, 0, 0, 1, 0, 0, 0, 0, 0, 0, 0]
  | _ => [8, 10, 0, 8, 24, 0, 8, 24, 0, 8, 8, 0, 8, 0, 0]
def sTx : Nat → String
  | 0 => "pond" | 1 => "down" | 2 => "aside" | 3 => "bears" | 4 => "goes" | 5 => "harm" | 6 => "owner" | 7 => "rice" | 8 => "way" | 9 => "gate" | 10 => "sign" | 11 => "rain" | 12 => "mend" | 13 => "wide" | 14 => "round" | 15 => "low" | 16 => "widen" | _ => "out"
def sLn : List Nat := [4, 4, 5, 5, 4, 4, 5, 4, 3, 4, 4, 4, 4, 4, 5, 3, 5, 3]
def sBy : List (List Int32) := [[112, 111, 110, 100], [100, 111, 119, 110], [97, 115, 105, 100, 101], [98, 101, 97, 114, 115], [103, 111, 101, 115], [104, 97, 114, 109], [111, 119, 110, 101, 114], [114, 105, 99, 101], [119, 97, 121], [103, 97, 116, 101], [115, 105, 103, 110], [114, 97, 105, 110], [109, 101, 110, 100], [119, 105, 100, 101], [114, 111, 117, 110, 100], [108, 111, 119], [119, 105, 100, 101, 110], [111, 117, 116]]
def SS (ca : Nat → Nat) (b : Nat) (U : State) : Prop :=
  (∀ i, i < 6 → va_Z RX3 (sNm i) "[I" (.ref (ca (1 + i))) (fun q => b ≤ q) U U.heap ∧ va_T .int (ca (1 + i)) (sAr i).length (fun j => .int ((sAr i).getD j 0)) (fun q => b ≤ q) U U.heap) ∧ va_Z "java/lang/String" "COMPACT_STRINGS" "Z" (.int 1) (fun q => b ≤ q) U U.heap ∧ vk_S 18 sLn sBy (fun i => ca (10 + i)) (fun i => ca (40 + i)) (fun q => b ≤ q) U U.heap ∧ (∀ i, i < 18 → vk_R RX3 (120 + 2 * i) (sTx i) (ca (10 + i)) U) ∧ (va_Z "jdk/internal/util/Preconditions" "SIOOBE_FORMATTER" "Ljava/util/function/BiFunction;" .null (fun q => b ≤ q) U U.heap ∨ va_Z "jdk/internal/util/Preconditions" "SIOOBE_FORMATTER" "Ljava/util/function/BiFunction;" (.ref (ca 60)) (fun q => b ≤ q) U U.heap)
theorem SS.warm {ca : Nat → Nat} {b : Nat} {s U : State} {H : Heap} {locs : List Loc} (hW : s.WarmedH U.vm) (hH : U.heap = H) (hS : va_S (fun q => b ≤ q) s.heap H locs) (h : SS ca b s) : SS ca b U := by
  subst hH
  obtain ⟨h1, h2, h3, h4, h5⟩ := h
  exact ⟨fun i hi => ⟨((h1 i hi).1.kept hS.2.1).moved hW.alike, ((h1 i hi).2.kept hS.2.1).moved hW.alike⟩, (h2.kept hS.2.1).moved hW.alike, (h3.kept hS.2.1).moved hW.alike, fun i hi => vk_R.warm hW (h4 i hi), h5.imp (fun q => (q.kept hS.2.1).moved hW.alike) (fun q => (q.kept hS.2.1).moved hW.alike)⟩
theorem SS.same {ca : Nat → Nat} {b : Nat} {s U : State} (hv : s.vm = U.vm) (hh : U.heap = s.heap) (h : SS ca b s) : SS ca b U := by
  obtain ⟨h1, h2, h3, h4, h5⟩ := h
  have hA : s.vm.Alike U.vm := by rw [hv]; exact Vm.Alike.refl _
  unfold SS
  rw [hh]
  exact ⟨fun i hi => ⟨(h1 i hi).1.moved hA, (h1 i hi).2.moved hA⟩, h2.moved hA, h3.moved hA, fun i hi => vk_R.same hv.symm (h4 i hi), h5.imp (fun q => q.moved hA) (fun q => q.moved hA)⟩
/-- the words of nt, at a state -/
def NW (ca : Nat → Nat) (b : Nat) (U : State) : Prop := (∀ w ∈ nt, va_Nw w U) ∧ SS ca b U
theorem NW.warm {ca : Nat → Nat} {b : Nat} {s U : State} {H : Heap} {locs : List Loc} (hW : s.WarmedH U.vm) (hH : U.heap = H) (hS : va_S (fun q => b ≤ q) s.heap H locs) (h : NW ca b s) : NW ca b U := by
  refine ⟨?_, h.2.warm hW hH hS⟩
  intro w hw
  have h1 := h.1 w hw
  have h2 := (List.mem_filter.mp hw).2
  unfold nw at h2
  split at h2
  · exact va_Nw.warmF hW h1
  · exact va_Nw.warmM hW h1
  · exact va_AO.moved hW.alike h1
  · cases h2
theorem NW.same {ca : Nat → Nat} {b : Nat} {s U : State} (hv : s.vm = U.vm) (hh : U.heap = s.heap) (h : NW ca b s) : NW ca b U := by
  refine ⟨?_, h.2.same hv hh⟩
  intro w hw
  have h1 := h.1 w hw
  have h2 := (List.mem_filter.mp hw).2
  unfold nw at h2
  split at h2
  · exact va_Nw.same rfl hv h1
  · exact va_Nw.same rfl hv h1
  · exact va_AO.moved (by rw [hv]; exact Vm.Alike.refl _) h1
  · cases h2
abbrev JX : Type := Program × Launch × Env × Room × State × MethodId × Array Value × List Frame × Method × Code × Nat × (Nat → Nat) × (Nat → ClassId) × va_G × JK × (State → Prop)
def JO (x : JX) (y : MethodName) (cc : ByteArray) (nL : Nat) (rt : Option FieldType) (d M N L0 : Nat) : Prop := match x with
  | (p, _, _, R, s, m, args, _, meth, c, b, ca, cA, D, con, _) => p.tables.exec = Jvm.exec ∧ c.code = cc ∧ c.maxLocals = nL ∧ s.vm.findClass y.cls = some m.cls ∧ (∀ w ∈ gt, w.before args s = true) ∧ meth.sig.returnType = rt ∧ meth.locks = false ∧ (y.name = "<init>" → meth.name = "<init>") ∧ va_K D vwCl (tz cA) s ∧ s.heap.size = b + L0 ∧ d ≤ R.frames ∧ 38 * d ≤ R.locals ∧ M ≤ R.cells ∧ N ≤ R.slots ∧ CN con ca b s ∧ NW ca b s
/-- at pc, with locals lv, operands st, world h, k cells and n slots made: the run comes to x's end -/
def J (x : JX) (y : MethodName) (cc : ByteArray) (nL : Nat) (rt : Option FieldType) (d M N L0 : Nat) (pc : Nat) (lv : List (Nat × Value)) (st : List Value) (h : List MC) (k n : Nat) : Prop := match x with
  | (p, l, e, R, s, m, args, below, meth, c, b, ca, cA, D, con, Q) => JO (p, l, e, R, s, m, args, below, meth, c, b, ca, cA, D, con, Q) y cc nL rt d M N L0 → ∀ (H : Heap) (locs : List Loc) (ls : Array Slot), lv_has ls nL (rl b ca lv) → va_P D vwCl (wz b ca cA h) H → va_S (fun q => b ≤ q) s.heap H locs → W p l e R s m args below meth c H locs k n Q (F0 m pc ls (st.map (rv b ca)))
/-- a method's start and end in these words -/
def PC (b : Nat) (ca : Nat → Nat) (cA : Nat → ClassId) (D : va_G) (con : JK) (av : List Value) (h : List MC) : Array Value → State → Prop := fun v U => v = (av.map (rv b ca)).toArray ∧ U.heap.size = b + h.length ∧ va_P D vwCl (wz b ca cA h) U.heap ∧ va_K D vwCl (tz cA) U ∧ CN con ca b U ∧ NW ca b U
def QC (b : Nat) (ca : Nat → Nat) (cA : Nat → ClassId) (D : va_G) (Post : Option Value → List MC → Prop) : Array Value → State → Outcome → State → Prop := fun _ st oc t => (∃ (r : Option Value) (h' : List MC), oc = .returned (r.map (rv b ca)) ∧ Post r h' ∧ t.heap.size = b + h'.length ∧ va_P D vwCl (wz b ca cA h') t.heap ∧ va_K D vwCl (tz cA) t) ∧ va_F (fun q => b ≤ q) st t
def RM (d M N : Nat) : Room := { frames := d, cells := M, slots := N, locals := 38 * d }
/-- method y, from arguments av and world h: it ends, and its answer and world meet Post; d frames, M cells and N slots are enough -/
def CT (con0 : JK) (d M N : Nat) (y : MethodName) (cc : ByteArray) (nL : Nat) (rt : Option FieldType) (av : List Value) (h : List MC) (Post : Option Value → List MC → Prop) : Prop :=
  ∀ (l : Launch) (b : Nat) (ca : Nat → Nat) (cA : Nat → ClassId) (D : va_G) (con : JK), (∀ k v, con0 k = some v → con k = some v) → Met l y (.code y cc nL rt :: gt) (RM d M N) (PC b ca cA D con av h) (QC b ca cA D Post) M N (fun q => b ≤ q)
/-- x's end is that of a method with Post -/
def JQ (x : JX) (con0 : JK) (M N : Nat) (Post : Option Value → List MC → Prop) : Prop := match x with
  | (_, _, _, _, s, _, args, below, _, _, b, ca, cA, D, con, Q) => Q = MQ below (QC b ca cA D Post) args s M N (fun q => b ≤ q) ∧ ∀ k v, con0 k = some v → con k = some v
theorem CN.moved {con : JK} {ca : Nat → Nat} {b : Nat} {s U : State} {H : Heap} {locs : List Loc} (hc : CN con ca b s) (hvm : s.vm.Alike U.vm) (hH : U.heap = H) (hS : va_S (fun q => b ≤ q) s.heap H locs) : CN con ca b U := by
  intro k n f hk
  obtain ⟨h1, h2, h3⟩ := hc k n f hk
  refine ⟨(h1.kept (H1 := U.heap) ?_).moved hvm, h2, ?_⟩
  · rw [hH]
    exact hS.2.1 _ (Nat.lt_of_lt_of_le h2 h3) (Nat.not_le.mpr h2)
  · rw [hH]
    exact Nat.le_trans h3 hS.1
theorem PC_blind (b : Nat) (ca : Nat → Nat) (cA : Nat → ClassId) (D : va_G) (con : JK) (av : List Value) (h : List MC) : FrameBlind (PC b ca cA D con av h) := by
  intro a U g mk q
  obtain ⟨q0, q1, q2, q3, q4, q5⟩ := q
  refine ⟨q0, q1, q2, va_K.moved (u := U) (U := U.calling g mk a) (Vm.Alike.refl U.vm) q3, fun k n f hk => ?_, NW.same (s := U) (U := U.calling g mk a) rfl rfl q5⟩
  obtain ⟨r1, r2, r3⟩ := q4 k n f hk
  exact ⟨va_X.moved (u := U) (U := U.calling g mk a) (Vm.Alike.refl U.vm) r1, r2, r3⟩
theorem CT_of {con0 : JK} {d M N : Nat} {y : MethodName} {cc : ByteArray} {nL : Nat} {rt : Option FieldType} {av : List Value} {h : List MC} {Post : Option Value → List MC → Prop} (hy : plainName y.cls = true) (hn : (lg_sl av).length ≤ nL)
    (K : ∀ x : JX, JQ x con0 M N Post → J x y cc nL rt d M N h.length 0 (lv_args 0 av) [] h 0 0) : CT con0 d M N y cc nL rt av h Post := by
  intro l b ca cA D con hcon
  refine Met.ofW (cc := cc) (maxL := nL) (ret := rt) hy rfl ?_
  intro p e s m args below meth c s₁ B hml hv
  obtain ⟨rfl, hsz, hP, hK, hC, hNW⟩ := hv
  have hts := atoms_spec (ws := .code y cc nL rt :: gt) B.pre
  have hl := lv_entry (av.map (rv b ca)) (n := nL) (by rw [rv_sl]; exact hn)
  rw [lg_entry_eq]
  rw [rl_args] at hl
  exact K (p, l, e, (headSpec (.code y cc nL rt :: gt) (RM d M N)).room, s, m, (av.map (rv b ca)).toArray, below, meth, c, b, ca, cA, D, con, MQ below (QC b ca cA D Post) (av.map (rv b ca)).toArray s M N (fun q => b ≤ q)) ⟨rfl, hcon⟩
    ⟨B.exec, B.bytes, hml, findClass_of_methodNamed B.named, fun w h => hts w (List.mem_cons_of_mem _ h), B.returns, B.notSynchronized, fun hi => (name_of_methodNamed B.named B.method).1.trans hi, hK, hsz, Nat.le_refl _, Nat.le_refl _, Nat.le_refl _, Nat.le_refl _, hC, hNW⟩ s.heap [] _ hl hP va_S.rf
section
variable {x : JX} {y : MethodName} {cc : ByteArray} {nL : Nat} {rt : Option FieldType} {d M N L0 : Nat} {pc : Nat} {lv : List (Nat × Value)} {st : List Value} {h : List MC} {k n : Nat}
theorem J_iconst {z : Int} {v : Int32} (hd : decode cc pc = .ok (.iconst z, 1)) (hv : Int32.ofInt z = v) (K : J x y cc nL rt d M N L0 (pc + 1) lv (.int v :: st) h k n) : J x y cc nL rt d M N L0 pc lv st h k n := by
  obtain ⟨p, l, e, R, s, m, args, below, meth, c, b, ca, cA, D, con, Q⟩ := x
  intro O H locs ls hl hP hS
  have hx := O.1
  have hb := O.2.1
  exact lv_iconst hx hb hd hv (K O H locs ls hl hP hS)
theorem J_bipush {z : Int} {v : Int32} (hd : decode cc pc = .ok (.bipush z, 2)) (hv : (Int8.ofInt z).toInt32 = v) (K : J x y cc nL rt d M N L0 (pc + 2) lv (.int v :: st) h k n) : J x y cc nL rt d M N L0 pc lv st h k n := by
  obtain ⟨p, l, e, R, s, m, args, below, meth, c, b, ca, cA, D, con, Q⟩ := x
  intro O H locs ls hl hP hS
  have hx := O.1
  have hb := O.2.1
  exact lv_bipush hx hb hd hv (K O H locs ls hl hP hS)
theorem J_sipush {z : Int} {v : Int32} (hd : decode cc pc = .ok (.sipush z, 3)) (hv : (Int16.ofInt z).toInt32 = v) (K : J x y cc nL rt d M N L0 (pc + 3) lv (.int v :: st) h k n) : J x y cc nL rt d M N L0 pc lv st h k n := by
  obtain ⟨p, l, e, R, s, m, args, below, meth, c, b, ca, cA, D, con, Q⟩ := x
  intro O H locs ls hl hP hS
  have hx := O.1
  have hb := O.2.1
  exact lv_sipush hx hb hd hv (K O H locs ls hl hP hS)
theorem J_lconst {z : Fin 2} {v : Int64} (hd : decode cc pc = .ok (.lconst z, 1)) (hv : Int64.ofNat (z : Nat) = v) (K : J x y cc nL rt d M N L0 (pc + 1) lv (.long v :: st) h k n) : J x y cc nL rt d M N L0 pc lv st h k n := by
  obtain ⟨p, l, e, R, s, m, args, below, meth, c, b, ca, cA, D, con, Q⟩ := x
  intro O H locs ls hl hP hS
  have hx := O.1
  have hb := O.2.1
  exact lv_lconst hx hb hd hv (K O H locs ls hl hP hS)
theorem J_iload_n {q : Fin 4} {i j : Nat} {v : Int32} (hd : decode cc pc = .ok (.iload_n q, 1)) (hi : (q : Nat) = i) (hj : lv[j]? = some (i, .int v)) (K : J x y cc nL rt d M N L0 (pc + 1) lv (.int v :: st) h k n) : J x y cc nL rt d M N L0 pc lv st h k n := by
  obtain ⟨p, l, e, R, s, m, args, below, meth, c, b, ca, cA, D, con, Q⟩ := x
  intro O H locs ls hl hP hS
  have hx := O.1
  have hb := O.2.1
  exact lv_iload_n hx hb hd hi (rl_at hl hj) (K O H locs ls hl hP hS)
theorem J_iload {i j : Nat} {v : Int32} (hd : decode cc pc = .ok (.iload i, 2)) (hj : lv[j]? = some (i, .int v)) (K : J x y cc nL rt d M N L0 (pc + 2) lv (.int v :: st) h k n) : J x y cc nL rt d M N L0 pc lv st h k n := by
  obtain ⟨p, l, e, R, s, m, args, below, meth, c, b, ca, cA, D, con, Q⟩ := x
  intro O H locs ls hl hP hS
  have hx := O.1
  have hb := O.2.1
  exact lv_iload hx hb hd (rl_at hl hj) (K O H locs ls hl hP hS)
theorem J_lload_n {q : Fin 4} {i j : Nat} {v : Int64} (hd : decode cc pc = .ok (.lload_n q, 1)) (hi : (q : Nat) = i) (hj : lv[j]? = some (i, .long v)) (K : J x y cc nL rt d M N L0 (pc + 1) lv (.long v :: st) h k n) : J x y cc nL rt d M N L0 pc lv st h k n := by
  obtain ⟨p, l, e, R, s, m, args, below, meth, c, b, ca, cA, D, con, Q⟩ := x
  intro O H locs ls hl hP hS
  have hx := O.1
  have hb := O.2.1
  exact lv_lload_n hx hb hd hi (rl_at hl hj) (K O H locs ls hl hP hS)
theorem J_lload {i j : Nat} {v : Int64} (hd : decode cc pc = .ok (.lload i, 2)) (hj : lv[j]? = some (i, .long v)) (K : J x y cc nL rt d M N L0 (pc + 2) lv (.long v :: st) h k n) : J x y cc nL rt d M N L0 pc lv st h k n := by
  obtain ⟨p, l, e, R, s, m, args, below, meth, c, b, ca, cA, D, con, Q⟩ := x
  intro O H locs ls hl hP hS
  have hx := O.1
  have hb := O.2.1
  exact lv_lload hx hb hd (rl_at hl hj) (K O H locs ls hl hP hS)
theorem J_aload_n {q : Fin 4} {i j v : Nat} (hd : decode cc pc = .ok (.aload_n q, 1)) (hi : (q : Nat) = i) (hj : lv[j]? = some (i, .ref v)) (K : J x y cc nL rt d M N L0 (pc + 1) lv (.ref v :: st) h k n) : J x y cc nL rt d M N L0 pc lv st h k n := by
  obtain ⟨p, l, e, R, s, m, args, below, meth, c, b, ca, cA, D, con, Q⟩ := x
  intro O H locs ls hl hP hS
  have hx := O.1
  have hb := O.2.1
  exact lv_aload_n hx hb hd hi (rl_at hl hj) (K O H locs ls hl hP hS)
theorem J_aload_nC {q : Fin 4} {i j v : Nat} (hd : decode cc pc = .ok (.aload_n q, 1)) (hi : (q : Nat) = i) (hj : lv[j]? = some (i, .retAddr v)) (K : J x y cc nL rt d M N L0 (pc + 1) lv (.retAddr v :: st) h k n) : J x y cc nL rt d M N L0 pc lv st h k n := by
  obtain ⟨p, l, e, R, s, m, args, below, meth, c, b, ca, cA, D, con, Q⟩ := x
  intro O H locs ls hl hP hS
  have hx := O.1
  have hb := O.2.1
  exact lv_aload_n hx hb hd hi (rl_at hl hj) (K O H locs ls hl hP hS)
theorem J_istore_n {q : Fin 4} {i : Nat} {v : Int32} {lw : List (Nat × Value)} (hd : decode cc pc = .ok (.istore_n q, 1)) (hi : (q : Nat) = i) (hn : i < nL) (hw : (i, (Value.int v)) :: lv.filter (fun q => !(q.1 == i) && !(q.1 + 1 == i && q.2.category == 2)) = lw) (K : J x y cc nL rt d M N L0 (pc + 1) lw st h k n) : J x y cc nL rt d M N L0 pc lv ((Value.int v) :: st) h k n := by
  obtain ⟨p, l, e, R, s, m, args, below, meth, c, b, ca, cA, D, con, Q⟩ := x
  intro O H locs ls hl hP hS
  have hx := O.1
  have hb := O.2.1
  refine lv_istore_n hx hb hd hi hl hn (lv' := rl b ca lw) ?_ (fun ls' hl' => K O H locs ls' hl' hP hS)
  rw [← hw]
  exact congrArg (List.cons _) (rl_filter b ca lv (fun a c => !(a == i) && !(a + 1 == i && c == 2)))
theorem J_istore {i : Nat} {v : Int32} {lw : List (Nat × Value)} (hd : decode cc pc = .ok (.istore i, 2)) (hn : i < nL) (hw : (i, (Value.int v)) :: lv.filter (fun q => !(q.1 == i) && !(q.1 + 1 == i && q.2.category == 2)) = lw) (K : J x y cc nL rt d M N L0 (pc + 2) lw st h k n) : J x y cc nL rt d M N L0 pc lv ((Value.int v) :: st) h k n := by
  obtain ⟨p, l, e, R, s, m, args, below, meth, c, b, ca, cA, D, con, Q⟩ := x
  intro O H locs ls hl hP hS
  have hx := O.1
  have hb := O.2.1
  refine lv_istore hx hb hd hl hn (lv' := rl b ca lw) ?_ (fun ls' hl' => K O H locs ls' hl' hP hS)
  rw [← hw]
  exact congrArg (List.cons _) (rl_filter b ca lv (fun a c => !(a == i) && !(a + 1 == i && c == 2)))
theorem J_lstore_n {q : Fin 4} {i : Nat} {v : Int64} {lw : List (Nat × Value)} (hd : decode cc pc = .ok (.lstore_n q, 1)) (hi : (q : Nat) = i) (hn : i + 1 < nL) (hw : (i, (Value.long v)) :: lv.filter (fun q => !(q.1 == i) && (!(q.1 == i + 1) && !(q.1 + 1 == i && q.2.category == 2))) = lw) (K : J x y cc nL rt d M N L0 (pc + 1) lw st h k n) : J x y cc nL rt d M N L0 pc lv ((Value.long v) :: st) h k n := by
  obtain ⟨p, l, e, R, s, m, args, below, meth, c, b, ca, cA, D, con, Q⟩ := x
  intro O H locs ls hl hP hS
  have hx := O.1
  have hb := O.2.1
  refine lv_lstore_n hx hb hd hi hl hn (lv' := rl b ca lw) ?_ (fun ls' hl' => K O H locs ls' hl' hP hS)
  rw [← hw]
  exact congrArg (List.cons _) (rl_filter b ca lv (fun a c => !(a == i) && (!(a == i + 1) && !(a + 1 == i && c == 2))))
theorem J_lstore {i : Nat} {v : Int64} {lw : List (Nat × Value)} (hd : decode cc pc = .ok (.lstore i, 2)) (hn : i + 1 < nL) (hw : (i, (Value.long v)) :: lv.filter (fun q => !(q.1 == i) && (!(q.1 == i + 1) && !(q.1 + 1 == i && q.2.category == 2))) = lw) (K : J x y cc nL rt d M N L0 (pc + 2) lw st h k n) : J x y cc nL rt d M N L0 pc lv ((Value.long v) :: st) h k n := by
  obtain ⟨p, l, e, R, s, m, args, below, meth, c, b, ca, cA, D, con, Q⟩ := x
  intro O H locs ls hl hP hS
  have hx := O.1
  have hb := O.2.1
  refine lv_lstore hx hb hd hl hn (lv' := rl b ca lw) ?_ (fun ls' hl' => K O H locs ls' hl' hP hS)
  rw [← hw]
  exact congrArg (List.cons _) (rl_filter b ca lv (fun a c => !(a == i) && (!(a == i + 1) && !(a + 1 == i && c == 2))))
theorem J_astore_n {q : Fin 4} {i : Nat} {v : Nat} {lw : List (Nat × Value)} (hd : decode cc pc = .ok (.astore_n q, 1)) (hi : (q : Nat) = i) (hn : i < nL) (hw : (i, (Value.ref v)) :: lv.filter (fun q => !(q.1 == i) && !(q.1 + 1 == i && q.2.category == 2)) = lw) (K : J x y cc nL rt d M N L0 (pc + 1) lw st h k n) : J x y cc nL rt d M N L0 pc lv ((Value.ref v) :: st) h k n := by
  obtain ⟨p, l, e, R, s, m, args, below, meth, c, b, ca, cA, D, con, Q⟩ := x
  intro O H locs ls hl hP hS
  have hx := O.1
  have hb := O.2.1
  refine lv_astore_n hx hb hd hi hl hn (lv' := rl b ca lw) ?_ (fun ls' hl' => K O H locs ls' hl' hP hS)
  rw [← hw]
  exact congrArg (List.cons _) (rl_filter b ca lv (fun a c => !(a == i) && !(a + 1 == i && c == 2)))
theorem J_iinc {i j : Nat} {z : Int} {u v : Int32} {lw : List (Nat × Value)} (hd : decode cc pc = .ok (.iinc i z, 3)) (hj : lv[j]? = some (i, .int u)) (hv : u + Int32.ofInt z = v) (hn : i < nL) (hw : (i, Value.int v) :: lv.filter (fun q => !(q.1 == i) && !(q.1 + 1 == i && q.2.category == 2)) = lw) (K : J x y cc nL rt d M N L0 (pc + 3) lw st h k n) : J x y cc nL rt d M N L0 pc lv st h k n := by
  obtain ⟨p, l, e, R, s, m, args, below, meth, c, b, ca, cA, D, con, Q⟩ := x
  intro O H locs ls hl hP hS
  have hx := O.1
  have hb := O.2.1
  refine lv_iinc hx hb hd hl (k := j) (x := u) (by simp [rl, hj, rv]) hv hn (lv' := rl b ca lw) ?_ (fun ls' hl' => K O H locs ls' hl' hP hS)
  rw [← hw]
  exact congrArg (List.cons _) (rl_filter b ca lv (fun a c => !(a == i) && !(a + 1 == i && c == 2)))
theorem J_iadd {u v : Int32} (hd : decode cc pc = .ok (.iadd, 1))  (K : J x y cc nL rt d M N L0 (pc + 1) lv (.int (u + v) :: st) h k n) : J x y cc nL rt d M N L0 pc lv (.int v :: .int u :: st) h k n := by
  obtain ⟨p, l, e, R, s, m, args, below, meth, c, b, ca, cA, D, con, Q⟩ := x
  intro O H locs ls hl hP hS
  have hx := O.1
  have hb := O.2.1
  exact lv_iadd hx hb hd  (K O H locs ls hl hP hS)
theorem J_isub {u v : Int32} (hd : decode cc pc = .ok (.isub, 1))  (K : J x y cc nL rt d M N L0 (pc + 1) lv (.int (u - v) :: st) h k n) : J x y cc nL rt d M N L0 pc lv (.int v :: .int u :: st) h k n := by
  obtain ⟨p, l, e, R, s, m, args, below, meth, c, b, ca, cA, D, con, Q⟩ := x
  intro O H locs ls hl hP hS
  have hx := O.1
  have hb := O.2.1
  exact lv_isub hx hb hd  (K O H locs ls hl hP hS)
theorem J_imul {u v : Int32} (hd : decode cc pc = .ok (.imul, 1))  (K : J x y cc nL rt d M N L0 (pc + 1) lv (.int (u * v) :: st) h k n) : J x y cc nL rt d M N L0 pc lv (.int v :: .int u :: st) h k n := by
  obtain ⟨p, l, e, R, s, m, args, below, meth, c, b, ca, cA, D, con, Q⟩ := x
  intro O H locs ls hl hP hS
  have hx := O.1
  have hb := O.2.1
  exact lv_imul hx hb hd  (K O H locs ls hl hP hS)
theorem J_iand {u v : Int32} (hd : decode cc pc = .ok (.iand, 1))  (K : J x y cc nL rt d M N L0 (pc + 1) lv (.int (u &&& v) :: st) h k n) : J x y cc nL rt d M N L0 pc lv (.int v :: .int u :: st) h k n := by
  obtain ⟨p, l, e, R, s, m, args, below, meth, c, b, ca, cA, D, con, Q⟩ := x
  intro O H locs ls hl hP hS
  have hx := O.1
  have hb := O.2.1
  exact lv_iand hx hb hd  (K O H locs ls hl hP hS)
theorem J_ior {u v : Int32} (hd : decode cc pc = .ok (.ior, 1))  (K : J x y cc nL rt d M N L0 (pc + 1) lv (.int (u ||| v) :: st) h k n) : J x y cc nL rt d M N L0 pc lv (.int v :: .int u :: st) h k n := by
  obtain ⟨p, l, e, R, s, m, args, below, meth, c, b, ca, cA, D, con, Q⟩ := x
  intro O H locs ls hl hP hS
  have hx := O.1
  have hb := O.2.1
  exact lv_ior hx hb hd  (K O H locs ls hl hP hS)
theorem J_ixor {u v : Int32} (hd : decode cc pc = .ok (.ixor, 1))  (K : J x y cc nL rt d M N L0 (pc + 1) lv (.int (u ^^^ v) :: st) h k n) : J x y cc nL rt d M N L0 pc lv (.int v :: .int u :: st) h k n := by
  obtain ⟨p, l, e, R, s, m, args, below, meth, c, b, ca, cA, D, con, Q⟩ := x
  intro O H locs ls hl hP hS
  have hx := O.1
  have hb := O.2.1
  exact lv_ixor hx hb hd  (K O H locs ls hl hP hS)
theorem J_ishl {u v : Int32} (hd : decode cc pc = .ok (.ishl, 1))  (K : J x y cc nL rt d M N L0 (pc + 1) lv (.int (u <<< (v &&& 31)) :: st) h k n) : J x y cc nL rt d M N L0 pc lv (.int v :: .int u :: st) h k n := by
  obtain ⟨p, l, e, R, s, m, args, below, meth, c, b, ca, cA, D, con, Q⟩ := x
  intro O H locs ls hl hP hS
  have hx := O.1
  have hb := O.2.1
  exact lv_ishl hx hb hd  (K O H locs ls hl hP hS)
theorem J_ishr {u v : Int32} (hd : decode cc pc = .ok (.ishr, 1))  (K : J x y cc nL rt d M N L0 (pc + 1) lv (.int (u >>> (v &&& 31)) :: st) h k n) : J x y cc nL rt d M N L0 pc lv (.int v :: .int u :: st) h k n := by
  obtain ⟨p, l, e, R, s, m, args, below, meth, c, b, ca, cA, D, con, Q⟩ := x
  intro O H locs ls hl hP hS
  have hx := O.1
  have hb := O.2.1
  exact lv_ishr hx hb hd  (K O H locs ls hl hP hS)
theorem J_idiv {u v : Int32} (hd : decode cc pc = .ok (.idiv, 1)) (hne : ¬ v = 0) (K : J x y cc nL rt d M N L0 (pc + 1) lv (.int (u / v) :: st) h k n) : J x y cc nL rt d M N L0 pc lv (.int v :: .int u :: st) h k n := by
  obtain ⟨p, l, e, R, s, m, args, below, meth, c, b, ca, cA, D, con, Q⟩ := x
  intro O H locs ls hl hP hS
  have hx := O.1
  have hb := O.2.1
  exact lv_idiv hx hb hd hne (K O H locs ls hl hP hS)
theorem J_irem {u v : Int32} (hd : decode cc pc = .ok (.irem, 1)) (hne : ¬ v = 0) (K : J x y cc nL rt d M N L0 (pc + 1) lv (.int (u - u / v * v) :: st) h k n) : J x y cc nL rt d M N L0 pc lv (.int v :: .int u :: st) h k n := by
  obtain ⟨p, l, e, R, s, m, args, below, meth, c, b, ca, cA, D, con, Q⟩ := x
  intro O H locs ls hl hP hS
  have hx := O.1
  have hb := O.2.1
  exact lv_irem hx hb hd hne (K O H locs ls hl hP hS)
theorem J_iushr {u v z : Int32} (hd : decode cc pc = .ok (.iushr, 1)) (hv : (u.toUInt32 >>> (v.toUInt32 &&& Int32.toUInt32 31)).toInt32 = z) (K : J x y cc nL rt d M N L0 (pc + 1) lv (.int z :: st) h k n) : J x y cc nL rt d M N L0 pc lv (.int v :: .int u :: st) h k n := by
  obtain ⟨p, l, e, R, s, m, args, below, meth, c, b, ca, cA, D, con, Q⟩ := x
  intro O H locs ls hl hP hS
  have hx := O.1
  have hb := O.2.1
  exact lv_iushr hx hb hd hv (K O H locs ls hl hP hS)
theorem J_ladd {u v : Int64} (hd : decode cc pc = .ok (.ladd, 1))  (K : J x y cc nL rt d M N L0 (pc + 1) lv (.long (u + v) :: st) h k n) : J x y cc nL rt d M N L0 pc lv (.long v :: .long u :: st) h k n := by
  obtain ⟨p, l, e, R, s, m, args, below, meth, c, b, ca, cA, D, con, Q⟩ := x
  intro O H locs ls hl hP hS
  have hx := O.1
  have hb := O.2.1
  exact lv_ladd hx hb hd  (K O H locs ls hl hP hS)
theorem J_lsub {u v : Int64} (hd : decode cc pc = .ok (.lsub, 1))  (K : J x y cc nL rt d M N L0 (pc + 1) lv (.long (u - v) :: st) h k n) : J x y cc nL rt d M N L0 pc lv (.long v :: .long u :: st) h k n := by
  obtain ⟨p, l, e, R, s, m, args, below, meth, c, b, ca, cA, D, con, Q⟩ := x
  intro O H locs ls hl hP hS
  have hx := O.1
  have hb := O.2.1
  exact lv_lsub hx hb hd  (K O H locs ls hl hP hS)
theorem J_lmul {u v : Int64} (hd : decode cc pc = .ok (.lmul, 1))  (K : J x y cc nL rt d M N L0 (pc + 1) lv (.long (u * v) :: st) h k n) : J x y cc nL rt d M N L0 pc lv (.long v :: .long u :: st) h k n := by
  obtain ⟨p, l, e, R, s, m, args, below, meth, c, b, ca, cA, D, con, Q⟩ := x
  intro O H locs ls hl hP hS
  have hx := O.1
  have hb := O.2.1
  exact lv_lmul hx hb hd  (K O H locs ls hl hP hS)
theorem J_lor {u v : Int64} (hd : decode cc pc = .ok (.lor, 1))  (K : J x y cc nL rt d M N L0 (pc + 1) lv (.long (u ||| v) :: st) h k n) : J x y cc nL rt d M N L0 pc lv (.long v :: .long u :: st) h k n := by
  obtain ⟨p, l, e, R, s, m, args, below, meth, c, b, ca, cA, D, con, Q⟩ := x
  intro O H locs ls hl hP hS
  have hx := O.1
  have hb := O.2.1
  exact lv_lor hx hb hd  (K O H locs ls hl hP hS)
theorem J_ldiv {u v : Int64} (hd : decode cc pc = .ok (.ldiv, 1)) (hne : ¬ v = 0) (K : J x y cc nL rt d M N L0 (pc + 1) lv (.long (u / v) :: st) h k n) : J x y cc nL rt d M N L0 pc lv (.long v :: .long u :: st) h k n := by
  obtain ⟨p, l, e, R, s, m, args, below, meth, c, b, ca, cA, D, con, Q⟩ := x
  intro O H locs ls hl hP hS
  have hx := O.1
  have hb := O.2.1
  exact lv_ldiv hx hb hd hne (K O H locs ls hl hP hS)
theorem J_lrem {u v : Int64} (hd : decode cc pc = .ok (.lrem, 1)) (hne : ¬ v = 0) (K : J x y cc nL rt d M N L0 (pc + 1) lv (.long (u - u / v * v) :: st) h k n) : J x y cc nL rt d M N L0 pc lv (.long v :: .long u :: st) h k n := by
  obtain ⟨p, l, e, R, s, m, args, below, meth, c, b, ca, cA, D, con, Q⟩ := x
  intro O H locs ls hl hP hS
  have hx := O.1
  have hb := O.2.1
  exact lv_lrem hx hb hd hne (K O H locs ls hl hP hS)
theorem J_lshl {u z : Int64} {v : Int32} (hd : decode cc pc = .ok (.lshl, 1)) (hv : u <<< (v.toInt64 &&& 63) = z) (K : J x y cc nL rt d M N L0 (pc + 1) lv (.long z :: st) h k n) : J x y cc nL rt d M N L0 pc lv (.int v :: .long u :: st) h k n := by
  obtain ⟨p, l, e, R, s, m, args, below, meth, c, b, ca, cA, D, con, Q⟩ := x
  intro O H locs ls hl hP hS
  have hx := O.1
  have hb := O.2.1
  exact lv_lshl hx hb hd hv (K O H locs ls hl hP hS)
theorem J_i2l {u : Int32} {z : Int64} (hd : decode cc pc = .ok (.i2l, 1)) (hv : u.toInt64 = z) (K : J x y cc nL rt d M N L0 (pc + 1) lv (.long z :: st) h k n) : J x y cc nL rt d M N L0 pc lv (.int u :: st) h k n := by
  obtain ⟨p, l, e, R, s, m, args, below, meth, c, b, ca, cA, D, con, Q⟩ := x
  intro O H locs ls hl hP hS
  have hx := O.1
  have hb := O.2.1
  exact lv_i2l hx hb hd hv (K O H locs ls hl hP hS)
theorem J_l2i {u : Int64} {z : Int32} (hd : decode cc pc = .ok (.l2i, 1)) (hv : u.toInt32 = z) (K : J x y cc nL rt d M N L0 (pc + 1) lv (.int z :: st) h k n) : J x y cc nL rt d M N L0 pc lv (.long u :: st) h k n := by
  obtain ⟨p, l, e, R, s, m, args, below, meth, c, b, ca, cA, D, con, Q⟩ := x
  intro O H locs ls hl hP hS
  have hx := O.1
  have hb := O.2.1
  exact lv_l2i hx hb hd hv (K O H locs ls hl hP hS)
theorem J_i2b {u z : Int32} (hd : decode cc pc = .ok (.i2b, 1)) (hv : u.toInt8.toInt32 = z) (K : J x y cc nL rt d M N L0 (pc + 1) lv (.int z :: st) h k n) : J x y cc nL rt d M N L0 pc lv (.int u :: st) h k n := by
  obtain ⟨p, l, e, R, s, m, args, below, meth, c, b, ca, cA, D, con, Q⟩ := x
  intro O H locs ls hl hP hS
  have hx := O.1
  have hb := O.2.1
  exact lv_i2b hx hb hd hv (K O H locs ls hl hP hS)
theorem J_lcmp {u v : Int64} (hd : decode cc pc = .ok (.lcmp, 1))  (K : J x y cc nL rt d M N L0 (pc + 1) lv (.int (lg_cmp u v) :: st) h k n) : J x y cc nL rt d M N L0 pc lv (.long v :: .long u :: st) h k n := by
  obtain ⟨p, l, e, R, s, m, args, below, meth, c, b, ca, cA, D, con, Q⟩ := x
  intro O H locs ls hl hP hS
  have hx := O.1
  have hb := O.2.1
  exact W.lcmp hx hb hd  (K O H locs ls hl hP hS)
theorem J_dup {v : Value} (hd : decode cc pc = .ok (.dup, 1)) (hc : v.category = 1) (K : J x y cc nL rt d M N L0 (pc + 1) lv (v :: v :: st) h k n) : J x y cc nL rt d M N L0 pc lv (v :: st) h k n := by
  obtain ⟨p, l, e, R, s, m, args, below, meth, c, b, ca, cA, D, con, Q⟩ := x
  intro O H locs ls hl hP hS
  have hx := O.1
  have hb := O.2.1
  exact lv_dup hx hb hd ((rv_cat _ _ _).trans hc) (K O H locs ls hl hP hS)
theorem J_pop {v : Value} (hd : decode cc pc = .ok (.pop, 1)) (hc : v.category = 1) (K : J x y cc nL rt d M N L0 (pc + 1) lv st h k n) : J x y cc nL rt d M N L0 pc lv (v :: st) h k n := by
  obtain ⟨p, l, e, R, s, m, args, below, meth, c, b, ca, cA, D, con, Q⟩ := x
  intro O H locs ls hl hP hS
  have hx := O.1
  have hb := O.2.1
  exact lv_pop hx hb hd ((rv_cat _ _ _).trans hc) (K O H locs ls hl hP hS)
theorem J_dup2_11 {u v : Value} (hd : decode cc pc = .ok (.dup2, 1)) (hv : v.category = 1) (hu : u.category = 1) (K : J x y cc nL rt d M N L0 (pc + 1) lv (v :: u :: v :: u :: st) h k n) : J x y cc nL rt d M N L0 pc lv (v :: u :: st) h k n := by
  obtain ⟨p, l, e, R, s, m, args, below, meth, c, b, ca, cA, D, con, Q⟩ := x
  intro O H locs ls hl hP hS
  have hx := O.1
  have hb := O.2.1
  exact lv_dup2_11 hx hb hd ((rv_cat _ _ _).trans hv) ((rv_cat _ _ _).trans hu) (K O H locs ls hl hP hS)
theorem J_pop2_2 {v : Value} (hd : decode cc pc = .ok (.pop2, 1)) (hc : v.category = 2) (K : J x y cc nL rt d M N L0 (pc + 1) lv st h k n) : J x y cc nL rt d M N L0 pc lv (v :: st) h k n := by
  obtain ⟨p, l, e, R, s, m, args, below, meth, c, b, ca, cA, D, con, Q⟩ := x
  intro O H locs ls hl hP hS
  have hx := O.1
  have hb := O.2.1
  exact lv_pop2_2 hx hb hd ((rv_cat _ _ _).trans hc) (K O H locs ls hl hP hS)
theorem J_if_eq {u : Int32} {off : Int} {tgt : Nat} (hd : decode cc pc = .ok (.ifCond .eq off, 3)) (ht : (pc : Int) + off = (tgt : Int)) (K1 : u = 0 → J x y cc nL rt d M N L0 tgt lv st h k n) (K2 : ¬ (u = 0) → J x y cc nL rt d M N L0 (pc + 3) lv st h k n) : J x y cc nL rt d M N L0 pc lv (.int u :: st) h k n := by
  obtain ⟨p, l, e, R, s, m, args, below, meth, c, b, ca, cA, D, con, Q⟩ := x
  intro O H locs ls hl hP hS
  have hx := O.1
  have hb := O.2.1
  exact lv_if_eq hx hb hd ht (fun q => K1 q O H locs ls hl hP hS) (fun q => K2 q O H locs ls hl hP hS)
theorem J_icmp_eq {u v : Int32} {off : Int} {tgt : Nat} (hd : decode cc pc = .ok (.if_icmp .eq off, 3)) (ht : (pc : Int) + off = (tgt : Int)) (K1 : u = v → J x y cc nL rt d M N L0 tgt lv st h k n) (K2 : ¬ (u = v) → J x y cc nL rt d M N L0 (pc + 3) lv st h k n) : J x y cc nL rt d M N L0 pc lv (.int v :: .int u :: st) h k n := by
  obtain ⟨p, l, e, R, s, m, args, below, meth, c, b, ca, cA, D, con, Q⟩ := x
  intro O H locs ls hl hP hS
  have hx := O.1
  have hb := O.2.1
  exact lv_icmp_eq hx hb hd ht (fun q => K1 q O H locs ls hl hP hS) (fun q => K2 q O H locs ls hl hP hS)
theorem J_if_ne {u : Int32} {off : Int} {tgt : Nat} (hd : decode cc pc = .ok (.ifCond .ne off, 3)) (ht : (pc : Int) + off = (tgt : Int)) (K1 : ¬ u = 0 → J x y cc nL rt d M N L0 tgt lv st h k n) (K2 : u = 0 → J x y cc nL rt d M N L0 (pc + 3) lv st h k n) : J x y cc nL rt d M N L0 pc lv (.int u :: st) h k n := by
  obtain ⟨p, l, e, R, s, m, args, below, meth, c, b, ca, cA, D, con, Q⟩ := x
  intro O H locs ls hl hP hS
  have hx := O.1
  have hb := O.2.1
  exact lv_if_ne hx hb hd ht (fun q => K1 q O H locs ls hl hP hS) (fun q => K2 q O H locs ls hl hP hS)
theorem J_icmp_ne {u v : Int32} {off : Int} {tgt : Nat} (hd : decode cc pc = .ok (.if_icmp .ne off, 3)) (ht : (pc : Int) + off = (tgt : Int)) (K1 : ¬ u = v → J x y cc nL rt d M N L0 tgt lv st h k n) (K2 : u = v → J x y cc nL rt d M N L0 (pc + 3) lv st h k n) : J x y cc nL rt d M N L0 pc lv (.int v :: .int u :: st) h k n := by
  obtain ⟨p, l, e, R, s, m, args, below, meth, c, b, ca, cA, D, con, Q⟩ := x
  intro O H locs ls hl hP hS
  have hx := O.1
  have hb := O.2.1
  exact lv_icmp_ne hx hb hd ht (fun q => K1 q O H locs ls hl hP hS) (fun q => K2 q O H locs ls hl hP hS)
theorem J_if_lt {u : Int32} {off : Int} {tgt : Nat} (hd : decode cc pc = .ok (.ifCond .lt off, 3)) (ht : (pc : Int) + off = (tgt : Int)) (K1 : u < 0 → J x y cc nL rt d M N L0 tgt lv st h k n) (K2 : ¬ (u < 0) → J x y cc nL rt d M N L0 (pc + 3) lv st h k n) : J x y cc nL rt d M N L0 pc lv (.int u :: st) h k n := by
  obtain ⟨p, l, e, R, s, m, args, below, meth, c, b, ca, cA, D, con, Q⟩ := x
  intro O H locs ls hl hP hS
  have hx := O.1
  have hb := O.2.1
  exact lv_if_lt hx hb hd ht (fun q => K1 q O H locs ls hl hP hS) (fun q => K2 q O H locs ls hl hP hS)
theorem J_icmp_lt {u v : Int32} {off : Int} {tgt : Nat} (hd : decode cc pc = .ok (.if_icmp .lt off, 3)) (ht : (pc : Int) + off = (tgt : Int)) (K1 : u < v → J x y cc nL rt d M N L0 tgt lv st h k n) (K2 : ¬ (u < v) → J x y cc nL rt d M N L0 (pc + 3) lv st h k n) : J x y cc nL rt d M N L0 pc lv (.int v :: .int u :: st) h k n := by
  obtain ⟨p, l, e, R, s, m, args, below, meth, c, b, ca, cA, D, con, Q⟩ := x
  intro O H locs ls hl hP hS
  have hx := O.1
  have hb := O.2.1
  exact lv_icmp_lt hx hb hd ht (fun q => K1 q O H locs ls hl hP hS) (fun q => K2 q O H locs ls hl hP hS)
theorem J_if_ge {u : Int32} {off : Int} {tgt : Nat} (hd : decode cc pc = .ok (.ifCond .ge off, 3)) (ht : (pc : Int) + off = (tgt : Int)) (K1 : 0 ≤ u → J x y cc nL rt d M N L0 tgt lv st h k n) (K2 : ¬ (0 ≤ u) → J x y cc nL rt d M N L0 (pc + 3) lv st h k n) : J x y cc nL rt d M N L0 pc lv (.int u :: st) h k n := by
  obtain ⟨p, l, e, R, s, m, args, below, meth, c, b, ca, cA, D, con, Q⟩ := x
  intro O H locs ls hl hP hS
  have hx := O.1
  have hb := O.2.1
  exact lv_if_ge hx hb hd ht (fun q => K1 q O H locs ls hl hP hS) (fun q => K2 q O H locs ls hl hP hS)
theorem J_icmp_ge {u v : Int32} {off : Int} {tgt : Nat} (hd : decode cc pc = .ok (.if_icmp .ge off, 3)) (ht : (pc : Int) + off = (tgt : Int)) (K1 : v ≤ u → J x y cc nL rt d M N L0 tgt lv st h k n) (K2 : ¬ (v ≤ u) → J x y cc nL rt d M N L0 (pc + 3) lv st h k n) : J x y cc nL rt d M N L0 pc lv (.int v :: .int u :: st) h k n := by
  obtain ⟨p, l, e, R, s, m, args, below, meth, c, b, ca, cA, D, con, Q⟩ := x
  intro O H locs ls hl hP hS
  have hx := O.1
  have hb := O.2.1
  exact lv_icmp_ge hx hb hd ht (fun q => K1 q O H locs ls hl hP hS) (fun q => K2 q O H locs ls hl hP hS)
theorem J_if_gt {u : Int32} {off : Int} {tgt : Nat} (hd : decode cc pc = .ok (.ifCond .gt off, 3)) (ht : (pc : Int) + off = (tgt : Int)) (K1 : 0 < u → J x y cc nL rt d M N L0 tgt lv st h k n) (K2 : ¬ (0 < u) → J x y cc nL rt d M N L0 (pc + 3) lv st h k n) : J x y cc nL rt d M N L0 pc lv (.int u :: st) h k n := by
  obtain ⟨p, l, e, R, s, m, args, below, meth, c, b, ca, cA, D, con, Q⟩ := x
  intro O H locs ls hl hP hS
  have hx := O.1
  have hb := O.2.1
  exact lv_if_gt hx hb hd ht (fun q => K1 q O H locs ls hl hP hS) (fun q => K2 q O H locs ls hl hP hS)
theorem J_icmp_gt {u v : Int32} {off : Int} {tgt : Nat} (hd : decode cc pc = .ok (.if_icmp .gt off, 3)) (ht : (pc : Int) + off = (tgt : Int)) (K1 : v < u → J x y cc nL rt d M N L0 tgt lv st h k n) (K2 : ¬ (v < u) → J x y cc nL rt d M N L0 (pc + 3) lv st h k n) : J x y cc nL rt d M N L0 pc lv (.int v :: .int u :: st) h k n := by
  obtain ⟨p, l, e, R, s, m, args, below, meth, c, b, ca, cA, D, con, Q⟩ := x
  intro O H locs ls hl hP hS
  have hx := O.1
  have hb := O.2.1
  exact lv_icmp_gt hx hb hd ht (fun q => K1 q O H locs ls hl hP hS) (fun q => K2 q O H locs ls hl hP hS)
theorem J_if_le {u : Int32} {off : Int} {tgt : Nat} (hd : decode cc pc = .ok (.ifCond .le off, 3)) (ht : (pc : Int) + off = (tgt : Int)) (K1 : u ≤ 0 → J x y cc nL rt d M N L0 tgt lv st h k n) (K2 : ¬ (u ≤ 0) → J x y cc nL rt d M N L0 (pc + 3) lv st h k n) : J x y cc nL rt d M N L0 pc lv (.int u :: st) h k n := by
  obtain ⟨p, l, e, R, s, m, args, below, meth, c, b, ca, cA, D, con, Q⟩ := x
  intro O H locs ls hl hP hS
  have hx := O.1
  have hb := O.2.1
  exact lv_if_le hx hb hd ht (fun q => K1 q O H locs ls hl hP hS) (fun q => K2 q O H locs ls hl hP hS)
theorem J_icmp_le {u v : Int32} {off : Int} {tgt : Nat} (hd : decode cc pc = .ok (.if_icmp .le off, 3)) (ht : (pc : Int) + off = (tgt : Int)) (K1 : u ≤ v → J x y cc nL rt d M N L0 tgt lv st h k n) (K2 : ¬ (u ≤ v) → J x y cc nL rt d M N L0 (pc + 3) lv st h k n) : J x y cc nL rt d M N L0 pc lv (.int v :: .int u :: st) h k n := by
  obtain ⟨p, l, e, R, s, m, args, below, meth, c, b, ca, cA, D, con, Q⟩ := x
  intro O H locs ls hl hP hS
  have hx := O.1
  have hb := O.2.1
  exact lv_icmp_le hx hb hd ht (fun q => K1 q O H locs ls hl hP hS) (fun q => K2 q O H locs ls hl hP hS)
theorem J_goto {off : Int} {tgt : Nat} (hd : decode cc pc = .ok (.goto off, 3)) (ht : (pc : Int) + off = (tgt : Int)) (K : J x y cc nL rt d M N L0 tgt lv st h k n) : J x y cc nL rt d M N L0 pc lv st h k n := by
  obtain ⟨p, l, e, R, s, m, args, below, meth, c, b, ca, cA, D, con, Q⟩ := x
  intro O H locs ls hl hP hS
  have hx := O.1
  have hb := O.2.1
  exact lv_goto hx hb hd ht (K O H locs ls hl hP hS)
theorem J_tableIn {dflt lo hi : Int} {offs : Array Int} {len : Nat} {u : Int32} {off : Int} {tgt : Nat} (hd : decode cc pc = .ok (.tableswitch dflt lo hi offs, len)) (h1 : ¬ u.toInt < lo) (h2 : ¬ hi < u.toInt) (ho : offs[(u.toInt - lo).toNat]? = some off) (ht : (pc : Int) + off = (tgt : Int)) (K : J x y cc nL rt d M N L0 tgt lv st h k n) : J x y cc nL rt d M N L0 pc lv (.int u :: st) h k n := by
  obtain ⟨p, l, e, R, s, m, args, below, meth, c, b, ca, cA, D, con, Q⟩ := x
  intro O H locs ls hl hP hS
  have hx := O.1
  have hb := O.2.1
  exact lv_tableIn hx hb hd h1 h2 ho ht (K O H locs ls hl hP hS)
theorem J_tableOut {dflt lo hi : Int} {offs : Array Int} {len : Nat} {u : Int32} {tgt : Nat} (hd : decode cc pc = .ok (.tableswitch dflt lo hi offs, len)) (h1 : u.toInt < lo ∨ hi < u.toInt) (ht : (pc : Int) + dflt = (tgt : Int)) (K : J x y cc nL rt d M N L0 tgt lv st h k n) : J x y cc nL rt d M N L0 pc lv (.int u :: st) h k n := by
  obtain ⟨p, l, e, R, s, m, args, below, meth, c, b, ca, cA, D, con, Q⟩ := x
  intro O H locs ls hl hP hS
  have hx := O.1
  have hb := O.2.1
  exact lv_tableOut hx hb hd h1 ht (K O H locs ls hl hP hS)
theorem J_lookup {dflt : Int} {ps : Array (Int × Int)} {len : Nat} {u : Int32} {off : Int} {tgt : Nat} (hd : decode cc pc = .ok (.lookupswitch dflt ps, len)) (hp : (ps.toList.zip (ps.toList.drop 1)).all (fun (a, next) => a.1 < next.1) = true) (ho : Op.lookupswitch.offset ps.toList dflt u.toInt = off) (ht : (pc : Int) + off = (tgt : Int)) (K : J x y cc nL rt d M N L0 tgt lv st h k n) : J x y cc nL rt d M N L0 pc lv (.int u :: st) h k n := by
  obtain ⟨p, l, e, R, s, m, args, below, meth, c, b, ca, cA, D, con, Q⟩ := x
  intro O H locs ls hl hP hS
  have hx := O.1
  have hb := O.2.1
  exact lv_lookup hx hb hd hp ho ht (K O H locs ls hl hP hS)
theorem J_ldc {i : Nat} {v : Int32} (hd : decode cc pc = .ok (.ldc i, 2)) (hc : Cond.constant y.cls i v ∈ gt) (K : J x y cc nL rt d M N L0 (pc + 2) lv (.int v :: st) h k n) : J x y cc nL rt d M N L0 pc lv st h k n := by
  obtain ⟨p, l, e, R, s, m, args, below, meth, c, b, ca, cA, D, con, Q⟩ := x
  intro O H locs ls hl hP hS
  have hx := O.1
  have hb := O.2.1
  exact lv_ldc hx hb O.2.2.2.1 (O.2.2.2.2.1 _ hc) hd (K O H locs ls hl hP hS)
theorem J_ldc2 {i : Nat} {v : Int64} (hd : decode cc pc = .ok (.ldc2_w i, 3)) (hc : Cond.constantLong y.cls i v ∈ gt) (K : J x y cc nL rt d M N L0 (pc + 3) lv (.long v :: st) h k n) : J x y cc nL rt d M N L0 pc lv st h k n := by
  obtain ⟨p, l, e, R, s, m, args, below, meth, c, b, ca, cA, D, con, Q⟩ := x
  intro O H locs ls hl hP hS
  have hx := O.1
  have hb := O.2.1
  exact lv_ldc2 hx hb O.2.2.2.1 (O.2.2.2.2.1 _ hc) hd (K O H locs ls hl hP hS)
end
end
section
/-! the J layer: fields, arrays, new, calls, returns -/
theorem J_size {p : Program} {l : Launch} {e : Env} {R : Room} {s T : State} {m : MethodId} {args : Array Value} {below : List Frame} {meth : Method} {c : Code} {locs : List Loc} {k n b L0 : Nat} {ca : Nat → Nat} {cA : Nat → ClassId} {D : va_G} {h : List MC} {H : Heap} (X : Stand p l e R s m args below meth c T locs k n) (hT : T.heap = H) (hL : s.heap.size = b + L0) (hk : k + L0 = h.length) (hP : va_P D vwCl (wz b ca cA h) H) (hS : va_S (fun q => b ≤ q) s.heap H locs) : H.size = b + h.length := by
  have h1 := X.heapSize
  rw [hT] at h1
  have h2 : b + h.length ≤ H.size := by
    cases hl : h.length with
    | zero => have := hS.1; omega
    | succ z =>
      have hz : z < h.length := by omega
      have h3 := (hP z _ (wz_get (List.getElem?_eq_getElem hz))).lt
      have h4 : b + z < H.size := h3
      omega
  omega
section
variable {x : JX} {y : MethodName} {cc : ByteArray} {nL : Nat} {rt : Option FieldType} {d M N L0 : Nat} {pc : Nat} {lv : List (Nat × Value)} {st : List Value} {h : List MC} {k n : Nat}
theorem J_get {C : String} {T : u_T} {Z ci ix f a : Nat} {fs : List Value} {v : Value} (hd : decode cc pc = .ok (.getfield ix, 3)) (hin : ∀ w ∈ u_ws C T Z, w ∈ gt) (hc : vwCl[ci]? = some (C, T, Z)) (hf : f < Z) (hlk : Cond.fieldLink y.cls ix (T f).1 (T f).2.1 (T f).2.2.1 ∈ gt) (ha : h[a]? = some (.inr (ci, fs))) (hv : fs[f]? = some v) (K : J x y cc nL rt d M N L0 (pc + 3) lv (v :: st) h k n) : J x y cc nL rt d M N L0 pc lv (.ref a :: st) h k n := by
  obtain ⟨p, l, e, R, s, m, args, below, meth, c, b, ca, cA, D, con, Q⟩ := x
  intro O H locs ls hl hP hS
  have hx := O.1
  have hb := O.2.1
  have hts := O.2.2.2.2.1
  have hown := O.2.2.2.1
  have hK : va_K D vwCl (tz cA) s := O.2.2.2.2.2.2.2.2.1
  exact va_get (D := D) (C := C) (T := T) (N := Z) hx hb hts hin hown hK hP a (fs := fs.map (rv b ca)) (wz_get ha) hc f hf (hts _ hlk) (fun _ q => q) (by rw [List.getElem?_map, hv]; rfl) hd (K O H locs ls hl hP hS)
theorem J_put {C : String} {T : u_T} {Z ci ix f a : Nat} {fs : List Value} {v : Value} {ty0 : Nat → FieldType} {ty : FieldType} {h2 : List MC} (hd : decode cc pc = .ok (.putfield ix, 3)) (hin : ∀ w ∈ u_ws C T Z, w ∈ gt) (hc : vwCl[ci]? = some (C, T, Z)) (hty : ∀ k, k < Z → parseFieldDescriptor (T k).2.2.1 = some (ty0 k)) (hnm : ∀ a, a < Z → ∀ b, b < Z → a ≠ b → (T a).2.1 ≠ (T b).2.1) (hf : f < Z) (hlk : Cond.fieldLink y.cls ix (T f).1 (T f).2.1 (T f).2.2.1 ∈ gt) (hfin : (T f).2.2.2 = false) (ht : ty0 f = ty) (ha : h[a]? = some (.inr (ci, fs))) (hl0 : f < fs.length) (hv : ∀ (b : Nat) (ca : Nat → Nat), narrow ty (rv b ca v) = rv b ca v ∧ fits ty (rv b ca v) = true) (h2e : h.set a (.inr (ci, fs.set f v)) = h2) (K : J x y cc nL rt d M N L0 (pc + 3) lv st h2 k n) : J x y cc nL rt d M N L0 pc lv (v :: .ref a :: st) h k n := by
  obtain ⟨p, l, e, R, s, m, args, below, meth, c, b, ca, cA, D, con, Q⟩ := x
  intro O H locs ls hl hP hS
  have hx := O.1
  have hb := O.2.1
  have hts := O.2.2.2.2.1
  have hown := O.2.2.2.1
  have hK : va_K D vwCl (tz cA) s := O.2.2.2.2.2.2.2.2.1
  refine va_put (D := D) (C := C) (T := T) (N := Z) (A := fun q => b ≤ q) hx hb hts hin ty0 hty hnm hown hK hP wz_D hS a (fs := fs.map (rv b ca)) (wz_get ha) hc f hf (hts _ hlk) (fun _ q => q) hfin (ht ▸ hty f hf) (hv b ca).1 (hv b ca).2 (by rw [List.length_map]; exact hl0) hd ?_
  intro H1 locs1 hP1 _ hS1
  subst h2e
  have e1 : (wz b ca cA h).set a (b + a, Sum.inr (ci, (fs.map (rv b ca)).set f (rv b ca v))) = wz b ca cA (h.set a (.inr (ci, fs.set f v))) := by
    rw [← wz_set]
    show _ = (wz b ca cA h).set a (b + a, Sum.inr (ci, (fs.set f v).map (rv b ca)))
    rw [List.map_set]
  rw [e1] at hP1
  exact K O H1 locs1 ls hl hP1 hS1
theorem J_getN {C : String} {T : u_T} {Z ci ix f a : Nat} {fs : List Value} {v : Value} {host : String} (hd : decode cc pc = .ok (.getfield ix, 3)) (hin : ∀ w ∈ u_ws C T Z, w ∈ gt) (hc : vwCl[ci]? = some (C, T, Z)) (hf : f < Z) (hlk : Cond.fieldLinkNest y.cls ix (T f).1 (T f).2.1 (T f).2.2.1 host ∈ nt) (ha : h[a]? = some (.inr (ci, fs))) (hv : fs[f]? = some v) (K : J x y cc nL rt d M N L0 (pc + 3) lv (v :: st) h k n) : J x y cc nL rt d M N L0 pc lv (.ref a :: st) h k n := by
  obtain ⟨p, l, e, R, s, m, args, below, meth, c, b, ca, cA, D, con, Q⟩ := x
  intro O H locs ls hl hP hS
  have hx := O.1
  have hb := O.2.1
  have hts := O.2.2.2.2.1
  have hown := O.2.2.2.1
  have hK : va_K D vwCl (tz cA) s := O.2.2.2.2.2.2.2.2.1
  exact va_getN (D := D) (C := C) (T := T) (N := Z) hx hb hts hin hown hK hP a (fs := fs.map (rv b ca)) (wz_get ha) hc f hf (va_Nw.use rfl (O.2.2.2.2.2.2.2.2.2.2.2.2.2.2.2.1 _ hlk)) (fun _ q => q) (by rw [List.getElem?_map, hv]; rfl) hd (K O H locs ls hl hP hS)
theorem J_putN {C : String} {T : u_T} {Z ci ix f a : Nat} {fs : List Value} {v : Value} {ty0 : Nat → FieldType} {ty : FieldType} {h2 : List MC} {host : String} (hd : decode cc pc = .ok (.putfield ix, 3)) (hin : ∀ w ∈ u_ws C T Z, w ∈ gt) (hc : vwCl[ci]? = some (C, T, Z)) (hty : ∀ k, k < Z → parseFieldDescriptor (T k).2.2.1 = some (ty0 k)) (hnm : ∀ a, a < Z → ∀ b, b < Z → a ≠ b → (T a).2.1 ≠ (T b).2.1) (hf : f < Z) (hlk : Cond.fieldLinkNest y.cls ix (T f).1 (T f).2.1 (T f).2.2.1 host ∈ nt) (hfin : (T f).2.2.2 = false) (ht : ty0 f = ty) (ha : h[a]? = some (.inr (ci, fs))) (hl0 : f < fs.length) (hv : ∀ (b : Nat) (ca : Nat → Nat), narrow ty (rv b ca v) = rv b ca v ∧ fits ty (rv b ca v) = true) (h2e : h.set a (.inr (ci, fs.set f v)) = h2) (K : J x y cc nL rt d M N L0 (pc + 3) lv st h2 k n) : J x y cc nL rt d M N L0 pc lv (v :: .ref a :: st) h k n := by
  obtain ⟨p, l, e, R, s, m, args, below, meth, c, b, ca, cA, D, con, Q⟩ := x
  intro O H locs ls hl hP hS
  have hx := O.1
  have hb := O.2.1
  have hts := O.2.2.2.2.1
  have hown := O.2.2.2.1
  have hK : va_K D vwCl (tz cA) s := O.2.2.2.2.2.2.2.2.1
  refine va_putN (D := D) (C := C) (T := T) (N := Z) (A := fun q => b ≤ q) hx hb hts hin ty0 hty hnm hown hK hP wz_D hS a (fs := fs.map (rv b ca)) (wz_get ha) hc f hf (va_Nw.use rfl (O.2.2.2.2.2.2.2.2.2.2.2.2.2.2.2.1 _ hlk)) (fun _ q => q) hfin (ht ▸ hty f hf) (hv b ca).1 (hv b ca).2 (by rw [List.length_map]; exact hl0) hd ?_
  intro H1 locs1 hP1 _ hS1
  subst h2e
  have e1 : (wz b ca cA h).set a (b + a, Sum.inr (ci, (fs.map (rv b ca)).set f (rv b ca v))) = wz b ca cA (h.set a (.inr (ci, fs.set f v))) := by
    rw [← wz_set]
    show _ = (wz b ca cA h).set a (b + a, Sum.inr (ci, (fs.set f v).map (rv b ca)))
    rw [List.map_set]
  rw [e1] at hP1
  exact K O H1 locs1 ls hl hP1 hS1
theorem J_putF {C : String} {T : u_T} {Z ci ix f a : Nat} {fs : List Value} {v : Value} {ty0 : Nat → FieldType} {ty : FieldType} {h2 : List MC} (hd : decode cc pc = .ok (.putfield ix, 3)) (hin : ∀ w ∈ u_ws C T Z, w ∈ gt) (hc : vwCl[ci]? = some (C, T, Z)) (hty : ∀ k, k < Z → parseFieldDescriptor (T k).2.2.1 = some (ty0 k)) (hnm : ∀ a, a < Z → ∀ b, b < Z → a ≠ b → (T a).2.1 ≠ (T b).2.1) (hf : f < Z) (hlk : Cond.fieldLink y.cls ix (T f).1 (T f).2.1 (T f).2.2.1 ∈ gt) (hfin : (T f).2.2.2 = true) (hin2 : y.name = "<init>") (hdc : (T f).1 = y.cls) (ht : ty0 f = ty) (ha : h[a]? = some (.inr (ci, fs))) (hl0 : f < fs.length) (hv : ∀ (b : Nat) (ca : Nat → Nat), narrow ty (rv b ca v) = rv b ca v ∧ fits ty (rv b ca v) = true) (h2e : h.set a (.inr (ci, fs.set f v)) = h2) (K : J x y cc nL rt d M N L0 (pc + 3) lv st h2 k n) : J x y cc nL rt d M N L0 pc lv (v :: .ref a :: st) h k n := by
  obtain ⟨p, l, e, R, s, m, args, below, meth, c, b, ca, cA, D, con, Q⟩ := x
  intro O H locs ls hl hP hS
  have hx := O.1
  have hb := O.2.1
  have hts := O.2.2.2.2.1
  have hown := O.2.2.2.1
  have hK : va_K D vwCl (tz cA) s := O.2.2.2.2.2.2.2.2.1
  refine va_putF (D := D) (C := C) (T := T) (N := Z) (A := fun q => b ≤ q) hx hb hts hin ty0 hty hnm hown hK hP wz_D hS a (fs := fs.map (rv b ca)) (wz_get ha) hc f hf (hts _ hlk) (fun _ q => q) hfin (O.2.2.2.2.2.2.2.1 hin2) hdc (ht ▸ hty f hf) (hv b ca).1 (hv b ca).2 (by rw [List.length_map]; exact hl0) hd ?_
  intro H1 locs1 hP1 _ hS1
  subst h2e
  have e1 : (wz b ca cA h).set a (b + a, Sum.inr (ci, (fs.map (rv b ca)).set f (rv b ca v))) = wz b ca cA (h.set a (.inr (ci, fs.set f v))) := by
    rw [← wz_set]
    show _ = (wz b ca cA h).set a (b + a, Sum.inr (ci, (fs.set f v).map (rv b ca)))
    rw [List.map_set]
  rw [e1] at hP1
  exact K O H1 locs1 ls hl hP1 hS1
theorem J_iald {a z : Nat} {f : Nat → Int32} {i : Int32} (hd : decode cc pc = .ok (.iaload, 1)) (ha : h[a]? = some (.inl (1, z, .inl f))) (hi : vp_in i z) (K : J x y cc nL rt d M N L0 (pc + 1) lv (.int (f i.toNatClampNeg) :: st) h k n) : J x y cc nL rt d M N L0 pc lv (.int i :: .ref a :: st) h k n := by
  obtain ⟨p, l, e, R, s, m, args, below, meth, c, b, ca, cA, D, con, Q⟩ := x
  intro O H locs ls hl hP hS
  have hx := O.1
  have hb := O.2.1
  have hts := O.2.2.2.2.1
  have hown := O.2.2.2.1
  have hK : va_K D vwCl (tz cA) s := O.2.2.2.2.2.2.2.2.1
  exact va_iald hx hb hK hP a 1 (wz_get ha) rfl hi hd (K O H locs ls hl hP hS)
theorem J_bald {a z : Nat} {f : Nat → Int32} {i : Int32} (hd : decode cc pc = .ok (.baload, 1)) (ha : h[a]? = some (.inl (0, z, .inl f))) (hi : vp_in i z) (K : J x y cc nL rt d M N L0 (pc + 1) lv (.int (f i.toNatClampNeg) :: st) h k n) : J x y cc nL rt d M N L0 pc lv (.int i :: .ref a :: st) h k n := by
  obtain ⟨p, l, e, R, s, m, args, below, meth, c, b, ca, cA, D, con, Q⟩ := x
  intro O H locs ls hl hP hS
  have hx := O.1
  have hb := O.2.1
  have hts := O.2.2.2.2.1
  have hown := O.2.2.2.1
  have hK : va_K D vwCl (tz cA) s := O.2.2.2.2.2.2.2.2.1
  exact va_bald hx hb hK hP a 0 (wz_get ha) rfl hi hd (K O H locs ls hl hP hS)
theorem J_zald {a z : Nat} {f : Nat → Int32} {i : Int32} (hd : decode cc pc = .ok (.baload, 1)) (ha : h[a]? = some (.inl (3, z, .inl f))) (hi : vp_in i z) (K : J x y cc nL rt d M N L0 (pc + 1) lv (.int (f i.toNatClampNeg) :: st) h k n) : J x y cc nL rt d M N L0 pc lv (.int i :: .ref a :: st) h k n := by
  obtain ⟨p, l, e, R, s, m, args, below, meth, c, b, ca, cA, D, con, Q⟩ := x
  intro O H locs ls hl hP hS
  have hx := O.1
  have hb := O.2.1
  have hts := O.2.2.2.2.1
  have hown := O.2.2.2.1
  have hK : va_K D vwCl (tz cA) s := O.2.2.2.2.2.2.2.2.1
  exact va_zald hx hb hK hP a 3 (wz_get ha) rfl hi hd (K O H locs ls hl hP hS)
theorem J_lald {a z : Nat} {f : Nat → Int64} {i : Int32} (hd : decode cc pc = .ok (.laload, 1)) (ha : h[a]? = some (.inl (2, z, .inr (.inl f)))) (hi : vp_in i z) (K : J x y cc nL rt d M N L0 (pc + 1) lv (.long (f i.toNatClampNeg) :: st) h k n) : J x y cc nL rt d M N L0 pc lv (.int i :: .ref a :: st) h k n := by
  obtain ⟨p, l, e, R, s, m, args, below, meth, c, b, ca, cA, D, con, Q⟩ := x
  intro O H locs ls hl hP hS
  have hx := O.1
  have hb := O.2.1
  have hts := O.2.2.2.2.1
  have hown := O.2.2.2.1
  have hK : va_K D vwCl (tz cA) s := O.2.2.2.2.2.2.2.2.1
  exact va_lald hx hb hK hP a 2 (wz_get ha) rfl hi hd (K O H locs ls hl hP hS)
theorem J_aald {a z t q : Nat} {C : String} {f : Nat → Option Nat} {i : Int32} (hd : decode cc pc = .ok (.aaload, 1)) (ha : h[a]? = some (.inl (t, z, .inr (.inr f)))) (ht : ∀ cA : Nat → ClassId, (tz cA)[t]? = some (cA t, .object C)) (hi : vp_in i z) (hq : f i.toNatClampNeg = some q) (K : J x y cc nL rt d M N L0 (pc + 1) lv (.ref q :: st) h k n) : J x y cc nL rt d M N L0 pc lv (.int i :: .ref a :: st) h k n := by
  obtain ⟨p, l, e, R, s, m, args, below, meth, c, b, ca, cA, D, con, Q⟩ := x
  intro O H locs ls hl hP hS
  have hx := O.1
  have hb := O.2.1
  have hts := O.2.2.2.2.1
  have hown := O.2.2.2.1
  have hK : va_K D vwCl (tz cA) s := O.2.2.2.2.2.2.2.2.1
  refine va_aldq hx hb hK hP a t (wz_get ha) (ht cA) hi hd ?_
  show W p l e R s m args below meth c H locs k n Q (F0 m (pc + 1) ls (va_rf ((f i.toNatClampNeg).map (fun i => b + i)) :: st.map (rv b ca)))
  rw [hq]
  exact K O H locs ls hl hP hS
theorem J_cald {q z : Nat} {f : Nat → Int32} {i : Int32} (hd : decode cc pc = .ok (.iaload, 1)) (hc : x.2.2.2.2.2.2.2.2.2.2.2.2.2.2.1 q = some (z, f)) (hi : vp_in i z) (K : J x y cc nL rt d M N L0 (pc + 1) lv (.int (f i.toNatClampNeg) :: st) h k n) : J x y cc nL rt d M N L0 pc lv (.int i :: .retAddr q :: st) h k n := by
  obtain ⟨p, l, e, R, s, m, args, below, meth, c, b, ca, cA, D, con, Q⟩ := x
  intro O H locs ls hl hP hS
  have hx := O.1
  have hb := O.2.1
  have hts := O.2.2.2.2.1
  have hown := O.2.2.2.1
  have hK : va_K D vwCl (tz cA) s := O.2.2.2.2.2.2.2.2.1
  obtain ⟨h1, h2, h3⟩ := O.2.2.2.2.2.2.2.2.2.2.2.2.2.2.1 q z f hc
  exact va_sld hx hb h1 (Nat.lt_of_lt_of_le h2 h3) (Nat.not_le.mpr h2) hS hi hd (K O H locs ls hl hP hS)
theorem J_clen {q z : Nat} {f : Nat → Int32} (hd : decode cc pc = .ok (.arraylength, 1)) (hc : x.2.2.2.2.2.2.2.2.2.2.2.2.2.2.1 q = some (z, f)) (K : J x y cc nL rt d M N L0 (pc + 1) lv (.int (Int32.ofNat z) :: st) h k n) : J x y cc nL rt d M N L0 pc lv (.retAddr q :: st) h k n := by
  obtain ⟨p, l, e, R, s, m, args, below, meth, c, b, ca, cA, D, con, Q⟩ := x
  intro O H locs ls hl hP hS
  have hx := O.1
  have hb := O.2.1
  have hts := O.2.2.2.2.1
  have hown := O.2.2.2.1
  have hK : va_K D vwCl (tz cA) s := O.2.2.2.2.2.2.2.2.1
  obtain ⟨h1, h2, h3⟩ := O.2.2.2.2.2.2.2.2.2.2.2.2.2.2.1 q z f hc
  exact va_slen hx hb h1 (Nat.lt_of_lt_of_le h2 h3) (Nat.not_le.mpr h2) hS hd (K O H locs ls hl hP hS)
theorem J_alen {a t z : Nat} {ty : FieldType} {f : MA} (hd : decode cc pc = .ok (.arraylength, 1)) (ha : h[a]? = some (.inl (t, z, f))) (ht : ∀ cA : Nat → ClassId, (tz cA)[t]? = some (cA t, ty)) (K : J x y cc nL rt d M N L0 (pc + 1) lv (.int (Int32.ofNat z) :: st) h k n) : J x y cc nL rt d M N L0 pc lv (.ref a :: st) h k n := by
  obtain ⟨p, l, e, R, s, m, args, below, meth, c, b, ca, cA, D, con, Q⟩ := x
  intro O H locs ls hl hP hS
  have hx := O.1
  have hb := O.2.1
  have hts := O.2.2.2.2.1
  have hown := O.2.2.2.1
  have hK : va_K D vwCl (tz cA) s := O.2.2.2.2.2.2.2.2.1
  exact va_alen hx hb hK hP a t (wz_get ha) (ht cA) rfl hd (K O H locs ls hl hP hS)
theorem J_iast {a z : Nat} {f : Nat → Int32} {i : Int32} {v : Int32} {h2 : List MC} (hd : decode cc pc = .ok (.iastore, 1)) (ha : h[a]? = some (.inl (1, z, .inl f))) (hi : vp_in i z) (h2e : h.set a (.inl (1, z, .inl (upd f i.toNatClampNeg v))) = h2) (K : J x y cc nL rt d M N L0 (pc + 1) lv st h2 k n) : J x y cc nL rt d M N L0 pc lv (.int v :: .int i :: .ref a :: st) h k n := by
  obtain ⟨p, l, e, R, s, m, args, below, meth, c, b, ca, cA, D, con, Q⟩ := x
  intro O H locs ls hl hP hS
  have hx := O.1
  have hb := O.2.1
  have hts := O.2.2.2.2.1
  have hown := O.2.2.2.1
  have hK : va_K D vwCl (tz cA) s := O.2.2.2.2.2.2.2.2.1
  refine va_iast (A := fun q => b ≤ q) hx hb hK hP wz_D hS a 1 (wz_get ha) rfl hi hd ?_
  intro H1 locs1 hP1 _ hS1
  subst h2e
  refine K O H1 locs1 ls hl ?_ hS1
  rw [← wz_set]
  exact hP1
theorem J_bast {a z : Nat} {f : Nat → Int32} {i : Int32} {v : Int32} {h2 : List MC} (hd : decode cc pc = .ok (.bastore, 1)) (ha : h[a]? = some (.inl (0, z, .inl f))) (hi : vp_in i z) (h2e : h.set a (.inl (0, z, .inl (upd f i.toNatClampNeg (vp_nar .byte v)))) = h2) (K : J x y cc nL rt d M N L0 (pc + 1) lv st h2 k n) : J x y cc nL rt d M N L0 pc lv (.int v :: .int i :: .ref a :: st) h k n := by
  obtain ⟨p, l, e, R, s, m, args, below, meth, c, b, ca, cA, D, con, Q⟩ := x
  intro O H locs ls hl hP hS
  have hx := O.1
  have hb := O.2.1
  have hts := O.2.2.2.2.1
  have hown := O.2.2.2.1
  have hK : va_K D vwCl (tz cA) s := O.2.2.2.2.2.2.2.2.1
  refine va_bast (A := fun q => b ≤ q) hx hb hK hP wz_D hS a 0 (wz_get ha) rfl hi hd ?_
  intro H1 locs1 hP1 _ hS1
  subst h2e
  refine K O H1 locs1 ls hl ?_ hS1
  rw [← wz_set]
  exact hP1
theorem J_zast {a z : Nat} {f : Nat → Int32} {i : Int32} {v : Int32} {h2 : List MC} (hd : decode cc pc = .ok (.bastore, 1)) (ha : h[a]? = some (.inl (3, z, .inl f))) (hi : vp_in i z) (h2e : h.set a (.inl (3, z, .inl (upd f i.toNatClampNeg (vp_nar .boolean v)))) = h2) (K : J x y cc nL rt d M N L0 (pc + 1) lv st h2 k n) : J x y cc nL rt d M N L0 pc lv (.int v :: .int i :: .ref a :: st) h k n := by
  obtain ⟨p, l, e, R, s, m, args, below, meth, c, b, ca, cA, D, con, Q⟩ := x
  intro O H locs ls hl hP hS
  have hx := O.1
  have hb := O.2.1
  have hts := O.2.2.2.2.1
  have hown := O.2.2.2.1
  have hK : va_K D vwCl (tz cA) s := O.2.2.2.2.2.2.2.2.1
  refine va_zast (A := fun q => b ≤ q) hx hb hK hP wz_D hS a 3 (wz_get ha) rfl hi hd ?_
  intro H1 locs1 hP1 _ hS1
  subst h2e
  refine K O H1 locs1 ls hl ?_ hS1
  rw [← wz_set]
  exact hP1
theorem J_last {a z : Nat} {f : Nat → Int64} {i : Int32} {v : Int64} {h2 : List MC} (hd : decode cc pc = .ok (.lastore, 1)) (ha : h[a]? = some (.inl (2, z, .inr (.inl f)))) (hi : vp_in i z) (h2e : h.set a (.inl (2, z, .inr (.inl (vp_updL f i.toNatClampNeg v)))) = h2) (K : J x y cc nL rt d M N L0 (pc + 1) lv st h2 k n) : J x y cc nL rt d M N L0 pc lv (.long v :: .int i :: .ref a :: st) h k n := by
  obtain ⟨p, l, e, R, s, m, args, below, meth, c, b, ca, cA, D, con, Q⟩ := x
  intro O H locs ls hl hP hS
  have hx := O.1
  have hb := O.2.1
  have hts := O.2.2.2.2.1
  have hown := O.2.2.2.1
  have hK : va_K D vwCl (tz cA) s := O.2.2.2.2.2.2.2.2.1
  refine va_last (A := fun q => b ≤ q) hx hb hK hP wz_D hS a 2 (wz_get ha) rfl hi hd ?_
  intro H1 locs1 hP1 _ hS1
  subst h2e
  refine K O H1 locs1 ls hl ?_ hS1
  rw [← wz_set]
  exact hP1
theorem J_aast {a z t q ci : Nat} {r : vw_C} {vs : List Value} {f : Nat → Option Nat} {i : Int32} {h2 : List MC} (hd : decode cc pc = .ok (.aastore, 1)) (ha : h[a]? = some (.inl (t, z, .inr (.inr f)))) (ht : ∀ cA : Nat → ClassId, (tz cA)[t]? = some (cA t, .object r.1)) (hq : h[q]? = some (.inr (ci, vs))) (hc : vwCl[ci]? = some r) (hi : vp_in i z) (h2e : h.set a (.inl (t, z, .inr (.inr (va_up f i.toNatClampNeg (some q))))) = h2) (K : J x y cc nL rt d M N L0 (pc + 1) lv st h2 k n) : J x y cc nL rt d M N L0 pc lv (.ref q :: .int i :: .ref a :: st) h k n := by
  obtain ⟨p, l, e, R, s, m, args, below, meth, c, b, ca, cA, D, con, Q⟩ := x
  intro O H locs ls hl hP hS
  have hx := O.1
  have hb := O.2.1
  have hts := O.2.2.2.2.1
  have hown := O.2.2.2.1
  have hK : va_K D vwCl (tz cA) s := O.2.2.2.2.2.2.2.2.1
  refine va_astq (A := fun q => b ≤ q) hx hb hK hP wz_D hS a t q ci (wz_get ha) (ht cA) (wz_get hq) hc hi hd ?_
  intro H1 locs1 hP1 _ hS1
  subst h2e
  refine K O H1 locs1 ls hl ?_ hS1
  rw [← wz_set]
  have e1 : (va_up (fun j => (f j).map (fun i => b + i)) i.toNatClampNeg (some (b + q))) = (fun j => (va_up f i.toNatClampNeg (some q) j).map (fun i => b + i)) := by
    funext j
    unfold va_up
    by_cases hj : j = i.toNatClampNeg <;> simp [hj]
  show va_P D vwCl ((wz b ca cA h).set a (b + a, Sum.inl (cA t, z, Sum.inr (Sum.inr (Sum.inr (Sum.inr (fun j => (va_up f i.toNatClampNeg (some q) j).map (fun i => b + i)))))))) H1
  rw [← e1]
  exact hP1
theorem J_fin {con0 : JK} {Post : Option Value → List MC → Prop} {p : Program} {l : Launch} {e : Env} {R : Room} {s : State} {m : MethodId} {args : Array Value} {below : List Frame} {meth : Method} {c : Code} {b : Nat} {ca : Nat → Nat} {cA : Nat → ClassId} {D : va_G} {con : JK} {Q : State → Prop} (hq : JQ (p, l, e, R, s, m, args, below, meth, c, b, ca, cA, D, con, Q) con0 M N Post) {H : Heap} {locs : List Loc} (hL : s.heap.size = b + L0) (hk : k + L0 = h.length) (hkM : k ≤ M) (hnN : n ≤ N) (hK : va_K D vwCl (tz cA) s) (hP : va_P D vwCl (wz b ca cA h) H) (hS : va_S (fun q => b ≤ q) s.heap H locs) {g : JFrame} {r : Option Value} (hpost : Post r h)
    (kk : (∀ t : State, t.heap = H → s.WarmedH t.vm → QC b ca cA D Post args s (.returned (r.map (rv b ca))) t) → W p l e R s m args below meth c H locs M N (MQ below (QC b ca cA D Post) args s M N (fun q => b ≤ q)) g) : W p l e R s m args below meth c H locs k n Q g := by
  intro T hT X
  have hz := J_size X hT hL hk hP hS
  obtain ⟨rfl, -⟩ := hq
  exact (W.widen (k := M) (n := N) hkM hnN (kk (fun t ht hW => ⟨⟨r, h, rfl, hpost, by rw [ht]; exact hz, by rw [ht]; exact hP, va_K.moved hW.alike hK⟩, hS.F ht⟩))) T hT X
theorem J_iret {con0 : JK} {Post : Option Value → List MC → Prop} {v : Int32} (hq : JQ x con0 M N Post) (hd : decode cc pc = .ok (.ireturn, 1)) (hr : rt = some .int) (hk : k + L0 = h.length) (hkM : k ≤ M) (hnN : n ≤ N) (hp : Post (some (.int v)) h) : J x y cc nL rt d M N L0 pc lv [.int v] h k n := by
  obtain ⟨p, l, e, R, s, m, args, below, meth, c, b, ca, cA, D, con, Q⟩ := x
  intro O H locs ls hl hP hS
  have hx := O.1
  have hb := O.2.1
  have hts := O.2.2.2.2.1
  have hown := O.2.2.2.1
  have hK : va_K D vwCl (tz cA) s := O.2.2.2.2.2.2.2.2.1
  have hlk : meth.locks = false := O.2.2.2.2.2.2.1
  refine J_fin hq O.2.2.2.2.2.2.2.2.2.1 hk hkM hnN hK hP hS hp (fun qq => ?_)
  exact W.iret hx hb (O.2.2.2.2.2.1.trans hr) qq hS.2.2 hd hlk
theorem J_zret {con0 : JK} {Post : Option Value → List MC → Prop} {v : Int32} (hq : JQ x con0 M N Post) (hd : decode cc pc = .ok (.ireturn, 1)) (hr : rt = some .boolean) (hn : narrow .boolean (.int v) = .int v) (hk : k + L0 = h.length) (hkM : k ≤ M) (hnN : n ≤ N) (hp : Post (some (.int v)) h) : J x y cc nL rt d M N L0 pc lv [.int v] h k n := by
  obtain ⟨p, l, e, R, s, m, args, below, meth, c, b, ca, cA, D, con, Q⟩ := x
  intro O H locs ls hl hP hS
  have hx := O.1
  have hb := O.2.1
  have hts := O.2.2.2.2.1
  have hown := O.2.2.2.1
  have hK : va_K D vwCl (tz cA) s := O.2.2.2.2.2.2.2.2.1
  have hlk : meth.locks = false := O.2.2.2.2.2.2.1
  refine J_fin hq O.2.2.2.2.2.2.2.2.2.1 hk hkM hnN hK hP hS hp (fun qq => ?_)
  exact W.zret hx hb (O.2.2.2.2.2.1.trans hr) hn qq hS.2.2 hd hlk
theorem J_lret {con0 : JK} {Post : Option Value → List MC → Prop} {v : Int64} (hq : JQ x con0 M N Post) (hd : decode cc pc = .ok (.lreturn, 1)) (hr : rt = some .long) (hk : k + L0 = h.length) (hkM : k ≤ M) (hnN : n ≤ N) (hp : Post (some (.long v)) h) : J x y cc nL rt d M N L0 pc lv [.long v] h k n := by
  obtain ⟨p, l, e, R, s, m, args, below, meth, c, b, ca, cA, D, con, Q⟩ := x
  intro O H locs ls hl hP hS
  have hx := O.1
  have hb := O.2.1
  have hts := O.2.2.2.2.1
  have hown := O.2.2.2.1
  have hK : va_K D vwCl (tz cA) s := O.2.2.2.2.2.2.2.2.1
  have hlk : meth.locks = false := O.2.2.2.2.2.2.1
  refine J_fin hq O.2.2.2.2.2.2.2.2.2.1 hk hkM hnN hK hP hS hp (fun qq => ?_)
  exact W.lret hx hb (O.2.2.2.2.2.1.trans hr) qq hS.2.2 hd hlk
theorem J_vret {con0 : JK} {Post : Option Value → List MC → Prop} (hq : JQ x con0 M N Post) (hd : decode cc pc = .ok (.return_, 1)) (hr : rt = none) (hk : k + L0 = h.length) (hkM : k ≤ M) (hnN : n ≤ N) (hp : Post none h) : J x y cc nL rt d M N L0 pc lv [] h k n := by
  obtain ⟨p, l, e, R, s, m, args, below, meth, c, b, ca, cA, D, con, Q⟩ := x
  intro O H locs ls hl hP hS
  have hx := O.1
  have hb := O.2.1
  have hts := O.2.2.2.2.1
  have hown := O.2.2.2.1
  have hK : va_K D vwCl (tz cA) s := O.2.2.2.2.2.2.2.2.1
  have hlk : meth.locks = false := O.2.2.2.2.2.2.1
  refine J_fin hq O.2.2.2.2.2.2.2.2.2.1 hk hkM hnN hK hP hS hp (fun qq => ?_)
  exact W.vret hx hb (O.2.2.2.2.2.1.trans hr) qq hS.2.2 hd hlk
end
end
