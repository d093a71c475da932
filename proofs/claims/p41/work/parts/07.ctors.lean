/-! constructors: the object's fields, and the cells behind -/
def con0 : JK := fun _ => none
/-- the cells B stand in h from n on -/
def At (h : List MC) (n : Nat) (B : List MC) : Prop := ∀ (i : Nat) (c : MC), B[i]? = some c → h[n + i]? = some c
theorem At_nil {h : List MC} {n : Nat} : At h n [] := fun i c q => by simp at q
theorem At_cons {h B : List MC} {n : Nat} {c : MC} (h1 : h[n]? = some c) (h2 : At h (n + 1) B) : At h n (c :: B) := by
  intro i x q
  cases i with
  | zero => cases q; exact h1
  | succ i =>
    have := h2 i x q
    rwa [Nat.add_assoc, Nat.add_comm 1 i] at this
theorem At_app {h A B : List MC} {n m : Nat} (hm : A.length = m) (h1 : At h n A) (h2 : At h (n + m) B) : At h n (A ++ B) := by
  intro i x q
  rcases Nat.lt_or_ge i A.length with hi | hi
  · rw [List.getElem?_append_left hi] at q; exact h1 i x q
  · rw [List.getElem?_append_right hi] at q
    have := h2 _ x q
    rwa [show n + m + (i - A.length) = n + i by omega] at this
theorem At.fr {h h2 B : List MC} {n N a m : Nat} (hb : At h n B) (hm : B.length = m) (hf : ∀ j, j < N → j ≠ a → h2[j]? = h[j]?) (h1 : n + m ≤ N) (h3 : a < n ∨ n + m ≤ a) : At h2 n B := by
  intro i c q
  have hi := (List.getElem?_eq_some_iff.mp q).1
  rw [hf (n + i) (by omega) (by omega)]
  exact hb i c q
theorem r_set {h h2 : List MC} {a N : Nat} {c : MC} (e : h2 = h.set a c) : ∀ j, j < N → j ≠ a → h2[j]? = h[j]? := fun j _ hj => by rw [e, List.getElem?_set_ne (Ne.symm hj)]
theorem r_push {h h2 : List MC} {a N : Nat} {c : MC} (e : h2 = h ++ [c]) (hN : h.length = N) : ∀ j, j < N → j ≠ a → h2[j]? = h[j]? := fun j hj _ => by rw [e, List.getElem?_append_left (by omega)]
theorem bq {n0 a m b : Nat} (h : a + m ≤ b) : n0 + a + m ≤ n0 + b := by omega
theorem bqq {n0 a m b : Nat} (h : Nat.ble (a + m) b = true) : n0 + a + m ≤ n0 + b := bq (Nat.le_of_ble_eq_true h)
theorem nal {k a b : Nat} (h : Nat.ble (a + 1) b = true) : k + a < k + b := Nat.add_lt_add_left (Nat.le_of_ble_eq_true h) k
theorem nan {k a b : Nat} (h : Nat.beq a b = false) : k + a ≠ k + b := fun q => Nat.ne_of_beq_eq_false h (Nat.add_left_cancel q)
theorem hk1 {h w : List MC} {n0 k : Nat} (hn : h.length = n0) (hw : w.length = n0 + k) : k + h.length = w.length := by omega
theorem a_push {h h2 : List MC} {N : Nat} {c : MC} (e : h2 = h ++ [c]) (hN : h.length = N) : h2[N]? = some c := by
  subst hN; rw [e, List.getElem?_append_right (Nat.le_refl _), Nat.sub_self]; rfl
theorem a_set {h h2 : List MC} {a : Nat} {c c0 : MC} (e : h2 = h.set a c) (h0 : h[a]? = some c0) : h2[a]? = some c := by
  rw [e, List.getElem?_set_self (List.getElem?_eq_some_iff.mp h0).1]
theorem l_push {h h2 : List MC} {N m : Nat} {c : MC} (e : h2 = h ++ [c]) (hN : h.length = N) (hm : N + 1 = m) : h2.length = m := by
  rw [e, List.length_append, hN]; exact hm
theorem l_set {h h2 : List MC} {a N : Nat} {c : MC} (e : h2 = h.set a c) (hN : h.length = N) : h2.length = N := by
  rw [e, List.length_set, hN]
theorem ka0 : Cond.arrayClass .byte ∈ gt := gt_1_3 (i := 3) rfl rfl
theorem ka1 : Cond.arrayClass .int ∈ gt := gt_1_3 (i := 4) rfl rfl
theorem ka2 : Cond.arrayClass .long ∈ gt := gt_2_2 (i := 9) rfl rfl
theorem ka3 : Cond.arrayClass .boolean ∈ gt := gt_1_7 (i := 1) rfl rfl
theorem ko4 : Cond.arrayOver (.object "PondStair$Hill") ∈ nt := nt_in 122 (by decide +kernel) (by decide +kernel)
theorem ko5 : Cond.arrayOver (.object "PondStair$Told") ∈ nt := nt_in 219 (by decide +kernel) (by decide +kernel)
theorem ko6 : Cond.arrayOver (.object "PondStair$Works") ∈ nt := nt_in 124 (by decide +kernel) (by decide +kernel)
theorem fsX0 : ∀ (b : Nat) (ca : Nat → Nat) (j : Nat), j < 10 → defaultValue (tyX0 j) = vp_V (([.null, .null, .int 0, .int 0, .long 0, .int 0, .null, .null, .null, .null] : List Value).map (rv b ca)) j := by
  intro b ca j hj
  match j, hj with
  | 0, _ => rfl
  | 1, _ => rfl
  | 2, _ => rfl
  | 3, _ => rfl
  | 4, _ => rfl
  | 5, _ => rfl
  | 6, _ => rfl
  | 7, _ => rfl
  | 8, _ => rfl
  | 9, _ => rfl
  | j + 10, hj => exact absurd hj (by omega)
theorem fsX1 : ∀ (b : Nat) (ca : Nat → Nat) (j : Nat), j < 6 → defaultValue (tyX1 j) = vp_V (([.int 0, .null, .int 0, .null, .null, .null] : List Value).map (rv b ca)) j := by
  intro b ca j hj
  match j, hj with
  | 0, _ => rfl
  | 1, _ => rfl
  | 2, _ => rfl
  | 3, _ => rfl
  | 4, _ => rfl
  | 5, _ => rfl
  | j + 6, hj => exact absurd hj (by omega)
theorem fsX2 : ∀ (b : Nat) (ca : Nat → Nat) (j : Nat), j < 6 → defaultValue (tyX2 j) = vp_V (([.null, .null, .null, .null, .null, .null] : List Value).map (rv b ca)) j := by
  intro b ca j hj
  match j, hj with
  | 0, _ => rfl
  | 1, _ => rfl
  | 2, _ => rfl
  | 3, _ => rfl
  | 4, _ => rfl
  | 5, _ => rfl
  | j + 6, hj => exact absurd hj (by omega)
theorem fsX3 : ∀ (b : Nat) (ca : Nat → Nat) (j : Nat), j < 7 → defaultValue (tyX3 j) = vp_V (([.null, .null, .null, .null, .null, .int 0, .int 0] : List Value).map (rv b ca)) j := by
  intro b ca j hj
  match j, hj with
  | 0, _ => rfl
  | 1, _ => rfl
  | 2, _ => rfl
  | 3, _ => rfl
  | 4, _ => rfl
  | 5, _ => rfl
  | 6, _ => rfl
  | j + 7, hj => exact absurd hj (by omega)
theorem fsX4 : ∀ (b : Nat) (ca : Nat → Nat) (j : Nat), j < 4 → defaultValue (tyX4 j) = vp_V (([.null, .int 0, .int 0, .int 0] : List Value).map (rv b ca)) j := by
  intro b ca j hj
  match j, hj with
  | 0, _ => rfl
  | 1, _ => rfl
  | 2, _ => rfl
  | 3, _ => rfl
  | j + 4, hj => exact absurd hj (by omega)
theorem fsX5 : ∀ (b : Nat) (ca : Nat → Nat) (j : Nat), j < 7 → defaultValue (tyX5 j) = vp_V (([.int 0, .int 0, .int 0, .int 0, .int 0, .null, .null] : List Value).map (rv b ca)) j := by
  intro b ca j hj
  match j, hj with
  | 0, _ => rfl
  | 1, _ => rfl
  | 2, _ => rfl
  | 3, _ => rfl
  | 4, _ => rfl
  | 5, _ => rfl
  | 6, _ => rfl
  | j + 7, hj => exact absurd hj (by omega)
theorem fsX6 : ∀ (b : Nat) (ca : Nat → Nat) (j : Nat), j < 6 → defaultValue (tyX6 j) = vp_V (([.null, .int 0, .int 0, .int 0, .int 0, .int 0] : List Value).map (rv b ca)) j := by
  intro b ca j hj
  match j, hj with
  | 0, _ => rfl
  | 1, _ => rfl
  | 2, _ => rfl
  | 3, _ => rfl
  | 4, _ => rfl
  | 5, _ => rfl
  | j + 6, hj => exact absurd hj (by omega)
theorem fsX7 : ∀ (b : Nat) (ca : Nat → Nat) (j : Nat), j < 8 → defaultValue (tyX7 j) = vp_V (([.null, .int 0, .int 0, .int 0, .null, .int 0, .null, .int 0] : List Value).map (rv b ca)) j := by
  intro b ca j hj
  match j, hj with
  | 0, _ => rfl
  | 1, _ => rfl
  | 2, _ => rfl
  | 3, _ => rfl
  | 4, _ => rfl
  | 5, _ => rfl
  | 6, _ => rfl
  | 7, _ => rfl
  | j + 8, hj => exact absurd hj (by omega)
theorem fsX8 : ∀ (b : Nat) (ca : Nat → Nat) (j : Nat), j < 4 → defaultValue (tyX8 j) = vp_V (([.int 0, .null, .null, .null] : List Value).map (rv b ca)) j := by
  intro b ca j hj
  match j, hj with
  | 0, _ => rfl
  | 1, _ => rfl
  | 2, _ => rfl
  | 3, _ => rfl
  | j + 4, hj => exact absurd hj (by omega)
theorem fsX9 : ∀ (b : Nat) (ca : Nat → Nat) (j : Nat), j < 1 → defaultValue (tyX9 j) = vp_V (([.int 0] : List Value).map (rv b ca)) j := by
  intro b ca j hj
  match j, hj with
  | 0, _ => rfl
  | j + 1, hj => exact absurd hj (by omega)
theorem fsX10 : ∀ (b : Nat) (ca : Nat → Nat) (j : Nat), j < 10 → defaultValue (tyX10 j) = vp_V (([.null, .null, .null, .null, .null, .null, .null, .null, .null, .null] : List Value).map (rv b ca)) j := by
  intro b ca j hj
  match j, hj with
  | 0, _ => rfl
  | 1, _ => rfl
  | 2, _ => rfl
  | 3, _ => rfl
  | 4, _ => rfl
  | 5, _ => rfl
  | 6, _ => rfl
  | 7, _ => rfl
  | 8, _ => rfl
  | 9, _ => rfl
  | j + 10, hj => exact absurd hj (by omega)
theorem fsX11 : ∀ (b : Nat) (ca : Nat → Nat) (j : Nat), j < 43 → defaultValue (tyX11 j) = vp_V (([.int 0, .null, .null, .null, .null, .null, .null, .null, .int 0, .int 0, .int 0, .int 0, .int 0, .long 0, .int 0, .int 0, .int 0, .int 0, .int 0, .null, .null, .null, .int 0, .int 0, .int 0, .int 0, .int 0, .int 0, .null, .null, .null, .int 0, .int 0, .int 0, .null, .null, .null, .null, .null, .int 0, .long 0, .int 0, .null] : List Value).map (rv b ca)) j := by
  intro b ca j hj
  match j, hj with
  | 0, _ => rfl
  | 1, _ => rfl
  | 2, _ => rfl
  | 3, _ => rfl
  | 4, _ => rfl
  | 5, _ => rfl
  | 6, _ => rfl
  | 7, _ => rfl
  | 8, _ => rfl
  | 9, _ => rfl
  | 10, _ => rfl
  | 11, _ => rfl
  | 12, _ => rfl
  | 13, _ => rfl
  | 14, _ => rfl
  | 15, _ => rfl
  | 16, _ => rfl
  | 17, _ => rfl
  | 18, _ => rfl
  | 19, _ => rfl
  | 20, _ => rfl
  | 21, _ => rfl
  | 22, _ => rfl
  | 23, _ => rfl
  | 24, _ => rfl
  | 25, _ => rfl
  | 26, _ => rfl
  | 27, _ => rfl
  | 28, _ => rfl
  | 29, _ => rfl
  | 30, _ => rfl
  | 31, _ => rfl
  | 32, _ => rfl
  | 33, _ => rfl
  | 34, _ => rfl
  | 35, _ => rfl
  | 36, _ => rfl
  | 37, _ => rfl
  | 38, _ => rfl
  | 39, _ => rfl
  | 40, _ => rfl
  | 41, _ => rfl
  | 42, _ => rfl
  | j + 43, hj => exact absurd hj (by omega)
theorem k129 : Cond.methodLink RX1 3 objectInit ∈ gt := gt_1_1 (i := 19) rfl rfl
theorem k113 : Cond.instanceMethod objectInit ∈ gt := gt_1_1 (i := 3) rfl rfl
theorem k114 : Cond.code objectInit ⟨#[0xb1]⟩ 1 none ∈ gt := gt_1_1 (i := 4) rfl rfl
theorem k130 : Cond.fieldLink RX1 9 "PondStair$Hill" "ponds" "I" ∈ gt := gt_1_1 (i := 20) rfl rfl
theorem k137 : Cond.fieldLink RX1 15 "PondStair$Hill" "row" "[I" ∈ gt := gt_1_2 (i := 3) rfl rfl
theorem k138 : Cond.fieldLink RX1 19 "PondStair$Hill" "rains" "I" ∈ gt := gt_1_2 (i := 4) rfl rfl
theorem k143 : Cond.fieldLink RX1 22 "PondStair$Hill" "rainSteps" "[I" ∈ gt := gt_1_2 (i := 9) rfl rfl
theorem k144 : Cond.fieldLink RX1 25 "PondStair$Hill" "rainChance" "[I" ∈ gt := gt_1_2 (i := 10) rfl rfl
theorem k145 : Cond.fieldLink RX1 28 "PondStair$Hill" "days" "[I" ∈ gt := gt_1_2 (i := 11) rfl rfl
theorem k167 : Cond.methodLink RX8 3 objectInit ∈ gt := gt_1_3 (i := 9) rfl rfl
theorem k168 : Cond.fieldLink RX8 9 "PondStair$Works" "works" "I" ∈ gt := gt_1_3 (i := 10) rfl rfl
theorem k171 : Cond.fieldLink RX8 15 "PondStair$Works" "kind" "[I" ∈ gt := gt_1_3 (i := 13) rfl rfl
theorem k173 : Cond.fieldLink RX8 19 "PondStair$Works" "where" "[I" ∈ gt := gt_1_3 (i := 15) rfl rfl
theorem k175 : Cond.fieldLink RX8 22 "PondStair$Works" "much" "[I" ∈ gt := gt_1_3 (i := 17) rfl rfl
theorem k318 : Cond.methodLink RX5 3 objectInit ∈ gt := gt_1_9 (i := 16) rfl rfl
theorem k319 : Cond.fieldLink RX5 9 "PondStair$Storm" "ponds" "I" ∈ gt := gt_1_9 (i := 17) rfl rfl
theorem k320 : Cond.fieldLink RX5 15 "PondStair$Storm" "went" "I" ∈ gt := gt_1_9 (i := 18) rfl rfl
theorem k324 : Cond.fieldLink RX5 18 "PondStair$Storm" "harm" "I" ∈ gt := gt_1_9 (i := 22) rfl rfl
theorem k326 : Cond.fieldLink RX5 21 "PondStair$Storm" "heard" "I" ∈ gt := gt_2_0 (i := 0) rfl rfl
theorem k327 : Cond.fieldLink RX5 24 "PondStair$Storm" "brook" "I" ∈ gt := gt_2_0 (i := 1) rfl rfl
theorem k329 : Cond.fieldLink RX5 27 "PondStair$Storm" "water" "[I" ∈ gt := gt_2_0 (i := 3) rfl rfl
theorem k330 : Cond.fieldLink RX5 31 "PondStair$Storm" "left" "[I" ∈ gt := gt_2_0 (i := 4) rfl rfl
theorem k231 : Cond.methodLink RX6 1 objectInit ∈ gt := gt_1_6 (i := 1) rfl rfl
theorem k232 : Cond.fieldLink RX6 7 "PondStair$Tokens" "tape" "[B" ∈ gt := gt_1_6 (i := 2) rfl rfl
theorem k233 : Cond.fieldLink RX6 13 "PondStair$Tokens" "length" "I" ∈ gt := gt_1_6 (i := 3) rfl rfl
theorem k235 : Cond.fieldLink RX6 17 "PondStair$Tokens" "next" "I" ∈ gt := gt_1_6 (i := 5) rfl rfl
theorem k236 : Cond.fieldLink RX6 20 "PondStair$Tokens" "kind" "I" ∈ gt := gt_1_6 (i := 6) rfl rfl
theorem k238 : Cond.fieldLink RX6 23 "PondStair$Tokens" "start" "I" ∈ gt := gt_1_6 (i := 8) rfl rfl
theorem k240 : Cond.fieldLink RX6 26 "PondStair$Tokens" "value" "I" ∈ gt := gt_1_6 (i := 10) rfl rfl
theorem k120 : Cond.methodLink RX7 3 objectInit ∈ gt := gt_1_1 (i := 10) rfl rfl
theorem k186 : Cond.fieldLink RX7 9 "PondStair$Told" "tape" "[B" ∈ gt := gt_1_4 (i := 4) rfl rfl
theorem k188 : Cond.fieldLink RX7 15 "PondStair$Told" "length" "I" ∈ gt := gt_1_4 (i := 6) rfl rfl
theorem k190 : Cond.fieldLink RX7 19 "PondStair$Told" "fault" "I" ∈ gt := gt_1_4 (i := 8) rfl rfl
theorem k192 : Cond.fieldLink RX7 22 "PondStair$Told" "place" "I" ∈ gt := gt_1_4 (i := 10) rfl rfl
theorem k121 : Cond.classLink RX7 25 RX1 ∈ gt := gt_1_1 (i := 11) rfl rfl
theorem k194 : Cond.fieldLink RX7 27 "PondStair$Told" "hill" "[LPondStair$Hill;" ∈ gt := gt_1_4 (i := 12) rfl rfl
theorem k196 : Cond.fieldLink RX7 31 "PondStair$Told" "hills" "I" ∈ gt := gt_1_4 (i := 14) rfl rfl
theorem k123 : Cond.classLink RX7 34 RX8 ∈ gt := gt_1_1 (i := 13) rfl rfl
theorem k198 : Cond.fieldLink RX7 36 "PondStair$Told" "works" "[LPondStair$Works;" ∈ gt := gt_1_4 (i := 16) rfl rfl
theorem k200 : Cond.fieldLink RX7 40 "PondStair$Told" "plans" "I" ∈ gt := gt_1_4 (i := 18) rfl rfl
theorem k125 : Cond.instantiable RX1 6 ∈ gt := gt_1_1 (i := 15) rfl rfl
theorem k89 : Cond.initialized RX1 ∈ gt := gt_1_0 (i := 3) rfl rfl
theorem k126 : Cond.methodLinkNest RX7 43 yX1_init "PondStair" ∈ nt := nt_1_1 (i := 16) rfl rfl
theorem k127 : Cond.instanceMethod yX1_init ∈ gt := gt_1_1 (i := 17) rfl rfl
theorem k128 : Cond.code yX1_init cX1_init 1 none ∈ gt := gt_1_1 (i := 18) rfl rfl
theorem np_X1_init : yX1_init.cls ≠ "java/lang/invoke/MethodHandle" ∧ yX1_init.cls ≠ "java/lang/invoke/VarHandle" ∧ (parseMethodDescriptor yX1_init.desc).map (fun d => d.parameters.length) = some 0 := ⟨cq_RX1.1, cq_RX1.2, pd_3⟩
theorem k163 : Cond.instantiable RX8 4 ∈ gt := gt_1_3 (i := 5) rfl rfl
theorem k90 : Cond.initialized RX8 ∈ gt := gt_1_0 (i := 4) rfl rfl
theorem k164 : Cond.methodLinkNest RX7 44 yX8_init "PondStair" ∈ nt := nt_1_3 (i := 6) rfl rfl
theorem k165 : Cond.instanceMethod yX8_init ∈ gt := gt_1_3 (i := 7) rfl rfl
theorem k166 : Cond.code yX8_init cX8_init 1 none ∈ gt := gt_1_3 (i := 8) rfl rfl
theorem np_X8_init : yX8_init.cls ≠ "java/lang/invoke/MethodHandle" ∧ yX8_init.cls ≠ "java/lang/invoke/VarHandle" ∧ (parseMethodDescriptor yX8_init.desc).map (fun d => d.parameters.length) = some 0 := ⟨cq_RX8.1, cq_RX8.2, pd_3⟩
theorem k225 : Cond.methodLink RX3 3 objectInit ∈ gt := gt_1_5 (i := 19) rfl rfl
theorem k226 : Cond.classLink RX3 9 RX6 ∈ gt := gt_1_5 (i := 20) rfl rfl
theorem k227 : Cond.instantiable RX6 6 ∈ gt := gt_1_5 (i := 21) rfl rfl
theorem k92 : Cond.initialized RX6 ∈ gt := gt_1_0 (i := 6) rfl rfl
theorem k228 : Cond.methodLinkNest RX3 11 yX6_init "PondStair" ∈ nt := nt_1_5 (i := 22) rfl rfl
theorem k229 : Cond.instanceMethod yX6_init ∈ gt := gt_1_5 (i := 23) rfl rfl
theorem k230 : Cond.code yX6_init cX6_init 1 none ∈ gt := gt_1_6 (i := 0) rfl rfl
theorem np_X6_init : yX6_init.cls ≠ "java/lang/invoke/MethodHandle" ∧ yX6_init.cls ≠ "java/lang/invoke/VarHandle" ∧ (parseMethodDescriptor yX6_init.desc).map (fun d => d.parameters.length) = some 0 := ⟨cq_RX6.1, cq_RX6.2, pd_3⟩
theorem k260 : Cond.fieldLink RX3 12 "PondStair$Reader" "tokens" "LPondStair$Tokens;" ∈ gt := gt_1_7 (i := 6) rfl rfl
theorem k256 : Cond.classLink RX3 18 RX1 ∈ gt := gt_1_7 (i := 2) rfl rfl
theorem k257 : Cond.methodLinkNest RX3 20 yX1_init "PondStair" ∈ nt := nt_1_7 (i := 3) rfl rfl
theorem k261 : Cond.fieldLink RX3 21 "PondStair$Reader" "hill" "LPondStair$Hill;" ∈ gt := gt_1_7 (i := 7) rfl rfl
theorem k258 : Cond.classLink RX3 25 RX8 ∈ gt := gt_1_7 (i := 4) rfl rfl
theorem k259 : Cond.methodLinkNest RX3 27 yX8_init "PondStair" ∈ nt := nt_1_7 (i := 5) rfl rfl
theorem k263 : Cond.fieldLink RX3 28 "PondStair$Reader" "works" "LPondStair$Works;" ∈ gt := gt_1_7 (i := 9) rfl rfl
theorem k265 : Cond.fieldLink RX3 32 "PondStair$Reader" "numbers" "[I" ∈ gt := gt_1_7 (i := 11) rfl rfl
theorem k266 : Cond.fieldLink RX3 36 "PondStair$Reader" "places" "[I" ∈ gt := gt_1_7 (i := 12) rfl rfl
theorem k267 : Cond.fieldLink RX3 39 "PondStair$Reader" "fault" "I" ∈ gt := gt_1_7 (i := 13) rfl rfl
theorem k269 : Cond.fieldLink RX3 43 "PondStair$Reader" "place" "I" ∈ gt := gt_1_7 (i := 15) rfl rfl
theorem k291 : Cond.methodLink RX4 3 objectInit ∈ gt := gt_1_8 (i := 13) rfl rfl
theorem k292 : Cond.classLink RX4 9 RX1 ∈ gt := gt_1_8 (i := 14) rfl rfl
theorem k293 : Cond.methodLinkNest RX4 11 yX1_init "PondStair" ∈ nt := nt_1_8 (i := 15) rfl rfl
theorem k294 : Cond.fieldLink RX4 12 "PondStair$Site" "ground" "LPondStair$Hill;" ∈ gt := gt_1_8 (i := 16) rfl rfl
theorem k296 : Cond.fieldLink RX4 18 "PondStair$Site" "stop" "I" ∈ gt := gt_1_8 (i := 18) rfl rfl
theorem k298 : Cond.fieldLink RX4 22 "PondStair$Site" "days" "I" ∈ gt := gt_1_8 (i := 20) rfl rfl
theorem k300 : Cond.fieldLink RX4 25 "PondStair$Site" "lost" "I" ∈ gt := gt_1_8 (i := 22) rfl rfl
theorem k357 : Cond.methodLink RX2 3 objectInit ∈ gt := gt_2_1 (i := 7) rfl rfl
theorem k358 : Cond.classLink RX2 9 RX5 ∈ gt := gt_2_1 (i := 8) rfl rfl
theorem k314 : Cond.instantiable RX5 7 ∈ gt := gt_1_9 (i := 12) rfl rfl
theorem k94 : Cond.initialized RX5 ∈ gt := gt_1_0 (i := 8) rfl rfl
theorem k359 : Cond.methodLinkNest RX2 11 yX5_init "PondStair" ∈ nt := nt_2_1 (i := 9) rfl rfl
theorem k316 : Cond.instanceMethod yX5_init ∈ gt := gt_1_9 (i := 14) rfl rfl
theorem k317 : Cond.code yX5_init cX5_init 1 none ∈ gt := gt_1_9 (i := 15) rfl rfl
theorem np_X5_init : yX5_init.cls ≠ "java/lang/invoke/MethodHandle" ∧ yX5_init.cls ≠ "java/lang/invoke/VarHandle" ∧ (parseMethodDescriptor yX5_init.desc).map (fun d => d.parameters.length) = some 0 := ⟨cq_RX5.1, cq_RX5.2, pd_3⟩
theorem k362 : Cond.fieldLink RX2 12 "PondStair$Odds" "flow" "LPondStair$Storm;" ∈ gt := gt_2_1 (i := 12) rfl rfl
theorem k360 : Cond.classLink RX2 18 RX1 ∈ gt := gt_2_1 (i := 10) rfl rfl
theorem k361 : Cond.methodLinkNest RX2 20 yX1_init "PondStair" ∈ nt := nt_2_1 (i := 11) rfl rfl
theorem k363 : Cond.fieldLink RX2 21 "PondStair$Odds" "hill" "LPondStair$Hill;" ∈ gt := gt_2_1 (i := 13) rfl rfl
theorem k365 : Cond.fieldLink RX2 25 "PondStair$Odds" "went" "[I" ∈ gt := gt_2_1 (i := 15) rfl rfl
theorem k366 : Cond.fieldLink RX2 29 "PondStair$Odds" "harm" "[I" ∈ gt := gt_2_1 (i := 16) rfl rfl
theorem k367 : Cond.fieldLink RX2 32 "PondStair$Odds" "weight" "[J" ∈ gt := gt_2_1 (i := 17) rfl rfl
theorem k368 : Cond.fieldLink RX2 36 "PondStair$Odds" "together" "[J" ∈ gt := gt_2_1 (i := 18) rfl rfl
theorem k351 : Cond.methodLink RX0 3 objectInit ∈ gt := gt_2_1 (i := 1) rfl rfl
theorem k352 : Cond.classLink RX0 9 RX2 ∈ gt := gt_2_1 (i := 2) rfl rfl
theorem k353 : Cond.instantiable RX2 6 ∈ gt := gt_2_1 (i := 3) rfl rfl
theorem k96 : Cond.initialized RX2 ∈ gt := gt_1_0 (i := 10) rfl rfl
theorem k354 : Cond.methodLinkNest RX0 11 yX2_init "PondStair" ∈ nt := nt_2_1 (i := 4) rfl rfl
theorem k355 : Cond.instanceMethod yX2_init ∈ gt := gt_2_1 (i := 5) rfl rfl
theorem k356 : Cond.code yX2_init cX2_init 1 none ∈ gt := gt_2_1 (i := 6) rfl rfl
theorem np_X2_init : yX2_init.cls ≠ "java/lang/invoke/MethodHandle" ∧ yX2_init.cls ≠ "java/lang/invoke/VarHandle" ∧ (parseMethodDescriptor yX2_init.desc).map (fun d => d.parameters.length) = some 0 := ⟨cq_RX2.1, cq_RX2.2, pd_3⟩
theorem k386 : Cond.fieldLink RX0 12 "PondStair$Choice" "odds" "LPondStair$Odds;" ∈ gt := gt_2_2 (i := 12) rfl rfl
theorem k384 : Cond.classLink RX0 18 RX1 ∈ gt := gt_2_2 (i := 10) rfl rfl
theorem k385 : Cond.methodLinkNest RX0 20 yX1_init "PondStair" ∈ nt := nt_2_2 (i := 11) rfl rfl
theorem k388 : Cond.fieldLink RX0 21 "PondStair$Choice" "trial" "LPondStair$Hill;" ∈ gt := gt_2_2 (i := 14) rfl rfl
theorem k389 : Cond.fieldLink RX0 25 "PondStair$Choice" "first" "I" ∈ gt := gt_2_2 (i := 15) rfl rfl
theorem k391 : Cond.fieldLink RX0 29 "PondStair$Choice" "second" "I" ∈ gt := gt_2_2 (i := 17) rfl rfl
theorem k393 : Cond.fieldLink RX0 32 "PondStair$Choice" "least" "J" ∈ gt := gt_2_2 (i := 19) rfl rfl
theorem k395 : Cond.fieldLink RX0 36 "PondStair$Choice" "filling" "I" ∈ gt := gt_2_2 (i := 21) rfl rfl
theorem k396 : Cond.fieldLink RX0 39 "PondStair$Choice" "toFill" "[I" ∈ gt := gt_2_2 (i := 22) rfl rfl
theorem k397 : Cond.fieldLink RX0 43 "PondStair$Choice" "order" "[I" ∈ gt := gt_2_2 (i := 23) rfl rfl
theorem k398 : Cond.fieldLink RX0 46 "PondStair$Choice" "tried" "[I" ∈ gt := gt_2_3 (i := 0) rfl rfl
theorem k399 : Cond.fieldLink RX0 49 "PondStair$Choice" "filledMean" "[J" ∈ gt := gt_2_3 (i := 1) rfl rfl
theorem k112 : Cond.methodLink RX10 1 objectInit ∈ gt := gt_1_1 (i := 2) rfl rfl
theorem k115 : Cond.classLink RX10 7 RX7 ∈ gt := gt_1_1 (i := 5) rfl rfl
theorem k116 : Cond.instantiable RX7 8 ∈ gt := gt_1_1 (i := 6) rfl rfl
theorem k88 : Cond.initialized RX7 ∈ gt := gt_1_0 (i := 2) rfl rfl
theorem k117 : Cond.methodLink RX10 9 yX7_init ∈ gt := gt_1_1 (i := 7) rfl rfl
theorem k118 : Cond.instanceMethod yX7_init ∈ gt := gt_1_1 (i := 8) rfl rfl
theorem k119 : Cond.code yX7_init cX7_init 2 none ∈ gt := gt_1_1 (i := 9) rfl rfl
theorem np_X7_init : yX7_init.cls ≠ "java/lang/invoke/MethodHandle" ∧ yX7_init.cls ≠ "java/lang/invoke/VarHandle" ∧ (parseMethodDescriptor yX7_init.desc).map (fun d => d.parameters.length) = some 0 := ⟨cq_RX7.1, cq_RX7.2, pd_3⟩
theorem k423 : Cond.fieldLink RX10 10 "PondStair" "told" "LPondStair$Told;" ∈ gt := gt_2_4 (i := 1) rfl rfl
theorem k424 : Cond.fieldLink RX10 16 "PondStair" "images" "[LPondStair$Told;" ∈ gt := gt_2_4 (i := 2) rfl rfl
theorem k425 : Cond.fieldLink RX10 20 "PondStair" "taken" "[Z" ∈ gt := gt_2_4 (i := 3) rfl rfl
theorem k220 : Cond.classLink RX10 24 RX3 ∈ gt := gt_1_5 (i := 14) rfl rfl
theorem k221 : Cond.instantiable RX3 7 ∈ gt := gt_1_5 (i := 15) rfl rfl
theorem k91 : Cond.initialized RX3 ∈ gt := gt_1_0 (i := 5) rfl rfl
theorem k222 : Cond.methodLinkNest RX10 26 yX3_init "PondStair" ∈ nt := nt_1_5 (i := 16) rfl rfl
theorem k223 : Cond.instanceMethod yX3_init ∈ gt := gt_1_5 (i := 17) rfl rfl
theorem k224 : Cond.code yX3_init cX3_init 1 none ∈ gt := gt_1_5 (i := 18) rfl rfl
theorem np_X3_init : yX3_init.cls ≠ "java/lang/invoke/MethodHandle" ∧ yX3_init.cls ≠ "java/lang/invoke/VarHandle" ∧ (parseMethodDescriptor yX3_init.desc).map (fun d => d.parameters.length) = some 0 := ⟨cq_RX3.1, cq_RX3.2, pd_3⟩
theorem k426 : Cond.fieldLink RX10 27 "PondStair" "reader" "LPondStair$Reader;" ∈ gt := gt_2_4 (i := 4) rfl rfl
theorem k286 : Cond.classLink RX10 31 RX4 ∈ gt := gt_1_8 (i := 8) rfl rfl
theorem k287 : Cond.instantiable RX4 4 ∈ gt := gt_1_8 (i := 9) rfl rfl
theorem k93 : Cond.initialized RX4 ∈ gt := gt_1_0 (i := 7) rfl rfl
theorem k288 : Cond.methodLinkNest RX10 33 yX4_init "PondStair" ∈ nt := nt_1_8 (i := 10) rfl rfl
theorem k289 : Cond.instanceMethod yX4_init ∈ gt := gt_1_8 (i := 11) rfl rfl
theorem k290 : Cond.code yX4_init cX4_init 1 none ∈ gt := gt_1_8 (i := 12) rfl rfl
theorem np_X4_init : yX4_init.cls ≠ "java/lang/invoke/MethodHandle" ∧ yX4_init.cls ≠ "java/lang/invoke/VarHandle" ∧ (parseMethodDescriptor yX4_init.desc).map (fun d => d.parameters.length) = some 0 := ⟨cq_RX4.1, cq_RX4.2, pd_3⟩
theorem k427 : Cond.fieldLink RX10 34 "PondStair" "site" "LPondStair$Site;" ∈ gt := gt_2_4 (i := 5) rfl rfl
theorem k311 : Cond.classLink RX10 38 RX8 ∈ gt := gt_1_9 (i := 9) rfl rfl
theorem k312 : Cond.methodLinkNest RX10 40 yX8_init "PondStair" ∈ nt := nt_1_9 (i := 10) rfl rfl
theorem k428 : Cond.fieldLink RX10 41 "PondStair" "nothing" "LPondStair$Works;" ∈ gt := gt_2_4 (i := 6) rfl rfl
theorem k313 : Cond.classLink RX10 45 RX5 ∈ gt := gt_1_9 (i := 11) rfl rfl
theorem k315 : Cond.methodLinkNest RX10 47 yX5_init "PondStair" ∈ nt := nt_1_9 (i := 13) rfl rfl
theorem k429 : Cond.fieldLink RX10 48 "PondStair" "flow" "LPondStair$Storm;" ∈ gt := gt_2_4 (i := 7) rfl rfl
theorem k346 : Cond.classLink RX10 52 RX0 ∈ gt := gt_2_0 (i := 20) rfl rfl
theorem k347 : Cond.instantiable RX0 10 ∈ gt := gt_2_0 (i := 21) rfl rfl
theorem k95 : Cond.initialized RX0 ∈ gt := gt_1_0 (i := 9) rfl rfl
theorem k348 : Cond.methodLinkNest RX10 54 yX0_init "PondStair" ∈ nt := nt_2_0 (i := 22) rfl rfl
theorem k349 : Cond.instanceMethod yX0_init ∈ gt := gt_2_0 (i := 23) rfl rfl
theorem k350 : Cond.code yX0_init cX0_init 1 none ∈ gt := gt_2_1 (i := 0) rfl rfl
theorem np_X0_init : yX0_init.cls ≠ "java/lang/invoke/MethodHandle" ∧ yX0_init.cls ≠ "java/lang/invoke/VarHandle" ∧ (parseMethodDescriptor yX0_init.desc).map (fun d => d.parameters.length) = some 0 := ⟨cq_RX0.1, cq_RX0.2, pd_3⟩
theorem k430 : Cond.fieldLink RX10 55 "PondStair" "choice" "LPondStair$Choice;" ∈ gt := gt_2_4 (i := 8) rfl rfl
theorem k387 : Cond.fieldLinkNest RX10 59 "PondStair$Choice" "odds" "LPondStair$Odds;" "PondStair" ∈ nt := nt_2_2 (i := 13) rfl rfl
theorem k431 : Cond.fieldLink RX10 63 "PondStair" "odds" "LPondStair$Odds;" ∈ gt := gt_2_4 (i := 9) rfl rfl
theorem k421 : Cond.classLink RX10 64 RX1 ∈ gt := gt_2_3 (i := 23) rfl rfl
theorem k422 : Cond.methodLinkNest RX10 66 yX1_init "PondStair" ∈ nt := nt_2_4 (i := 0) rfl rfl
theorem k432 : Cond.fieldLink RX10 67 "PondStair" "trial" "LPondStair$Hill;" ∈ gt := gt_2_4 (i := 10) rfl rfl
theorem k1263 : Cond.methodLink RX11 1 objectInit ∈ gt := gt_5_9 (i := 1) rfl rfl
theorem k1265 : Cond.fieldLink RX11 7 "PondStairModel" "tape" "[B" ∈ gt := gt_5_9 (i := 3) rfl rfl
theorem k1266 : Cond.fieldLink RX11 13 "PondStairModel" "size" "[I" ∈ gt := gt_5_9 (i := 4) rfl rfl
theorem k1267 : Cond.fieldLink RX11 17 "PondStairModel" "fault" "[I" ∈ gt := gt_5_9 (i := 5) rfl rfl
theorem k1268 : Cond.fieldLink RX11 20 "PondStairModel" "faultPlace" "[I" ∈ gt := gt_5_9 (i := 6) rfl rfl
theorem k1269 : Cond.fieldLink RX11 23 "PondStairModel" "many" "[I" ∈ gt := gt_5_9 (i := 7) rfl rfl
theorem k1270 : Cond.fieldLink RX11 26 "PondStairModel" "hills" "[I" ∈ gt := gt_5_9 (i := 8) rfl rfl
theorem k1271 : Cond.fieldLink RX11 29 "PondStairModel" "plans" "[I" ∈ gt := gt_5_9 (i := 9) rfl rfl
theorem k1283 : Cond.fieldLink RX11 32 "PondStairModel" "row" "[I" ∈ gt := gt_5_9 (i := 21) rfl rfl
theorem k1284 : Cond.fieldLink RX11 35 "PondStairModel" "got" "[I" ∈ gt := gt_5_9 (i := 22) rfl rfl
theorem k1285 : Cond.fieldLink RX11 38 "PondStairModel" "now" "[I" ∈ gt := gt_5_9 (i := 23) rfl rfl
theorem k1292 : Cond.fieldLink RX11 41 "PondStairModel" "water" "[I" ∈ gt := gt_6_0 (i := 6) rfl rfl
theorem k1293 : Cond.fieldLink RX11 44 "PondStairModel" "comes" "[I" ∈ gt := gt_6_0 (i := 7) rfl rfl
theorem k1294 : Cond.fieldLink RX11 47 "PondStairModel" "left" "[I" ∈ gt := gt_6_0 (i := 8) rfl rfl
theorem k1298 : Cond.fieldLink RX11 50 "PondStairModel" "partsOfSet" "[J" ∈ gt := gt_6_0 (i := 12) rfl rfl
theorem k1299 : Cond.fieldLink RX11 54 "PondStairModel" "chance" "[I" ∈ gt := gt_6_0 (i := 13) rfl rfl
theorem k1300 : Cond.fieldLink RX11 57 "PondStairModel" "level" "[I" ∈ gt := gt_6_0 (i := 14) rfl rfl
theorem k1301 : Cond.fieldLink RX11 60 "PondStairModel" "row4" "[I" ∈ gt := gt_6_0 (i := 15) rfl rfl
theorem k1302 : Cond.fieldLink RX11 63 "PondStairModel" "best4" "[I" ∈ gt := gt_6_0 (i := 16) rfl rfl
theorem k1306 : Cond.fieldLink RX11 66 "PondStairModel" "stored" "[Z" ∈ gt := gt_6_0 (i := 20) rfl rfl
theorem dX1_init_0 : decode cX1_init 0 = .ok (.aload_n 0, 1) := dqn_42 (k := 44) qh_cX1_init rfl rfl
theorem dX1_init_1 : decode cX1_init 1 = .ok (.invokespecial 3, 3) := dqn_183 (k := 41) qh_cX1_init rfl rfl rfl
theorem dX1_init_4 : decode cX1_init 4 = .ok (.aload_n 0, 1) := dqn_42 (k := 40) qh_cX1_init rfl rfl
theorem dX1_init_5 : decode cX1_init 5 = .ok (.iconst 0, 1) := dqn_3 (k := 39) qh_cX1_init rfl rfl
theorem dX1_init_6 : decode cX1_init 6 = .ok (.putfield 9, 3) := dqn_181 (k := 36) qh_cX1_init rfl rfl rfl
theorem dX1_init_9 : decode cX1_init 9 = .ok (.aload_n 0, 1) := dqn_42 (k := 35) qh_cX1_init rfl rfl
theorem dX1_init_10 : decode cX1_init 10 = .ok (.sipush 144, 3) := dqn_17 (k := 32) (u := 144) qh_cX1_init rfl rfl rfl (sg_p rfl rfl)
theorem dX1_init_13 : decode cX1_init 13 = .ok (.newarray .int, 2) := by decide +kernel
theorem dX1_init_15 : decode cX1_init 15 = .ok (.putfield 15, 3) := dqn_181 (k := 27) qh_cX1_init rfl rfl rfl
theorem dX1_init_18 : decode cX1_init 18 = .ok (.aload_n 0, 1) := dqn_42 (k := 26) qh_cX1_init rfl rfl
theorem dX1_init_19 : decode cX1_init 19 = .ok (.iconst 0, 1) := dqn_3 (k := 25) qh_cX1_init rfl rfl
theorem dX1_init_20 : decode cX1_init 20 = .ok (.putfield 19, 3) := dqn_181 (k := 22) qh_cX1_init rfl rfl rfl
theorem dX1_init_23 : decode cX1_init 23 = .ok (.aload_n 0, 1) := dqn_42 (k := 21) qh_cX1_init rfl rfl
theorem dX1_init_24 : decode cX1_init 24 = .ok (.iconst 4, 1) := dqn_7 (k := 20) qh_cX1_init rfl rfl
theorem dX1_init_25 : decode cX1_init 25 = .ok (.newarray .int, 2) := by decide +kernel
theorem dX1_init_27 : decode cX1_init 27 = .ok (.putfield 22, 3) := dqn_181 (k := 15) qh_cX1_init rfl rfl rfl
theorem dX1_init_30 : decode cX1_init 30 = .ok (.aload_n 0, 1) := dqn_42 (k := 14) qh_cX1_init rfl rfl
theorem dX1_init_31 : decode cX1_init 31 = .ok (.iconst 4, 1) := dqn_7 (k := 13) qh_cX1_init rfl rfl
theorem dX1_init_32 : decode cX1_init 32 = .ok (.newarray .int, 2) := by decide +kernel
theorem dX1_init_34 : decode cX1_init 34 = .ok (.putfield 25, 3) := dqn_181 (k := 8) qh_cX1_init rfl rfl rfl
theorem dX1_init_37 : decode cX1_init 37 = .ok (.aload_n 0, 1) := dqn_42 (k := 7) qh_cX1_init rfl rfl
theorem dX1_init_38 : decode cX1_init 38 = .ok (.iconst 3, 1) := dqn_6 (k := 6) qh_cX1_init rfl rfl
theorem dX1_init_39 : decode cX1_init 39 = .ok (.newarray .int, 2) := by decide +kernel
theorem dX1_init_41 : decode cX1_init 41 = .ok (.putfield 28, 3) := dqn_181 (k := 1) qh_cX1_init rfl rfl rfl
theorem dX1_init_44 : decode cX1_init 44 = .ok (.return_, 1) := dqn_177 (k := 0) qh_cX1_init rfl rfl
theorem dX8_init_0 : decode cX8_init 0 = .ok (.aload_n 0, 1) := dqn_42 (k := 33) qh_cX8_init rfl rfl
theorem dX8_init_1 : decode cX8_init 1 = .ok (.invokespecial 3, 3) := dqn_183 (k := 30) qh_cX8_init rfl rfl rfl
theorem dX8_init_4 : decode cX8_init 4 = .ok (.aload_n 0, 1) := dqn_42 (k := 29) qh_cX8_init rfl rfl
theorem dX8_init_5 : decode cX8_init 5 = .ok (.iconst 0, 1) := dqn_3 (k := 28) qh_cX8_init rfl rfl
theorem dX8_init_6 : decode cX8_init 6 = .ok (.putfield 9, 3) := dqn_181 (k := 25) qh_cX8_init rfl rfl rfl
theorem dX8_init_9 : decode cX8_init 9 = .ok (.aload_n 0, 1) := dqn_42 (k := 24) qh_cX8_init rfl rfl
theorem dX8_init_10 : decode cX8_init 10 = .ok (.bipush 12, 2) := dqn_16 (k := 22) (u := 12) qh_cX8_init rfl rfl rfl (by decide)
theorem dX8_init_12 : decode cX8_init 12 = .ok (.newarray .int, 2) := by decide +kernel
theorem dX8_init_14 : decode cX8_init 14 = .ok (.putfield 15, 3) := dqn_181 (k := 17) qh_cX8_init rfl rfl rfl
theorem dX8_init_17 : decode cX8_init 17 = .ok (.aload_n 0, 1) := dqn_42 (k := 16) qh_cX8_init rfl rfl
theorem dX8_init_18 : decode cX8_init 18 = .ok (.bipush 12, 2) := dqn_16 (k := 14) (u := 12) qh_cX8_init rfl rfl rfl (by decide)
theorem dX8_init_20 : decode cX8_init 20 = .ok (.newarray .int, 2) := by decide +kernel
theorem dX8_init_22 : decode cX8_init 22 = .ok (.putfield 19, 3) := dqn_181 (k := 9) qh_cX8_init rfl rfl rfl
theorem dX8_init_25 : decode cX8_init 25 = .ok (.aload_n 0, 1) := dqn_42 (k := 8) qh_cX8_init rfl rfl
theorem dX8_init_26 : decode cX8_init 26 = .ok (.bipush 12, 2) := dqn_16 (k := 6) (u := 12) qh_cX8_init rfl rfl rfl (by decide)
theorem dX8_init_28 : decode cX8_init 28 = .ok (.newarray .int, 2) := by decide +kernel
theorem dX8_init_30 : decode cX8_init 30 = .ok (.putfield 22, 3) := dqn_181 (k := 1) qh_cX8_init rfl rfl rfl
theorem dX8_init_33 : decode cX8_init 33 = .ok (.return_, 1) := dqn_177 (k := 0) qh_cX8_init rfl rfl
theorem dX5_init_0 : decode cX5_init 0 = .ok (.aload_n 0, 1) := dqn_42 (k := 45) qh_cX5_init rfl rfl
theorem dX5_init_1 : decode cX5_init 1 = .ok (.invokespecial 3, 3) := dqn_183 (k := 42) qh_cX5_init rfl rfl rfl
theorem dX5_init_4 : decode cX5_init 4 = .ok (.aload_n 0, 1) := dqn_42 (k := 41) qh_cX5_init rfl rfl
theorem dX5_init_5 : decode cX5_init 5 = .ok (.iconst 0, 1) := dqn_3 (k := 40) qh_cX5_init rfl rfl
theorem dX5_init_6 : decode cX5_init 6 = .ok (.putfield 9, 3) := dqn_181 (k := 37) qh_cX5_init rfl rfl rfl
theorem dX5_init_9 : decode cX5_init 9 = .ok (.aload_n 0, 1) := dqn_42 (k := 36) qh_cX5_init rfl rfl
theorem dX5_init_10 : decode cX5_init 10 = .ok (.iconst 0, 1) := dqn_3 (k := 35) qh_cX5_init rfl rfl
theorem dX5_init_11 : decode cX5_init 11 = .ok (.putfield 15, 3) := dqn_181 (k := 32) qh_cX5_init rfl rfl rfl
theorem dX5_init_14 : decode cX5_init 14 = .ok (.aload_n 0, 1) := dqn_42 (k := 31) qh_cX5_init rfl rfl
theorem dX5_init_15 : decode cX5_init 15 = .ok (.iconst 0, 1) := dqn_3 (k := 30) qh_cX5_init rfl rfl
theorem dX5_init_16 : decode cX5_init 16 = .ok (.putfield 18, 3) := dqn_181 (k := 27) qh_cX5_init rfl rfl rfl
theorem dX5_init_19 : decode cX5_init 19 = .ok (.aload_n 0, 1) := dqn_42 (k := 26) qh_cX5_init rfl rfl
theorem dX5_init_20 : decode cX5_init 20 = .ok (.iconst 0, 1) := dqn_3 (k := 25) qh_cX5_init rfl rfl
theorem dX5_init_21 : decode cX5_init 21 = .ok (.putfield 21, 3) := dqn_181 (k := 22) qh_cX5_init rfl rfl rfl
theorem dX5_init_24 : decode cX5_init 24 = .ok (.aload_n 0, 1) := dqn_42 (k := 21) qh_cX5_init rfl rfl
theorem dX5_init_25 : decode cX5_init 25 = .ok (.iconst 0, 1) := dqn_3 (k := 20) qh_cX5_init rfl rfl
theorem dX5_init_26 : decode cX5_init 26 = .ok (.putfield 24, 3) := dqn_181 (k := 17) qh_cX5_init rfl rfl rfl
theorem dX5_init_29 : decode cX5_init 29 = .ok (.aload_n 0, 1) := dqn_42 (k := 16) qh_cX5_init rfl rfl
theorem dX5_init_30 : decode cX5_init 30 = .ok (.bipush 9, 2) := dqn_16 (k := 14) (u := 9) qh_cX5_init rfl rfl rfl (by decide)
theorem dX5_init_32 : decode cX5_init 32 = .ok (.newarray .int, 2) := by decide +kernel
theorem dX5_init_34 : decode cX5_init 34 = .ok (.putfield 27, 3) := dqn_181 (k := 9) qh_cX5_init rfl rfl rfl
theorem dX5_init_37 : decode cX5_init 37 = .ok (.aload_n 0, 1) := dqn_42 (k := 8) qh_cX5_init rfl rfl
theorem dX5_init_38 : decode cX5_init 38 = .ok (.bipush 9, 2) := dqn_16 (k := 6) (u := 9) qh_cX5_init rfl rfl rfl (by decide)
theorem dX5_init_40 : decode cX5_init 40 = .ok (.newarray .int, 2) := by decide +kernel
theorem dX5_init_42 : decode cX5_init 42 = .ok (.putfield 31, 3) := dqn_181 (k := 1) qh_cX5_init rfl rfl rfl
theorem dX5_init_45 : decode cX5_init 45 = .ok (.return_, 1) := dqn_177 (k := 0) qh_cX5_init rfl rfl
theorem dX6_init_0 : decode cX6_init 0 = .ok (.aload_n 0, 1) := dqn_42 (k := 36) qh_cX6_init rfl rfl
theorem dX6_init_1 : decode cX6_init 1 = .ok (.invokespecial 1, 3) := dqn_183 (k := 33) qh_cX6_init rfl rfl rfl
theorem dX6_init_4 : decode cX6_init 4 = .ok (.aload_n 0, 1) := dqn_42 (k := 32) qh_cX6_init rfl rfl
theorem dX6_init_5 : decode cX6_init 5 = .ok (.iconst 0, 1) := dqn_3 (k := 31) qh_cX6_init rfl rfl
theorem dX6_init_6 : decode cX6_init 6 = .ok (.newarray .byte, 2) := by decide +kernel
theorem dX6_init_8 : decode cX6_init 8 = .ok (.putfield 7, 3) := dqn_181 (k := 26) qh_cX6_init rfl rfl rfl
theorem dX6_init_11 : decode cX6_init 11 = .ok (.aload_n 0, 1) := dqn_42 (k := 25) qh_cX6_init rfl rfl
theorem dX6_init_12 : decode cX6_init 12 = .ok (.iconst 0, 1) := dqn_3 (k := 24) qh_cX6_init rfl rfl
theorem dX6_init_13 : decode cX6_init 13 = .ok (.putfield 13, 3) := dqn_181 (k := 21) qh_cX6_init rfl rfl rfl
theorem dX6_init_16 : decode cX6_init 16 = .ok (.aload_n 0, 1) := dqn_42 (k := 20) qh_cX6_init rfl rfl
theorem dX6_init_17 : decode cX6_init 17 = .ok (.iconst 0, 1) := dqn_3 (k := 19) qh_cX6_init rfl rfl
theorem dX6_init_18 : decode cX6_init 18 = .ok (.putfield 17, 3) := dqn_181 (k := 16) qh_cX6_init rfl rfl rfl
theorem dX6_init_21 : decode cX6_init 21 = .ok (.aload_n 0, 1) := dqn_42 (k := 15) qh_cX6_init rfl rfl
theorem dX6_init_22 : decode cX6_init 22 = .ok (.iconst 0, 1) := dqn_3 (k := 14) qh_cX6_init rfl rfl
theorem dX6_init_23 : decode cX6_init 23 = .ok (.putfield 20, 3) := dqn_181 (k := 11) qh_cX6_init rfl rfl rfl
theorem dX6_init_26 : decode cX6_init 26 = .ok (.aload_n 0, 1) := dqn_42 (k := 10) qh_cX6_init rfl rfl
theorem dX6_init_27 : decode cX6_init 27 = .ok (.iconst 0, 1) := dqn_3 (k := 9) qh_cX6_init rfl rfl
theorem dX6_init_28 : decode cX6_init 28 = .ok (.putfield 23, 3) := dqn_181 (k := 6) qh_cX6_init rfl rfl rfl
theorem dX6_init_31 : decode cX6_init 31 = .ok (.aload_n 0, 1) := dqn_42 (k := 5) qh_cX6_init rfl rfl
theorem dX6_init_32 : decode cX6_init 32 = .ok (.iconst 0, 1) := dqn_3 (k := 4) qh_cX6_init rfl rfl
theorem dX6_init_33 : decode cX6_init 33 = .ok (.putfield 26, 3) := dqn_181 (k := 1) qh_cX6_init rfl rfl rfl
theorem dX6_init_36 : decode cX6_init 36 = .ok (.return_, 1) := dqn_177 (k := 0) qh_cX6_init rfl rfl
theorem dX7_init_0 : decode cX7_init 0 = .ok (.aload_n 0, 1) := dqn_42 (k := 106) qh_cX7_init rfl rfl
theorem dX7_init_1 : decode cX7_init 1 = .ok (.invokespecial 3, 3) := dqn_183 (k := 103) qh_cX7_init rfl rfl rfl
theorem dX7_init_4 : decode cX7_init 4 = .ok (.aload_n 0, 1) := dqn_42 (k := 102) qh_cX7_init rfl rfl
theorem dX7_init_5 : decode cX7_init 5 = .ok (.sipush 600, 3) := dqn_17 (k := 99) (u := 600) qh_cX7_init rfl rfl rfl (sg_p rfl rfl)
theorem dX7_init_8 : decode cX7_init 8 = .ok (.newarray .byte, 2) := by decide +kernel
theorem dX7_init_10 : decode cX7_init 10 = .ok (.putfield 9, 3) := dqn_181 (k := 94) qh_cX7_init rfl rfl rfl
theorem dX7_init_13 : decode cX7_init 13 = .ok (.aload_n 0, 1) := dqn_42 (k := 93) qh_cX7_init rfl rfl
theorem dX7_init_14 : decode cX7_init 14 = .ok (.iconst 0, 1) := dqn_3 (k := 92) qh_cX7_init rfl rfl
theorem dX7_init_15 : decode cX7_init 15 = .ok (.putfield 15, 3) := dqn_181 (k := 89) qh_cX7_init rfl rfl rfl
theorem dX7_init_18 : decode cX7_init 18 = .ok (.aload_n 0, 1) := dqn_42 (k := 88) qh_cX7_init rfl rfl
theorem dX7_init_19 : decode cX7_init 19 = .ok (.iconst 0, 1) := dqn_3 (k := 87) qh_cX7_init rfl rfl
theorem dX7_init_20 : decode cX7_init 20 = .ok (.putfield 19, 3) := dqn_181 (k := 84) qh_cX7_init rfl rfl rfl
theorem dX7_init_23 : decode cX7_init 23 = .ok (.aload_n 0, 1) := dqn_42 (k := 83) qh_cX7_init rfl rfl
theorem dX7_init_24 : decode cX7_init 24 = .ok (.iconst (-1), 1) := dqn_2 (k := 82) qh_cX7_init rfl rfl
theorem dX7_init_25 : decode cX7_init 25 = .ok (.putfield 22, 3) := dqn_181 (k := 79) qh_cX7_init rfl rfl rfl
theorem dX7_init_28 : decode cX7_init 28 = .ok (.aload_n 0, 1) := dqn_42 (k := 78) qh_cX7_init rfl rfl
theorem dX7_init_29 : decode cX7_init 29 = .ok (.iconst 2, 1) := dqn_5 (k := 77) qh_cX7_init rfl rfl
theorem dX7_init_30 : decode cX7_init 30 = .ok (.anewarray 25, 3) := by decide +kernel
theorem dX7_init_33 : decode cX7_init 33 = .ok (.putfield 27, 3) := dqn_181 (k := 71) qh_cX7_init rfl rfl rfl
theorem dX7_init_36 : decode cX7_init 36 = .ok (.aload_n 0, 1) := dqn_42 (k := 70) qh_cX7_init rfl rfl
theorem dX7_init_37 : decode cX7_init 37 = .ok (.iconst 0, 1) := dqn_3 (k := 69) qh_cX7_init rfl rfl
theorem dX7_init_38 : decode cX7_init 38 = .ok (.putfield 31, 3) := dqn_181 (k := 66) qh_cX7_init rfl rfl rfl
theorem dX7_init_41 : decode cX7_init 41 = .ok (.aload_n 0, 1) := dqn_42 (k := 65) qh_cX7_init rfl rfl
theorem dX7_init_42 : decode cX7_init 42 = .ok (.iconst 3, 1) := dqn_6 (k := 64) qh_cX7_init rfl rfl
theorem dX7_init_43 : decode cX7_init 43 = .ok (.anewarray 34, 3) := by decide +kernel
theorem dX7_init_46 : decode cX7_init 46 = .ok (.putfield 36, 3) := dqn_181 (k := 58) qh_cX7_init rfl rfl rfl
theorem dX7_init_49 : decode cX7_init 49 = .ok (.aload_n 0, 1) := dqn_42 (k := 57) qh_cX7_init rfl rfl
theorem dX7_init_50 : decode cX7_init 50 = .ok (.iconst 0, 1) := dqn_3 (k := 56) qh_cX7_init rfl rfl
theorem dX7_init_51 : decode cX7_init 51 = .ok (.putfield 40, 3) := dqn_181 (k := 53) qh_cX7_init rfl rfl rfl
theorem dX7_init_54 : decode cX7_init 54 = .ok (.iconst 0, 1) := dqn_3 (k := 52) qh_cX7_init rfl rfl
theorem dX7_init_55 : decode cX7_init 55 = .ok (.istore_n 1, 1) := dqn_60 (k := 51) qh_cX7_init rfl rfl
theorem dX7_init_56 : decode cX7_init 56 = .ok (.iload_n 1, 1) := dqn_27 (k := 50) qh_cX7_init rfl rfl
theorem dX7_init_57 : decode cX7_init 57 = .ok (.iconst 2, 1) := dqn_5 (k := 49) qh_cX7_init rfl rfl
theorem dX7_init_58 : decode cX7_init 58 = .ok (.if_icmp .ge 22, 3) := dqn_162 (k := 46) (u := 22) qh_cX7_init rfl rfl rfl (sg_p rfl rfl)
theorem dX7_init_61 : decode cX7_init 61 = .ok (.aload_n 0, 1) := dqn_42 (k := 45) qh_cX7_init rfl rfl
theorem dX7_init_62 : decode cX7_init 62 = .ok (.getfield 27, 3) := dqn_180 (k := 42) qh_cX7_init rfl rfl rfl
theorem dX7_init_65 : decode cX7_init 65 = .ok (.iload_n 1, 1) := dqn_27 (k := 41) qh_cX7_init rfl rfl
theorem dX7_init_66 : decode cX7_init 66 = .ok (.new 25, 3) := dqn_187 (k := 38) qh_cX7_init rfl rfl rfl
theorem dX7_init_69 : decode cX7_init 69 = .ok (.dup, 1) := dqn_89 (k := 37) qh_cX7_init rfl rfl
theorem dX7_init_70 : decode cX7_init 70 = .ok (.invokespecial 43, 3) := dqn_183 (k := 34) qh_cX7_init rfl rfl rfl
theorem dX7_init_73 : decode cX7_init 73 = .ok (.aastore, 1) := by decide +kernel
theorem dX7_init_74 : decode cX7_init 74 = .ok (.iinc 1 1, 3) := dqn_132 (k := 30) (u := 1) qh_cX7_init rfl rfl rfl rfl (by decide)
theorem dX7_init_77 : decode cX7_init 77 = .ok (.goto (-21), 3) := dqn_167 (k := 27) (u := 65515) qh_cX7_init rfl rfl rfl (sg_n (k := 21) rfl rfl rfl)
theorem dX7_init_80 : decode cX7_init 80 = .ok (.iconst 0, 1) := dqn_3 (k := 26) qh_cX7_init rfl rfl
theorem dX7_init_81 : decode cX7_init 81 = .ok (.istore_n 1, 1) := dqn_60 (k := 25) qh_cX7_init rfl rfl
theorem dX7_init_82 : decode cX7_init 82 = .ok (.iload_n 1, 1) := dqn_27 (k := 24) qh_cX7_init rfl rfl
theorem dX7_init_83 : decode cX7_init 83 = .ok (.iconst 3, 1) := dqn_6 (k := 23) qh_cX7_init rfl rfl
theorem dX7_init_84 : decode cX7_init 84 = .ok (.if_icmp .ge 22, 3) := dqn_162 (k := 20) (u := 22) qh_cX7_init rfl rfl rfl (sg_p rfl rfl)
theorem dX7_init_87 : decode cX7_init 87 = .ok (.aload_n 0, 1) := dqn_42 (k := 19) qh_cX7_init rfl rfl
theorem dX7_init_88 : decode cX7_init 88 = .ok (.getfield 36, 3) := dqn_180 (k := 16) qh_cX7_init rfl rfl rfl
theorem dX7_init_91 : decode cX7_init 91 = .ok (.iload_n 1, 1) := dqn_27 (k := 15) qh_cX7_init rfl rfl
theorem dX7_init_92 : decode cX7_init 92 = .ok (.new 34, 3) := dqn_187 (k := 12) qh_cX7_init rfl rfl rfl
theorem dX7_init_95 : decode cX7_init 95 = .ok (.dup, 1) := dqn_89 (k := 11) qh_cX7_init rfl rfl
theorem dX7_init_96 : decode cX7_init 96 = .ok (.invokespecial 44, 3) := dqn_183 (k := 8) qh_cX7_init rfl rfl rfl
theorem dX7_init_99 : decode cX7_init 99 = .ok (.aastore, 1) := by decide +kernel
theorem dX7_init_100 : decode cX7_init 100 = .ok (.iinc 1 1, 3) := dqn_132 (k := 4) (u := 1) qh_cX7_init rfl rfl rfl rfl (by decide)
theorem dX7_init_103 : decode cX7_init 103 = .ok (.goto (-21), 3) := dqn_167 (k := 1) (u := 65515) qh_cX7_init rfl rfl rfl (sg_n (k := 21) rfl rfl rfl)
theorem dX7_init_106 : decode cX7_init 106 = .ok (.return_, 1) := dqn_177 (k := 0) qh_cX7_init rfl rfl
theorem dX3_init_0 : decode cX3_init 0 = .ok (.aload_n 0, 1) := dqn_42 (k := 61) qh_cX3_init rfl rfl
theorem dX3_init_1 : decode cX3_init 1 = .ok (.invokespecial 3, 3) := dqn_183 (k := 58) qh_cX3_init rfl rfl rfl
theorem dX3_init_4 : decode cX3_init 4 = .ok (.aload_n 0, 1) := dqn_42 (k := 57) qh_cX3_init rfl rfl
theorem dX3_init_5 : decode cX3_init 5 = .ok (.new 9, 3) := dqn_187 (k := 54) qh_cX3_init rfl rfl rfl
theorem dX3_init_8 : decode cX3_init 8 = .ok (.dup, 1) := dqn_89 (k := 53) qh_cX3_init rfl rfl
theorem dX3_init_9 : decode cX3_init 9 = .ok (.invokespecial 11, 3) := dqn_183 (k := 50) qh_cX3_init rfl rfl rfl
theorem dX3_init_12 : decode cX3_init 12 = .ok (.putfield 12, 3) := dqn_181 (k := 47) qh_cX3_init rfl rfl rfl
theorem dX3_init_15 : decode cX3_init 15 = .ok (.aload_n 0, 1) := dqn_42 (k := 46) qh_cX3_init rfl rfl
theorem dX3_init_16 : decode cX3_init 16 = .ok (.new 18, 3) := dqn_187 (k := 43) qh_cX3_init rfl rfl rfl
theorem dX3_init_19 : decode cX3_init 19 = .ok (.dup, 1) := dqn_89 (k := 42) qh_cX3_init rfl rfl
theorem dX3_init_20 : decode cX3_init 20 = .ok (.invokespecial 20, 3) := dqn_183 (k := 39) qh_cX3_init rfl rfl rfl
theorem dX3_init_23 : decode cX3_init 23 = .ok (.putfield 21, 3) := dqn_181 (k := 36) qh_cX3_init rfl rfl rfl
theorem dX3_init_26 : decode cX3_init 26 = .ok (.aload_n 0, 1) := dqn_42 (k := 35) qh_cX3_init rfl rfl
theorem dX3_init_27 : decode cX3_init 27 = .ok (.new 25, 3) := dqn_187 (k := 32) qh_cX3_init rfl rfl rfl
theorem dX3_init_30 : decode cX3_init 30 = .ok (.dup, 1) := dqn_89 (k := 31) qh_cX3_init rfl rfl
theorem dX3_init_31 : decode cX3_init 31 = .ok (.invokespecial 27, 3) := dqn_183 (k := 28) qh_cX3_init rfl rfl rfl
theorem dX3_init_34 : decode cX3_init 34 = .ok (.putfield 28, 3) := dqn_181 (k := 25) qh_cX3_init rfl rfl rfl
theorem dX3_init_37 : decode cX3_init 37 = .ok (.aload_n 0, 1) := dqn_42 (k := 24) qh_cX3_init rfl rfl
theorem dX3_init_38 : decode cX3_init 38 = .ok (.iconst 3, 1) := dqn_6 (k := 23) qh_cX3_init rfl rfl
theorem dX3_init_39 : decode cX3_init 39 = .ok (.newarray .int, 2) := by decide +kernel
theorem dX3_init_41 : decode cX3_init 41 = .ok (.putfield 32, 3) := dqn_181 (k := 18) qh_cX3_init rfl rfl rfl
theorem dX3_init_44 : decode cX3_init 44 = .ok (.aload_n 0, 1) := dqn_42 (k := 17) qh_cX3_init rfl rfl
theorem dX3_init_45 : decode cX3_init 45 = .ok (.iconst 3, 1) := dqn_6 (k := 16) qh_cX3_init rfl rfl
theorem dX3_init_46 : decode cX3_init 46 = .ok (.newarray .int, 2) := by decide +kernel
theorem dX3_init_48 : decode cX3_init 48 = .ok (.putfield 36, 3) := dqn_181 (k := 11) qh_cX3_init rfl rfl rfl
theorem dX3_init_51 : decode cX3_init 51 = .ok (.aload_n 0, 1) := dqn_42 (k := 10) qh_cX3_init rfl rfl
theorem dX3_init_52 : decode cX3_init 52 = .ok (.iconst 0, 1) := dqn_3 (k := 9) qh_cX3_init rfl rfl
theorem dX3_init_53 : decode cX3_init 53 = .ok (.putfield 39, 3) := dqn_181 (k := 6) qh_cX3_init rfl rfl rfl
theorem dX3_init_56 : decode cX3_init 56 = .ok (.aload_n 0, 1) := dqn_42 (k := 5) qh_cX3_init rfl rfl
theorem dX3_init_57 : decode cX3_init 57 = .ok (.iconst (-1), 1) := dqn_2 (k := 4) qh_cX3_init rfl rfl
theorem dX3_init_58 : decode cX3_init 58 = .ok (.putfield 43, 3) := dqn_181 (k := 1) qh_cX3_init rfl rfl rfl
theorem dX3_init_61 : decode cX3_init 61 = .ok (.return_, 1) := dqn_177 (k := 0) qh_cX3_init rfl rfl
theorem dX4_init_0 : decode cX4_init 0 = .ok (.aload_n 0, 1) := dqn_42 (k := 30) qh_cX4_init rfl rfl
theorem dX4_init_1 : decode cX4_init 1 = .ok (.invokespecial 3, 3) := dqn_183 (k := 27) qh_cX4_init rfl rfl rfl
theorem dX4_init_4 : decode cX4_init 4 = .ok (.aload_n 0, 1) := dqn_42 (k := 26) qh_cX4_init rfl rfl
theorem dX4_init_5 : decode cX4_init 5 = .ok (.new 9, 3) := dqn_187 (k := 23) qh_cX4_init rfl rfl rfl
theorem dX4_init_8 : decode cX4_init 8 = .ok (.dup, 1) := dqn_89 (k := 22) qh_cX4_init rfl rfl
theorem dX4_init_9 : decode cX4_init 9 = .ok (.invokespecial 11, 3) := dqn_183 (k := 19) qh_cX4_init rfl rfl rfl
theorem dX4_init_12 : decode cX4_init 12 = .ok (.putfield 12, 3) := dqn_181 (k := 16) qh_cX4_init rfl rfl rfl
theorem dX4_init_15 : decode cX4_init 15 = .ok (.aload_n 0, 1) := dqn_42 (k := 15) qh_cX4_init rfl rfl
theorem dX4_init_16 : decode cX4_init 16 = .ok (.iconst 0, 1) := dqn_3 (k := 14) qh_cX4_init rfl rfl
theorem dX4_init_17 : decode cX4_init 17 = .ok (.putfield 18, 3) := dqn_181 (k := 11) qh_cX4_init rfl rfl rfl
theorem dX4_init_20 : decode cX4_init 20 = .ok (.aload_n 0, 1) := dqn_42 (k := 10) qh_cX4_init rfl rfl
theorem dX4_init_21 : decode cX4_init 21 = .ok (.iconst 0, 1) := dqn_3 (k := 9) qh_cX4_init rfl rfl
theorem dX4_init_22 : decode cX4_init 22 = .ok (.putfield 22, 3) := dqn_181 (k := 6) qh_cX4_init rfl rfl rfl
theorem dX4_init_25 : decode cX4_init 25 = .ok (.aload_n 0, 1) := dqn_42 (k := 5) qh_cX4_init rfl rfl
theorem dX4_init_26 : decode cX4_init 26 = .ok (.iconst 0, 1) := dqn_3 (k := 4) qh_cX4_init rfl rfl
theorem dX4_init_27 : decode cX4_init 27 = .ok (.putfield 25, 3) := dqn_181 (k := 1) qh_cX4_init rfl rfl rfl
theorem dX4_init_30 : decode cX4_init 30 = .ok (.return_, 1) := dqn_177 (k := 0) qh_cX4_init rfl rfl
theorem dX2_init_0 : decode cX2_init 0 = .ok (.aload_n 0, 1) := dqn_42 (k := 62) qh_cX2_init rfl rfl
theorem dX2_init_1 : decode cX2_init 1 = .ok (.invokespecial 3, 3) := dqn_183 (k := 59) qh_cX2_init rfl rfl rfl
theorem dX2_init_4 : decode cX2_init 4 = .ok (.aload_n 0, 1) := dqn_42 (k := 58) qh_cX2_init rfl rfl
theorem dX2_init_5 : decode cX2_init 5 = .ok (.new 9, 3) := dqn_187 (k := 55) qh_cX2_init rfl rfl rfl
theorem dX2_init_8 : decode cX2_init 8 = .ok (.dup, 1) := dqn_89 (k := 54) qh_cX2_init rfl rfl
theorem dX2_init_9 : decode cX2_init 9 = .ok (.invokespecial 11, 3) := dqn_183 (k := 51) qh_cX2_init rfl rfl rfl
theorem dX2_init_12 : decode cX2_init 12 = .ok (.putfield 12, 3) := dqn_181 (k := 48) qh_cX2_init rfl rfl rfl
theorem dX2_init_15 : decode cX2_init 15 = .ok (.aload_n 0, 1) := dqn_42 (k := 47) qh_cX2_init rfl rfl
theorem dX2_init_16 : decode cX2_init 16 = .ok (.new 18, 3) := dqn_187 (k := 44) qh_cX2_init rfl rfl rfl
theorem dX2_init_19 : decode cX2_init 19 = .ok (.dup, 1) := dqn_89 (k := 43) qh_cX2_init rfl rfl
theorem dX2_init_20 : decode cX2_init 20 = .ok (.invokespecial 20, 3) := dqn_183 (k := 40) qh_cX2_init rfl rfl rfl
theorem dX2_init_23 : decode cX2_init 23 = .ok (.putfield 21, 3) := dqn_181 (k := 37) qh_cX2_init rfl rfl rfl
theorem dX2_init_26 : decode cX2_init 26 = .ok (.aload_n 0, 1) := dqn_42 (k := 36) qh_cX2_init rfl rfl
theorem dX2_init_27 : decode cX2_init 27 = .ok (.sipush 2048, 3) := dqn_17 (k := 33) (u := 2048) qh_cX2_init rfl rfl rfl (sg_p rfl rfl)
theorem dX2_init_30 : decode cX2_init 30 = .ok (.newarray .int, 2) := by decide +kernel
theorem dX2_init_32 : decode cX2_init 32 = .ok (.putfield 25, 3) := dqn_181 (k := 28) qh_cX2_init rfl rfl rfl
theorem dX2_init_35 : decode cX2_init 35 = .ok (.aload_n 0, 1) := dqn_42 (k := 27) qh_cX2_init rfl rfl
theorem dX2_init_36 : decode cX2_init 36 = .ok (.sipush 512, 3) := dqn_17 (k := 24) (u := 512) qh_cX2_init rfl rfl rfl (sg_p rfl rfl)
theorem dX2_init_39 : decode cX2_init 39 = .ok (.newarray .int, 2) := by decide +kernel
theorem dX2_init_41 : decode cX2_init 41 = .ok (.putfield 29, 3) := dqn_181 (k := 19) qh_cX2_init rfl rfl rfl
theorem dX2_init_44 : decode cX2_init 44 = .ok (.aload_n 0, 1) := dqn_42 (k := 18) qh_cX2_init rfl rfl
theorem dX2_init_45 : decode cX2_init 45 = .ok (.sipush 512, 3) := dqn_17 (k := 15) (u := 512) qh_cX2_init rfl rfl rfl (sg_p rfl rfl)
theorem dX2_init_48 : decode cX2_init 48 = .ok (.newarray .long, 2) := by decide +kernel
theorem dX2_init_50 : decode cX2_init 50 = .ok (.putfield 32, 3) := dqn_181 (k := 10) qh_cX2_init rfl rfl rfl
theorem dX2_init_53 : decode cX2_init 53 = .ok (.aload_n 0, 1) := dqn_42 (k := 9) qh_cX2_init rfl rfl
theorem dX2_init_54 : decode cX2_init 54 = .ok (.sipush 512, 3) := dqn_17 (k := 6) (u := 512) qh_cX2_init rfl rfl rfl (sg_p rfl rfl)
theorem dX2_init_57 : decode cX2_init 57 = .ok (.newarray .long, 2) := by decide +kernel
theorem dX2_init_59 : decode cX2_init 59 = .ok (.putfield 36, 3) := dqn_181 (k := 1) qh_cX2_init rfl rfl rfl
theorem dX2_init_62 : decode cX2_init 62 = .ok (.return_, 1) := dqn_177 (k := 0) qh_cX2_init rfl rfl
theorem dX0_init_0 : decode cX0_init 0 = .ok (.aload_n 0, 1) := dqn_42 (k := 75) qh_cX0_init rfl rfl
theorem dX0_init_1 : decode cX0_init 1 = .ok (.invokespecial 3, 3) := dqn_183 (k := 72) qh_cX0_init rfl rfl rfl
theorem dX0_init_4 : decode cX0_init 4 = .ok (.aload_n 0, 1) := dqn_42 (k := 71) qh_cX0_init rfl rfl
theorem dX0_init_5 : decode cX0_init 5 = .ok (.new 9, 3) := dqn_187 (k := 68) qh_cX0_init rfl rfl rfl
theorem dX0_init_8 : decode cX0_init 8 = .ok (.dup, 1) := dqn_89 (k := 67) qh_cX0_init rfl rfl
theorem dX0_init_9 : decode cX0_init 9 = .ok (.invokespecial 11, 3) := dqn_183 (k := 64) qh_cX0_init rfl rfl rfl
theorem dX0_init_12 : decode cX0_init 12 = .ok (.putfield 12, 3) := dqn_181 (k := 61) qh_cX0_init rfl rfl rfl
theorem dX0_init_15 : decode cX0_init 15 = .ok (.aload_n 0, 1) := dqn_42 (k := 60) qh_cX0_init rfl rfl
theorem dX0_init_16 : decode cX0_init 16 = .ok (.new 18, 3) := dqn_187 (k := 57) qh_cX0_init rfl rfl rfl
theorem dX0_init_19 : decode cX0_init 19 = .ok (.dup, 1) := dqn_89 (k := 56) qh_cX0_init rfl rfl
theorem dX0_init_20 : decode cX0_init 20 = .ok (.invokespecial 20, 3) := dqn_183 (k := 53) qh_cX0_init rfl rfl rfl
theorem dX0_init_23 : decode cX0_init 23 = .ok (.putfield 21, 3) := dqn_181 (k := 50) qh_cX0_init rfl rfl rfl
theorem dX0_init_26 : decode cX0_init 26 = .ok (.aload_n 0, 1) := dqn_42 (k := 49) qh_cX0_init rfl rfl
theorem dX0_init_27 : decode cX0_init 27 = .ok (.iconst (-1), 1) := dqn_2 (k := 48) qh_cX0_init rfl rfl
theorem dX0_init_28 : decode cX0_init 28 = .ok (.putfield 25, 3) := dqn_181 (k := 45) qh_cX0_init rfl rfl rfl
theorem dX0_init_31 : decode cX0_init 31 = .ok (.aload_n 0, 1) := dqn_42 (k := 44) qh_cX0_init rfl rfl
theorem dX0_init_32 : decode cX0_init 32 = .ok (.iconst (-1), 1) := dqn_2 (k := 43) qh_cX0_init rfl rfl
theorem dX0_init_33 : decode cX0_init 33 = .ok (.putfield 29, 3) := dqn_181 (k := 40) qh_cX0_init rfl rfl rfl
theorem dX0_init_36 : decode cX0_init 36 = .ok (.aload_n 0, 1) := dqn_42 (k := 39) qh_cX0_init rfl rfl
theorem dX0_init_37 : decode cX0_init 37 = .ok (.lconst 0, 1) := dqn_9 (k := 38) qh_cX0_init rfl rfl
theorem dX0_init_38 : decode cX0_init 38 = .ok (.putfield 32, 3) := dqn_181 (k := 35) qh_cX0_init rfl rfl rfl
theorem dX0_init_41 : decode cX0_init 41 = .ok (.aload_n 0, 1) := dqn_42 (k := 34) qh_cX0_init rfl rfl
theorem dX0_init_42 : decode cX0_init 42 = .ok (.iconst 0, 1) := dqn_3 (k := 33) qh_cX0_init rfl rfl
theorem dX0_init_43 : decode cX0_init 43 = .ok (.putfield 36, 3) := dqn_181 (k := 30) qh_cX0_init rfl rfl rfl
theorem dX0_init_46 : decode cX0_init 46 = .ok (.aload_n 0, 1) := dqn_42 (k := 29) qh_cX0_init rfl rfl
theorem dX0_init_47 : decode cX0_init 47 = .ok (.iconst 4, 1) := dqn_7 (k := 28) qh_cX0_init rfl rfl
theorem dX0_init_48 : decode cX0_init 48 = .ok (.newarray .int, 2) := by decide +kernel
theorem dX0_init_50 : decode cX0_init 50 = .ok (.putfield 39, 3) := dqn_181 (k := 23) qh_cX0_init rfl rfl rfl
theorem dX0_init_53 : decode cX0_init 53 = .ok (.aload_n 0, 1) := dqn_42 (k := 22) qh_cX0_init rfl rfl
theorem dX0_init_54 : decode cX0_init 54 = .ok (.iconst 4, 1) := dqn_7 (k := 21) qh_cX0_init rfl rfl
theorem dX0_init_55 : decode cX0_init 55 = .ok (.newarray .int, 2) := by decide +kernel
theorem dX0_init_57 : decode cX0_init 57 = .ok (.putfield 43, 3) := dqn_181 (k := 16) qh_cX0_init rfl rfl rfl
theorem dX0_init_60 : decode cX0_init 60 = .ok (.aload_n 0, 1) := dqn_42 (k := 15) qh_cX0_init rfl rfl
theorem dX0_init_61 : decode cX0_init 61 = .ok (.iconst 4, 1) := dqn_7 (k := 14) qh_cX0_init rfl rfl
theorem dX0_init_62 : decode cX0_init 62 = .ok (.newarray .int, 2) := by decide +kernel
theorem dX0_init_64 : decode cX0_init 64 = .ok (.putfield 46, 3) := dqn_181 (k := 9) qh_cX0_init rfl rfl rfl
theorem dX0_init_67 : decode cX0_init 67 = .ok (.aload_n 0, 1) := dqn_42 (k := 8) qh_cX0_init rfl rfl
theorem dX0_init_68 : decode cX0_init 68 = .ok (.bipush 16, 2) := dqn_16 (k := 6) (u := 16) qh_cX0_init rfl rfl rfl (by decide)
theorem dX0_init_70 : decode cX0_init 70 = .ok (.newarray .long, 2) := by decide +kernel
theorem dX0_init_72 : decode cX0_init 72 = .ok (.putfield 49, 3) := dqn_181 (k := 1) qh_cX0_init rfl rfl rfl
theorem dX0_init_75 : decode cX0_init 75 = .ok (.return_, 1) := dqn_177 (k := 0) qh_cX0_init rfl rfl
theorem dX10_init_0 : decode cX10_init 0 = .ok (.aload_n 0, 1) := dqn_42 (k := 133) qh_cX10_init rfl rfl
theorem dX10_init_1 : decode cX10_init 1 = .ok (.invokespecial 1, 3) := dqn_183 (k := 130) qh_cX10_init rfl rfl rfl
theorem dX10_init_4 : decode cX10_init 4 = .ok (.aload_n 0, 1) := dqn_42 (k := 129) qh_cX10_init rfl rfl
theorem dX10_init_5 : decode cX10_init 5 = .ok (.new 7, 3) := dqn_187 (k := 126) qh_cX10_init rfl rfl rfl
theorem dX10_init_8 : decode cX10_init 8 = .ok (.dup, 1) := dqn_89 (k := 125) qh_cX10_init rfl rfl
theorem dX10_init_9 : decode cX10_init 9 = .ok (.invokespecial 9, 3) := dqn_183 (k := 122) qh_cX10_init rfl rfl rfl
theorem dX10_init_12 : decode cX10_init 12 = .ok (.putfield 10, 3) := dqn_181 (k := 119) qh_cX10_init rfl rfl rfl
theorem dX10_init_15 : decode cX10_init 15 = .ok (.aload_n 0, 1) := dqn_42 (k := 118) qh_cX10_init rfl rfl
theorem dX10_init_16 : decode cX10_init 16 = .ok (.iconst 3, 1) := dqn_6 (k := 117) qh_cX10_init rfl rfl
theorem dX10_init_17 : decode cX10_init 17 = .ok (.anewarray 7, 3) := by decide +kernel
theorem dX10_init_20 : decode cX10_init 20 = .ok (.putfield 16, 3) := dqn_181 (k := 111) qh_cX10_init rfl rfl rfl
theorem dX10_init_23 : decode cX10_init 23 = .ok (.aload_n 0, 1) := dqn_42 (k := 110) qh_cX10_init rfl rfl
theorem dX10_init_24 : decode cX10_init 24 = .ok (.iconst 3, 1) := dqn_6 (k := 109) qh_cX10_init rfl rfl
theorem dX10_init_25 : decode cX10_init 25 = .ok (.newarray .boolean, 2) := by decide +kernel
theorem dX10_init_27 : decode cX10_init 27 = .ok (.putfield 20, 3) := dqn_181 (k := 104) qh_cX10_init rfl rfl rfl
theorem dX10_init_30 : decode cX10_init 30 = .ok (.aload_n 0, 1) := dqn_42 (k := 103) qh_cX10_init rfl rfl
theorem dX10_init_31 : decode cX10_init 31 = .ok (.new 24, 3) := dqn_187 (k := 100) qh_cX10_init rfl rfl rfl
theorem dX10_init_34 : decode cX10_init 34 = .ok (.dup, 1) := dqn_89 (k := 99) qh_cX10_init rfl rfl
theorem dX10_init_35 : decode cX10_init 35 = .ok (.invokespecial 26, 3) := dqn_183 (k := 96) qh_cX10_init rfl rfl rfl
theorem dX10_init_38 : decode cX10_init 38 = .ok (.putfield 27, 3) := dqn_181 (k := 93) qh_cX10_init rfl rfl rfl
theorem dX10_init_41 : decode cX10_init 41 = .ok (.aload_n 0, 1) := dqn_42 (k := 92) qh_cX10_init rfl rfl
theorem dX10_init_42 : decode cX10_init 42 = .ok (.new 31, 3) := dqn_187 (k := 89) qh_cX10_init rfl rfl rfl
theorem dX10_init_45 : decode cX10_init 45 = .ok (.dup, 1) := dqn_89 (k := 88) qh_cX10_init rfl rfl
theorem dX10_init_46 : decode cX10_init 46 = .ok (.invokespecial 33, 3) := dqn_183 (k := 85) qh_cX10_init rfl rfl rfl
theorem dX10_init_49 : decode cX10_init 49 = .ok (.putfield 34, 3) := dqn_181 (k := 82) qh_cX10_init rfl rfl rfl
theorem dX10_init_52 : decode cX10_init 52 = .ok (.aload_n 0, 1) := dqn_42 (k := 81) qh_cX10_init rfl rfl
theorem dX10_init_53 : decode cX10_init 53 = .ok (.new 38, 3) := dqn_187 (k := 78) qh_cX10_init rfl rfl rfl
theorem dX10_init_56 : decode cX10_init 56 = .ok (.dup, 1) := dqn_89 (k := 77) qh_cX10_init rfl rfl
theorem dX10_init_57 : decode cX10_init 57 = .ok (.invokespecial 40, 3) := dqn_183 (k := 74) qh_cX10_init rfl rfl rfl
theorem dX10_init_60 : decode cX10_init 60 = .ok (.putfield 41, 3) := dqn_181 (k := 71) qh_cX10_init rfl rfl rfl
theorem dX10_init_63 : decode cX10_init 63 = .ok (.aload_n 0, 1) := dqn_42 (k := 70) qh_cX10_init rfl rfl
theorem dX10_init_64 : decode cX10_init 64 = .ok (.new 45, 3) := dqn_187 (k := 67) qh_cX10_init rfl rfl rfl
theorem dX10_init_67 : decode cX10_init 67 = .ok (.dup, 1) := dqn_89 (k := 66) qh_cX10_init rfl rfl
theorem dX10_init_68 : decode cX10_init 68 = .ok (.invokespecial 47, 3) := dqn_183 (k := 63) qh_cX10_init rfl rfl rfl
theorem dX10_init_71 : decode cX10_init 71 = .ok (.putfield 48, 3) := dqn_181 (k := 60) qh_cX10_init rfl rfl rfl
theorem dX10_init_74 : decode cX10_init 74 = .ok (.aload_n 0, 1) := dqn_42 (k := 59) qh_cX10_init rfl rfl
theorem dX10_init_75 : decode cX10_init 75 = .ok (.new 52, 3) := dqn_187 (k := 56) qh_cX10_init rfl rfl rfl
theorem dX10_init_78 : decode cX10_init 78 = .ok (.dup, 1) := dqn_89 (k := 55) qh_cX10_init rfl rfl
theorem dX10_init_79 : decode cX10_init 79 = .ok (.invokespecial 54, 3) := dqn_183 (k := 52) qh_cX10_init rfl rfl rfl
theorem dX10_init_82 : decode cX10_init 82 = .ok (.putfield 55, 3) := dqn_181 (k := 49) qh_cX10_init rfl rfl rfl
theorem dX10_init_85 : decode cX10_init 85 = .ok (.aload_n 0, 1) := dqn_42 (k := 48) qh_cX10_init rfl rfl
theorem dX10_init_86 : decode cX10_init 86 = .ok (.aload_n 0, 1) := dqn_42 (k := 47) qh_cX10_init rfl rfl
theorem dX10_init_87 : decode cX10_init 87 = .ok (.getfield 55, 3) := dqn_180 (k := 44) qh_cX10_init rfl rfl rfl
theorem dX10_init_90 : decode cX10_init 90 = .ok (.getfield 59, 3) := dqn_180 (k := 41) qh_cX10_init rfl rfl rfl
theorem dX10_init_93 : decode cX10_init 93 = .ok (.putfield 63, 3) := dqn_181 (k := 38) qh_cX10_init rfl rfl rfl
theorem dX10_init_96 : decode cX10_init 96 = .ok (.aload_n 0, 1) := dqn_42 (k := 37) qh_cX10_init rfl rfl
theorem dX10_init_97 : decode cX10_init 97 = .ok (.new 64, 3) := dqn_187 (k := 34) qh_cX10_init rfl rfl rfl
theorem dX10_init_100 : decode cX10_init 100 = .ok (.dup, 1) := dqn_89 (k := 33) qh_cX10_init rfl rfl
theorem dX10_init_101 : decode cX10_init 101 = .ok (.invokespecial 66, 3) := dqn_183 (k := 30) qh_cX10_init rfl rfl rfl
theorem dX10_init_104 : decode cX10_init 104 = .ok (.putfield 67, 3) := dqn_181 (k := 27) qh_cX10_init rfl rfl rfl
theorem dX10_init_107 : decode cX10_init 107 = .ok (.iconst 0, 1) := dqn_3 (k := 26) qh_cX10_init rfl rfl
theorem dX10_init_108 : decode cX10_init 108 = .ok (.istore_n 1, 1) := dqn_60 (k := 25) qh_cX10_init rfl rfl
theorem dX10_init_109 : decode cX10_init 109 = .ok (.iload_n 1, 1) := dqn_27 (k := 24) qh_cX10_init rfl rfl
theorem dX10_init_110 : decode cX10_init 110 = .ok (.iconst 3, 1) := dqn_6 (k := 23) qh_cX10_init rfl rfl
theorem dX10_init_111 : decode cX10_init 111 = .ok (.if_icmp .ge 22, 3) := dqn_162 (k := 20) (u := 22) qh_cX10_init rfl rfl rfl (sg_p rfl rfl)
theorem dX10_init_114 : decode cX10_init 114 = .ok (.aload_n 0, 1) := dqn_42 (k := 19) qh_cX10_init rfl rfl
theorem dX10_init_115 : decode cX10_init 115 = .ok (.getfield 16, 3) := dqn_180 (k := 16) qh_cX10_init rfl rfl rfl
theorem dX10_init_118 : decode cX10_init 118 = .ok (.iload_n 1, 1) := dqn_27 (k := 15) qh_cX10_init rfl rfl
theorem dX10_init_119 : decode cX10_init 119 = .ok (.new 7, 3) := dqn_187 (k := 12) qh_cX10_init rfl rfl rfl
theorem dX10_init_122 : decode cX10_init 122 = .ok (.dup, 1) := dqn_89 (k := 11) qh_cX10_init rfl rfl
theorem dX10_init_123 : decode cX10_init 123 = .ok (.invokespecial 9, 3) := dqn_183 (k := 8) qh_cX10_init rfl rfl rfl
theorem dX10_init_126 : decode cX10_init 126 = .ok (.aastore, 1) := by decide +kernel
theorem dX10_init_127 : decode cX10_init 127 = .ok (.iinc 1 1, 3) := dqn_132 (k := 4) (u := 1) qh_cX10_init rfl rfl rfl rfl (by decide)
theorem dX10_init_130 : decode cX10_init 130 = .ok (.goto (-21), 3) := dqn_167 (k := 1) (u := 65515) qh_cX10_init rfl rfl rfl (sg_n (k := 21) rfl rfl rfl)
theorem dX10_init_133 : decode cX10_init 133 = .ok (.return_, 1) := dqn_177 (k := 0) qh_cX10_init rfl rfl
theorem dX11_init_0 : decode cX11_init 0 = .ok (.aload_n 0, 1) := dqn_42 (k := 162) qh_cX11_init rfl rfl
theorem dX11_init_1 : decode cX11_init 1 = .ok (.invokespecial 1, 3) := dqn_183 (k := 159) qh_cX11_init rfl rfl rfl
theorem dX11_init_4 : decode cX11_init 4 = .ok (.aload_n 0, 1) := dqn_42 (k := 158) qh_cX11_init rfl rfl
theorem dX11_init_5 : decode cX11_init 5 = .ok (.sipush 2400, 3) := dqn_17 (k := 155) (u := 2400) qh_cX11_init rfl rfl rfl (sg_p rfl rfl)
theorem dX11_init_8 : decode cX11_init 8 = .ok (.newarray .byte, 2) := by decide +kernel
theorem dX11_init_10 : decode cX11_init 10 = .ok (.putfield 7, 3) := dqn_181 (k := 150) qh_cX11_init rfl rfl rfl
theorem dX11_init_13 : decode cX11_init 13 = .ok (.aload_n 0, 1) := dqn_42 (k := 149) qh_cX11_init rfl rfl
theorem dX11_init_14 : decode cX11_init 14 = .ok (.iconst 4, 1) := dqn_7 (k := 148) qh_cX11_init rfl rfl
theorem dX11_init_15 : decode cX11_init 15 = .ok (.newarray .int, 2) := by decide +kernel
theorem dX11_init_17 : decode cX11_init 17 = .ok (.putfield 13, 3) := dqn_181 (k := 143) qh_cX11_init rfl rfl rfl
theorem dX11_init_20 : decode cX11_init 20 = .ok (.aload_n 0, 1) := dqn_42 (k := 142) qh_cX11_init rfl rfl
theorem dX11_init_21 : decode cX11_init 21 = .ok (.iconst 4, 1) := dqn_7 (k := 141) qh_cX11_init rfl rfl
theorem dX11_init_22 : decode cX11_init 22 = .ok (.newarray .int, 2) := by decide +kernel
theorem dX11_init_24 : decode cX11_init 24 = .ok (.putfield 17, 3) := dqn_181 (k := 136) qh_cX11_init rfl rfl rfl
theorem dX11_init_27 : decode cX11_init 27 = .ok (.aload_n 0, 1) := dqn_42 (k := 135) qh_cX11_init rfl rfl
theorem dX11_init_28 : decode cX11_init 28 = .ok (.iconst 4, 1) := dqn_7 (k := 134) qh_cX11_init rfl rfl
theorem dX11_init_29 : decode cX11_init 29 = .ok (.newarray .int, 2) := by decide +kernel
theorem dX11_init_31 : decode cX11_init 31 = .ok (.putfield 20, 3) := dqn_181 (k := 129) qh_cX11_init rfl rfl rfl
theorem dX11_init_34 : decode cX11_init 34 = .ok (.aload_n 0, 1) := dqn_42 (k := 128) qh_cX11_init rfl rfl
theorem dX11_init_35 : decode cX11_init 35 = .ok (.bipush 8, 2) := dqn_16 (k := 126) (u := 8) qh_cX11_init rfl rfl rfl (by decide)
theorem dX11_init_37 : decode cX11_init 37 = .ok (.newarray .int, 2) := by decide +kernel
theorem dX11_init_39 : decode cX11_init 39 = .ok (.putfield 23, 3) := dqn_181 (k := 121) qh_cX11_init rfl rfl rfl
theorem dX11_init_42 : decode cX11_init 42 = .ok (.aload_n 0, 1) := dqn_42 (k := 120) qh_cX11_init rfl rfl
theorem dX11_init_43 : decode cX11_init 43 = .ok (.sipush 1256, 3) := dqn_17 (k := 117) (u := 1256) qh_cX11_init rfl rfl rfl (sg_p rfl rfl)
theorem dX11_init_46 : decode cX11_init 46 = .ok (.newarray .int, 2) := by decide +kernel
theorem dX11_init_48 : decode cX11_init 48 = .ok (.putfield 26, 3) := dqn_181 (k := 112) qh_cX11_init rfl rfl rfl
theorem dX11_init_51 : decode cX11_init 51 = .ok (.aload_n 0, 1) := dqn_42 (k := 111) qh_cX11_init rfl rfl
theorem dX11_init_52 : decode cX11_init 52 = .ok (.sipush 444, 3) := dqn_17 (k := 108) (u := 444) qh_cX11_init rfl rfl rfl (sg_p rfl rfl)
theorem dX11_init_55 : decode cX11_init 55 = .ok (.newarray .int, 2) := by decide +kernel
theorem dX11_init_57 : decode cX11_init 57 = .ok (.putfield 29, 3) := dqn_181 (k := 103) qh_cX11_init rfl rfl rfl
theorem dX11_init_60 : decode cX11_init 60 = .ok (.aload_n 0, 1) := dqn_42 (k := 102) qh_cX11_init rfl rfl
theorem dX11_init_61 : decode cX11_init 61 = .ok (.sipush 157, 3) := dqn_17 (k := 99) (u := 157) qh_cX11_init rfl rfl rfl (sg_p rfl rfl)
theorem dX11_init_64 : decode cX11_init 64 = .ok (.newarray .int, 2) := by decide +kernel
theorem dX11_init_66 : decode cX11_init 66 = .ok (.putfield 32, 3) := dqn_181 (k := 94) qh_cX11_init rfl rfl rfl
theorem dX11_init_69 : decode cX11_init 69 = .ok (.aload_n 0, 1) := dqn_42 (k := 93) qh_cX11_init rfl rfl
theorem dX11_init_70 : decode cX11_init 70 = .ok (.iconst 3, 1) := dqn_6 (k := 92) qh_cX11_init rfl rfl
theorem dX11_init_71 : decode cX11_init 71 = .ok (.newarray .int, 2) := by decide +kernel
theorem dX11_init_73 : decode cX11_init 73 = .ok (.putfield 35, 3) := dqn_181 (k := 87) qh_cX11_init rfl rfl rfl
theorem dX11_init_76 : decode cX11_init 76 = .ok (.aload_n 0, 1) := dqn_42 (k := 86) qh_cX11_init rfl rfl
theorem dX11_init_77 : decode cX11_init 77 = .ok (.sipush 157, 3) := dqn_17 (k := 83) (u := 157) qh_cX11_init rfl rfl rfl (sg_p rfl rfl)
theorem dX11_init_80 : decode cX11_init 80 = .ok (.newarray .int, 2) := by decide +kernel
theorem dX11_init_82 : decode cX11_init 82 = .ok (.putfield 38, 3) := dqn_181 (k := 78) qh_cX11_init rfl rfl rfl
theorem dX11_init_85 : decode cX11_init 85 = .ok (.aload_n 0, 1) := dqn_42 (k := 77) qh_cX11_init rfl rfl
theorem dX11_init_86 : decode cX11_init 86 = .ok (.bipush 9, 2) := dqn_16 (k := 75) (u := 9) qh_cX11_init rfl rfl rfl (by decide)
theorem dX11_init_88 : decode cX11_init 88 = .ok (.newarray .int, 2) := by decide +kernel
theorem dX11_init_90 : decode cX11_init 90 = .ok (.putfield 41, 3) := dqn_181 (k := 70) qh_cX11_init rfl rfl rfl
theorem dX11_init_93 : decode cX11_init 93 = .ok (.aload_n 0, 1) := dqn_42 (k := 69) qh_cX11_init rfl rfl
theorem dX11_init_94 : decode cX11_init 94 = .ok (.bipush 9, 2) := dqn_16 (k := 67) (u := 9) qh_cX11_init rfl rfl rfl (by decide)
theorem dX11_init_96 : decode cX11_init 96 = .ok (.newarray .int, 2) := by decide +kernel
theorem dX11_init_98 : decode cX11_init 98 = .ok (.putfield 44, 3) := dqn_181 (k := 62) qh_cX11_init rfl rfl rfl
theorem dX11_init_101 : decode cX11_init 101 = .ok (.aload_n 0, 1) := dqn_42 (k := 61) qh_cX11_init rfl rfl
theorem dX11_init_102 : decode cX11_init 102 = .ok (.bipush 9, 2) := dqn_16 (k := 59) (u := 9) qh_cX11_init rfl rfl rfl (by decide)
theorem dX11_init_104 : decode cX11_init 104 = .ok (.newarray .int, 2) := by decide +kernel
theorem dX11_init_106 : decode cX11_init 106 = .ok (.putfield 47, 3) := dqn_181 (k := 54) qh_cX11_init rfl rfl rfl
theorem dX11_init_109 : decode cX11_init 109 = .ok (.aload_n 0, 1) := dqn_42 (k := 53) qh_cX11_init rfl rfl
theorem dX11_init_110 : decode cX11_init 110 = .ok (.sipush 512, 3) := dqn_17 (k := 50) (u := 512) qh_cX11_init rfl rfl rfl (sg_p rfl rfl)
theorem dX11_init_113 : decode cX11_init 113 = .ok (.newarray .long, 2) := by decide +kernel
theorem dX11_init_115 : decode cX11_init 115 = .ok (.putfield 50, 3) := dqn_181 (k := 45) qh_cX11_init rfl rfl rfl
theorem dX11_init_118 : decode cX11_init 118 = .ok (.aload_n 0, 1) := dqn_42 (k := 44) qh_cX11_init rfl rfl
theorem dX11_init_119 : decode cX11_init 119 = .ok (.bipush 9, 2) := dqn_16 (k := 42) (u := 9) qh_cX11_init rfl rfl rfl (by decide)
theorem dX11_init_121 : decode cX11_init 121 = .ok (.newarray .int, 2) := by decide +kernel
theorem dX11_init_123 : decode cX11_init 123 = .ok (.putfield 54, 3) := dqn_181 (k := 37) qh_cX11_init rfl rfl rfl
theorem dX11_init_126 : decode cX11_init 126 = .ok (.aload_n 0, 1) := dqn_42 (k := 36) qh_cX11_init rfl rfl
theorem dX11_init_127 : decode cX11_init 127 = .ok (.bipush 9, 2) := dqn_16 (k := 34) (u := 9) qh_cX11_init rfl rfl rfl (by decide)
theorem dX11_init_129 : decode cX11_init 129 = .ok (.newarray .int, 2) := by decide +kernel
theorem dX11_init_131 : decode cX11_init 131 = .ok (.putfield 57, 3) := dqn_181 (k := 29) qh_cX11_init rfl rfl rfl
theorem dX11_init_134 : decode cX11_init 134 = .ok (.aload_n 0, 1) := dqn_42 (k := 28) qh_cX11_init rfl rfl
theorem dX11_init_135 : decode cX11_init 135 = .ok (.iconst 4, 1) := dqn_7 (k := 27) qh_cX11_init rfl rfl
theorem dX11_init_136 : decode cX11_init 136 = .ok (.newarray .int, 2) := by decide +kernel
theorem dX11_init_138 : decode cX11_init 138 = .ok (.putfield 60, 3) := dqn_181 (k := 22) qh_cX11_init rfl rfl rfl
theorem dX11_init_141 : decode cX11_init 141 = .ok (.aload_n 0, 1) := dqn_42 (k := 21) qh_cX11_init rfl rfl
theorem dX11_init_142 : decode cX11_init 142 = .ok (.iconst 4, 1) := dqn_7 (k := 20) qh_cX11_init rfl rfl
theorem dX11_init_143 : decode cX11_init 143 = .ok (.newarray .int, 2) := by decide +kernel
theorem dX11_init_145 : decode cX11_init 145 = .ok (.putfield 63, 3) := dqn_181 (k := 15) qh_cX11_init rfl rfl rfl
theorem dX11_init_148 : decode cX11_init 148 = .ok (.aload_n 0, 1) := dqn_42 (k := 14) qh_cX11_init rfl rfl
theorem dX11_init_149 : decode cX11_init 149 = .ok (.iconst 3, 1) := dqn_6 (k := 13) qh_cX11_init rfl rfl
theorem dX11_init_150 : decode cX11_init 150 = .ok (.newarray .boolean, 2) := by decide +kernel
theorem dX11_init_152 : decode cX11_init 152 = .ok (.putfield 66, 3) := dqn_181 (k := 8) qh_cX11_init rfl rfl rfl
theorem dX11_init_155 : decode cX11_init 155 = .ok (.aload_n 0, 1) := dqn_42 (k := 7) qh_cX11_init rfl rfl
theorem dX11_init_156 : decode cX11_init 156 = .ok (.getfield 20, 3) := dqn_180 (k := 4) qh_cX11_init rfl rfl rfl
theorem dX11_init_159 : decode cX11_init 159 = .ok (.iconst 0, 1) := dqn_3 (k := 3) qh_cX11_init rfl rfl
theorem dX11_init_160 : decode cX11_init 160 = .ok (.iconst (-1), 1) := dqn_2 (k := 2) qh_cX11_init rfl rfl
theorem dX11_init_161 : decode cX11_init 161 = .ok (.iastore, 1) := dqn_79 (k := 1) qh_cX11_init rfl rfl
theorem dX11_init_162 : decode cX11_init 162 = .ok (.return_, 1) := dqn_177 (k := 0) qh_cX11_init rfl rfl
def ob1 (n : Nat) : MC := (.inr (1, [.int 0, .ref (n + 0), .int 0, .ref (n + 1), .ref (n + 2), .ref (n + 3)]))
def bk1 (n : Nat) : List MC := (.inl (1, 144, .inl (fun _ => 0))) :: ((.inl (1, 4, .inl (fun _ => 0))) :: ((.inl (1, 4, .inl (fun _ => 0))) :: ((.inl (1, 3, .inl (fun _ => 0))) :: ([]))))
set_option maxRecDepth 100000 in
theorem bl1 {n : Nat} : (bk1 n).length = 4 := rfl
set_option maxHeartbeats 4000000 in
set_option maxRecDepth 100000 in
theorem c_X1_init {d : Nat} {h : List MC} {o n0 : Nat} (hd : 1 ≤ d) (hn : h.length = n0) (ho : h[o]? = some (.inr (1, [.int 0, .null, .int 0, .null, .null, .null]))) : CT con0 d 4 155 yX1_init cX1_init 1 none [.ref o] h (fun r h2 => r = none ∧ h2.length = n0 + 4 ∧ h2[o]? = some (ob1 n0) ∧ At h2 n0 (bk1 n0) ∧ ∀ j, j < n0 → j ≠ o → h2[j]? = h[j]?) := by
  have hol : o < n0 := by rw [← hn]; exact (List.getElem?_eq_some_iff.mp ho).1
  have hn0 : h.length = n0 + 0 := hn
  refine CT_of (by decide) (Nat.le_of_ble_eq_true rfl) (fun x hq => ?_)
  show J x yX1_init cX1_init 1 none d 4 155 h.length 0 [(0, .ref o)] [] h 0 0
  refine J_aload_n (i := 0) (j := 0) dX1_init_0 rfl rfl ?_
  refine J_obj dX1_init_1 k129 k113 k114 (Nat.le_trans (by decide) hd) (Nat.le_of_ble_eq_true rfl) ?_
  refine J_aload_n (i := 0) (j := 0) dX1_init_4 rfl rfl ?_
  refine J_iconst (v := 0) dX1_init_5 (by decide) ?_
  obtain ⟨h_1, e_2⟩ : ∃ z, z = h.set (o) (.inr (1, [.int 0, .null, .int 0, .null, .null, .null])) := ⟨_, rfl⟩
  refine J_put (C := RX1) (T := TX1) (Z := 6) (ci := 1) (f := 0) (ty0 := tyX1) dX1_init_6 inG1 rfl tyX1_ok nmX1 (by decide) k130 rfl rfl ho (Nat.le_of_ble_eq_true rfl) (fun _ _ => ⟨rfl, rfl⟩) e_2.symm ?_
  have f_3 := a_set e_2 ho
  have l_4 : h_1.length = n0 + 0 := l_set e_2 hn0
  have r_5 := r_set (N := n0 + 0) e_2
  refine J_aload_n (i := 0) (j := 0) dX1_init_9 rfl rfl ?_
  refine J_sipush (v := 144) dX1_init_10 (by decide) ?_
  refine J_newa1 (Z := 144) dX1_init_13 ka1 (by decide) (by decide) (by decide) (hk1 hn l_4) (by decide) (by decide) ?_
  obtain ⟨h_6, e_7⟩ : ∃ z, z = h_1 ++ [(.inl (1, 144, .inl (fun _ => 0)))] := ⟨_, rfl⟩
  refine J_w e_7.symm ?_
  refine J_cr (v := n0 + 0) l_4 ?_
  have f_8 := a_push e_7 l_4
  have l_9 : h_6.length = n0 + 1 := l_push e_7 l_4 rfl
  have r_10 := r_push (a := n0 + 0) e_7 l_4
  have f_11 := (r_10 (o) (Nat.lt_of_lt_of_le hol (Nat.le_add_right _ _)) (Nat.ne_of_lt (Nat.lt_of_lt_of_le hol (Nat.le_add_right _ _)))).trans f_3
  obtain ⟨h_12, e_13⟩ : ∃ z, z = h_6.set (o) (.inr (1, [.int 0, .ref (n0 + 0), .int 0, .null, .null, .null])) := ⟨_, rfl⟩
  refine J_putF (C := RX1) (T := TX1) (Z := 6) (ci := 1) (f := 1) (ty0 := tyX1) dX1_init_15 inG1 rfl tyX1_ok nmX1 (by decide) k137 rfl rfl rfl rfl f_11 (Nat.le_of_ble_eq_true rfl) (fun _ _ => ⟨rfl, rfl⟩) e_13.symm ?_
  have f_14 := a_set e_13 f_11
  have l_15 : h_12.length = n0 + 1 := l_set e_13 l_9
  have r_16 := r_set (N := n0 + 1) e_13
  refine J_aload_n (i := 0) (j := 0) dX1_init_18 rfl rfl ?_
  refine J_iconst (v := 0) dX1_init_19 (by decide) ?_
  obtain ⟨h_17, e_18⟩ : ∃ z, z = h_12.set (o) (.inr (1, [.int 0, .ref (n0 + 0), .int 0, .null, .null, .null])) := ⟨_, rfl⟩
  refine J_put (C := RX1) (T := TX1) (Z := 6) (ci := 1) (f := 2) (ty0 := tyX1) dX1_init_20 inG1 rfl tyX1_ok nmX1 (by decide) k138 rfl rfl f_14 (Nat.le_of_ble_eq_true rfl) (fun _ _ => ⟨rfl, rfl⟩) e_18.symm ?_
  have f_19 := a_set e_18 f_14
  have l_20 : h_17.length = n0 + 1 := l_set e_18 l_15
  have r_21 := r_set (N := n0 + 1) e_18
  refine J_aload_n (i := 0) (j := 0) dX1_init_23 rfl rfl ?_
  refine J_iconst (v := 4) dX1_init_24 (by decide) ?_
  refine J_newa1 (Z := 4) dX1_init_25 ka1 (by decide) (by decide) (by decide) (hk1 hn l_20) (by decide) (by decide) ?_
  obtain ⟨h_22, e_23⟩ : ∃ z, z = h_17 ++ [(.inl (1, 4, .inl (fun _ => 0)))] := ⟨_, rfl⟩
  refine J_w e_23.symm ?_
  refine J_cr (v := n0 + 1) l_20 ?_
  have f_24 := a_push e_23 l_20
  have l_25 : h_22.length = n0 + 2 := l_push e_23 l_20 rfl
  have r_26 := r_push (a := n0 + 1) e_23 l_20
  have f_27 := (r_26 (o) (Nat.lt_of_lt_of_le hol (Nat.le_add_right _ _)) (Nat.ne_of_lt (Nat.lt_of_lt_of_le hol (Nat.le_add_right _ _)))).trans f_19
  obtain ⟨h_28, e_29⟩ : ∃ z, z = h_22.set (o) (.inr (1, [.int 0, .ref (n0 + 0), .int 0, .ref (n0 + 1), .null, .null])) := ⟨_, rfl⟩
  refine J_putF (C := RX1) (T := TX1) (Z := 6) (ci := 1) (f := 3) (ty0 := tyX1) dX1_init_27 inG1 rfl tyX1_ok nmX1 (by decide) k143 rfl rfl rfl rfl f_27 (Nat.le_of_ble_eq_true rfl) (fun _ _ => ⟨rfl, rfl⟩) e_29.symm ?_
  have f_30 := a_set e_29 f_27
  have l_31 : h_28.length = n0 + 2 := l_set e_29 l_25
  have r_32 := r_set (N := n0 + 2) e_29
  refine J_aload_n (i := 0) (j := 0) dX1_init_30 rfl rfl ?_
  refine J_iconst (v := 4) dX1_init_31 (by decide) ?_
  refine J_newa1 (Z := 4) dX1_init_32 ka1 (by decide) (by decide) (by decide) (hk1 hn l_31) (by decide) (by decide) ?_
  obtain ⟨h_33, e_34⟩ : ∃ z, z = h_28 ++ [(.inl (1, 4, .inl (fun _ => 0)))] := ⟨_, rfl⟩
  refine J_w e_34.symm ?_
  refine J_cr (v := n0 + 2) l_31 ?_
  have f_35 := a_push e_34 l_31
  have l_36 : h_33.length = n0 + 3 := l_push e_34 l_31 rfl
  have r_37 := r_push (a := n0 + 2) e_34 l_31
  have f_38 := (r_37 (o) (Nat.lt_of_lt_of_le hol (Nat.le_add_right _ _)) (Nat.ne_of_lt (Nat.lt_of_lt_of_le hol (Nat.le_add_right _ _)))).trans f_30
  obtain ⟨h_39, e_40⟩ : ∃ z, z = h_33.set (o) (.inr (1, [.int 0, .ref (n0 + 0), .int 0, .ref (n0 + 1), .ref (n0 + 2), .null])) := ⟨_, rfl⟩
  refine J_putF (C := RX1) (T := TX1) (Z := 6) (ci := 1) (f := 4) (ty0 := tyX1) dX1_init_34 inG1 rfl tyX1_ok nmX1 (by decide) k144 rfl rfl rfl rfl f_38 (Nat.le_of_ble_eq_true rfl) (fun _ _ => ⟨rfl, rfl⟩) e_40.symm ?_
  have f_41 := a_set e_40 f_38
  have l_42 : h_39.length = n0 + 3 := l_set e_40 l_36
  have r_43 := r_set (N := n0 + 3) e_40
  refine J_aload_n (i := 0) (j := 0) dX1_init_37 rfl rfl ?_
  refine J_iconst (v := 3) dX1_init_38 (by decide) ?_
  refine J_newa1 (Z := 3) dX1_init_39 ka1 (by decide) (by decide) (by decide) (hk1 hn l_42) (by decide) (by decide) ?_
  obtain ⟨h_44, e_45⟩ : ∃ z, z = h_39 ++ [(.inl (1, 3, .inl (fun _ => 0)))] := ⟨_, rfl⟩
  refine J_w e_45.symm ?_
  refine J_cr (v := n0 + 3) l_42 ?_
  have f_46 := a_push e_45 l_42
  have l_47 : h_44.length = n0 + 4 := l_push e_45 l_42 rfl
  have r_48 := r_push (a := n0 + 3) e_45 l_42
  have f_49 := (r_48 (o) (Nat.lt_of_lt_of_le hol (Nat.le_add_right _ _)) (Nat.ne_of_lt (Nat.lt_of_lt_of_le hol (Nat.le_add_right _ _)))).trans f_41
  obtain ⟨h_50, e_51⟩ : ∃ z, z = h_44.set (o) (.inr (1, [.int 0, .ref (n0 + 0), .int 0, .ref (n0 + 1), .ref (n0 + 2), .ref (n0 + 3)])) := ⟨_, rfl⟩
  refine J_putF (C := RX1) (T := TX1) (Z := 6) (ci := 1) (f := 5) (ty0 := tyX1) dX1_init_41 inG1 rfl tyX1_ok nmX1 (by decide) k145 rfl rfl rfl rfl f_49 (Nat.le_of_ble_eq_true rfl) (fun _ _ => ⟨rfl, rfl⟩) e_51.symm ?_
  have f_52 := a_set e_51 f_49
  have l_53 : h_50.length = n0 + 4 := l_set e_51 l_47
  have r_54 := r_set (N := n0 + 4) e_51
  have f_55 := (r_16 (n0 + 0) (nal rfl) (Nat.ne_of_gt (Nat.lt_of_lt_of_le hol (Nat.le_add_right _ _)))).trans f_8
  have f_56 := (r_21 (n0 + 0) (nal rfl) (Nat.ne_of_gt (Nat.lt_of_lt_of_le hol (Nat.le_add_right _ _)))).trans f_55
  have f_57 := (r_26 (n0 + 0) (nal rfl) (nan rfl)).trans f_56
  have f_58 := (r_32 (n0 + 0) (nal rfl) (Nat.ne_of_gt (Nat.lt_of_lt_of_le hol (Nat.le_add_right _ _)))).trans f_57
  have f_59 := (r_37 (n0 + 0) (nal rfl) (nan rfl)).trans f_58
  have f_60 := (r_43 (n0 + 0) (nal rfl) (Nat.ne_of_gt (Nat.lt_of_lt_of_le hol (Nat.le_add_right _ _)))).trans f_59
  have f_61 := (r_48 (n0 + 0) (nal rfl) (nan rfl)).trans f_60
  have f_62 := (r_54 (n0 + 0) (nal rfl) (Nat.ne_of_gt (Nat.lt_of_lt_of_le hol (Nat.le_add_right _ _)))).trans f_61
  have f_63 := (r_32 (n0 + 1) (nal rfl) (Nat.ne_of_gt (Nat.lt_of_lt_of_le hol (Nat.le_add_right _ _)))).trans f_24
  have f_64 := (r_37 (n0 + 1) (nal rfl) (nan rfl)).trans f_63
  have f_65 := (r_43 (n0 + 1) (nal rfl) (Nat.ne_of_gt (Nat.lt_of_lt_of_le hol (Nat.le_add_right _ _)))).trans f_64
  have f_66 := (r_48 (n0 + 1) (nal rfl) (nan rfl)).trans f_65
  have f_67 := (r_54 (n0 + 1) (nal rfl) (Nat.ne_of_gt (Nat.lt_of_lt_of_le hol (Nat.le_add_right _ _)))).trans f_66
  have f_68 := (r_43 (n0 + 2) (nal rfl) (Nat.ne_of_gt (Nat.lt_of_lt_of_le hol (Nat.le_add_right _ _)))).trans f_35
  have f_69 := (r_48 (n0 + 2) (nal rfl) (nan rfl)).trans f_68
  have f_70 := (r_54 (n0 + 2) (nal rfl) (Nat.ne_of_gt (Nat.lt_of_lt_of_le hol (Nat.le_add_right _ _)))).trans f_69
  have f_71 := (r_54 (n0 + 3) (nal rfl) (Nat.ne_of_gt (Nat.lt_of_lt_of_le hol (Nat.le_add_right _ _)))).trans f_46
  have hfr : ∀ j, j < n0 → j ≠ o → h_50[j]? = h[j]? := by
    intro j hj hjo
    rw [r_54 j (Nat.lt_of_lt_of_le hj (Nat.le_add_right _ _)) hjo, r_48 j (Nat.lt_of_lt_of_le hj (Nat.le_add_right _ _)) (Nat.ne_of_lt (Nat.lt_of_lt_of_le hj (Nat.le_add_right _ _))), r_43 j (Nat.lt_of_lt_of_le hj (Nat.le_add_right _ _)) hjo, r_37 j (Nat.lt_of_lt_of_le hj (Nat.le_add_right _ _)) (Nat.ne_of_lt (Nat.lt_of_lt_of_le hj (Nat.le_add_right _ _))), r_32 j (Nat.lt_of_lt_of_le hj (Nat.le_add_right _ _)) hjo, r_26 j (Nat.lt_of_lt_of_le hj (Nat.le_add_right _ _)) (Nat.ne_of_lt (Nat.lt_of_lt_of_le hj (Nat.le_add_right _ _))), r_21 j (Nat.lt_of_lt_of_le hj (Nat.le_add_right _ _)) hjo, r_16 j (Nat.lt_of_lt_of_le hj (Nat.le_add_right _ _)) hjo, r_10 j (Nat.lt_of_lt_of_le hj (Nat.le_add_right _ _)) (Nat.ne_of_lt (Nat.lt_of_lt_of_le hj (Nat.le_add_right _ _))), r_5 j (Nat.lt_of_lt_of_le hj (Nat.le_add_right _ _)) hjo]
  exact J_vret hq dX1_init_44 rfl (hk1 hn l_53) (by decide) (by decide) ⟨rfl, l_53, f_52, (At_cons f_62 (At_cons f_67 (At_cons f_70 (At_cons f_71 At_nil)))), hfr⟩
def ob8 (n : Nat) : MC := (.inr (8, [.int 0, .ref (n + 0), .ref (n + 1), .ref (n + 2)]))
def bk8 (n : Nat) : List MC := (.inl (1, 12, .inl (fun _ => 0))) :: ((.inl (1, 12, .inl (fun _ => 0))) :: ((.inl (1, 12, .inl (fun _ => 0))) :: ([])))
set_option maxRecDepth 100000 in
theorem bl8 {n : Nat} : (bk8 n).length = 3 := rfl
set_option maxHeartbeats 4000000 in
set_option maxRecDepth 100000 in
theorem c_X8_init {d : Nat} {h : List MC} {o n0 : Nat} (hd : 1 ≤ d) (hn : h.length = n0) (ho : h[o]? = some (.inr (8, [.int 0, .null, .null, .null]))) : CT con0 d 3 36 yX8_init cX8_init 1 none [.ref o] h (fun r h2 => r = none ∧ h2.length = n0 + 3 ∧ h2[o]? = some (ob8 n0) ∧ At h2 n0 (bk8 n0) ∧ ∀ j, j < n0 → j ≠ o → h2[j]? = h[j]?) := by
  have hol : o < n0 := by rw [← hn]; exact (List.getElem?_eq_some_iff.mp ho).1
  have hn0 : h.length = n0 + 0 := hn
  refine CT_of (by decide) (Nat.le_of_ble_eq_true rfl) (fun x hq => ?_)
  show J x yX8_init cX8_init 1 none d 3 36 h.length 0 [(0, .ref o)] [] h 0 0
  refine J_aload_n (i := 0) (j := 0) dX8_init_0 rfl rfl ?_
  refine J_obj dX8_init_1 k167 k113 k114 (Nat.le_trans (by decide) hd) (Nat.le_of_ble_eq_true rfl) ?_
  refine J_aload_n (i := 0) (j := 0) dX8_init_4 rfl rfl ?_
  refine J_iconst (v := 0) dX8_init_5 (by decide) ?_
  obtain ⟨h_1, e_2⟩ : ∃ z, z = h.set (o) (.inr (8, [.int 0, .null, .null, .null])) := ⟨_, rfl⟩
  refine J_put (C := RX8) (T := TX8) (Z := 4) (ci := 8) (f := 0) (ty0 := tyX8) dX8_init_6 inG8 rfl tyX8_ok nmX8 (by decide) k168 rfl rfl ho (Nat.le_of_ble_eq_true rfl) (fun _ _ => ⟨rfl, rfl⟩) e_2.symm ?_
  have f_3 := a_set e_2 ho
  have l_4 : h_1.length = n0 + 0 := l_set e_2 hn0
  have r_5 := r_set (N := n0 + 0) e_2
  refine J_aload_n (i := 0) (j := 0) dX8_init_9 rfl rfl ?_
  refine J_bipush (v := 12) dX8_init_10 (by decide) ?_
  refine J_newa1 (Z := 12) dX8_init_12 ka1 (by decide) (by decide) (by decide) (hk1 hn l_4) (by decide) (by decide) ?_
  obtain ⟨h_6, e_7⟩ : ∃ z, z = h_1 ++ [(.inl (1, 12, .inl (fun _ => 0)))] := ⟨_, rfl⟩
  refine J_w e_7.symm ?_
  refine J_cr (v := n0 + 0) l_4 ?_
  have f_8 := a_push e_7 l_4
  have l_9 : h_6.length = n0 + 1 := l_push e_7 l_4 rfl
  have r_10 := r_push (a := n0 + 0) e_7 l_4
  have f_11 := (r_10 (o) (Nat.lt_of_lt_of_le hol (Nat.le_add_right _ _)) (Nat.ne_of_lt (Nat.lt_of_lt_of_le hol (Nat.le_add_right _ _)))).trans f_3
  obtain ⟨h_12, e_13⟩ : ∃ z, z = h_6.set (o) (.inr (8, [.int 0, .ref (n0 + 0), .null, .null])) := ⟨_, rfl⟩
  refine J_putF (C := RX8) (T := TX8) (Z := 4) (ci := 8) (f := 1) (ty0 := tyX8) dX8_init_14 inG8 rfl tyX8_ok nmX8 (by decide) k171 rfl rfl rfl rfl f_11 (Nat.le_of_ble_eq_true rfl) (fun _ _ => ⟨rfl, rfl⟩) e_13.symm ?_
  have f_14 := a_set e_13 f_11
  have l_15 : h_12.length = n0 + 1 := l_set e_13 l_9
  have r_16 := r_set (N := n0 + 1) e_13
  refine J_aload_n (i := 0) (j := 0) dX8_init_17 rfl rfl ?_
  refine J_bipush (v := 12) dX8_init_18 (by decide) ?_
  refine J_newa1 (Z := 12) dX8_init_20 ka1 (by decide) (by decide) (by decide) (hk1 hn l_15) (by decide) (by decide) ?_
  obtain ⟨h_17, e_18⟩ : ∃ z, z = h_12 ++ [(.inl (1, 12, .inl (fun _ => 0)))] := ⟨_, rfl⟩
  refine J_w e_18.symm ?_
  refine J_cr (v := n0 + 1) l_15 ?_
  have f_19 := a_push e_18 l_15
  have l_20 : h_17.length = n0 + 2 := l_push e_18 l_15 rfl
  have r_21 := r_push (a := n0 + 1) e_18 l_15
  have f_22 := (r_21 (o) (Nat.lt_of_lt_of_le hol (Nat.le_add_right _ _)) (Nat.ne_of_lt (Nat.lt_of_lt_of_le hol (Nat.le_add_right _ _)))).trans f_14
  obtain ⟨h_23, e_24⟩ : ∃ z, z = h_17.set (o) (.inr (8, [.int 0, .ref (n0 + 0), .ref (n0 + 1), .null])) := ⟨_, rfl⟩
  refine J_putF (C := RX8) (T := TX8) (Z := 4) (ci := 8) (f := 2) (ty0 := tyX8) dX8_init_22 inG8 rfl tyX8_ok nmX8 (by decide) k173 rfl rfl rfl rfl f_22 (Nat.le_of_ble_eq_true rfl) (fun _ _ => ⟨rfl, rfl⟩) e_24.symm ?_
  have f_25 := a_set e_24 f_22
  have l_26 : h_23.length = n0 + 2 := l_set e_24 l_20
  have r_27 := r_set (N := n0 + 2) e_24
  refine J_aload_n (i := 0) (j := 0) dX8_init_25 rfl rfl ?_
  refine J_bipush (v := 12) dX8_init_26 (by decide) ?_
  refine J_newa1 (Z := 12) dX8_init_28 ka1 (by decide) (by decide) (by decide) (hk1 hn l_26) (by decide) (by decide) ?_
  obtain ⟨h_28, e_29⟩ : ∃ z, z = h_23 ++ [(.inl (1, 12, .inl (fun _ => 0)))] := ⟨_, rfl⟩
  refine J_w e_29.symm ?_
  refine J_cr (v := n0 + 2) l_26 ?_
  have f_30 := a_push e_29 l_26
  have l_31 : h_28.length = n0 + 3 := l_push e_29 l_26 rfl
  have r_32 := r_push (a := n0 + 2) e_29 l_26
  have f_33 := (r_32 (o) (Nat.lt_of_lt_of_le hol (Nat.le_add_right _ _)) (Nat.ne_of_lt (Nat.lt_of_lt_of_le hol (Nat.le_add_right _ _)))).trans f_25
  obtain ⟨h_34, e_35⟩ : ∃ z, z = h_28.set (o) (.inr (8, [.int 0, .ref (n0 + 0), .ref (n0 + 1), .ref (n0 + 2)])) := ⟨_, rfl⟩
  refine J_putF (C := RX8) (T := TX8) (Z := 4) (ci := 8) (f := 3) (ty0 := tyX8) dX8_init_30 inG8 rfl tyX8_ok nmX8 (by decide) k175 rfl rfl rfl rfl f_33 (Nat.le_of_ble_eq_true rfl) (fun _ _ => ⟨rfl, rfl⟩) e_35.symm ?_
  have f_36 := a_set e_35 f_33
  have l_37 : h_34.length = n0 + 3 := l_set e_35 l_31
  have r_38 := r_set (N := n0 + 3) e_35
  have f_39 := (r_16 (n0 + 0) (nal rfl) (Nat.ne_of_gt (Nat.lt_of_lt_of_le hol (Nat.le_add_right _ _)))).trans f_8
  have f_40 := (r_21 (n0 + 0) (nal rfl) (nan rfl)).trans f_39
  have f_41 := (r_27 (n0 + 0) (nal rfl) (Nat.ne_of_gt (Nat.lt_of_lt_of_le hol (Nat.le_add_right _ _)))).trans f_40
  have f_42 := (r_32 (n0 + 0) (nal rfl) (nan rfl)).trans f_41
  have f_43 := (r_38 (n0 + 0) (nal rfl) (Nat.ne_of_gt (Nat.lt_of_lt_of_le hol (Nat.le_add_right _ _)))).trans f_42
  have f_44 := (r_27 (n0 + 1) (nal rfl) (Nat.ne_of_gt (Nat.lt_of_lt_of_le hol (Nat.le_add_right _ _)))).trans f_19
  have f_45 := (r_32 (n0 + 1) (nal rfl) (nan rfl)).trans f_44
  have f_46 := (r_38 (n0 + 1) (nal rfl) (Nat.ne_of_gt (Nat.lt_of_lt_of_le hol (Nat.le_add_right _ _)))).trans f_45
  have f_47 := (r_38 (n0 + 2) (nal rfl) (Nat.ne_of_gt (Nat.lt_of_lt_of_le hol (Nat.le_add_right _ _)))).trans f_30
  have hfr : ∀ j, j < n0 → j ≠ o → h_34[j]? = h[j]? := by
    intro j hj hjo
    rw [r_38 j (Nat.lt_of_lt_of_le hj (Nat.le_add_right _ _)) hjo, r_32 j (Nat.lt_of_lt_of_le hj (Nat.le_add_right _ _)) (Nat.ne_of_lt (Nat.lt_of_lt_of_le hj (Nat.le_add_right _ _))), r_27 j (Nat.lt_of_lt_of_le hj (Nat.le_add_right _ _)) hjo, r_21 j (Nat.lt_of_lt_of_le hj (Nat.le_add_right _ _)) (Nat.ne_of_lt (Nat.lt_of_lt_of_le hj (Nat.le_add_right _ _))), r_16 j (Nat.lt_of_lt_of_le hj (Nat.le_add_right _ _)) hjo, r_10 j (Nat.lt_of_lt_of_le hj (Nat.le_add_right _ _)) (Nat.ne_of_lt (Nat.lt_of_lt_of_le hj (Nat.le_add_right _ _))), r_5 j (Nat.lt_of_lt_of_le hj (Nat.le_add_right _ _)) hjo]
  exact J_vret hq dX8_init_33 rfl (hk1 hn l_37) (by decide) (by decide) ⟨rfl, l_37, f_36, (At_cons f_43 (At_cons f_46 (At_cons f_47 At_nil))), hfr⟩
def ob5 (n : Nat) : MC := (.inr (5, [.int 0, .int 0, .int 0, .int 0, .int 0, .ref (n + 0), .ref (n + 1)]))
def bk5 (n : Nat) : List MC := (.inl (1, 9, .inl (fun _ => 0))) :: ((.inl (1, 9, .inl (fun _ => 0))) :: ([]))
set_option maxRecDepth 100000 in
theorem bl5 {n : Nat} : (bk5 n).length = 2 := rfl
set_option maxHeartbeats 4000000 in
set_option maxRecDepth 100000 in
theorem c_X5_init {d : Nat} {h : List MC} {o n0 : Nat} (hd : 1 ≤ d) (hn : h.length = n0) (ho : h[o]? = some (.inr (5, [.int 0, .int 0, .int 0, .int 0, .int 0, .null, .null]))) : CT con0 d 2 18 yX5_init cX5_init 1 none [.ref o] h (fun r h2 => r = none ∧ h2.length = n0 + 2 ∧ h2[o]? = some (ob5 n0) ∧ At h2 n0 (bk5 n0) ∧ ∀ j, j < n0 → j ≠ o → h2[j]? = h[j]?) := by
  have hol : o < n0 := by rw [← hn]; exact (List.getElem?_eq_some_iff.mp ho).1
  have hn0 : h.length = n0 + 0 := hn
  refine CT_of (by decide) (Nat.le_of_ble_eq_true rfl) (fun x hq => ?_)
  show J x yX5_init cX5_init 1 none d 2 18 h.length 0 [(0, .ref o)] [] h 0 0
  refine J_aload_n (i := 0) (j := 0) dX5_init_0 rfl rfl ?_
  refine J_obj dX5_init_1 k318 k113 k114 (Nat.le_trans (by decide) hd) (Nat.le_of_ble_eq_true rfl) ?_
  refine J_aload_n (i := 0) (j := 0) dX5_init_4 rfl rfl ?_
  refine J_iconst (v := 0) dX5_init_5 (by decide) ?_
  obtain ⟨h_1, e_2⟩ : ∃ z, z = h.set (o) (.inr (5, [.int 0, .int 0, .int 0, .int 0, .int 0, .null, .null])) := ⟨_, rfl⟩
  refine J_put (C := RX5) (T := TX5) (Z := 7) (ci := 5) (f := 0) (ty0 := tyX5) dX5_init_6 inG5 rfl tyX5_ok nmX5 (by decide) k319 rfl rfl ho (Nat.le_of_ble_eq_true rfl) (fun _ _ => ⟨rfl, rfl⟩) e_2.symm ?_
  have f_3 := a_set e_2 ho
  have l_4 : h_1.length = n0 + 0 := l_set e_2 hn0
  have r_5 := r_set (N := n0 + 0) e_2
  refine J_aload_n (i := 0) (j := 0) dX5_init_9 rfl rfl ?_
  refine J_iconst (v := 0) dX5_init_10 (by decide) ?_
  obtain ⟨h_6, e_7⟩ : ∃ z, z = h_1.set (o) (.inr (5, [.int 0, .int 0, .int 0, .int 0, .int 0, .null, .null])) := ⟨_, rfl⟩
  refine J_put (C := RX5) (T := TX5) (Z := 7) (ci := 5) (f := 1) (ty0 := tyX5) dX5_init_11 inG5 rfl tyX5_ok nmX5 (by decide) k320 rfl rfl f_3 (Nat.le_of_ble_eq_true rfl) (fun _ _ => ⟨rfl, rfl⟩) e_7.symm ?_
  have f_8 := a_set e_7 f_3
  have l_9 : h_6.length = n0 + 0 := l_set e_7 l_4
  have r_10 := r_set (N := n0 + 0) e_7
  refine J_aload_n (i := 0) (j := 0) dX5_init_14 rfl rfl ?_
  refine J_iconst (v := 0) dX5_init_15 (by decide) ?_
  obtain ⟨h_11, e_12⟩ : ∃ z, z = h_6.set (o) (.inr (5, [.int 0, .int 0, .int 0, .int 0, .int 0, .null, .null])) := ⟨_, rfl⟩
  refine J_put (C := RX5) (T := TX5) (Z := 7) (ci := 5) (f := 2) (ty0 := tyX5) dX5_init_16 inG5 rfl tyX5_ok nmX5 (by decide) k324 rfl rfl f_8 (Nat.le_of_ble_eq_true rfl) (fun _ _ => ⟨rfl, rfl⟩) e_12.symm ?_
  have f_13 := a_set e_12 f_8
  have l_14 : h_11.length = n0 + 0 := l_set e_12 l_9
  have r_15 := r_set (N := n0 + 0) e_12
  refine J_aload_n (i := 0) (j := 0) dX5_init_19 rfl rfl ?_
  refine J_iconst (v := 0) dX5_init_20 (by decide) ?_
  obtain ⟨h_16, e_17⟩ : ∃ z, z = h_11.set (o) (.inr (5, [.int 0, .int 0, .int 0, .int 0, .int 0, .null, .null])) := ⟨_, rfl⟩
  refine J_put (C := RX5) (T := TX5) (Z := 7) (ci := 5) (f := 3) (ty0 := tyX5) dX5_init_21 inG5 rfl tyX5_ok nmX5 (by decide) k326 rfl rfl f_13 (Nat.le_of_ble_eq_true rfl) (fun _ _ => ⟨rfl, rfl⟩) e_17.symm ?_
  have f_18 := a_set e_17 f_13
  have l_19 : h_16.length = n0 + 0 := l_set e_17 l_14
  have r_20 := r_set (N := n0 + 0) e_17
  refine J_aload_n (i := 0) (j := 0) dX5_init_24 rfl rfl ?_
  refine J_iconst (v := 0) dX5_init_25 (by decide) ?_
  obtain ⟨h_21, e_22⟩ : ∃ z, z = h_16.set (o) (.inr (5, [.int 0, .int 0, .int 0, .int 0, .int 0, .null, .null])) := ⟨_, rfl⟩
  refine J_put (C := RX5) (T := TX5) (Z := 7) (ci := 5) (f := 4) (ty0 := tyX5) dX5_init_26 inG5 rfl tyX5_ok nmX5 (by decide) k327 rfl rfl f_18 (Nat.le_of_ble_eq_true rfl) (fun _ _ => ⟨rfl, rfl⟩) e_22.symm ?_
  have f_23 := a_set e_22 f_18
  have l_24 : h_21.length = n0 + 0 := l_set e_22 l_19
  have r_25 := r_set (N := n0 + 0) e_22
  refine J_aload_n (i := 0) (j := 0) dX5_init_29 rfl rfl ?_
  refine J_bipush (v := 9) dX5_init_30 (by decide) ?_
  refine J_newa1 (Z := 9) dX5_init_32 ka1 (by decide) (by decide) (by decide) (hk1 hn l_24) (by decide) (by decide) ?_
  obtain ⟨h_26, e_27⟩ : ∃ z, z = h_21 ++ [(.inl (1, 9, .inl (fun _ => 0)))] := ⟨_, rfl⟩
  refine J_w e_27.symm ?_
  refine J_cr (v := n0 + 0) l_24 ?_
  have f_28 := a_push e_27 l_24
  have l_29 : h_26.length = n0 + 1 := l_push e_27 l_24 rfl
  have r_30 := r_push (a := n0 + 0) e_27 l_24
  have f_31 := (r_30 (o) (Nat.lt_of_lt_of_le hol (Nat.le_add_right _ _)) (Nat.ne_of_lt (Nat.lt_of_lt_of_le hol (Nat.le_add_right _ _)))).trans f_23
  obtain ⟨h_32, e_33⟩ : ∃ z, z = h_26.set (o) (.inr (5, [.int 0, .int 0, .int 0, .int 0, .int 0, .ref (n0 + 0), .null])) := ⟨_, rfl⟩
  refine J_putF (C := RX5) (T := TX5) (Z := 7) (ci := 5) (f := 5) (ty0 := tyX5) dX5_init_34 inG5 rfl tyX5_ok nmX5 (by decide) k329 rfl rfl rfl rfl f_31 (Nat.le_of_ble_eq_true rfl) (fun _ _ => ⟨rfl, rfl⟩) e_33.symm ?_
  have f_34 := a_set e_33 f_31
  have l_35 : h_32.length = n0 + 1 := l_set e_33 l_29
  have r_36 := r_set (N := n0 + 1) e_33
  refine J_aload_n (i := 0) (j := 0) dX5_init_37 rfl rfl ?_
  refine J_bipush (v := 9) dX5_init_38 (by decide) ?_
  refine J_newa1 (Z := 9) dX5_init_40 ka1 (by decide) (by decide) (by decide) (hk1 hn l_35) (by decide) (by decide) ?_
  obtain ⟨h_37, e_38⟩ : ∃ z, z = h_32 ++ [(.inl (1, 9, .inl (fun _ => 0)))] := ⟨_, rfl⟩
  refine J_w e_38.symm ?_
  refine J_cr (v := n0 + 1) l_35 ?_
  have f_39 := a_push e_38 l_35
  have l_40 : h_37.length = n0 + 2 := l_push e_38 l_35 rfl
  have r_41 := r_push (a := n0 + 1) e_38 l_35
  have f_42 := (r_41 (o) (Nat.lt_of_lt_of_le hol (Nat.le_add_right _ _)) (Nat.ne_of_lt (Nat.lt_of_lt_of_le hol (Nat.le_add_right _ _)))).trans f_34
  obtain ⟨h_43, e_44⟩ : ∃ z, z = h_37.set (o) (.inr (5, [.int 0, .int 0, .int 0, .int 0, .int 0, .ref (n0 + 0), .ref (n0 + 1)])) := ⟨_, rfl⟩
  refine J_putF (C := RX5) (T := TX5) (Z := 7) (ci := 5) (f := 6) (ty0 := tyX5) dX5_init_42 inG5 rfl tyX5_ok nmX5 (by decide) k330 rfl rfl rfl rfl f_42 (Nat.le_of_ble_eq_true rfl) (fun _ _ => ⟨rfl, rfl⟩) e_44.symm ?_
  have f_45 := a_set e_44 f_42
  have l_46 : h_43.length = n0 + 2 := l_set e_44 l_40
  have r_47 := r_set (N := n0 + 2) e_44
  have f_48 := (r_36 (n0 + 0) (nal rfl) (Nat.ne_of_gt (Nat.lt_of_lt_of_le hol (Nat.le_add_right _ _)))).trans f_28
  have f_49 := (r_41 (n0 + 0) (nal rfl) (nan rfl)).trans f_48
  have f_50 := (r_47 (n0 + 0) (nal rfl) (Nat.ne_of_gt (Nat.lt_of_lt_of_le hol (Nat.le_add_right _ _)))).trans f_49
  have f_51 := (r_47 (n0 + 1) (nal rfl) (Nat.ne_of_gt (Nat.lt_of_lt_of_le hol (Nat.le_add_right _ _)))).trans f_39
  have hfr : ∀ j, j < n0 → j ≠ o → h_43[j]? = h[j]? := by
    intro j hj hjo
    rw [r_47 j (Nat.lt_of_lt_of_le hj (Nat.le_add_right _ _)) hjo, r_41 j (Nat.lt_of_lt_of_le hj (Nat.le_add_right _ _)) (Nat.ne_of_lt (Nat.lt_of_lt_of_le hj (Nat.le_add_right _ _))), r_36 j (Nat.lt_of_lt_of_le hj (Nat.le_add_right _ _)) hjo, r_30 j (Nat.lt_of_lt_of_le hj (Nat.le_add_right _ _)) (Nat.ne_of_lt (Nat.lt_of_lt_of_le hj (Nat.le_add_right _ _))), r_25 j (Nat.lt_of_lt_of_le hj (Nat.le_add_right _ _)) hjo, r_20 j (Nat.lt_of_lt_of_le hj (Nat.le_add_right _ _)) hjo, r_15 j (Nat.lt_of_lt_of_le hj (Nat.le_add_right _ _)) hjo, r_10 j (Nat.lt_of_lt_of_le hj (Nat.le_add_right _ _)) hjo, r_5 j (Nat.lt_of_lt_of_le hj (Nat.le_add_right _ _)) hjo]
  exact J_vret hq dX5_init_45 rfl (hk1 hn l_46) (by decide) (by decide) ⟨rfl, l_46, f_45, (At_cons f_50 (At_cons f_51 At_nil)), hfr⟩
def ob6 (n : Nat) : MC := (.inr (6, [.ref (n + 0), .int 0, .int 0, .int 0, .int 0, .int 0]))
def bk6 (n : Nat) : List MC := (.inl (0, 0, .inl (fun _ => 0))) :: ([])
set_option maxRecDepth 100000 in
theorem bl6 {n : Nat} : (bk6 n).length = 1 := rfl
set_option maxHeartbeats 4000000 in
set_option maxRecDepth 100000 in
theorem c_X6_init {d : Nat} {h : List MC} {o n0 : Nat} (hd : 1 ≤ d) (hn : h.length = n0) (ho : h[o]? = some (.inr (6, [.null, .int 0, .int 0, .int 0, .int 0, .int 0]))) : CT con0 d 1 0 yX6_init cX6_init 1 none [.ref o] h (fun r h2 => r = none ∧ h2.length = n0 + 1 ∧ h2[o]? = some (ob6 n0) ∧ At h2 n0 (bk6 n0) ∧ ∀ j, j < n0 → j ≠ o → h2[j]? = h[j]?) := by
  have hol : o < n0 := by rw [← hn]; exact (List.getElem?_eq_some_iff.mp ho).1
  have hn0 : h.length = n0 + 0 := hn
  refine CT_of (by decide) (Nat.le_of_ble_eq_true rfl) (fun x hq => ?_)
  show J x yX6_init cX6_init 1 none d 1 0 h.length 0 [(0, .ref o)] [] h 0 0
  refine J_aload_n (i := 0) (j := 0) dX6_init_0 rfl rfl ?_
  refine J_obj dX6_init_1 k231 k113 k114 (Nat.le_trans (by decide) hd) (Nat.le_of_ble_eq_true rfl) ?_
  refine J_aload_n (i := 0) (j := 0) dX6_init_4 rfl rfl ?_
  refine J_iconst (v := 0) dX6_init_5 (by decide) ?_
  refine J_newa0 (Z := 0) dX6_init_6 ka0 (by decide) (by decide) (by decide) (hk1 hn hn0) (by decide) (by decide) ?_
  obtain ⟨h_1, e_2⟩ : ∃ z, z = h ++ [(.inl (0, 0, .inl (fun _ => 0)))] := ⟨_, rfl⟩
  refine J_w e_2.symm ?_
  refine J_cr (v := n0 + 0) hn0 ?_
  have f_3 := a_push e_2 hn0
  have l_4 : h_1.length = n0 + 1 := l_push e_2 hn0 rfl
  have r_5 := r_push (a := n0 + 0) e_2 hn0
  have f_6 := (r_5 (o) (Nat.lt_of_lt_of_le hol (Nat.le_add_right _ _)) (Nat.ne_of_lt (Nat.lt_of_lt_of_le hol (Nat.le_add_right _ _)))).trans ho
  obtain ⟨h_7, e_8⟩ : ∃ z, z = h_1.set (o) (.inr (6, [.ref (n0 + 0), .int 0, .int 0, .int 0, .int 0, .int 0])) := ⟨_, rfl⟩
  refine J_put (C := RX6) (T := TX6) (Z := 6) (ci := 6) (f := 0) (ty0 := tyX6) dX6_init_8 inG6 rfl tyX6_ok nmX6 (by decide) k232 rfl rfl f_6 (Nat.le_of_ble_eq_true rfl) (fun _ _ => ⟨rfl, rfl⟩) e_8.symm ?_
  have f_9 := a_set e_8 f_6
  have l_10 : h_7.length = n0 + 1 := l_set e_8 l_4
  have r_11 := r_set (N := n0 + 1) e_8
  refine J_aload_n (i := 0) (j := 0) dX6_init_11 rfl rfl ?_
  refine J_iconst (v := 0) dX6_init_12 (by decide) ?_
  obtain ⟨h_12, e_13⟩ : ∃ z, z = h_7.set (o) (.inr (6, [.ref (n0 + 0), .int 0, .int 0, .int 0, .int 0, .int 0])) := ⟨_, rfl⟩
  refine J_put (C := RX6) (T := TX6) (Z := 6) (ci := 6) (f := 1) (ty0 := tyX6) dX6_init_13 inG6 rfl tyX6_ok nmX6 (by decide) k233 rfl rfl f_9 (Nat.le_of_ble_eq_true rfl) (fun _ _ => ⟨rfl, rfl⟩) e_13.symm ?_
  have f_14 := a_set e_13 f_9
  have l_15 : h_12.length = n0 + 1 := l_set e_13 l_10
  have r_16 := r_set (N := n0 + 1) e_13
  refine J_aload_n (i := 0) (j := 0) dX6_init_16 rfl rfl ?_
  refine J_iconst (v := 0) dX6_init_17 (by decide) ?_
  obtain ⟨h_17, e_18⟩ : ∃ z, z = h_12.set (o) (.inr (6, [.ref (n0 + 0), .int 0, .int 0, .int 0, .int 0, .int 0])) := ⟨_, rfl⟩
  refine J_put (C := RX6) (T := TX6) (Z := 6) (ci := 6) (f := 2) (ty0 := tyX6) dX6_init_18 inG6 rfl tyX6_ok nmX6 (by decide) k235 rfl rfl f_14 (Nat.le_of_ble_eq_true rfl) (fun _ _ => ⟨rfl, rfl⟩) e_18.symm ?_
  have f_19 := a_set e_18 f_14
  have l_20 : h_17.length = n0 + 1 := l_set e_18 l_15
  have r_21 := r_set (N := n0 + 1) e_18
  refine J_aload_n (i := 0) (j := 0) dX6_init_21 rfl rfl ?_
  refine J_iconst (v := 0) dX6_init_22 (by decide) ?_
  obtain ⟨h_22, e_23⟩ : ∃ z, z = h_17.set (o) (.inr (6, [.ref (n0 + 0), .int 0, .int 0, .int 0, .int 0, .int 0])) := ⟨_, rfl⟩
  refine J_put (C := RX6) (T := TX6) (Z := 6) (ci := 6) (f := 3) (ty0 := tyX6) dX6_init_23 inG6 rfl tyX6_ok nmX6 (by decide) k236 rfl rfl f_19 (Nat.le_of_ble_eq_true rfl) (fun _ _ => ⟨rfl, rfl⟩) e_23.symm ?_
  have f_24 := a_set e_23 f_19
  have l_25 : h_22.length = n0 + 1 := l_set e_23 l_20
  have r_26 := r_set (N := n0 + 1) e_23
  refine J_aload_n (i := 0) (j := 0) dX6_init_26 rfl rfl ?_
  refine J_iconst (v := 0) dX6_init_27 (by decide) ?_
  obtain ⟨h_27, e_28⟩ : ∃ z, z = h_22.set (o) (.inr (6, [.ref (n0 + 0), .int 0, .int 0, .int 0, .int 0, .int 0])) := ⟨_, rfl⟩
  refine J_put (C := RX6) (T := TX6) (Z := 6) (ci := 6) (f := 4) (ty0 := tyX6) dX6_init_28 inG6 rfl tyX6_ok nmX6 (by decide) k238 rfl rfl f_24 (Nat.le_of_ble_eq_true rfl) (fun _ _ => ⟨rfl, rfl⟩) e_28.symm ?_
  have f_29 := a_set e_28 f_24
  have l_30 : h_27.length = n0 + 1 := l_set e_28 l_25
  have r_31 := r_set (N := n0 + 1) e_28
  refine J_aload_n (i := 0) (j := 0) dX6_init_31 rfl rfl ?_
  refine J_iconst (v := 0) dX6_init_32 (by decide) ?_
  obtain ⟨h_32, e_33⟩ : ∃ z, z = h_27.set (o) (.inr (6, [.ref (n0 + 0), .int 0, .int 0, .int 0, .int 0, .int 0])) := ⟨_, rfl⟩
  refine J_put (C := RX6) (T := TX6) (Z := 6) (ci := 6) (f := 5) (ty0 := tyX6) dX6_init_33 inG6 rfl tyX6_ok nmX6 (by decide) k240 rfl rfl f_29 (Nat.le_of_ble_eq_true rfl) (fun _ _ => ⟨rfl, rfl⟩) e_33.symm ?_
  have f_34 := a_set e_33 f_29
  have l_35 : h_32.length = n0 + 1 := l_set e_33 l_30
  have r_36 := r_set (N := n0 + 1) e_33
  have f_37 := (r_11 (n0 + 0) (nal rfl) (Nat.ne_of_gt (Nat.lt_of_lt_of_le hol (Nat.le_add_right _ _)))).trans f_3
  have f_38 := (r_16 (n0 + 0) (nal rfl) (Nat.ne_of_gt (Nat.lt_of_lt_of_le hol (Nat.le_add_right _ _)))).trans f_37
  have f_39 := (r_21 (n0 + 0) (nal rfl) (Nat.ne_of_gt (Nat.lt_of_lt_of_le hol (Nat.le_add_right _ _)))).trans f_38
  have f_40 := (r_26 (n0 + 0) (nal rfl) (Nat.ne_of_gt (Nat.lt_of_lt_of_le hol (Nat.le_add_right _ _)))).trans f_39
  have f_41 := (r_31 (n0 + 0) (nal rfl) (Nat.ne_of_gt (Nat.lt_of_lt_of_le hol (Nat.le_add_right _ _)))).trans f_40
  have f_42 := (r_36 (n0 + 0) (nal rfl) (Nat.ne_of_gt (Nat.lt_of_lt_of_le hol (Nat.le_add_right _ _)))).trans f_41
  have hfr : ∀ j, j < n0 → j ≠ o → h_32[j]? = h[j]? := by
    intro j hj hjo
    rw [r_36 j (Nat.lt_of_lt_of_le hj (Nat.le_add_right _ _)) hjo, r_31 j (Nat.lt_of_lt_of_le hj (Nat.le_add_right _ _)) hjo, r_26 j (Nat.lt_of_lt_of_le hj (Nat.le_add_right _ _)) hjo, r_21 j (Nat.lt_of_lt_of_le hj (Nat.le_add_right _ _)) hjo, r_16 j (Nat.lt_of_lt_of_le hj (Nat.le_add_right _ _)) hjo, r_11 j (Nat.lt_of_lt_of_le hj (Nat.le_add_right _ _)) hjo, r_5 j (Nat.lt_of_lt_of_le hj (Nat.le_add_right _ _)) (Nat.ne_of_lt (Nat.lt_of_lt_of_le hj (Nat.le_add_right _ _)))]
  exact J_vret hq dX6_init_36 rfl (hk1 hn l_35) (by decide) (by decide) ⟨rfl, l_35, f_34, (At_cons f_42 At_nil), hfr⟩
def ob7 (n : Nat) : MC := (.inr (7, [.ref (n + 0), .int 0, .int 0, .int (-1), .ref (n + 1), .int 0, .ref (n + 2), .int 0]))
def bk7 (n : Nat) : List MC := (.inl (0, 600, .inl (fun _ => 0))) :: ((.inl (4, 2, .inr (.inr (va_up (va_up (fun _ => none) ((0 : Int32).toNatClampNeg) (some (n + 3))) ((1 : Int32).toNatClampNeg) (some (n + 8)))))) :: ((.inl (6, 3, .inr (.inr (va_up (va_up (va_up (fun _ => none) ((0 : Int32).toNatClampNeg) (some (n + 13))) ((1 : Int32).toNatClampNeg) (some (n + 17))) ((2 : Int32).toNatClampNeg) (some (n + 21)))))) :: (ob1 (n + 4) :: (bk1 (n + 4) ++ (ob1 (n + 9) :: (bk1 (n + 9) ++ (ob8 (n + 14) :: (bk8 (n + 14) ++ (ob8 (n + 18) :: (bk8 (n + 18) ++ (ob8 (n + 22) :: (bk8 (n + 22) ++ ([])))))))))))))
set_option maxRecDepth 100000 in
theorem bl7 {n : Nat} : (bk7 n).length = 25 := rfl
set_option maxHeartbeats 4000000 in
set_option maxRecDepth 100000 in
theorem c_X7_init {d : Nat} {h : List MC} {o n0 : Nat} (hd : 2 ≤ d) (hn : h.length = n0) (ho : h[o]? = some (.inr (7, [.null, .int 0, .int 0, .int 0, .null, .int 0, .null, .int 0]))) : CT con0 d 25 1047 yX7_init cX7_init 2 none [.ref o] h (fun r h2 => r = none ∧ h2.length = n0 + 25 ∧ h2[o]? = some (ob7 n0) ∧ At h2 n0 (bk7 n0) ∧ ∀ j, j < n0 → j ≠ o → h2[j]? = h[j]?) := by
  have hol : o < n0 := by rw [← hn]; exact (List.getElem?_eq_some_iff.mp ho).1
  have hn0 : h.length = n0 + 0 := hn
  refine CT_of (by decide) (Nat.le_of_ble_eq_true rfl) (fun x hq => ?_)
  show J x yX7_init cX7_init 2 none d 25 1047 h.length 0 [(0, .ref o)] [] h 0 0
  refine J_aload_n (i := 0) (j := 0) dX7_init_0 rfl rfl ?_
  refine J_obj dX7_init_1 k120 k113 k114 (Nat.le_trans (by decide) hd) (Nat.le_of_ble_eq_true rfl) ?_
  refine J_aload_n (i := 0) (j := 0) dX7_init_4 rfl rfl ?_
  refine J_sipush (v := 600) dX7_init_5 (by decide) ?_
  refine J_newa0 (Z := 600) dX7_init_8 ka0 (by decide) (by decide) (by decide) (hk1 hn hn0) (by decide) (by decide) ?_
  obtain ⟨h_1, e_2⟩ : ∃ z, z = h ++ [(.inl (0, 600, .inl (fun _ => 0)))] := ⟨_, rfl⟩
  refine J_w e_2.symm ?_
  refine J_cr (v := n0 + 0) hn0 ?_
  have f_3 := a_push e_2 hn0
  have l_4 : h_1.length = n0 + 1 := l_push e_2 hn0 rfl
  have r_5 := r_push (a := n0 + 0) e_2 hn0
  have f_6 := (r_5 (o) (Nat.lt_of_lt_of_le hol (Nat.le_add_right _ _)) (Nat.ne_of_lt (Nat.lt_of_lt_of_le hol (Nat.le_add_right _ _)))).trans ho
  obtain ⟨h_7, e_8⟩ : ∃ z, z = h_1.set (o) (.inr (7, [.ref (n0 + 0), .int 0, .int 0, .int 0, .null, .int 0, .null, .int 0])) := ⟨_, rfl⟩
  refine J_putF (C := RX7) (T := TX7) (Z := 8) (ci := 7) (f := 0) (ty0 := tyX7) dX7_init_10 inG7 rfl tyX7_ok nmX7 (by decide) k186 rfl rfl rfl rfl f_6 (Nat.le_of_ble_eq_true rfl) (fun _ _ => ⟨rfl, rfl⟩) e_8.symm ?_
  have f_9 := a_set e_8 f_6
  have l_10 : h_7.length = n0 + 1 := l_set e_8 l_4
  have r_11 := r_set (N := n0 + 1) e_8
  refine J_aload_n (i := 0) (j := 0) dX7_init_13 rfl rfl ?_
  refine J_iconst (v := 0) dX7_init_14 (by decide) ?_
  obtain ⟨h_12, e_13⟩ : ∃ z, z = h_7.set (o) (.inr (7, [.ref (n0 + 0), .int 0, .int 0, .int 0, .null, .int 0, .null, .int 0])) := ⟨_, rfl⟩
  refine J_put (C := RX7) (T := TX7) (Z := 8) (ci := 7) (f := 1) (ty0 := tyX7) dX7_init_15 inG7 rfl tyX7_ok nmX7 (by decide) k188 rfl rfl f_9 (Nat.le_of_ble_eq_true rfl) (fun _ _ => ⟨rfl, rfl⟩) e_13.symm ?_
  have f_14 := a_set e_13 f_9
  have l_15 : h_12.length = n0 + 1 := l_set e_13 l_10
  have r_16 := r_set (N := n0 + 1) e_13
  refine J_aload_n (i := 0) (j := 0) dX7_init_18 rfl rfl ?_
  refine J_iconst (v := 0) dX7_init_19 (by decide) ?_
  obtain ⟨h_17, e_18⟩ : ∃ z, z = h_12.set (o) (.inr (7, [.ref (n0 + 0), .int 0, .int 0, .int 0, .null, .int 0, .null, .int 0])) := ⟨_, rfl⟩
  refine J_put (C := RX7) (T := TX7) (Z := 8) (ci := 7) (f := 2) (ty0 := tyX7) dX7_init_20 inG7 rfl tyX7_ok nmX7 (by decide) k190 rfl rfl f_14 (Nat.le_of_ble_eq_true rfl) (fun _ _ => ⟨rfl, rfl⟩) e_18.symm ?_
  have f_19 := a_set e_18 f_14
  have l_20 : h_17.length = n0 + 1 := l_set e_18 l_15
  have r_21 := r_set (N := n0 + 1) e_18
  refine J_aload_n (i := 0) (j := 0) dX7_init_23 rfl rfl ?_
  refine J_iconst (v := (-1)) dX7_init_24 (by decide) ?_
  obtain ⟨h_22, e_23⟩ : ∃ z, z = h_17.set (o) (.inr (7, [.ref (n0 + 0), .int 0, .int 0, .int (-1), .null, .int 0, .null, .int 0])) := ⟨_, rfl⟩
  refine J_put (C := RX7) (T := TX7) (Z := 8) (ci := 7) (f := 3) (ty0 := tyX7) dX7_init_25 inG7 rfl tyX7_ok nmX7 (by decide) k192 rfl rfl f_19 (Nat.le_of_ble_eq_true rfl) (fun _ _ => ⟨rfl, rfl⟩) e_23.symm ?_
  have f_24 := a_set e_23 f_19
  have l_25 : h_22.length = n0 + 1 := l_set e_23 l_20
  have r_26 := r_set (N := n0 + 1) e_23
  refine J_aload_n (i := 0) (j := 0) dX7_init_28 rfl rfl ?_
  refine J_iconst (v := 2) dX7_init_29 (by decide) ?_
  refine J_newq (t := 4) (Z := 2) dX7_init_30 k121 ko4 (fun _ => rfl) (by decide) (by decide) (by decide) (hk1 hn l_25) (by decide) (by decide) ?_
  obtain ⟨h_27, e_28⟩ : ∃ z, z = h_22 ++ [(.inl (4, 2, .inr (.inr (fun _ => none))))] := ⟨_, rfl⟩
  refine J_w e_28.symm ?_
  refine J_cr (v := n0 + 1) l_25 ?_
  have f_29 := a_push e_28 l_25
  have l_30 : h_27.length = n0 + 2 := l_push e_28 l_25 rfl
  have r_31 := r_push (a := n0 + 1) e_28 l_25
  have f_32 := (r_31 (o) (Nat.lt_of_lt_of_le hol (Nat.le_add_right _ _)) (Nat.ne_of_lt (Nat.lt_of_lt_of_le hol (Nat.le_add_right _ _)))).trans f_24
  obtain ⟨h_33, e_34⟩ : ∃ z, z = h_27.set (o) (.inr (7, [.ref (n0 + 0), .int 0, .int 0, .int (-1), .ref (n0 + 1), .int 0, .null, .int 0])) := ⟨_, rfl⟩
  refine J_putF (C := RX7) (T := TX7) (Z := 8) (ci := 7) (f := 4) (ty0 := tyX7) dX7_init_33 inG7 rfl tyX7_ok nmX7 (by decide) k194 rfl rfl rfl rfl f_32 (Nat.le_of_ble_eq_true rfl) (fun _ _ => ⟨rfl, rfl⟩) e_34.symm ?_
  have f_35 := a_set e_34 f_32
  have l_36 : h_33.length = n0 + 2 := l_set e_34 l_30
  have r_37 := r_set (N := n0 + 2) e_34
  refine J_aload_n (i := 0) (j := 0) dX7_init_36 rfl rfl ?_
  refine J_iconst (v := 0) dX7_init_37 (by decide) ?_
  obtain ⟨h_38, e_39⟩ : ∃ z, z = h_33.set (o) (.inr (7, [.ref (n0 + 0), .int 0, .int 0, .int (-1), .ref (n0 + 1), .int 0, .null, .int 0])) := ⟨_, rfl⟩
  refine J_put (C := RX7) (T := TX7) (Z := 8) (ci := 7) (f := 5) (ty0 := tyX7) dX7_init_38 inG7 rfl tyX7_ok nmX7 (by decide) k196 rfl rfl f_35 (Nat.le_of_ble_eq_true rfl) (fun _ _ => ⟨rfl, rfl⟩) e_39.symm ?_
  have f_40 := a_set e_39 f_35
  have l_41 : h_38.length = n0 + 2 := l_set e_39 l_36
  have r_42 := r_set (N := n0 + 2) e_39
  refine J_aload_n (i := 0) (j := 0) dX7_init_41 rfl rfl ?_
  refine J_iconst (v := 3) dX7_init_42 (by decide) ?_
  refine J_newq (t := 6) (Z := 3) dX7_init_43 k123 ko6 (fun _ => rfl) (by decide) (by decide) (by decide) (hk1 hn l_41) (by decide) (by decide) ?_
  obtain ⟨h_43, e_44⟩ : ∃ z, z = h_38 ++ [(.inl (6, 3, .inr (.inr (fun _ => none))))] := ⟨_, rfl⟩
  refine J_w e_44.symm ?_
  refine J_cr (v := n0 + 2) l_41 ?_
  have f_45 := a_push e_44 l_41
  have l_46 : h_43.length = n0 + 3 := l_push e_44 l_41 rfl
  have r_47 := r_push (a := n0 + 2) e_44 l_41
  have f_48 := (r_47 (o) (Nat.lt_of_lt_of_le hol (Nat.le_add_right _ _)) (Nat.ne_of_lt (Nat.lt_of_lt_of_le hol (Nat.le_add_right _ _)))).trans f_40
  obtain ⟨h_49, e_50⟩ : ∃ z, z = h_43.set (o) (.inr (7, [.ref (n0 + 0), .int 0, .int 0, .int (-1), .ref (n0 + 1), .int 0, .ref (n0 + 2), .int 0])) := ⟨_, rfl⟩
  refine J_putF (C := RX7) (T := TX7) (Z := 8) (ci := 7) (f := 6) (ty0 := tyX7) dX7_init_46 inG7 rfl tyX7_ok nmX7 (by decide) k198 rfl rfl rfl rfl f_48 (Nat.le_of_ble_eq_true rfl) (fun _ _ => ⟨rfl, rfl⟩) e_50.symm ?_
  have f_51 := a_set e_50 f_48
  have l_52 : h_49.length = n0 + 3 := l_set e_50 l_46
  have r_53 := r_set (N := n0 + 3) e_50
  refine J_aload_n (i := 0) (j := 0) dX7_init_49 rfl rfl ?_
  refine J_iconst (v := 0) dX7_init_50 (by decide) ?_
  obtain ⟨h_54, e_55⟩ : ∃ z, z = h_49.set (o) (.inr (7, [.ref (n0 + 0), .int 0, .int 0, .int (-1), .ref (n0 + 1), .int 0, .ref (n0 + 2), .int 0])) := ⟨_, rfl⟩
  refine J_put (C := RX7) (T := TX7) (Z := 8) (ci := 7) (f := 7) (ty0 := tyX7) dX7_init_51 inG7 rfl tyX7_ok nmX7 (by decide) k200 rfl rfl f_51 (Nat.le_of_ble_eq_true rfl) (fun _ _ => ⟨rfl, rfl⟩) e_55.symm ?_
  have f_56 := a_set e_55 f_51
  have l_57 : h_54.length = n0 + 3 := l_set e_55 l_52
  have r_58 := r_set (N := n0 + 3) e_55
  refine J_iconst (v := 0) dX7_init_54 (by decide) ?_
  refine J_istore_n (i := 1) (lw := [(1, .int 0), (0, .ref o)]) dX7_init_55 rfl (by decide) rfl ?_
  refine J_iload_n (i := 1) (j := 0) dX7_init_56 rfl rfl ?_
  refine J_iconst (v := 2) dX7_init_57 (by decide) ?_
  refine J_icmp_ge (tgt := 80) dX7_init_58 (by decide) (fun q => absurd q (by decide)) (fun _ => ?_)
  refine J_aload_n (i := 0) (j := 1) dX7_init_61 rfl rfl ?_
  refine J_get (C := RX7) (T := TX7) (Z := 8) (ci := 7) (f := 4) dX7_init_62 inG7 rfl (by decide) k194 f_56 rfl ?_
  refine J_iload_n (i := 1) (j := 0) dX7_init_65 rfl rfl ?_
  refine J_new (C := RX1) (T := TX1) (Z := 6) (ci := 1) (fs := [.int 0, .null, .int 0, .null, .null, .null]) (ty0 := tyX1) dX7_init_66 inG1 rfl tyX1_ok k121 k125 k89 fsX1 (hk1 hn l_57) (by decide) (by decide) ?_
  obtain ⟨h_59, e_60⟩ : ∃ z, z = h_54 ++ [(.inr (1, [.int 0, .null, .int 0, .null, .null, .null]))] := ⟨_, rfl⟩
  refine J_w e_60.symm ?_
  refine J_cr (v := n0 + 3) l_57 ?_
  have f_61 := a_push e_60 l_57
  have l_62 : h_59.length = n0 + 4 := l_push e_60 l_57 rfl
  have r_63 := r_push (a := n0 + 3) e_60 l_57
  refine J_dup dX7_init_69 rfl ?_
  refine J_callIN (As := []) (rest := [.ref (n0 + 3), .int 0, .ref (n0 + 1)]) dX7_init_70 (c_X1_init (d := 1) (h := h_59) (o := n0 + 3) (n0 := n0 + 4) (by decide) l_62 f_61) hq.n k126 k127 rfl rfl k89 k128 np_X1_init (Nat.le_trans (by decide) hd) (by decide) (by decide) (by decide) (hk1 hn l_62) rfl (Nat.le_of_ble_eq_true rfl) (fun r_64 h_65 p_66 => ?_)
  obtain ⟨rfl, l_67, f_68, b_69, r_70⟩ := p_66
  have l_71 : h_65.length = n0 + 8 := l_67
  have f_72 := (r_37 (n0 + 1) (nal rfl) (Nat.ne_of_gt (Nat.lt_of_lt_of_le hol (Nat.le_add_right _ _)))).trans f_29
  have f_73 := (r_42 (n0 + 1) (nal rfl) (Nat.ne_of_gt (Nat.lt_of_lt_of_le hol (Nat.le_add_right _ _)))).trans f_72
  have f_74 := (r_47 (n0 + 1) (nal rfl) (nan rfl)).trans f_73
  have f_75 := (r_53 (n0 + 1) (nal rfl) (Nat.ne_of_gt (Nat.lt_of_lt_of_le hol (Nat.le_add_right _ _)))).trans f_74
  have f_76 := (r_58 (n0 + 1) (nal rfl) (Nat.ne_of_gt (Nat.lt_of_lt_of_le hol (Nat.le_add_right _ _)))).trans f_75
  have f_77 := (r_63 (n0 + 1) (nal rfl) (nan rfl)).trans f_76
  have f_78 := (r_70 (n0 + 1) (nal rfl) (nan rfl)).trans f_77
  obtain ⟨h_79, e_80⟩ : ∃ z, z = h_65.set (n0 + 1) (.inl (4, 2, .inr (.inr (va_up (fun _ => none) ((0 : Int32).toNatClampNeg) (some (n0 + 3)))))) := ⟨_, rfl⟩
  refine J_aast (r := (RX1, TX1, 6)) dX7_init_73 f_78 (fun _ => rfl) f_68 rfl (vp_c (by decide)) e_80.symm ?_
  have f_81 := a_set e_80 f_78
  have l_82 : h_79.length = n0 + 8 := l_set e_80 l_71
  have r_83 := r_set (N := n0 + 8) e_80
  refine J_iinc (i := 1) (j := 0) (v := 1) (lw := [(1, .int 1), (0, .ref o)]) dX7_init_74 rfl (by decide) (by decide) rfl ?_
  refine J_goto (tgt := 56) dX7_init_77 (by decide) ?_
  refine J_iload_n (i := 1) (j := 0) dX7_init_56 rfl rfl ?_
  refine J_iconst (v := 2) dX7_init_57 (by decide) ?_
  refine J_icmp_ge (tgt := 80) dX7_init_58 (by decide) (fun q => absurd q (by decide)) (fun _ => ?_)
  refine J_aload_n (i := 0) (j := 1) dX7_init_61 rfl rfl ?_
  have f_84 := (r_63 (o) (Nat.lt_of_lt_of_le hol (Nat.le_add_right _ _)) (Nat.ne_of_lt (Nat.lt_of_lt_of_le hol (Nat.le_add_right _ _)))).trans f_56
  have f_85 := (r_70 (o) (Nat.lt_of_lt_of_le hol (Nat.le_add_right _ _)) (Nat.ne_of_lt (Nat.lt_of_lt_of_le hol (Nat.le_add_right _ _)))).trans f_84
  have f_86 := (r_83 (o) (Nat.lt_of_lt_of_le hol (Nat.le_add_right _ _)) (Nat.ne_of_lt (Nat.lt_of_lt_of_le hol (Nat.le_add_right _ _)))).trans f_85
  refine J_get (C := RX7) (T := TX7) (Z := 8) (ci := 7) (f := 4) dX7_init_62 inG7 rfl (by decide) k194 f_86 rfl ?_
  refine J_iload_n (i := 1) (j := 0) dX7_init_65 rfl rfl ?_
  refine J_new (C := RX1) (T := TX1) (Z := 6) (ci := 1) (fs := [.int 0, .null, .int 0, .null, .null, .null]) (ty0 := tyX1) dX7_init_66 inG1 rfl tyX1_ok k121 k125 k89 fsX1 (hk1 hn l_82) (by decide) (by decide) ?_
  obtain ⟨h_87, e_88⟩ : ∃ z, z = h_79 ++ [(.inr (1, [.int 0, .null, .int 0, .null, .null, .null]))] := ⟨_, rfl⟩
  refine J_w e_88.symm ?_
  refine J_cr (v := n0 + 8) l_82 ?_
  have f_89 := a_push e_88 l_82
  have l_90 : h_87.length = n0 + 9 := l_push e_88 l_82 rfl
  have r_91 := r_push (a := n0 + 8) e_88 l_82
  refine J_dup dX7_init_69 rfl ?_
  refine J_callIN (As := []) (rest := [.ref (n0 + 8), .int 1, .ref (n0 + 1)]) dX7_init_70 (c_X1_init (d := 1) (h := h_87) (o := n0 + 8) (n0 := n0 + 9) (by decide) l_90 f_89) hq.n k126 k127 rfl rfl k89 k128 np_X1_init (Nat.le_trans (by decide) hd) (by decide) (by decide) (by decide) (hk1 hn l_90) rfl (Nat.le_of_ble_eq_true rfl) (fun r_92 h_93 p_94 => ?_)
  obtain ⟨rfl, l_95, f_96, b_97, r_98⟩ := p_94
  have l_99 : h_93.length = n0 + 13 := l_95
  have f_100 := (r_91 (n0 + 1) (nal rfl) (nan rfl)).trans f_81
  have f_101 := (r_98 (n0 + 1) (nal rfl) (nan rfl)).trans f_100
  obtain ⟨h_102, e_103⟩ : ∃ z, z = h_93.set (n0 + 1) (.inl (4, 2, .inr (.inr (va_up (va_up (fun _ => none) ((0 : Int32).toNatClampNeg) (some (n0 + 3))) ((1 : Int32).toNatClampNeg) (some (n0 + 8)))))) := ⟨_, rfl⟩
  refine J_aast (r := (RX1, TX1, 6)) dX7_init_73 f_101 (fun _ => rfl) f_96 rfl (vp_c (by decide)) e_103.symm ?_
  have f_104 := a_set e_103 f_101
  have l_105 : h_102.length = n0 + 13 := l_set e_103 l_99
  have r_106 := r_set (N := n0 + 13) e_103
  refine J_iinc (i := 1) (j := 0) (v := 2) (lw := [(1, .int 2), (0, .ref o)]) dX7_init_74 rfl (by decide) (by decide) rfl ?_
  refine J_goto (tgt := 56) dX7_init_77 (by decide) ?_
  refine J_iload_n (i := 1) (j := 0) dX7_init_56 rfl rfl ?_
  refine J_iconst (v := 2) dX7_init_57 (by decide) ?_
  refine J_icmp_ge (tgt := 80) dX7_init_58 (by decide) (fun _ => ?_) (fun q => absurd (by decide) q)
  refine J_iconst (v := 0) dX7_init_80 (by decide) ?_
  refine J_istore_n (i := 1) (lw := [(1, .int 0), (0, .ref o)]) dX7_init_81 rfl (by decide) rfl ?_
  refine J_iload_n (i := 1) (j := 0) dX7_init_82 rfl rfl ?_
  refine J_iconst (v := 3) dX7_init_83 (by decide) ?_
  refine J_icmp_ge (tgt := 106) dX7_init_84 (by decide) (fun q => absurd q (by decide)) (fun _ => ?_)
  refine J_aload_n (i := 0) (j := 1) dX7_init_87 rfl rfl ?_
  have f_107 := (r_91 (o) (Nat.lt_of_lt_of_le hol (Nat.le_add_right _ _)) (Nat.ne_of_lt (Nat.lt_of_lt_of_le hol (Nat.le_add_right _ _)))).trans f_86
  have f_108 := (r_98 (o) (Nat.lt_of_lt_of_le hol (Nat.le_add_right _ _)) (Nat.ne_of_lt (Nat.lt_of_lt_of_le hol (Nat.le_add_right _ _)))).trans f_107
  have f_109 := (r_106 (o) (Nat.lt_of_lt_of_le hol (Nat.le_add_right _ _)) (Nat.ne_of_lt (Nat.lt_of_lt_of_le hol (Nat.le_add_right _ _)))).trans f_108
  refine J_get (C := RX7) (T := TX7) (Z := 8) (ci := 7) (f := 6) dX7_init_88 inG7 rfl (by decide) k198 f_109 rfl ?_
  refine J_iload_n (i := 1) (j := 0) dX7_init_91 rfl rfl ?_
  refine J_new (C := RX8) (T := TX8) (Z := 4) (ci := 8) (fs := [.int 0, .null, .null, .null]) (ty0 := tyX8) dX7_init_92 inG8 rfl tyX8_ok k123 k163 k90 fsX8 (hk1 hn l_105) (by decide) (by decide) ?_
  obtain ⟨h_110, e_111⟩ : ∃ z, z = h_102 ++ [(.inr (8, [.int 0, .null, .null, .null]))] := ⟨_, rfl⟩
  refine J_w e_111.symm ?_
  refine J_cr (v := n0 + 13) l_105 ?_
  have f_112 := a_push e_111 l_105
  have l_113 : h_110.length = n0 + 14 := l_push e_111 l_105 rfl
  have r_114 := r_push (a := n0 + 13) e_111 l_105
  refine J_dup dX7_init_95 rfl ?_
  refine J_callIN (As := []) (rest := [.ref (n0 + 13), .int 0, .ref (n0 + 2)]) dX7_init_96 (c_X8_init (d := 1) (h := h_110) (o := n0 + 13) (n0 := n0 + 14) (by decide) l_113 f_112) hq.n k164 k165 rfl rfl k90 k166 np_X8_init (Nat.le_trans (by decide) hd) (by decide) (by decide) (by decide) (hk1 hn l_113) rfl (Nat.le_of_ble_eq_true rfl) (fun r_115 h_116 p_117 => ?_)
  obtain ⟨rfl, l_118, f_119, b_120, r_121⟩ := p_117
  have l_122 : h_116.length = n0 + 17 := l_118
  have f_123 := (r_53 (n0 + 2) (nal rfl) (Nat.ne_of_gt (Nat.lt_of_lt_of_le hol (Nat.le_add_right _ _)))).trans f_45
  have f_124 := (r_58 (n0 + 2) (nal rfl) (Nat.ne_of_gt (Nat.lt_of_lt_of_le hol (Nat.le_add_right _ _)))).trans f_123
  have f_125 := (r_63 (n0 + 2) (nal rfl) (nan rfl)).trans f_124
  have f_126 := (r_70 (n0 + 2) (nal rfl) (nan rfl)).trans f_125
  have f_127 := (r_83 (n0 + 2) (nal rfl) (nan rfl)).trans f_126
  have f_128 := (r_91 (n0 + 2) (nal rfl) (nan rfl)).trans f_127
  have f_129 := (r_98 (n0 + 2) (nal rfl) (nan rfl)).trans f_128
  have f_130 := (r_106 (n0 + 2) (nal rfl) (nan rfl)).trans f_129
  have f_131 := (r_114 (n0 + 2) (nal rfl) (nan rfl)).trans f_130
  have f_132 := (r_121 (n0 + 2) (nal rfl) (nan rfl)).trans f_131
  obtain ⟨h_133, e_134⟩ : ∃ z, z = h_116.set (n0 + 2) (.inl (6, 3, .inr (.inr (va_up (fun _ => none) ((0 : Int32).toNatClampNeg) (some (n0 + 13)))))) := ⟨_, rfl⟩
  refine J_aast (r := (RX8, TX8, 4)) dX7_init_99 f_132 (fun _ => rfl) f_119 rfl (vp_c (by decide)) e_134.symm ?_
  have f_135 := a_set e_134 f_132
  have l_136 : h_133.length = n0 + 17 := l_set e_134 l_122
  have r_137 := r_set (N := n0 + 17) e_134
  refine J_iinc (i := 1) (j := 0) (v := 1) (lw := [(1, .int 1), (0, .ref o)]) dX7_init_100 rfl (by decide) (by decide) rfl ?_
  refine J_goto (tgt := 82) dX7_init_103 (by decide) ?_
  refine J_iload_n (i := 1) (j := 0) dX7_init_82 rfl rfl ?_
  refine J_iconst (v := 3) dX7_init_83 (by decide) ?_
  refine J_icmp_ge (tgt := 106) dX7_init_84 (by decide) (fun q => absurd q (by decide)) (fun _ => ?_)
  refine J_aload_n (i := 0) (j := 1) dX7_init_87 rfl rfl ?_
  have f_138 := (r_114 (o) (Nat.lt_of_lt_of_le hol (Nat.le_add_right _ _)) (Nat.ne_of_lt (Nat.lt_of_lt_of_le hol (Nat.le_add_right _ _)))).trans f_109
  have f_139 := (r_121 (o) (Nat.lt_of_lt_of_le hol (Nat.le_add_right _ _)) (Nat.ne_of_lt (Nat.lt_of_lt_of_le hol (Nat.le_add_right _ _)))).trans f_138
  have f_140 := (r_137 (o) (Nat.lt_of_lt_of_le hol (Nat.le_add_right _ _)) (Nat.ne_of_lt (Nat.lt_of_lt_of_le hol (Nat.le_add_right _ _)))).trans f_139
  refine J_get (C := RX7) (T := TX7) (Z := 8) (ci := 7) (f := 6) dX7_init_88 inG7 rfl (by decide) k198 f_140 rfl ?_
  refine J_iload_n (i := 1) (j := 0) dX7_init_91 rfl rfl ?_
  refine J_new (C := RX8) (T := TX8) (Z := 4) (ci := 8) (fs := [.int 0, .null, .null, .null]) (ty0 := tyX8) dX7_init_92 inG8 rfl tyX8_ok k123 k163 k90 fsX8 (hk1 hn l_136) (by decide) (by decide) ?_
  obtain ⟨h_141, e_142⟩ : ∃ z, z = h_133 ++ [(.inr (8, [.int 0, .null, .null, .null]))] := ⟨_, rfl⟩
  refine J_w e_142.symm ?_
  refine J_cr (v := n0 + 17) l_136 ?_
  have f_143 := a_push e_142 l_136
  have l_144 : h_141.length = n0 + 18 := l_push e_142 l_136 rfl
  have r_145 := r_push (a := n0 + 17) e_142 l_136
  refine J_dup dX7_init_95 rfl ?_
  refine J_callIN (As := []) (rest := [.ref (n0 + 17), .int 1, .ref (n0 + 2)]) dX7_init_96 (c_X8_init (d := 1) (h := h_141) (o := n0 + 17) (n0 := n0 + 18) (by decide) l_144 f_143) hq.n k164 k165 rfl rfl k90 k166 np_X8_init (Nat.le_trans (by decide) hd) (by decide) (by decide) (by decide) (hk1 hn l_144) rfl (Nat.le_of_ble_eq_true rfl) (fun r_146 h_147 p_148 => ?_)
  obtain ⟨rfl, l_149, f_150, b_151, r_152⟩ := p_148
  have l_153 : h_147.length = n0 + 21 := l_149
  have f_154 := (r_145 (n0 + 2) (nal rfl) (nan rfl)).trans f_135
  have f_155 := (r_152 (n0 + 2) (nal rfl) (nan rfl)).trans f_154
  obtain ⟨h_156, e_157⟩ : ∃ z, z = h_147.set (n0 + 2) (.inl (6, 3, .inr (.inr (va_up (va_up (fun _ => none) ((0 : Int32).toNatClampNeg) (some (n0 + 13))) ((1 : Int32).toNatClampNeg) (some (n0 + 17)))))) := ⟨_, rfl⟩
  refine J_aast (r := (RX8, TX8, 4)) dX7_init_99 f_155 (fun _ => rfl) f_150 rfl (vp_c (by decide)) e_157.symm ?_
  have f_158 := a_set e_157 f_155
  have l_159 : h_156.length = n0 + 21 := l_set e_157 l_153
  have r_160 := r_set (N := n0 + 21) e_157
  refine J_iinc (i := 1) (j := 0) (v := 2) (lw := [(1, .int 2), (0, .ref o)]) dX7_init_100 rfl (by decide) (by decide) rfl ?_
  refine J_goto (tgt := 82) dX7_init_103 (by decide) ?_
  refine J_iload_n (i := 1) (j := 0) dX7_init_82 rfl rfl ?_
  refine J_iconst (v := 3) dX7_init_83 (by decide) ?_
  refine J_icmp_ge (tgt := 106) dX7_init_84 (by decide) (fun q => absurd q (by decide)) (fun _ => ?_)
  refine J_aload_n (i := 0) (j := 1) dX7_init_87 rfl rfl ?_
  have f_161 := (r_145 (o) (Nat.lt_of_lt_of_le hol (Nat.le_add_right _ _)) (Nat.ne_of_lt (Nat.lt_of_lt_of_le hol (Nat.le_add_right _ _)))).trans f_140
  have f_162 := (r_152 (o) (Nat.lt_of_lt_of_le hol (Nat.le_add_right _ _)) (Nat.ne_of_lt (Nat.lt_of_lt_of_le hol (Nat.le_add_right _ _)))).trans f_161
  have f_163 := (r_160 (o) (Nat.lt_of_lt_of_le hol (Nat.le_add_right _ _)) (Nat.ne_of_lt (Nat.lt_of_lt_of_le hol (Nat.le_add_right _ _)))).trans f_162
  refine J_get (C := RX7) (T := TX7) (Z := 8) (ci := 7) (f := 6) dX7_init_88 inG7 rfl (by decide) k198 f_163 rfl ?_
  refine J_iload_n (i := 1) (j := 0) dX7_init_91 rfl rfl ?_
  refine J_new (C := RX8) (T := TX8) (Z := 4) (ci := 8) (fs := [.int 0, .null, .null, .null]) (ty0 := tyX8) dX7_init_92 inG8 rfl tyX8_ok k123 k163 k90 fsX8 (hk1 hn l_159) (by decide) (by decide) ?_
  obtain ⟨h_164, e_165⟩ : ∃ z, z = h_156 ++ [(.inr (8, [.int 0, .null, .null, .null]))] := ⟨_, rfl⟩
  refine J_w e_165.symm ?_
  refine J_cr (v := n0 + 21) l_159 ?_
  have f_166 := a_push e_165 l_159
  have l_167 : h_164.length = n0 + 22 := l_push e_165 l_159 rfl
  have r_168 := r_push (a := n0 + 21) e_165 l_159
  refine J_dup dX7_init_95 rfl ?_
  refine J_callIN (As := []) (rest := [.ref (n0 + 21), .int 2, .ref (n0 + 2)]) dX7_init_96 (c_X8_init (d := 1) (h := h_164) (o := n0 + 21) (n0 := n0 + 22) (by decide) l_167 f_166) hq.n k164 k165 rfl rfl k90 k166 np_X8_init (Nat.le_trans (by decide) hd) (by decide) (by decide) (by decide) (hk1 hn l_167) rfl (Nat.le_of_ble_eq_true rfl) (fun r_169 h_170 p_171 => ?_)
  obtain ⟨rfl, l_172, f_173, b_174, r_175⟩ := p_171
  have l_176 : h_170.length = n0 + 25 := l_172
  have f_177 := (r_168 (n0 + 2) (nal rfl) (nan rfl)).trans f_158
  have f_178 := (r_175 (n0 + 2) (nal rfl) (nan rfl)).trans f_177
  obtain ⟨h_179, e_180⟩ : ∃ z, z = h_170.set (n0 + 2) (.inl (6, 3, .inr (.inr (va_up (va_up (va_up (fun _ => none) ((0 : Int32).toNatClampNeg) (some (n0 + 13))) ((1 : Int32).toNatClampNeg) (some (n0 + 17))) ((2 : Int32).toNatClampNeg) (some (n0 + 21)))))) := ⟨_, rfl⟩
  refine J_aast (r := (RX8, TX8, 4)) dX7_init_99 f_178 (fun _ => rfl) f_173 rfl (vp_c (by decide)) e_180.symm ?_
  have f_181 := a_set e_180 f_178
  have l_182 : h_179.length = n0 + 25 := l_set e_180 l_176
  have r_183 := r_set (N := n0 + 25) e_180
  refine J_iinc (i := 1) (j := 0) (v := 3) (lw := [(1, .int 3), (0, .ref o)]) dX7_init_100 rfl (by decide) (by decide) rfl ?_
  refine J_goto (tgt := 82) dX7_init_103 (by decide) ?_
  refine J_iload_n (i := 1) (j := 0) dX7_init_82 rfl rfl ?_
  refine J_iconst (v := 3) dX7_init_83 (by decide) ?_
  refine J_icmp_ge (tgt := 106) dX7_init_84 (by decide) (fun _ => ?_) (fun q => absurd (by decide) q)
  have f_184 := (r_168 (o) (Nat.lt_of_lt_of_le hol (Nat.le_add_right _ _)) (Nat.ne_of_lt (Nat.lt_of_lt_of_le hol (Nat.le_add_right _ _)))).trans f_163
  have f_185 := (r_175 (o) (Nat.lt_of_lt_of_le hol (Nat.le_add_right _ _)) (Nat.ne_of_lt (Nat.lt_of_lt_of_le hol (Nat.le_add_right _ _)))).trans f_184
  have f_186 := (r_183 (o) (Nat.lt_of_lt_of_le hol (Nat.le_add_right _ _)) (Nat.ne_of_lt (Nat.lt_of_lt_of_le hol (Nat.le_add_right _ _)))).trans f_185
  have f_187 := (r_11 (n0 + 0) (nal rfl) (Nat.ne_of_gt (Nat.lt_of_lt_of_le hol (Nat.le_add_right _ _)))).trans f_3
  have f_188 := (r_16 (n0 + 0) (nal rfl) (Nat.ne_of_gt (Nat.lt_of_lt_of_le hol (Nat.le_add_right _ _)))).trans f_187
  have f_189 := (r_21 (n0 + 0) (nal rfl) (Nat.ne_of_gt (Nat.lt_of_lt_of_le hol (Nat.le_add_right _ _)))).trans f_188
  have f_190 := (r_26 (n0 + 0) (nal rfl) (Nat.ne_of_gt (Nat.lt_of_lt_of_le hol (Nat.le_add_right _ _)))).trans f_189
  have f_191 := (r_31 (n0 + 0) (nal rfl) (nan rfl)).trans f_190
  have f_192 := (r_37 (n0 + 0) (nal rfl) (Nat.ne_of_gt (Nat.lt_of_lt_of_le hol (Nat.le_add_right _ _)))).trans f_191
  have f_193 := (r_42 (n0 + 0) (nal rfl) (Nat.ne_of_gt (Nat.lt_of_lt_of_le hol (Nat.le_add_right _ _)))).trans f_192
  have f_194 := (r_47 (n0 + 0) (nal rfl) (nan rfl)).trans f_193
  have f_195 := (r_53 (n0 + 0) (nal rfl) (Nat.ne_of_gt (Nat.lt_of_lt_of_le hol (Nat.le_add_right _ _)))).trans f_194
  have f_196 := (r_58 (n0 + 0) (nal rfl) (Nat.ne_of_gt (Nat.lt_of_lt_of_le hol (Nat.le_add_right _ _)))).trans f_195
  have f_197 := (r_63 (n0 + 0) (nal rfl) (nan rfl)).trans f_196
  have f_198 := (r_70 (n0 + 0) (nal rfl) (nan rfl)).trans f_197
  have f_199 := (r_83 (n0 + 0) (nal rfl) (nan rfl)).trans f_198
  have f_200 := (r_91 (n0 + 0) (nal rfl) (nan rfl)).trans f_199
  have f_201 := (r_98 (n0 + 0) (nal rfl) (nan rfl)).trans f_200
  have f_202 := (r_106 (n0 + 0) (nal rfl) (nan rfl)).trans f_201
  have f_203 := (r_114 (n0 + 0) (nal rfl) (nan rfl)).trans f_202
  have f_204 := (r_121 (n0 + 0) (nal rfl) (nan rfl)).trans f_203
  have f_205 := (r_137 (n0 + 0) (nal rfl) (nan rfl)).trans f_204
  have f_206 := (r_145 (n0 + 0) (nal rfl) (nan rfl)).trans f_205
  have f_207 := (r_152 (n0 + 0) (nal rfl) (nan rfl)).trans f_206
  have f_208 := (r_160 (n0 + 0) (nal rfl) (nan rfl)).trans f_207
  have f_209 := (r_168 (n0 + 0) (nal rfl) (nan rfl)).trans f_208
  have f_210 := (r_175 (n0 + 0) (nal rfl) (nan rfl)).trans f_209
  have f_211 := (r_183 (n0 + 0) (nal rfl) (nan rfl)).trans f_210
  have f_212 := (r_114 (n0 + 1) (nal rfl) (nan rfl)).trans f_104
  have f_213 := (r_121 (n0 + 1) (nal rfl) (nan rfl)).trans f_212
  have f_214 := (r_137 (n0 + 1) (nal rfl) (nan rfl)).trans f_213
  have f_215 := (r_145 (n0 + 1) (nal rfl) (nan rfl)).trans f_214
  have f_216 := (r_152 (n0 + 1) (nal rfl) (nan rfl)).trans f_215
  have f_217 := (r_160 (n0 + 1) (nal rfl) (nan rfl)).trans f_216
  have f_218 := (r_168 (n0 + 1) (nal rfl) (nan rfl)).trans f_217
  have f_219 := (r_175 (n0 + 1) (nal rfl) (nan rfl)).trans f_218
  have f_220 := (r_183 (n0 + 1) (nal rfl) (nan rfl)).trans f_219
  have f_221 := (r_83 (n0 + 3) (nal rfl) (nan rfl)).trans f_68
  have f_222 := (r_91 (n0 + 3) (nal rfl) (nan rfl)).trans f_221
  have f_223 := (r_98 (n0 + 3) (nal rfl) (nan rfl)).trans f_222
  have f_224 := (r_106 (n0 + 3) (nal rfl) (nan rfl)).trans f_223
  have f_225 := (r_114 (n0 + 3) (nal rfl) (nan rfl)).trans f_224
  have f_226 := (r_121 (n0 + 3) (nal rfl) (nan rfl)).trans f_225
  have f_227 := (r_137 (n0 + 3) (nal rfl) (nan rfl)).trans f_226
  have f_228 := (r_145 (n0 + 3) (nal rfl) (nan rfl)).trans f_227
  have f_229 := (r_152 (n0 + 3) (nal rfl) (nan rfl)).trans f_228
  have f_230 := (r_160 (n0 + 3) (nal rfl) (nan rfl)).trans f_229
  have f_231 := (r_168 (n0 + 3) (nal rfl) (nan rfl)).trans f_230
  have f_232 := (r_175 (n0 + 3) (nal rfl) (nan rfl)).trans f_231
  have f_233 := (r_183 (n0 + 3) (nal rfl) (nan rfl)).trans f_232
  have b_234 : At h_79 (n0 + 4) (bk1 (n0 + 4)) := At.fr (m := 4) b_69 bl1 r_83 (bqq rfl) (Or.inl (nal rfl))
  have b_235 : At h_87 (n0 + 4) (bk1 (n0 + 4)) := At.fr (m := 4) b_234 bl1 r_91 (bqq rfl) (Or.inr (bqq rfl))
  have b_236 : At h_93 (n0 + 4) (bk1 (n0 + 4)) := At.fr (m := 4) b_235 bl1 r_98 (bqq rfl) (Or.inr (bqq rfl))
  have b_237 : At h_102 (n0 + 4) (bk1 (n0 + 4)) := At.fr (m := 4) b_236 bl1 r_106 (bqq rfl) (Or.inl (nal rfl))
  have b_238 : At h_110 (n0 + 4) (bk1 (n0 + 4)) := At.fr (m := 4) b_237 bl1 r_114 (bqq rfl) (Or.inr (bqq rfl))
  have b_239 : At h_116 (n0 + 4) (bk1 (n0 + 4)) := At.fr (m := 4) b_238 bl1 r_121 (bqq rfl) (Or.inr (bqq rfl))
  have b_240 : At h_133 (n0 + 4) (bk1 (n0 + 4)) := At.fr (m := 4) b_239 bl1 r_137 (bqq rfl) (Or.inl (nal rfl))
  have b_241 : At h_141 (n0 + 4) (bk1 (n0 + 4)) := At.fr (m := 4) b_240 bl1 r_145 (bqq rfl) (Or.inr (bqq rfl))
  have b_242 : At h_147 (n0 + 4) (bk1 (n0 + 4)) := At.fr (m := 4) b_241 bl1 r_152 (bqq rfl) (Or.inr (bqq rfl))
  have b_243 : At h_156 (n0 + 4) (bk1 (n0 + 4)) := At.fr (m := 4) b_242 bl1 r_160 (bqq rfl) (Or.inl (nal rfl))
  have b_244 : At h_164 (n0 + 4) (bk1 (n0 + 4)) := At.fr (m := 4) b_243 bl1 r_168 (bqq rfl) (Or.inr (bqq rfl))
  have b_245 : At h_170 (n0 + 4) (bk1 (n0 + 4)) := At.fr (m := 4) b_244 bl1 r_175 (bqq rfl) (Or.inr (bqq rfl))
  have b_246 : At h_179 (n0 + 4) (bk1 (n0 + 4)) := At.fr (m := 4) b_245 bl1 r_183 (bqq rfl) (Or.inl (nal rfl))
  have f_247 := (r_106 (n0 + 8) (nal rfl) (nan rfl)).trans f_96
  have f_248 := (r_114 (n0 + 8) (nal rfl) (nan rfl)).trans f_247
  have f_249 := (r_121 (n0 + 8) (nal rfl) (nan rfl)).trans f_248
  have f_250 := (r_137 (n0 + 8) (nal rfl) (nan rfl)).trans f_249
  have f_251 := (r_145 (n0 + 8) (nal rfl) (nan rfl)).trans f_250
  have f_252 := (r_152 (n0 + 8) (nal rfl) (nan rfl)).trans f_251
  have f_253 := (r_160 (n0 + 8) (nal rfl) (nan rfl)).trans f_252
  have f_254 := (r_168 (n0 + 8) (nal rfl) (nan rfl)).trans f_253
  have f_255 := (r_175 (n0 + 8) (nal rfl) (nan rfl)).trans f_254
  have f_256 := (r_183 (n0 + 8) (nal rfl) (nan rfl)).trans f_255
  have b_257 : At h_102 (n0 + 9) (bk1 (n0 + 9)) := At.fr (m := 4) b_97 bl1 r_106 (bqq rfl) (Or.inl (nal rfl))
  have b_258 : At h_110 (n0 + 9) (bk1 (n0 + 9)) := At.fr (m := 4) b_257 bl1 r_114 (bqq rfl) (Or.inr (bqq rfl))
  have b_259 : At h_116 (n0 + 9) (bk1 (n0 + 9)) := At.fr (m := 4) b_258 bl1 r_121 (bqq rfl) (Or.inr (bqq rfl))
  have b_260 : At h_133 (n0 + 9) (bk1 (n0 + 9)) := At.fr (m := 4) b_259 bl1 r_137 (bqq rfl) (Or.inl (nal rfl))
  have b_261 : At h_141 (n0 + 9) (bk1 (n0 + 9)) := At.fr (m := 4) b_260 bl1 r_145 (bqq rfl) (Or.inr (bqq rfl))
  have b_262 : At h_147 (n0 + 9) (bk1 (n0 + 9)) := At.fr (m := 4) b_261 bl1 r_152 (bqq rfl) (Or.inr (bqq rfl))
  have b_263 : At h_156 (n0 + 9) (bk1 (n0 + 9)) := At.fr (m := 4) b_262 bl1 r_160 (bqq rfl) (Or.inl (nal rfl))
  have b_264 : At h_164 (n0 + 9) (bk1 (n0 + 9)) := At.fr (m := 4) b_263 bl1 r_168 (bqq rfl) (Or.inr (bqq rfl))
  have b_265 : At h_170 (n0 + 9) (bk1 (n0 + 9)) := At.fr (m := 4) b_264 bl1 r_175 (bqq rfl) (Or.inr (bqq rfl))
  have b_266 : At h_179 (n0 + 9) (bk1 (n0 + 9)) := At.fr (m := 4) b_265 bl1 r_183 (bqq rfl) (Or.inl (nal rfl))
  have f_267 := (r_137 (n0 + 13) (nal rfl) (nan rfl)).trans f_119
  have f_268 := (r_145 (n0 + 13) (nal rfl) (nan rfl)).trans f_267
  have f_269 := (r_152 (n0 + 13) (nal rfl) (nan rfl)).trans f_268
  have f_270 := (r_160 (n0 + 13) (nal rfl) (nan rfl)).trans f_269
  have f_271 := (r_168 (n0 + 13) (nal rfl) (nan rfl)).trans f_270
  have f_272 := (r_175 (n0 + 13) (nal rfl) (nan rfl)).trans f_271
  have f_273 := (r_183 (n0 + 13) (nal rfl) (nan rfl)).trans f_272
  have b_274 : At h_133 (n0 + 14) (bk8 (n0 + 14)) := At.fr (m := 3) b_120 bl8 r_137 (bqq rfl) (Or.inl (nal rfl))
  have b_275 : At h_141 (n0 + 14) (bk8 (n0 + 14)) := At.fr (m := 3) b_274 bl8 r_145 (bqq rfl) (Or.inr (bqq rfl))
  have b_276 : At h_147 (n0 + 14) (bk8 (n0 + 14)) := At.fr (m := 3) b_275 bl8 r_152 (bqq rfl) (Or.inr (bqq rfl))
  have b_277 : At h_156 (n0 + 14) (bk8 (n0 + 14)) := At.fr (m := 3) b_276 bl8 r_160 (bqq rfl) (Or.inl (nal rfl))
  have b_278 : At h_164 (n0 + 14) (bk8 (n0 + 14)) := At.fr (m := 3) b_277 bl8 r_168 (bqq rfl) (Or.inr (bqq rfl))
  have b_279 : At h_170 (n0 + 14) (bk8 (n0 + 14)) := At.fr (m := 3) b_278 bl8 r_175 (bqq rfl) (Or.inr (bqq rfl))
  have b_280 : At h_179 (n0 + 14) (bk8 (n0 + 14)) := At.fr (m := 3) b_279 bl8 r_183 (bqq rfl) (Or.inl (nal rfl))
  have f_281 := (r_160 (n0 + 17) (nal rfl) (nan rfl)).trans f_150
  have f_282 := (r_168 (n0 + 17) (nal rfl) (nan rfl)).trans f_281
  have f_283 := (r_175 (n0 + 17) (nal rfl) (nan rfl)).trans f_282
  have f_284 := (r_183 (n0 + 17) (nal rfl) (nan rfl)).trans f_283
  have b_285 : At h_156 (n0 + 18) (bk8 (n0 + 18)) := At.fr (m := 3) b_151 bl8 r_160 (bqq rfl) (Or.inl (nal rfl))
  have b_286 : At h_164 (n0 + 18) (bk8 (n0 + 18)) := At.fr (m := 3) b_285 bl8 r_168 (bqq rfl) (Or.inr (bqq rfl))
  have b_287 : At h_170 (n0 + 18) (bk8 (n0 + 18)) := At.fr (m := 3) b_286 bl8 r_175 (bqq rfl) (Or.inr (bqq rfl))
  have b_288 : At h_179 (n0 + 18) (bk8 (n0 + 18)) := At.fr (m := 3) b_287 bl8 r_183 (bqq rfl) (Or.inl (nal rfl))
  have f_289 := (r_183 (n0 + 21) (nal rfl) (nan rfl)).trans f_173
  have b_290 : At h_179 (n0 + 22) (bk8 (n0 + 22)) := At.fr (m := 3) b_174 bl8 r_183 (bqq rfl) (Or.inl (nal rfl))
  have hfr : ∀ j, j < n0 → j ≠ o → h_179[j]? = h[j]? := by
    intro j hj hjo
    rw [r_183 j (Nat.lt_of_lt_of_le hj (Nat.le_add_right _ _)) (Nat.ne_of_lt (Nat.lt_of_lt_of_le hj (Nat.le_add_right _ _))), r_175 j (Nat.lt_of_lt_of_le hj (Nat.le_add_right _ _)) (Nat.ne_of_lt (Nat.lt_of_lt_of_le hj (Nat.le_add_right _ _))), r_168 j (Nat.lt_of_lt_of_le hj (Nat.le_add_right _ _)) (Nat.ne_of_lt (Nat.lt_of_lt_of_le hj (Nat.le_add_right _ _))), r_160 j (Nat.lt_of_lt_of_le hj (Nat.le_add_right _ _)) (Nat.ne_of_lt (Nat.lt_of_lt_of_le hj (Nat.le_add_right _ _))), r_152 j (Nat.lt_of_lt_of_le hj (Nat.le_add_right _ _)) (Nat.ne_of_lt (Nat.lt_of_lt_of_le hj (Nat.le_add_right _ _))), r_145 j (Nat.lt_of_lt_of_le hj (Nat.le_add_right _ _)) (Nat.ne_of_lt (Nat.lt_of_lt_of_le hj (Nat.le_add_right _ _))), r_137 j (Nat.lt_of_lt_of_le hj (Nat.le_add_right _ _)) (Nat.ne_of_lt (Nat.lt_of_lt_of_le hj (Nat.le_add_right _ _))), r_121 j (Nat.lt_of_lt_of_le hj (Nat.le_add_right _ _)) (Nat.ne_of_lt (Nat.lt_of_lt_of_le hj (Nat.le_add_right _ _))), r_114 j (Nat.lt_of_lt_of_le hj (Nat.le_add_right _ _)) (Nat.ne_of_lt (Nat.lt_of_lt_of_le hj (Nat.le_add_right _ _))), r_106 j (Nat.lt_of_lt_of_le hj (Nat.le_add_right _ _)) (Nat.ne_of_lt (Nat.lt_of_lt_of_le hj (Nat.le_add_right _ _))), r_98 j (Nat.lt_of_lt_of_le hj (Nat.le_add_right _ _)) (Nat.ne_of_lt (Nat.lt_of_lt_of_le hj (Nat.le_add_right _ _))), r_91 j (Nat.lt_of_lt_of_le hj (Nat.le_add_right _ _)) (Nat.ne_of_lt (Nat.lt_of_lt_of_le hj (Nat.le_add_right _ _))), r_83 j (Nat.lt_of_lt_of_le hj (Nat.le_add_right _ _)) (Nat.ne_of_lt (Nat.lt_of_lt_of_le hj (Nat.le_add_right _ _))), r_70 j (Nat.lt_of_lt_of_le hj (Nat.le_add_right _ _)) (Nat.ne_of_lt (Nat.lt_of_lt_of_le hj (Nat.le_add_right _ _))), r_63 j (Nat.lt_of_lt_of_le hj (Nat.le_add_right _ _)) (Nat.ne_of_lt (Nat.lt_of_lt_of_le hj (Nat.le_add_right _ _))), r_58 j (Nat.lt_of_lt_of_le hj (Nat.le_add_right _ _)) hjo, r_53 j (Nat.lt_of_lt_of_le hj (Nat.le_add_right _ _)) hjo, r_47 j (Nat.lt_of_lt_of_le hj (Nat.le_add_right _ _)) (Nat.ne_of_lt (Nat.lt_of_lt_of_le hj (Nat.le_add_right _ _))), r_42 j (Nat.lt_of_lt_of_le hj (Nat.le_add_right _ _)) hjo, r_37 j (Nat.lt_of_lt_of_le hj (Nat.le_add_right _ _)) hjo, r_31 j (Nat.lt_of_lt_of_le hj (Nat.le_add_right _ _)) (Nat.ne_of_lt (Nat.lt_of_lt_of_le hj (Nat.le_add_right _ _))), r_26 j (Nat.lt_of_lt_of_le hj (Nat.le_add_right _ _)) hjo, r_21 j (Nat.lt_of_lt_of_le hj (Nat.le_add_right _ _)) hjo, r_16 j (Nat.lt_of_lt_of_le hj (Nat.le_add_right _ _)) hjo, r_11 j (Nat.lt_of_lt_of_le hj (Nat.le_add_right _ _)) hjo, r_5 j (Nat.lt_of_lt_of_le hj (Nat.le_add_right _ _)) (Nat.ne_of_lt (Nat.lt_of_lt_of_le hj (Nat.le_add_right _ _)))]
  exact J_vret hq dX7_init_106 rfl (hk1 hn l_182) (by decide) (by decide) ⟨rfl, l_182, f_186, (At_cons f_211 (At_cons f_220 (At_cons f_181 (At_cons f_233 (At_app bl1 b_246 (At_cons f_256 (At_app bl1 b_266 (At_cons f_273 (At_app bl8 b_280 (At_cons f_284 (At_app bl8 b_288 (At_cons f_289 (At_app bl8 b_290 At_nil))))))))))))), hfr⟩
def ob3 (n : Nat) : MC := (.inr (3, [.ref (n + 0), .ref (n + 2), .ref (n + 7), .ref (n + 11), .ref (n + 12), .int 0, .int (-1)]))
def bk3 (n : Nat) : List MC := ob6 (n + 1) :: (bk6 (n + 1) ++ (ob1 (n + 3) :: (bk1 (n + 3) ++ (ob8 (n + 8) :: (bk8 (n + 8) ++ ((.inl (1, 3, .inl (fun _ => 0))) :: ((.inl (1, 3, .inl (fun _ => 0))) :: ([]))))))))
set_option maxRecDepth 100000 in
theorem bl3 {n : Nat} : (bk3 n).length = 13 := rfl
set_option maxHeartbeats 4000000 in
set_option maxRecDepth 100000 in
theorem c_X3_init {d : Nat} {h : List MC} {o n0 : Nat} (hd : 2 ≤ d) (hn : h.length = n0) (ho : h[o]? = some (.inr (3, [.null, .null, .null, .null, .null, .int 0, .int 0]))) : CT con0 d 13 213 yX3_init cX3_init 1 none [.ref o] h (fun r h2 => r = none ∧ h2.length = n0 + 13 ∧ h2[o]? = some (ob3 n0) ∧ At h2 n0 (bk3 n0) ∧ ∀ j, j < n0 → j ≠ o → h2[j]? = h[j]?) := by
  have hol : o < n0 := by rw [← hn]; exact (List.getElem?_eq_some_iff.mp ho).1
  have hn0 : h.length = n0 + 0 := hn
  refine CT_of (by decide) (Nat.le_of_ble_eq_true rfl) (fun x hq => ?_)
  show J x yX3_init cX3_init 1 none d 13 213 h.length 0 [(0, .ref o)] [] h 0 0
  refine J_aload_n (i := 0) (j := 0) dX3_init_0 rfl rfl ?_
  refine J_obj dX3_init_1 k225 k113 k114 (Nat.le_trans (by decide) hd) (Nat.le_of_ble_eq_true rfl) ?_
  refine J_aload_n (i := 0) (j := 0) dX3_init_4 rfl rfl ?_
  refine J_new (C := RX6) (T := TX6) (Z := 6) (ci := 6) (fs := [.null, .int 0, .int 0, .int 0, .int 0, .int 0]) (ty0 := tyX6) dX3_init_5 inG6 rfl tyX6_ok k226 k227 k92 fsX6 (hk1 hn hn0) (by decide) (by decide) ?_
  obtain ⟨h_1, e_2⟩ : ∃ z, z = h ++ [(.inr (6, [.null, .int 0, .int 0, .int 0, .int 0, .int 0]))] := ⟨_, rfl⟩
  refine J_w e_2.symm ?_
  refine J_cr (v := n0 + 0) hn0 ?_
  have f_3 := a_push e_2 hn0
  have l_4 : h_1.length = n0 + 1 := l_push e_2 hn0 rfl
  have r_5 := r_push (a := n0 + 0) e_2 hn0
  refine J_dup dX3_init_8 rfl ?_
  refine J_callIN (As := []) (rest := [.ref (n0 + 0), .ref o]) dX3_init_9 (c_X6_init (d := 1) (h := h_1) (o := n0 + 0) (n0 := n0 + 1) (by decide) l_4 f_3) hq.n k228 k229 rfl rfl k92 k230 np_X6_init (Nat.le_trans (by decide) hd) (by decide) (by decide) (by decide) (hk1 hn l_4) rfl (Nat.le_of_ble_eq_true rfl) (fun r_6 h_7 p_8 => ?_)
  obtain ⟨rfl, l_9, f_10, b_11, r_12⟩ := p_8
  have l_13 : h_7.length = n0 + 2 := l_9
  have f_14 := (r_5 (o) (Nat.lt_of_lt_of_le hol (Nat.le_add_right _ _)) (Nat.ne_of_lt (Nat.lt_of_lt_of_le hol (Nat.le_add_right _ _)))).trans ho
  have f_15 := (r_12 (o) (Nat.lt_of_lt_of_le hol (Nat.le_add_right _ _)) (Nat.ne_of_lt (Nat.lt_of_lt_of_le hol (Nat.le_add_right _ _)))).trans f_14
  obtain ⟨h_16, e_17⟩ : ∃ z, z = h_7.set (o) (.inr (3, [.ref (n0 + 0), .null, .null, .null, .null, .int 0, .int 0])) := ⟨_, rfl⟩
  refine J_putF (C := RX3) (T := TX3) (Z := 7) (ci := 3) (f := 0) (ty0 := tyX3) dX3_init_12 inG3 rfl tyX3_ok nmX3 (by decide) k260 rfl rfl rfl rfl f_15 (Nat.le_of_ble_eq_true rfl) (fun _ _ => ⟨rfl, rfl⟩) e_17.symm ?_
  have f_18 := a_set e_17 f_15
  have l_19 : h_16.length = n0 + 2 := l_set e_17 l_13
  have r_20 := r_set (N := n0 + 2) e_17
  refine J_aload_n (i := 0) (j := 0) dX3_init_15 rfl rfl ?_
  refine J_new (C := RX1) (T := TX1) (Z := 6) (ci := 1) (fs := [.int 0, .null, .int 0, .null, .null, .null]) (ty0 := tyX1) dX3_init_16 inG1 rfl tyX1_ok k256 k125 k89 fsX1 (hk1 hn l_19) (by decide) (by decide) ?_
  obtain ⟨h_21, e_22⟩ : ∃ z, z = h_16 ++ [(.inr (1, [.int 0, .null, .int 0, .null, .null, .null]))] := ⟨_, rfl⟩
  refine J_w e_22.symm ?_
  refine J_cr (v := n0 + 2) l_19 ?_
  have f_23 := a_push e_22 l_19
  have l_24 : h_21.length = n0 + 3 := l_push e_22 l_19 rfl
  have r_25 := r_push (a := n0 + 2) e_22 l_19
  refine J_dup dX3_init_19 rfl ?_
  refine J_callIN (As := []) (rest := [.ref (n0 + 2), .ref o]) dX3_init_20 (c_X1_init (d := 1) (h := h_21) (o := n0 + 2) (n0 := n0 + 3) (by decide) l_24 f_23) hq.n k257 k127 rfl rfl k89 k128 np_X1_init (Nat.le_trans (by decide) hd) (by decide) (by decide) (by decide) (hk1 hn l_24) rfl (Nat.le_of_ble_eq_true rfl) (fun r_26 h_27 p_28 => ?_)
  obtain ⟨rfl, l_29, f_30, b_31, r_32⟩ := p_28
  have l_33 : h_27.length = n0 + 7 := l_29
  have f_34 := (r_25 (o) (Nat.lt_of_lt_of_le hol (Nat.le_add_right _ _)) (Nat.ne_of_lt (Nat.lt_of_lt_of_le hol (Nat.le_add_right _ _)))).trans f_18
  have f_35 := (r_32 (o) (Nat.lt_of_lt_of_le hol (Nat.le_add_right _ _)) (Nat.ne_of_lt (Nat.lt_of_lt_of_le hol (Nat.le_add_right _ _)))).trans f_34
  obtain ⟨h_36, e_37⟩ : ∃ z, z = h_27.set (o) (.inr (3, [.ref (n0 + 0), .ref (n0 + 2), .null, .null, .null, .int 0, .int 0])) := ⟨_, rfl⟩
  refine J_putF (C := RX3) (T := TX3) (Z := 7) (ci := 3) (f := 1) (ty0 := tyX3) dX3_init_23 inG3 rfl tyX3_ok nmX3 (by decide) k261 rfl rfl rfl rfl f_35 (Nat.le_of_ble_eq_true rfl) (fun _ _ => ⟨rfl, rfl⟩) e_37.symm ?_
  have f_38 := a_set e_37 f_35
  have l_39 : h_36.length = n0 + 7 := l_set e_37 l_33
  have r_40 := r_set (N := n0 + 7) e_37
  refine J_aload_n (i := 0) (j := 0) dX3_init_26 rfl rfl ?_
  refine J_new (C := RX8) (T := TX8) (Z := 4) (ci := 8) (fs := [.int 0, .null, .null, .null]) (ty0 := tyX8) dX3_init_27 inG8 rfl tyX8_ok k258 k163 k90 fsX8 (hk1 hn l_39) (by decide) (by decide) ?_
  obtain ⟨h_41, e_42⟩ : ∃ z, z = h_36 ++ [(.inr (8, [.int 0, .null, .null, .null]))] := ⟨_, rfl⟩
  refine J_w e_42.symm ?_
  refine J_cr (v := n0 + 7) l_39 ?_
  have f_43 := a_push e_42 l_39
  have l_44 : h_41.length = n0 + 8 := l_push e_42 l_39 rfl
  have r_45 := r_push (a := n0 + 7) e_42 l_39
  refine J_dup dX3_init_30 rfl ?_
  refine J_callIN (As := []) (rest := [.ref (n0 + 7), .ref o]) dX3_init_31 (c_X8_init (d := 1) (h := h_41) (o := n0 + 7) (n0 := n0 + 8) (by decide) l_44 f_43) hq.n k259 k165 rfl rfl k90 k166 np_X8_init (Nat.le_trans (by decide) hd) (by decide) (by decide) (by decide) (hk1 hn l_44) rfl (Nat.le_of_ble_eq_true rfl) (fun r_46 h_47 p_48 => ?_)
  obtain ⟨rfl, l_49, f_50, b_51, r_52⟩ := p_48
  have l_53 : h_47.length = n0 + 11 := l_49
  have f_54 := (r_45 (o) (Nat.lt_of_lt_of_le hol (Nat.le_add_right _ _)) (Nat.ne_of_lt (Nat.lt_of_lt_of_le hol (Nat.le_add_right _ _)))).trans f_38
  have f_55 := (r_52 (o) (Nat.lt_of_lt_of_le hol (Nat.le_add_right _ _)) (Nat.ne_of_lt (Nat.lt_of_lt_of_le hol (Nat.le_add_right _ _)))).trans f_54
  obtain ⟨h_56, e_57⟩ : ∃ z, z = h_47.set (o) (.inr (3, [.ref (n0 + 0), .ref (n0 + 2), .ref (n0 + 7), .null, .null, .int 0, .int 0])) := ⟨_, rfl⟩
  refine J_putF (C := RX3) (T := TX3) (Z := 7) (ci := 3) (f := 2) (ty0 := tyX3) dX3_init_34 inG3 rfl tyX3_ok nmX3 (by decide) k263 rfl rfl rfl rfl f_55 (Nat.le_of_ble_eq_true rfl) (fun _ _ => ⟨rfl, rfl⟩) e_57.symm ?_
  have f_58 := a_set e_57 f_55
  have l_59 : h_56.length = n0 + 11 := l_set e_57 l_53
  have r_60 := r_set (N := n0 + 11) e_57
  refine J_aload_n (i := 0) (j := 0) dX3_init_37 rfl rfl ?_
  refine J_iconst (v := 3) dX3_init_38 (by decide) ?_
  refine J_newa1 (Z := 3) dX3_init_39 ka1 (by decide) (by decide) (by decide) (hk1 hn l_59) (by decide) (by decide) ?_
  obtain ⟨h_61, e_62⟩ : ∃ z, z = h_56 ++ [(.inl (1, 3, .inl (fun _ => 0)))] := ⟨_, rfl⟩
  refine J_w e_62.symm ?_
  refine J_cr (v := n0 + 11) l_59 ?_
  have f_63 := a_push e_62 l_59
  have l_64 : h_61.length = n0 + 12 := l_push e_62 l_59 rfl
  have r_65 := r_push (a := n0 + 11) e_62 l_59
  have f_66 := (r_65 (o) (Nat.lt_of_lt_of_le hol (Nat.le_add_right _ _)) (Nat.ne_of_lt (Nat.lt_of_lt_of_le hol (Nat.le_add_right _ _)))).trans f_58
  obtain ⟨h_67, e_68⟩ : ∃ z, z = h_61.set (o) (.inr (3, [.ref (n0 + 0), .ref (n0 + 2), .ref (n0 + 7), .ref (n0 + 11), .null, .int 0, .int 0])) := ⟨_, rfl⟩
  refine J_putF (C := RX3) (T := TX3) (Z := 7) (ci := 3) (f := 3) (ty0 := tyX3) dX3_init_41 inG3 rfl tyX3_ok nmX3 (by decide) k265 rfl rfl rfl rfl f_66 (Nat.le_of_ble_eq_true rfl) (fun _ _ => ⟨rfl, rfl⟩) e_68.symm ?_
  have f_69 := a_set e_68 f_66
  have l_70 : h_67.length = n0 + 12 := l_set e_68 l_64
  have r_71 := r_set (N := n0 + 12) e_68
  refine J_aload_n (i := 0) (j := 0) dX3_init_44 rfl rfl ?_
  refine J_iconst (v := 3) dX3_init_45 (by decide) ?_
  refine J_newa1 (Z := 3) dX3_init_46 ka1 (by decide) (by decide) (by decide) (hk1 hn l_70) (by decide) (by decide) ?_
  obtain ⟨h_72, e_73⟩ : ∃ z, z = h_67 ++ [(.inl (1, 3, .inl (fun _ => 0)))] := ⟨_, rfl⟩
  refine J_w e_73.symm ?_
  refine J_cr (v := n0 + 12) l_70 ?_
  have f_74 := a_push e_73 l_70
  have l_75 : h_72.length = n0 + 13 := l_push e_73 l_70 rfl
  have r_76 := r_push (a := n0 + 12) e_73 l_70
  have f_77 := (r_76 (o) (Nat.lt_of_lt_of_le hol (Nat.le_add_right _ _)) (Nat.ne_of_lt (Nat.lt_of_lt_of_le hol (Nat.le_add_right _ _)))).trans f_69
  obtain ⟨h_78, e_79⟩ : ∃ z, z = h_72.set (o) (.inr (3, [.ref (n0 + 0), .ref (n0 + 2), .ref (n0 + 7), .ref (n0 + 11), .ref (n0 + 12), .int 0, .int 0])) := ⟨_, rfl⟩
  refine J_putF (C := RX3) (T := TX3) (Z := 7) (ci := 3) (f := 4) (ty0 := tyX3) dX3_init_48 inG3 rfl tyX3_ok nmX3 (by decide) k266 rfl rfl rfl rfl f_77 (Nat.le_of_ble_eq_true rfl) (fun _ _ => ⟨rfl, rfl⟩) e_79.symm ?_
  have f_80 := a_set e_79 f_77
  have l_81 : h_78.length = n0 + 13 := l_set e_79 l_75
  have r_82 := r_set (N := n0 + 13) e_79
  refine J_aload_n (i := 0) (j := 0) dX3_init_51 rfl rfl ?_
  refine J_iconst (v := 0) dX3_init_52 (by decide) ?_
  obtain ⟨h_83, e_84⟩ : ∃ z, z = h_78.set (o) (.inr (3, [.ref (n0 + 0), .ref (n0 + 2), .ref (n0 + 7), .ref (n0 + 11), .ref (n0 + 12), .int 0, .int 0])) := ⟨_, rfl⟩
  refine J_put (C := RX3) (T := TX3) (Z := 7) (ci := 3) (f := 5) (ty0 := tyX3) dX3_init_53 inG3 rfl tyX3_ok nmX3 (by decide) k267 rfl rfl f_80 (Nat.le_of_ble_eq_true rfl) (fun _ _ => ⟨rfl, rfl⟩) e_84.symm ?_
  have f_85 := a_set e_84 f_80
  have l_86 : h_83.length = n0 + 13 := l_set e_84 l_81
  have r_87 := r_set (N := n0 + 13) e_84
  refine J_aload_n (i := 0) (j := 0) dX3_init_56 rfl rfl ?_
  refine J_iconst (v := (-1)) dX3_init_57 (by decide) ?_
  obtain ⟨h_88, e_89⟩ : ∃ z, z = h_83.set (o) (.inr (3, [.ref (n0 + 0), .ref (n0 + 2), .ref (n0 + 7), .ref (n0 + 11), .ref (n0 + 12), .int 0, .int (-1)])) := ⟨_, rfl⟩
  refine J_put (C := RX3) (T := TX3) (Z := 7) (ci := 3) (f := 6) (ty0 := tyX3) dX3_init_58 inG3 rfl tyX3_ok nmX3 (by decide) k269 rfl rfl f_85 (Nat.le_of_ble_eq_true rfl) (fun _ _ => ⟨rfl, rfl⟩) e_89.symm ?_
  have f_90 := a_set e_89 f_85
  have l_91 : h_88.length = n0 + 13 := l_set e_89 l_86
  have r_92 := r_set (N := n0 + 13) e_89
  have f_93 := (r_20 (n0 + 0) (nal rfl) (Nat.ne_of_gt (Nat.lt_of_lt_of_le hol (Nat.le_add_right _ _)))).trans f_10
  have f_94 := (r_25 (n0 + 0) (nal rfl) (nan rfl)).trans f_93
  have f_95 := (r_32 (n0 + 0) (nal rfl) (nan rfl)).trans f_94
  have f_96 := (r_40 (n0 + 0) (nal rfl) (Nat.ne_of_gt (Nat.lt_of_lt_of_le hol (Nat.le_add_right _ _)))).trans f_95
  have f_97 := (r_45 (n0 + 0) (nal rfl) (nan rfl)).trans f_96
  have f_98 := (r_52 (n0 + 0) (nal rfl) (nan rfl)).trans f_97
  have f_99 := (r_60 (n0 + 0) (nal rfl) (Nat.ne_of_gt (Nat.lt_of_lt_of_le hol (Nat.le_add_right _ _)))).trans f_98
  have f_100 := (r_65 (n0 + 0) (nal rfl) (nan rfl)).trans f_99
  have f_101 := (r_71 (n0 + 0) (nal rfl) (Nat.ne_of_gt (Nat.lt_of_lt_of_le hol (Nat.le_add_right _ _)))).trans f_100
  have f_102 := (r_76 (n0 + 0) (nal rfl) (nan rfl)).trans f_101
  have f_103 := (r_82 (n0 + 0) (nal rfl) (Nat.ne_of_gt (Nat.lt_of_lt_of_le hol (Nat.le_add_right _ _)))).trans f_102
  have f_104 := (r_87 (n0 + 0) (nal rfl) (Nat.ne_of_gt (Nat.lt_of_lt_of_le hol (Nat.le_add_right _ _)))).trans f_103
  have f_105 := (r_92 (n0 + 0) (nal rfl) (Nat.ne_of_gt (Nat.lt_of_lt_of_le hol (Nat.le_add_right _ _)))).trans f_104
  have b_106 : At h_16 (n0 + 1) (bk6 (n0 + 1)) := At.fr (m := 1) b_11 bl6 r_20 (bqq rfl) (Or.inl (Nat.lt_of_lt_of_le hol (Nat.le_add_right _ _)))
  have b_107 : At h_21 (n0 + 1) (bk6 (n0 + 1)) := At.fr (m := 1) b_106 bl6 r_25 (bqq rfl) (Or.inr (bqq rfl))
  have b_108 : At h_27 (n0 + 1) (bk6 (n0 + 1)) := At.fr (m := 1) b_107 bl6 r_32 (bqq rfl) (Or.inr (bqq rfl))
  have b_109 : At h_36 (n0 + 1) (bk6 (n0 + 1)) := At.fr (m := 1) b_108 bl6 r_40 (bqq rfl) (Or.inl (Nat.lt_of_lt_of_le hol (Nat.le_add_right _ _)))
  have b_110 : At h_41 (n0 + 1) (bk6 (n0 + 1)) := At.fr (m := 1) b_109 bl6 r_45 (bqq rfl) (Or.inr (bqq rfl))
  have b_111 : At h_47 (n0 + 1) (bk6 (n0 + 1)) := At.fr (m := 1) b_110 bl6 r_52 (bqq rfl) (Or.inr (bqq rfl))
  have b_112 : At h_56 (n0 + 1) (bk6 (n0 + 1)) := At.fr (m := 1) b_111 bl6 r_60 (bqq rfl) (Or.inl (Nat.lt_of_lt_of_le hol (Nat.le_add_right _ _)))
  have b_113 : At h_61 (n0 + 1) (bk6 (n0 + 1)) := At.fr (m := 1) b_112 bl6 r_65 (bqq rfl) (Or.inr (bqq rfl))
  have b_114 : At h_67 (n0 + 1) (bk6 (n0 + 1)) := At.fr (m := 1) b_113 bl6 r_71 (bqq rfl) (Or.inl (Nat.lt_of_lt_of_le hol (Nat.le_add_right _ _)))
  have b_115 : At h_72 (n0 + 1) (bk6 (n0 + 1)) := At.fr (m := 1) b_114 bl6 r_76 (bqq rfl) (Or.inr (bqq rfl))
  have b_116 : At h_78 (n0 + 1) (bk6 (n0 + 1)) := At.fr (m := 1) b_115 bl6 r_82 (bqq rfl) (Or.inl (Nat.lt_of_lt_of_le hol (Nat.le_add_right _ _)))
  have b_117 : At h_83 (n0 + 1) (bk6 (n0 + 1)) := At.fr (m := 1) b_116 bl6 r_87 (bqq rfl) (Or.inl (Nat.lt_of_lt_of_le hol (Nat.le_add_right _ _)))
  have b_118 : At h_88 (n0 + 1) (bk6 (n0 + 1)) := At.fr (m := 1) b_117 bl6 r_92 (bqq rfl) (Or.inl (Nat.lt_of_lt_of_le hol (Nat.le_add_right _ _)))
  have f_119 := (r_40 (n0 + 2) (nal rfl) (Nat.ne_of_gt (Nat.lt_of_lt_of_le hol (Nat.le_add_right _ _)))).trans f_30
  have f_120 := (r_45 (n0 + 2) (nal rfl) (nan rfl)).trans f_119
  have f_121 := (r_52 (n0 + 2) (nal rfl) (nan rfl)).trans f_120
  have f_122 := (r_60 (n0 + 2) (nal rfl) (Nat.ne_of_gt (Nat.lt_of_lt_of_le hol (Nat.le_add_right _ _)))).trans f_121
  have f_123 := (r_65 (n0 + 2) (nal rfl) (nan rfl)).trans f_122
  have f_124 := (r_71 (n0 + 2) (nal rfl) (Nat.ne_of_gt (Nat.lt_of_lt_of_le hol (Nat.le_add_right _ _)))).trans f_123
  have f_125 := (r_76 (n0 + 2) (nal rfl) (nan rfl)).trans f_124
  have f_126 := (r_82 (n0 + 2) (nal rfl) (Nat.ne_of_gt (Nat.lt_of_lt_of_le hol (Nat.le_add_right _ _)))).trans f_125
  have f_127 := (r_87 (n0 + 2) (nal rfl) (Nat.ne_of_gt (Nat.lt_of_lt_of_le hol (Nat.le_add_right _ _)))).trans f_126
  have f_128 := (r_92 (n0 + 2) (nal rfl) (Nat.ne_of_gt (Nat.lt_of_lt_of_le hol (Nat.le_add_right _ _)))).trans f_127
  have b_129 : At h_36 (n0 + 3) (bk1 (n0 + 3)) := At.fr (m := 4) b_31 bl1 r_40 (bqq rfl) (Or.inl (Nat.lt_of_lt_of_le hol (Nat.le_add_right _ _)))
  have b_130 : At h_41 (n0 + 3) (bk1 (n0 + 3)) := At.fr (m := 4) b_129 bl1 r_45 (bqq rfl) (Or.inr (bqq rfl))
  have b_131 : At h_47 (n0 + 3) (bk1 (n0 + 3)) := At.fr (m := 4) b_130 bl1 r_52 (bqq rfl) (Or.inr (bqq rfl))
  have b_132 : At h_56 (n0 + 3) (bk1 (n0 + 3)) := At.fr (m := 4) b_131 bl1 r_60 (bqq rfl) (Or.inl (Nat.lt_of_lt_of_le hol (Nat.le_add_right _ _)))
  have b_133 : At h_61 (n0 + 3) (bk1 (n0 + 3)) := At.fr (m := 4) b_132 bl1 r_65 (bqq rfl) (Or.inr (bqq rfl))
  have b_134 : At h_67 (n0 + 3) (bk1 (n0 + 3)) := At.fr (m := 4) b_133 bl1 r_71 (bqq rfl) (Or.inl (Nat.lt_of_lt_of_le hol (Nat.le_add_right _ _)))
  have b_135 : At h_72 (n0 + 3) (bk1 (n0 + 3)) := At.fr (m := 4) b_134 bl1 r_76 (bqq rfl) (Or.inr (bqq rfl))
  have b_136 : At h_78 (n0 + 3) (bk1 (n0 + 3)) := At.fr (m := 4) b_135 bl1 r_82 (bqq rfl) (Or.inl (Nat.lt_of_lt_of_le hol (Nat.le_add_right _ _)))
  have b_137 : At h_83 (n0 + 3) (bk1 (n0 + 3)) := At.fr (m := 4) b_136 bl1 r_87 (bqq rfl) (Or.inl (Nat.lt_of_lt_of_le hol (Nat.le_add_right _ _)))
  have b_138 : At h_88 (n0 + 3) (bk1 (n0 + 3)) := At.fr (m := 4) b_137 bl1 r_92 (bqq rfl) (Or.inl (Nat.lt_of_lt_of_le hol (Nat.le_add_right _ _)))
  have f_139 := (r_60 (n0 + 7) (nal rfl) (Nat.ne_of_gt (Nat.lt_of_lt_of_le hol (Nat.le_add_right _ _)))).trans f_50
  have f_140 := (r_65 (n0 + 7) (nal rfl) (nan rfl)).trans f_139
  have f_141 := (r_71 (n0 + 7) (nal rfl) (Nat.ne_of_gt (Nat.lt_of_lt_of_le hol (Nat.le_add_right _ _)))).trans f_140
  have f_142 := (r_76 (n0 + 7) (nal rfl) (nan rfl)).trans f_141
  have f_143 := (r_82 (n0 + 7) (nal rfl) (Nat.ne_of_gt (Nat.lt_of_lt_of_le hol (Nat.le_add_right _ _)))).trans f_142
  have f_144 := (r_87 (n0 + 7) (nal rfl) (Nat.ne_of_gt (Nat.lt_of_lt_of_le hol (Nat.le_add_right _ _)))).trans f_143
  have f_145 := (r_92 (n0 + 7) (nal rfl) (Nat.ne_of_gt (Nat.lt_of_lt_of_le hol (Nat.le_add_right _ _)))).trans f_144
  have b_146 : At h_56 (n0 + 8) (bk8 (n0 + 8)) := At.fr (m := 3) b_51 bl8 r_60 (bqq rfl) (Or.inl (Nat.lt_of_lt_of_le hol (Nat.le_add_right _ _)))
  have b_147 : At h_61 (n0 + 8) (bk8 (n0 + 8)) := At.fr (m := 3) b_146 bl8 r_65 (bqq rfl) (Or.inr (bqq rfl))
  have b_148 : At h_67 (n0 + 8) (bk8 (n0 + 8)) := At.fr (m := 3) b_147 bl8 r_71 (bqq rfl) (Or.inl (Nat.lt_of_lt_of_le hol (Nat.le_add_right _ _)))
  have b_149 : At h_72 (n0 + 8) (bk8 (n0 + 8)) := At.fr (m := 3) b_148 bl8 r_76 (bqq rfl) (Or.inr (bqq rfl))
  have b_150 : At h_78 (n0 + 8) (bk8 (n0 + 8)) := At.fr (m := 3) b_149 bl8 r_82 (bqq rfl) (Or.inl (Nat.lt_of_lt_of_le hol (Nat.le_add_right _ _)))
  have b_151 : At h_83 (n0 + 8) (bk8 (n0 + 8)) := At.fr (m := 3) b_150 bl8 r_87 (bqq rfl) (Or.inl (Nat.lt_of_lt_of_le hol (Nat.le_add_right _ _)))
  have b_152 : At h_88 (n0 + 8) (bk8 (n0 + 8)) := At.fr (m := 3) b_151 bl8 r_92 (bqq rfl) (Or.inl (Nat.lt_of_lt_of_le hol (Nat.le_add_right _ _)))
  have f_153 := (r_71 (n0 + 11) (nal rfl) (Nat.ne_of_gt (Nat.lt_of_lt_of_le hol (Nat.le_add_right _ _)))).trans f_63
  have f_154 := (r_76 (n0 + 11) (nal rfl) (nan rfl)).trans f_153
  have f_155 := (r_82 (n0 + 11) (nal rfl) (Nat.ne_of_gt (Nat.lt_of_lt_of_le hol (Nat.le_add_right _ _)))).trans f_154
  have f_156 := (r_87 (n0 + 11) (nal rfl) (Nat.ne_of_gt (Nat.lt_of_lt_of_le hol (Nat.le_add_right _ _)))).trans f_155
  have f_157 := (r_92 (n0 + 11) (nal rfl) (Nat.ne_of_gt (Nat.lt_of_lt_of_le hol (Nat.le_add_right _ _)))).trans f_156
  have f_158 := (r_82 (n0 + 12) (nal rfl) (Nat.ne_of_gt (Nat.lt_of_lt_of_le hol (Nat.le_add_right _ _)))).trans f_74
  have f_159 := (r_87 (n0 + 12) (nal rfl) (Nat.ne_of_gt (Nat.lt_of_lt_of_le hol (Nat.le_add_right _ _)))).trans f_158
  have f_160 := (r_92 (n0 + 12) (nal rfl) (Nat.ne_of_gt (Nat.lt_of_lt_of_le hol (Nat.le_add_right _ _)))).trans f_159
  have hfr : ∀ j, j < n0 → j ≠ o → h_88[j]? = h[j]? := by
    intro j hj hjo
    rw [r_92 j (Nat.lt_of_lt_of_le hj (Nat.le_add_right _ _)) hjo, r_87 j (Nat.lt_of_lt_of_le hj (Nat.le_add_right _ _)) hjo, r_82 j (Nat.lt_of_lt_of_le hj (Nat.le_add_right _ _)) hjo, r_76 j (Nat.lt_of_lt_of_le hj (Nat.le_add_right _ _)) (Nat.ne_of_lt (Nat.lt_of_lt_of_le hj (Nat.le_add_right _ _))), r_71 j (Nat.lt_of_lt_of_le hj (Nat.le_add_right _ _)) hjo, r_65 j (Nat.lt_of_lt_of_le hj (Nat.le_add_right _ _)) (Nat.ne_of_lt (Nat.lt_of_lt_of_le hj (Nat.le_add_right _ _))), r_60 j (Nat.lt_of_lt_of_le hj (Nat.le_add_right _ _)) hjo, r_52 j (Nat.lt_of_lt_of_le hj (Nat.le_add_right _ _)) (Nat.ne_of_lt (Nat.lt_of_lt_of_le hj (Nat.le_add_right _ _))), r_45 j (Nat.lt_of_lt_of_le hj (Nat.le_add_right _ _)) (Nat.ne_of_lt (Nat.lt_of_lt_of_le hj (Nat.le_add_right _ _))), r_40 j (Nat.lt_of_lt_of_le hj (Nat.le_add_right _ _)) hjo, r_32 j (Nat.lt_of_lt_of_le hj (Nat.le_add_right _ _)) (Nat.ne_of_lt (Nat.lt_of_lt_of_le hj (Nat.le_add_right _ _))), r_25 j (Nat.lt_of_lt_of_le hj (Nat.le_add_right _ _)) (Nat.ne_of_lt (Nat.lt_of_lt_of_le hj (Nat.le_add_right _ _))), r_20 j (Nat.lt_of_lt_of_le hj (Nat.le_add_right _ _)) hjo, r_12 j (Nat.lt_of_lt_of_le hj (Nat.le_add_right _ _)) (Nat.ne_of_lt (Nat.lt_of_lt_of_le hj (Nat.le_add_right _ _))), r_5 j (Nat.lt_of_lt_of_le hj (Nat.le_add_right _ _)) (Nat.ne_of_lt (Nat.lt_of_lt_of_le hj (Nat.le_add_right _ _)))]
  exact J_vret hq dX3_init_61 rfl (hk1 hn l_91) (by decide) (by decide) ⟨rfl, l_91, f_90, (At_cons f_105 (At_app bl6 b_118 (At_cons f_128 (At_app bl1 b_138 (At_cons f_145 (At_app bl8 b_152 (At_cons f_157 (At_cons f_160 At_nil)))))))), hfr⟩
def ob4 (n : Nat) : MC := (.inr (4, [.ref (n + 0), .int 0, .int 0, .int 0]))
def bk4 (n : Nat) : List MC := ob1 (n + 1) :: (bk1 (n + 1) ++ ([]))
set_option maxRecDepth 100000 in
theorem bl4 {n : Nat} : (bk4 n).length = 5 := rfl
set_option maxHeartbeats 4000000 in
set_option maxRecDepth 100000 in
theorem c_X4_init {d : Nat} {h : List MC} {o n0 : Nat} (hd : 2 ≤ d) (hn : h.length = n0) (ho : h[o]? = some (.inr (4, [.null, .int 0, .int 0, .int 0]))) : CT con0 d 5 161 yX4_init cX4_init 1 none [.ref o] h (fun r h2 => r = none ∧ h2.length = n0 + 5 ∧ h2[o]? = some (ob4 n0) ∧ At h2 n0 (bk4 n0) ∧ ∀ j, j < n0 → j ≠ o → h2[j]? = h[j]?) := by
  have hol : o < n0 := by rw [← hn]; exact (List.getElem?_eq_some_iff.mp ho).1
  have hn0 : h.length = n0 + 0 := hn
  refine CT_of (by decide) (Nat.le_of_ble_eq_true rfl) (fun x hq => ?_)
  show J x yX4_init cX4_init 1 none d 5 161 h.length 0 [(0, .ref o)] [] h 0 0
  refine J_aload_n (i := 0) (j := 0) dX4_init_0 rfl rfl ?_
  refine J_obj dX4_init_1 k291 k113 k114 (Nat.le_trans (by decide) hd) (Nat.le_of_ble_eq_true rfl) ?_
  refine J_aload_n (i := 0) (j := 0) dX4_init_4 rfl rfl ?_
  refine J_new (C := RX1) (T := TX1) (Z := 6) (ci := 1) (fs := [.int 0, .null, .int 0, .null, .null, .null]) (ty0 := tyX1) dX4_init_5 inG1 rfl tyX1_ok k292 k125 k89 fsX1 (hk1 hn hn0) (by decide) (by decide) ?_
  obtain ⟨h_1, e_2⟩ : ∃ z, z = h ++ [(.inr (1, [.int 0, .null, .int 0, .null, .null, .null]))] := ⟨_, rfl⟩
  refine J_w e_2.symm ?_
  refine J_cr (v := n0 + 0) hn0 ?_
  have f_3 := a_push e_2 hn0
  have l_4 : h_1.length = n0 + 1 := l_push e_2 hn0 rfl
  have r_5 := r_push (a := n0 + 0) e_2 hn0
  refine J_dup dX4_init_8 rfl ?_
  refine J_callIN (As := []) (rest := [.ref (n0 + 0), .ref o]) dX4_init_9 (c_X1_init (d := 1) (h := h_1) (o := n0 + 0) (n0 := n0 + 1) (by decide) l_4 f_3) hq.n k293 k127 rfl rfl k89 k128 np_X1_init (Nat.le_trans (by decide) hd) (by decide) (by decide) (by decide) (hk1 hn l_4) rfl (Nat.le_of_ble_eq_true rfl) (fun r_6 h_7 p_8 => ?_)
  obtain ⟨rfl, l_9, f_10, b_11, r_12⟩ := p_8
  have l_13 : h_7.length = n0 + 5 := l_9
  have f_14 := (r_5 (o) (Nat.lt_of_lt_of_le hol (Nat.le_add_right _ _)) (Nat.ne_of_lt (Nat.lt_of_lt_of_le hol (Nat.le_add_right _ _)))).trans ho
  have f_15 := (r_12 (o) (Nat.lt_of_lt_of_le hol (Nat.le_add_right _ _)) (Nat.ne_of_lt (Nat.lt_of_lt_of_le hol (Nat.le_add_right _ _)))).trans f_14
  obtain ⟨h_16, e_17⟩ : ∃ z, z = h_7.set (o) (.inr (4, [.ref (n0 + 0), .int 0, .int 0, .int 0])) := ⟨_, rfl⟩
  refine J_putF (C := RX4) (T := TX4) (Z := 4) (ci := 4) (f := 0) (ty0 := tyX4) dX4_init_12 inG4 rfl tyX4_ok nmX4 (by decide) k294 rfl rfl rfl rfl f_15 (Nat.le_of_ble_eq_true rfl) (fun _ _ => ⟨rfl, rfl⟩) e_17.symm ?_
  have f_18 := a_set e_17 f_15
  have l_19 : h_16.length = n0 + 5 := l_set e_17 l_13
  have r_20 := r_set (N := n0 + 5) e_17
  refine J_aload_n (i := 0) (j := 0) dX4_init_15 rfl rfl ?_
  refine J_iconst (v := 0) dX4_init_16 (by decide) ?_
  obtain ⟨h_21, e_22⟩ : ∃ z, z = h_16.set (o) (.inr (4, [.ref (n0 + 0), .int 0, .int 0, .int 0])) := ⟨_, rfl⟩
  refine J_put (C := RX4) (T := TX4) (Z := 4) (ci := 4) (f := 1) (ty0 := tyX4) dX4_init_17 inG4 rfl tyX4_ok nmX4 (by decide) k296 rfl rfl f_18 (Nat.le_of_ble_eq_true rfl) (fun _ _ => ⟨rfl, rfl⟩) e_22.symm ?_
  have f_23 := a_set e_22 f_18
  have l_24 : h_21.length = n0 + 5 := l_set e_22 l_19
  have r_25 := r_set (N := n0 + 5) e_22
  refine J_aload_n (i := 0) (j := 0) dX4_init_20 rfl rfl ?_
  refine J_iconst (v := 0) dX4_init_21 (by decide) ?_
  obtain ⟨h_26, e_27⟩ : ∃ z, z = h_21.set (o) (.inr (4, [.ref (n0 + 0), .int 0, .int 0, .int 0])) := ⟨_, rfl⟩
  refine J_put (C := RX4) (T := TX4) (Z := 4) (ci := 4) (f := 2) (ty0 := tyX4) dX4_init_22 inG4 rfl tyX4_ok nmX4 (by decide) k298 rfl rfl f_23 (Nat.le_of_ble_eq_true rfl) (fun _ _ => ⟨rfl, rfl⟩) e_27.symm ?_
  have f_28 := a_set e_27 f_23
  have l_29 : h_26.length = n0 + 5 := l_set e_27 l_24
  have r_30 := r_set (N := n0 + 5) e_27
  refine J_aload_n (i := 0) (j := 0) dX4_init_25 rfl rfl ?_
  refine J_iconst (v := 0) dX4_init_26 (by decide) ?_
  obtain ⟨h_31, e_32⟩ : ∃ z, z = h_26.set (o) (.inr (4, [.ref (n0 + 0), .int 0, .int 0, .int 0])) := ⟨_, rfl⟩
  refine J_put (C := RX4) (T := TX4) (Z := 4) (ci := 4) (f := 3) (ty0 := tyX4) dX4_init_27 inG4 rfl tyX4_ok nmX4 (by decide) k300 rfl rfl f_28 (Nat.le_of_ble_eq_true rfl) (fun _ _ => ⟨rfl, rfl⟩) e_32.symm ?_
  have f_33 := a_set e_32 f_28
  have l_34 : h_31.length = n0 + 5 := l_set e_32 l_29
  have r_35 := r_set (N := n0 + 5) e_32
  have f_36 := (r_20 (n0 + 0) (nal rfl) (Nat.ne_of_gt (Nat.lt_of_lt_of_le hol (Nat.le_add_right _ _)))).trans f_10
  have f_37 := (r_25 (n0 + 0) (nal rfl) (Nat.ne_of_gt (Nat.lt_of_lt_of_le hol (Nat.le_add_right _ _)))).trans f_36
  have f_38 := (r_30 (n0 + 0) (nal rfl) (Nat.ne_of_gt (Nat.lt_of_lt_of_le hol (Nat.le_add_right _ _)))).trans f_37
  have f_39 := (r_35 (n0 + 0) (nal rfl) (Nat.ne_of_gt (Nat.lt_of_lt_of_le hol (Nat.le_add_right _ _)))).trans f_38
  have b_40 : At h_16 (n0 + 1) (bk1 (n0 + 1)) := At.fr (m := 4) b_11 bl1 r_20 (bqq rfl) (Or.inl (Nat.lt_of_lt_of_le hol (Nat.le_add_right _ _)))
  have b_41 : At h_21 (n0 + 1) (bk1 (n0 + 1)) := At.fr (m := 4) b_40 bl1 r_25 (bqq rfl) (Or.inl (Nat.lt_of_lt_of_le hol (Nat.le_add_right _ _)))
  have b_42 : At h_26 (n0 + 1) (bk1 (n0 + 1)) := At.fr (m := 4) b_41 bl1 r_30 (bqq rfl) (Or.inl (Nat.lt_of_lt_of_le hol (Nat.le_add_right _ _)))
  have b_43 : At h_31 (n0 + 1) (bk1 (n0 + 1)) := At.fr (m := 4) b_42 bl1 r_35 (bqq rfl) (Or.inl (Nat.lt_of_lt_of_le hol (Nat.le_add_right _ _)))
  have hfr : ∀ j, j < n0 → j ≠ o → h_31[j]? = h[j]? := by
    intro j hj hjo
    rw [r_35 j (Nat.lt_of_lt_of_le hj (Nat.le_add_right _ _)) hjo, r_30 j (Nat.lt_of_lt_of_le hj (Nat.le_add_right _ _)) hjo, r_25 j (Nat.lt_of_lt_of_le hj (Nat.le_add_right _ _)) hjo, r_20 j (Nat.lt_of_lt_of_le hj (Nat.le_add_right _ _)) hjo, r_12 j (Nat.lt_of_lt_of_le hj (Nat.le_add_right _ _)) (Nat.ne_of_lt (Nat.lt_of_lt_of_le hj (Nat.le_add_right _ _))), r_5 j (Nat.lt_of_lt_of_le hj (Nat.le_add_right _ _)) (Nat.ne_of_lt (Nat.lt_of_lt_of_le hj (Nat.le_add_right _ _)))]
  exact J_vret hq dX4_init_30 rfl (hk1 hn l_34) (by decide) (by decide) ⟨rfl, l_34, f_33, (At_cons f_39 (At_app bl1 b_43 At_nil)), hfr⟩
def ob2 (n : Nat) : MC := (.inr (2, [.ref (n + 0), .ref (n + 3), .ref (n + 8), .ref (n + 9), .ref (n + 10), .ref (n + 11)]))
def bk2 (n : Nat) : List MC := ob5 (n + 1) :: (bk5 (n + 1) ++ (ob1 (n + 4) :: (bk1 (n + 4) ++ ((.inl (1, 2048, .inl (fun _ => 0))) :: ((.inl (1, 512, .inl (fun _ => 0))) :: ((.inl (2, 512, .inr (.inl (fun _ => 0)))) :: ((.inl (2, 512, .inr (.inl (fun _ => 0)))) :: ([]))))))))
set_option maxRecDepth 100000 in
theorem bl2 {n : Nat} : (bk2 n).length = 12 := rfl
set_option maxHeartbeats 4000000 in
set_option maxRecDepth 100000 in
theorem c_X2_init {d : Nat} {h : List MC} {o n0 : Nat} (hd : 2 ≤ d) (hn : h.length = n0) (ho : h[o]? = some (.inr (2, [.null, .null, .null, .null, .null, .null]))) : CT con0 d 12 3770 yX2_init cX2_init 1 none [.ref o] h (fun r h2 => r = none ∧ h2.length = n0 + 12 ∧ h2[o]? = some (ob2 n0) ∧ At h2 n0 (bk2 n0) ∧ ∀ j, j < n0 → j ≠ o → h2[j]? = h[j]?) := by
  have hol : o < n0 := by rw [← hn]; exact (List.getElem?_eq_some_iff.mp ho).1
  have hn0 : h.length = n0 + 0 := hn
  refine CT_of (by decide) (Nat.le_of_ble_eq_true rfl) (fun x hq => ?_)
  show J x yX2_init cX2_init 1 none d 12 3770 h.length 0 [(0, .ref o)] [] h 0 0
  refine J_aload_n (i := 0) (j := 0) dX2_init_0 rfl rfl ?_
  refine J_obj dX2_init_1 k357 k113 k114 (Nat.le_trans (by decide) hd) (Nat.le_of_ble_eq_true rfl) ?_
  refine J_aload_n (i := 0) (j := 0) dX2_init_4 rfl rfl ?_
  refine J_new (C := RX5) (T := TX5) (Z := 7) (ci := 5) (fs := [.int 0, .int 0, .int 0, .int 0, .int 0, .null, .null]) (ty0 := tyX5) dX2_init_5 inG5 rfl tyX5_ok k358 k314 k94 fsX5 (hk1 hn hn0) (by decide) (by decide) ?_
  obtain ⟨h_1, e_2⟩ : ∃ z, z = h ++ [(.inr (5, [.int 0, .int 0, .int 0, .int 0, .int 0, .null, .null]))] := ⟨_, rfl⟩
  refine J_w e_2.symm ?_
  refine J_cr (v := n0 + 0) hn0 ?_
  have f_3 := a_push e_2 hn0
  have l_4 : h_1.length = n0 + 1 := l_push e_2 hn0 rfl
  have r_5 := r_push (a := n0 + 0) e_2 hn0
  refine J_dup dX2_init_8 rfl ?_
  refine J_callIN (As := []) (rest := [.ref (n0 + 0), .ref o]) dX2_init_9 (c_X5_init (d := 1) (h := h_1) (o := n0 + 0) (n0 := n0 + 1) (by decide) l_4 f_3) hq.n k359 k316 rfl rfl k94 k317 np_X5_init (Nat.le_trans (by decide) hd) (by decide) (by decide) (by decide) (hk1 hn l_4) rfl (Nat.le_of_ble_eq_true rfl) (fun r_6 h_7 p_8 => ?_)
  obtain ⟨rfl, l_9, f_10, b_11, r_12⟩ := p_8
  have l_13 : h_7.length = n0 + 3 := l_9
  have f_14 := (r_5 (o) (Nat.lt_of_lt_of_le hol (Nat.le_add_right _ _)) (Nat.ne_of_lt (Nat.lt_of_lt_of_le hol (Nat.le_add_right _ _)))).trans ho
  have f_15 := (r_12 (o) (Nat.lt_of_lt_of_le hol (Nat.le_add_right _ _)) (Nat.ne_of_lt (Nat.lt_of_lt_of_le hol (Nat.le_add_right _ _)))).trans f_14
  obtain ⟨h_16, e_17⟩ : ∃ z, z = h_7.set (o) (.inr (2, [.ref (n0 + 0), .null, .null, .null, .null, .null])) := ⟨_, rfl⟩
  refine J_putF (C := RX2) (T := TX2) (Z := 6) (ci := 2) (f := 0) (ty0 := tyX2) dX2_init_12 inG2 rfl tyX2_ok nmX2 (by decide) k362 rfl rfl rfl rfl f_15 (Nat.le_of_ble_eq_true rfl) (fun _ _ => ⟨rfl, rfl⟩) e_17.symm ?_
  have f_18 := a_set e_17 f_15
  have l_19 : h_16.length = n0 + 3 := l_set e_17 l_13
  have r_20 := r_set (N := n0 + 3) e_17
  refine J_aload_n (i := 0) (j := 0) dX2_init_15 rfl rfl ?_
  refine J_new (C := RX1) (T := TX1) (Z := 6) (ci := 1) (fs := [.int 0, .null, .int 0, .null, .null, .null]) (ty0 := tyX1) dX2_init_16 inG1 rfl tyX1_ok k360 k125 k89 fsX1 (hk1 hn l_19) (by decide) (by decide) ?_
  obtain ⟨h_21, e_22⟩ : ∃ z, z = h_16 ++ [(.inr (1, [.int 0, .null, .int 0, .null, .null, .null]))] := ⟨_, rfl⟩
  refine J_w e_22.symm ?_
  refine J_cr (v := n0 + 3) l_19 ?_
  have f_23 := a_push e_22 l_19
  have l_24 : h_21.length = n0 + 4 := l_push e_22 l_19 rfl
  have r_25 := r_push (a := n0 + 3) e_22 l_19
  refine J_dup dX2_init_19 rfl ?_
  refine J_callIN (As := []) (rest := [.ref (n0 + 3), .ref o]) dX2_init_20 (c_X1_init (d := 1) (h := h_21) (o := n0 + 3) (n0 := n0 + 4) (by decide) l_24 f_23) hq.n k361 k127 rfl rfl k89 k128 np_X1_init (Nat.le_trans (by decide) hd) (by decide) (by decide) (by decide) (hk1 hn l_24) rfl (Nat.le_of_ble_eq_true rfl) (fun r_26 h_27 p_28 => ?_)
  obtain ⟨rfl, l_29, f_30, b_31, r_32⟩ := p_28
  have l_33 : h_27.length = n0 + 8 := l_29
  have f_34 := (r_25 (o) (Nat.lt_of_lt_of_le hol (Nat.le_add_right _ _)) (Nat.ne_of_lt (Nat.lt_of_lt_of_le hol (Nat.le_add_right _ _)))).trans f_18
  have f_35 := (r_32 (o) (Nat.lt_of_lt_of_le hol (Nat.le_add_right _ _)) (Nat.ne_of_lt (Nat.lt_of_lt_of_le hol (Nat.le_add_right _ _)))).trans f_34
  obtain ⟨h_36, e_37⟩ : ∃ z, z = h_27.set (o) (.inr (2, [.ref (n0 + 0), .ref (n0 + 3), .null, .null, .null, .null])) := ⟨_, rfl⟩
  refine J_putF (C := RX2) (T := TX2) (Z := 6) (ci := 2) (f := 1) (ty0 := tyX2) dX2_init_23 inG2 rfl tyX2_ok nmX2 (by decide) k363 rfl rfl rfl rfl f_35 (Nat.le_of_ble_eq_true rfl) (fun _ _ => ⟨rfl, rfl⟩) e_37.symm ?_
  have f_38 := a_set e_37 f_35
  have l_39 : h_36.length = n0 + 8 := l_set e_37 l_33
  have r_40 := r_set (N := n0 + 8) e_37
  refine J_aload_n (i := 0) (j := 0) dX2_init_26 rfl rfl ?_
  refine J_sipush (v := 2048) dX2_init_27 (by decide) ?_
  refine J_newa1 (Z := 2048) dX2_init_30 ka1 (by decide) (by decide) (by decide) (hk1 hn l_39) (by decide) (by decide) ?_
  obtain ⟨h_41, e_42⟩ : ∃ z, z = h_36 ++ [(.inl (1, 2048, .inl (fun _ => 0)))] := ⟨_, rfl⟩
  refine J_w e_42.symm ?_
  refine J_cr (v := n0 + 8) l_39 ?_
  have f_43 := a_push e_42 l_39
  have l_44 : h_41.length = n0 + 9 := l_push e_42 l_39 rfl
  have r_45 := r_push (a := n0 + 8) e_42 l_39
  have f_46 := (r_45 (o) (Nat.lt_of_lt_of_le hol (Nat.le_add_right _ _)) (Nat.ne_of_lt (Nat.lt_of_lt_of_le hol (Nat.le_add_right _ _)))).trans f_38
  obtain ⟨h_47, e_48⟩ : ∃ z, z = h_41.set (o) (.inr (2, [.ref (n0 + 0), .ref (n0 + 3), .ref (n0 + 8), .null, .null, .null])) := ⟨_, rfl⟩
  refine J_putF (C := RX2) (T := TX2) (Z := 6) (ci := 2) (f := 2) (ty0 := tyX2) dX2_init_32 inG2 rfl tyX2_ok nmX2 (by decide) k365 rfl rfl rfl rfl f_46 (Nat.le_of_ble_eq_true rfl) (fun _ _ => ⟨rfl, rfl⟩) e_48.symm ?_
  have f_49 := a_set e_48 f_46
  have l_50 : h_47.length = n0 + 9 := l_set e_48 l_44
  have r_51 := r_set (N := n0 + 9) e_48
  refine J_aload_n (i := 0) (j := 0) dX2_init_35 rfl rfl ?_
  refine J_sipush (v := 512) dX2_init_36 (by decide) ?_
  refine J_newa1 (Z := 512) dX2_init_39 ka1 (by decide) (by decide) (by decide) (hk1 hn l_50) (by decide) (by decide) ?_
  obtain ⟨h_52, e_53⟩ : ∃ z, z = h_47 ++ [(.inl (1, 512, .inl (fun _ => 0)))] := ⟨_, rfl⟩
  refine J_w e_53.symm ?_
  refine J_cr (v := n0 + 9) l_50 ?_
  have f_54 := a_push e_53 l_50
  have l_55 : h_52.length = n0 + 10 := l_push e_53 l_50 rfl
  have r_56 := r_push (a := n0 + 9) e_53 l_50
  have f_57 := (r_56 (o) (Nat.lt_of_lt_of_le hol (Nat.le_add_right _ _)) (Nat.ne_of_lt (Nat.lt_of_lt_of_le hol (Nat.le_add_right _ _)))).trans f_49
  obtain ⟨h_58, e_59⟩ : ∃ z, z = h_52.set (o) (.inr (2, [.ref (n0 + 0), .ref (n0 + 3), .ref (n0 + 8), .ref (n0 + 9), .null, .null])) := ⟨_, rfl⟩
  refine J_putF (C := RX2) (T := TX2) (Z := 6) (ci := 2) (f := 3) (ty0 := tyX2) dX2_init_41 inG2 rfl tyX2_ok nmX2 (by decide) k366 rfl rfl rfl rfl f_57 (Nat.le_of_ble_eq_true rfl) (fun _ _ => ⟨rfl, rfl⟩) e_59.symm ?_
  have f_60 := a_set e_59 f_57
  have l_61 : h_58.length = n0 + 10 := l_set e_59 l_55
  have r_62 := r_set (N := n0 + 10) e_59
  refine J_aload_n (i := 0) (j := 0) dX2_init_44 rfl rfl ?_
  refine J_sipush (v := 512) dX2_init_45 (by decide) ?_
  refine J_newa2 (Z := 512) dX2_init_48 ka2 (by decide) (by decide) (by decide) (hk1 hn l_61) (by decide) (by decide) ?_
  obtain ⟨h_63, e_64⟩ : ∃ z, z = h_58 ++ [(.inl (2, 512, .inr (.inl (fun _ => 0))))] := ⟨_, rfl⟩
  refine J_w e_64.symm ?_
  refine J_cr (v := n0 + 10) l_61 ?_
  have f_65 := a_push e_64 l_61
  have l_66 : h_63.length = n0 + 11 := l_push e_64 l_61 rfl
  have r_67 := r_push (a := n0 + 10) e_64 l_61
  have f_68 := (r_67 (o) (Nat.lt_of_lt_of_le hol (Nat.le_add_right _ _)) (Nat.ne_of_lt (Nat.lt_of_lt_of_le hol (Nat.le_add_right _ _)))).trans f_60
  obtain ⟨h_69, e_70⟩ : ∃ z, z = h_63.set (o) (.inr (2, [.ref (n0 + 0), .ref (n0 + 3), .ref (n0 + 8), .ref (n0 + 9), .ref (n0 + 10), .null])) := ⟨_, rfl⟩
  refine J_putF (C := RX2) (T := TX2) (Z := 6) (ci := 2) (f := 4) (ty0 := tyX2) dX2_init_50 inG2 rfl tyX2_ok nmX2 (by decide) k367 rfl rfl rfl rfl f_68 (Nat.le_of_ble_eq_true rfl) (fun _ _ => ⟨rfl, rfl⟩) e_70.symm ?_
  have f_71 := a_set e_70 f_68
  have l_72 : h_69.length = n0 + 11 := l_set e_70 l_66
  have r_73 := r_set (N := n0 + 11) e_70
  refine J_aload_n (i := 0) (j := 0) dX2_init_53 rfl rfl ?_
  refine J_sipush (v := 512) dX2_init_54 (by decide) ?_
  refine J_newa2 (Z := 512) dX2_init_57 ka2 (by decide) (by decide) (by decide) (hk1 hn l_72) (by decide) (by decide) ?_
  obtain ⟨h_74, e_75⟩ : ∃ z, z = h_69 ++ [(.inl (2, 512, .inr (.inl (fun _ => 0))))] := ⟨_, rfl⟩
  refine J_w e_75.symm ?_
  refine J_cr (v := n0 + 11) l_72 ?_
  have f_76 := a_push e_75 l_72
  have l_77 : h_74.length = n0 + 12 := l_push e_75 l_72 rfl
  have r_78 := r_push (a := n0 + 11) e_75 l_72
  have f_79 := (r_78 (o) (Nat.lt_of_lt_of_le hol (Nat.le_add_right _ _)) (Nat.ne_of_lt (Nat.lt_of_lt_of_le hol (Nat.le_add_right _ _)))).trans f_71
  obtain ⟨h_80, e_81⟩ : ∃ z, z = h_74.set (o) (.inr (2, [.ref (n0 + 0), .ref (n0 + 3), .ref (n0 + 8), .ref (n0 + 9), .ref (n0 + 10), .ref (n0 + 11)])) := ⟨_, rfl⟩
  refine J_putF (C := RX2) (T := TX2) (Z := 6) (ci := 2) (f := 5) (ty0 := tyX2) dX2_init_59 inG2 rfl tyX2_ok nmX2 (by decide) k368 rfl rfl rfl rfl f_79 (Nat.le_of_ble_eq_true rfl) (fun _ _ => ⟨rfl, rfl⟩) e_81.symm ?_
  have f_82 := a_set e_81 f_79
  have l_83 : h_80.length = n0 + 12 := l_set e_81 l_77
  have r_84 := r_set (N := n0 + 12) e_81
  have f_85 := (r_20 (n0 + 0) (nal rfl) (Nat.ne_of_gt (Nat.lt_of_lt_of_le hol (Nat.le_add_right _ _)))).trans f_10
  have f_86 := (r_25 (n0 + 0) (nal rfl) (nan rfl)).trans f_85
  have f_87 := (r_32 (n0 + 0) (nal rfl) (nan rfl)).trans f_86
  have f_88 := (r_40 (n0 + 0) (nal rfl) (Nat.ne_of_gt (Nat.lt_of_lt_of_le hol (Nat.le_add_right _ _)))).trans f_87
  have f_89 := (r_45 (n0 + 0) (nal rfl) (nan rfl)).trans f_88
  have f_90 := (r_51 (n0 + 0) (nal rfl) (Nat.ne_of_gt (Nat.lt_of_lt_of_le hol (Nat.le_add_right _ _)))).trans f_89
  have f_91 := (r_56 (n0 + 0) (nal rfl) (nan rfl)).trans f_90
  have f_92 := (r_62 (n0 + 0) (nal rfl) (Nat.ne_of_gt (Nat.lt_of_lt_of_le hol (Nat.le_add_right _ _)))).trans f_91
  have f_93 := (r_67 (n0 + 0) (nal rfl) (nan rfl)).trans f_92
  have f_94 := (r_73 (n0 + 0) (nal rfl) (Nat.ne_of_gt (Nat.lt_of_lt_of_le hol (Nat.le_add_right _ _)))).trans f_93
  have f_95 := (r_78 (n0 + 0) (nal rfl) (nan rfl)).trans f_94
  have f_96 := (r_84 (n0 + 0) (nal rfl) (Nat.ne_of_gt (Nat.lt_of_lt_of_le hol (Nat.le_add_right _ _)))).trans f_95
  have b_97 : At h_16 (n0 + 1) (bk5 (n0 + 1)) := At.fr (m := 2) b_11 bl5 r_20 (bqq rfl) (Or.inl (Nat.lt_of_lt_of_le hol (Nat.le_add_right _ _)))
  have b_98 : At h_21 (n0 + 1) (bk5 (n0 + 1)) := At.fr (m := 2) b_97 bl5 r_25 (bqq rfl) (Or.inr (bqq rfl))
  have b_99 : At h_27 (n0 + 1) (bk5 (n0 + 1)) := At.fr (m := 2) b_98 bl5 r_32 (bqq rfl) (Or.inr (bqq rfl))
  have b_100 : At h_36 (n0 + 1) (bk5 (n0 + 1)) := At.fr (m := 2) b_99 bl5 r_40 (bqq rfl) (Or.inl (Nat.lt_of_lt_of_le hol (Nat.le_add_right _ _)))
  have b_101 : At h_41 (n0 + 1) (bk5 (n0 + 1)) := At.fr (m := 2) b_100 bl5 r_45 (bqq rfl) (Or.inr (bqq rfl))
  have b_102 : At h_47 (n0 + 1) (bk5 (n0 + 1)) := At.fr (m := 2) b_101 bl5 r_51 (bqq rfl) (Or.inl (Nat.lt_of_lt_of_le hol (Nat.le_add_right _ _)))
  have b_103 : At h_52 (n0 + 1) (bk5 (n0 + 1)) := At.fr (m := 2) b_102 bl5 r_56 (bqq rfl) (Or.inr (bqq rfl))
  have b_104 : At h_58 (n0 + 1) (bk5 (n0 + 1)) := At.fr (m := 2) b_103 bl5 r_62 (bqq rfl) (Or.inl (Nat.lt_of_lt_of_le hol (Nat.le_add_right _ _)))
  have b_105 : At h_63 (n0 + 1) (bk5 (n0 + 1)) := At.fr (m := 2) b_104 bl5 r_67 (bqq rfl) (Or.inr (bqq rfl))
  have b_106 : At h_69 (n0 + 1) (bk5 (n0 + 1)) := At.fr (m := 2) b_105 bl5 r_73 (bqq rfl) (Or.inl (Nat.lt_of_lt_of_le hol (Nat.le_add_right _ _)))
  have b_107 : At h_74 (n0 + 1) (bk5 (n0 + 1)) := At.fr (m := 2) b_106 bl5 r_78 (bqq rfl) (Or.inr (bqq rfl))
  have b_108 : At h_80 (n0 + 1) (bk5 (n0 + 1)) := At.fr (m := 2) b_107 bl5 r_84 (bqq rfl) (Or.inl (Nat.lt_of_lt_of_le hol (Nat.le_add_right _ _)))
  have f_109 := (r_40 (n0 + 3) (nal rfl) (Nat.ne_of_gt (Nat.lt_of_lt_of_le hol (Nat.le_add_right _ _)))).trans f_30
  have f_110 := (r_45 (n0 + 3) (nal rfl) (nan rfl)).trans f_109
  have f_111 := (r_51 (n0 + 3) (nal rfl) (Nat.ne_of_gt (Nat.lt_of_lt_of_le hol (Nat.le_add_right _ _)))).trans f_110
  have f_112 := (r_56 (n0 + 3) (nal rfl) (nan rfl)).trans f_111
  have f_113 := (r_62 (n0 + 3) (nal rfl) (Nat.ne_of_gt (Nat.lt_of_lt_of_le hol (Nat.le_add_right _ _)))).trans f_112
  have f_114 := (r_67 (n0 + 3) (nal rfl) (nan rfl)).trans f_113
  have f_115 := (r_73 (n0 + 3) (nal rfl) (Nat.ne_of_gt (Nat.lt_of_lt_of_le hol (Nat.le_add_right _ _)))).trans f_114
  have f_116 := (r_78 (n0 + 3) (nal rfl) (nan rfl)).trans f_115
  have f_117 := (r_84 (n0 + 3) (nal rfl) (Nat.ne_of_gt (Nat.lt_of_lt_of_le hol (Nat.le_add_right _ _)))).trans f_116
  have b_118 : At h_36 (n0 + 4) (bk1 (n0 + 4)) := At.fr (m := 4) b_31 bl1 r_40 (bqq rfl) (Or.inl (Nat.lt_of_lt_of_le hol (Nat.le_add_right _ _)))
  have b_119 : At h_41 (n0 + 4) (bk1 (n0 + 4)) := At.fr (m := 4) b_118 bl1 r_45 (bqq rfl) (Or.inr (bqq rfl))
  have b_120 : At h_47 (n0 + 4) (bk1 (n0 + 4)) := At.fr (m := 4) b_119 bl1 r_51 (bqq rfl) (Or.inl (Nat.lt_of_lt_of_le hol (Nat.le_add_right _ _)))
  have b_121 : At h_52 (n0 + 4) (bk1 (n0 + 4)) := At.fr (m := 4) b_120 bl1 r_56 (bqq rfl) (Or.inr (bqq rfl))
  have b_122 : At h_58 (n0 + 4) (bk1 (n0 + 4)) := At.fr (m := 4) b_121 bl1 r_62 (bqq rfl) (Or.inl (Nat.lt_of_lt_of_le hol (Nat.le_add_right _ _)))
  have b_123 : At h_63 (n0 + 4) (bk1 (n0 + 4)) := At.fr (m := 4) b_122 bl1 r_67 (bqq rfl) (Or.inr (bqq rfl))
  have b_124 : At h_69 (n0 + 4) (bk1 (n0 + 4)) := At.fr (m := 4) b_123 bl1 r_73 (bqq rfl) (Or.inl (Nat.lt_of_lt_of_le hol (Nat.le_add_right _ _)))
  have b_125 : At h_74 (n0 + 4) (bk1 (n0 + 4)) := At.fr (m := 4) b_124 bl1 r_78 (bqq rfl) (Or.inr (bqq rfl))
  have b_126 : At h_80 (n0 + 4) (bk1 (n0 + 4)) := At.fr (m := 4) b_125 bl1 r_84 (bqq rfl) (Or.inl (Nat.lt_of_lt_of_le hol (Nat.le_add_right _ _)))
  have f_127 := (r_51 (n0 + 8) (nal rfl) (Nat.ne_of_gt (Nat.lt_of_lt_of_le hol (Nat.le_add_right _ _)))).trans f_43
  have f_128 := (r_56 (n0 + 8) (nal rfl) (nan rfl)).trans f_127
  have f_129 := (r_62 (n0 + 8) (nal rfl) (Nat.ne_of_gt (Nat.lt_of_lt_of_le hol (Nat.le_add_right _ _)))).trans f_128
  have f_130 := (r_67 (n0 + 8) (nal rfl) (nan rfl)).trans f_129
  have f_131 := (r_73 (n0 + 8) (nal rfl) (Nat.ne_of_gt (Nat.lt_of_lt_of_le hol (Nat.le_add_right _ _)))).trans f_130
  have f_132 := (r_78 (n0 + 8) (nal rfl) (nan rfl)).trans f_131
  have f_133 := (r_84 (n0 + 8) (nal rfl) (Nat.ne_of_gt (Nat.lt_of_lt_of_le hol (Nat.le_add_right _ _)))).trans f_132
  have f_134 := (r_62 (n0 + 9) (nal rfl) (Nat.ne_of_gt (Nat.lt_of_lt_of_le hol (Nat.le_add_right _ _)))).trans f_54
  have f_135 := (r_67 (n0 + 9) (nal rfl) (nan rfl)).trans f_134
  have f_136 := (r_73 (n0 + 9) (nal rfl) (Nat.ne_of_gt (Nat.lt_of_lt_of_le hol (Nat.le_add_right _ _)))).trans f_135
  have f_137 := (r_78 (n0 + 9) (nal rfl) (nan rfl)).trans f_136
  have f_138 := (r_84 (n0 + 9) (nal rfl) (Nat.ne_of_gt (Nat.lt_of_lt_of_le hol (Nat.le_add_right _ _)))).trans f_137
  have f_139 := (r_73 (n0 + 10) (nal rfl) (Nat.ne_of_gt (Nat.lt_of_lt_of_le hol (Nat.le_add_right _ _)))).trans f_65
  have f_140 := (r_78 (n0 + 10) (nal rfl) (nan rfl)).trans f_139
  have f_141 := (r_84 (n0 + 10) (nal rfl) (Nat.ne_of_gt (Nat.lt_of_lt_of_le hol (Nat.le_add_right _ _)))).trans f_140
  have f_142 := (r_84 (n0 + 11) (nal rfl) (Nat.ne_of_gt (Nat.lt_of_lt_of_le hol (Nat.le_add_right _ _)))).trans f_76
  have hfr : ∀ j, j < n0 → j ≠ o → h_80[j]? = h[j]? := by
    intro j hj hjo
    rw [r_84 j (Nat.lt_of_lt_of_le hj (Nat.le_add_right _ _)) hjo, r_78 j (Nat.lt_of_lt_of_le hj (Nat.le_add_right _ _)) (Nat.ne_of_lt (Nat.lt_of_lt_of_le hj (Nat.le_add_right _ _))), r_73 j (Nat.lt_of_lt_of_le hj (Nat.le_add_right _ _)) hjo, r_67 j (Nat.lt_of_lt_of_le hj (Nat.le_add_right _ _)) (Nat.ne_of_lt (Nat.lt_of_lt_of_le hj (Nat.le_add_right _ _))), r_62 j (Nat.lt_of_lt_of_le hj (Nat.le_add_right _ _)) hjo, r_56 j (Nat.lt_of_lt_of_le hj (Nat.le_add_right _ _)) (Nat.ne_of_lt (Nat.lt_of_lt_of_le hj (Nat.le_add_right _ _))), r_51 j (Nat.lt_of_lt_of_le hj (Nat.le_add_right _ _)) hjo, r_45 j (Nat.lt_of_lt_of_le hj (Nat.le_add_right _ _)) (Nat.ne_of_lt (Nat.lt_of_lt_of_le hj (Nat.le_add_right _ _))), r_40 j (Nat.lt_of_lt_of_le hj (Nat.le_add_right _ _)) hjo, r_32 j (Nat.lt_of_lt_of_le hj (Nat.le_add_right _ _)) (Nat.ne_of_lt (Nat.lt_of_lt_of_le hj (Nat.le_add_right _ _))), r_25 j (Nat.lt_of_lt_of_le hj (Nat.le_add_right _ _)) (Nat.ne_of_lt (Nat.lt_of_lt_of_le hj (Nat.le_add_right _ _))), r_20 j (Nat.lt_of_lt_of_le hj (Nat.le_add_right _ _)) hjo, r_12 j (Nat.lt_of_lt_of_le hj (Nat.le_add_right _ _)) (Nat.ne_of_lt (Nat.lt_of_lt_of_le hj (Nat.le_add_right _ _))), r_5 j (Nat.lt_of_lt_of_le hj (Nat.le_add_right _ _)) (Nat.ne_of_lt (Nat.lt_of_lt_of_le hj (Nat.le_add_right _ _)))]
  exact J_vret hq dX2_init_62 rfl (hk1 hn l_83) (by decide) (by decide) ⟨rfl, l_83, f_82, (At_cons f_96 (At_app bl5 b_108 (At_cons f_117 (At_app bl1 b_126 (At_cons f_133 (At_cons f_138 (At_cons f_141 (At_cons f_142 At_nil)))))))), hfr⟩
def ob0 (n : Nat) : MC := (.inr (0, [.ref (n + 0), .ref (n + 13), .int (-1), .int (-1), .long 0, .int 0, .ref (n + 18), .ref (n + 19), .ref (n + 20), .ref (n + 21)]))
def bk0 (n : Nat) : List MC := ob2 (n + 1) :: (bk2 (n + 1) ++ (ob1 (n + 14) :: (bk1 (n + 14) ++ ((.inl (1, 4, .inl (fun _ => 0))) :: ((.inl (1, 4, .inl (fun _ => 0))) :: ((.inl (1, 4, .inl (fun _ => 0))) :: ((.inl (2, 16, .inr (.inl (fun _ => 0)))) :: ([]))))))))
set_option maxRecDepth 100000 in
theorem bl0 {n : Nat} : (bk0 n).length = 22 := rfl
set_option maxHeartbeats 4000000 in
set_option maxRecDepth 100000 in
theorem c_X0_init {d : Nat} {h : List MC} {o n0 : Nat} (hd : 3 ≤ d) (hn : h.length = n0) (ho : h[o]? = some (.inr (0, [.null, .null, .int 0, .int 0, .long 0, .int 0, .null, .null, .null, .null]))) : CT con0 d 22 3965 yX0_init cX0_init 1 none [.ref o] h (fun r h2 => r = none ∧ h2.length = n0 + 22 ∧ h2[o]? = some (ob0 n0) ∧ At h2 n0 (bk0 n0) ∧ ∀ j, j < n0 → j ≠ o → h2[j]? = h[j]?) := by
  have hol : o < n0 := by rw [← hn]; exact (List.getElem?_eq_some_iff.mp ho).1
  have hn0 : h.length = n0 + 0 := hn
  refine CT_of (by decide) (Nat.le_of_ble_eq_true rfl) (fun x hq => ?_)
  show J x yX0_init cX0_init 1 none d 22 3965 h.length 0 [(0, .ref o)] [] h 0 0
  refine J_aload_n (i := 0) (j := 0) dX0_init_0 rfl rfl ?_
  refine J_obj dX0_init_1 k351 k113 k114 (Nat.le_trans (by decide) hd) (Nat.le_of_ble_eq_true rfl) ?_
  refine J_aload_n (i := 0) (j := 0) dX0_init_4 rfl rfl ?_
  refine J_new (C := RX2) (T := TX2) (Z := 6) (ci := 2) (fs := [.null, .null, .null, .null, .null, .null]) (ty0 := tyX2) dX0_init_5 inG2 rfl tyX2_ok k352 k353 k96 fsX2 (hk1 hn hn0) (by decide) (by decide) ?_
  obtain ⟨h_1, e_2⟩ : ∃ z, z = h ++ [(.inr (2, [.null, .null, .null, .null, .null, .null]))] := ⟨_, rfl⟩
  refine J_w e_2.symm ?_
  refine J_cr (v := n0 + 0) hn0 ?_
  have f_3 := a_push e_2 hn0
  have l_4 : h_1.length = n0 + 1 := l_push e_2 hn0 rfl
  have r_5 := r_push (a := n0 + 0) e_2 hn0
  refine J_dup dX0_init_8 rfl ?_
  refine J_callIN (As := []) (rest := [.ref (n0 + 0), .ref o]) dX0_init_9 (c_X2_init (d := 2) (h := h_1) (o := n0 + 0) (n0 := n0 + 1) (by decide) l_4 f_3) hq.n k354 k355 rfl rfl k96 k356 np_X2_init (Nat.le_trans (by decide) hd) (by decide) (by decide) (by decide) (hk1 hn l_4) rfl (Nat.le_of_ble_eq_true rfl) (fun r_6 h_7 p_8 => ?_)
  obtain ⟨rfl, l_9, f_10, b_11, r_12⟩ := p_8
  have l_13 : h_7.length = n0 + 13 := l_9
  have f_14 := (r_5 (o) (Nat.lt_of_lt_of_le hol (Nat.le_add_right _ _)) (Nat.ne_of_lt (Nat.lt_of_lt_of_le hol (Nat.le_add_right _ _)))).trans ho
  have f_15 := (r_12 (o) (Nat.lt_of_lt_of_le hol (Nat.le_add_right _ _)) (Nat.ne_of_lt (Nat.lt_of_lt_of_le hol (Nat.le_add_right _ _)))).trans f_14
  obtain ⟨h_16, e_17⟩ : ∃ z, z = h_7.set (o) (.inr (0, [.ref (n0 + 0), .null, .int 0, .int 0, .long 0, .int 0, .null, .null, .null, .null])) := ⟨_, rfl⟩
  refine J_putF (C := RX0) (T := TX0) (Z := 10) (ci := 0) (f := 0) (ty0 := tyX0) dX0_init_12 inG0 rfl tyX0_ok nmX0 (by decide) k386 rfl rfl rfl rfl f_15 (Nat.le_of_ble_eq_true rfl) (fun _ _ => ⟨rfl, rfl⟩) e_17.symm ?_
  have f_18 := a_set e_17 f_15
  have l_19 : h_16.length = n0 + 13 := l_set e_17 l_13
  have r_20 := r_set (N := n0 + 13) e_17
  refine J_aload_n (i := 0) (j := 0) dX0_init_15 rfl rfl ?_
  refine J_new (C := RX1) (T := TX1) (Z := 6) (ci := 1) (fs := [.int 0, .null, .int 0, .null, .null, .null]) (ty0 := tyX1) dX0_init_16 inG1 rfl tyX1_ok k384 k125 k89 fsX1 (hk1 hn l_19) (by decide) (by decide) ?_
  obtain ⟨h_21, e_22⟩ : ∃ z, z = h_16 ++ [(.inr (1, [.int 0, .null, .int 0, .null, .null, .null]))] := ⟨_, rfl⟩
  refine J_w e_22.symm ?_
  refine J_cr (v := n0 + 13) l_19 ?_
  have f_23 := a_push e_22 l_19
  have l_24 : h_21.length = n0 + 14 := l_push e_22 l_19 rfl
  have r_25 := r_push (a := n0 + 13) e_22 l_19
  refine J_dup dX0_init_19 rfl ?_
  refine J_callIN (As := []) (rest := [.ref (n0 + 13), .ref o]) dX0_init_20 (c_X1_init (d := 1) (h := h_21) (o := n0 + 13) (n0 := n0 + 14) (by decide) l_24 f_23) hq.n k385 k127 rfl rfl k89 k128 np_X1_init (Nat.le_trans (by decide) hd) (by decide) (by decide) (by decide) (hk1 hn l_24) rfl (Nat.le_of_ble_eq_true rfl) (fun r_26 h_27 p_28 => ?_)
  obtain ⟨rfl, l_29, f_30, b_31, r_32⟩ := p_28
  have l_33 : h_27.length = n0 + 18 := l_29
  have f_34 := (r_25 (o) (Nat.lt_of_lt_of_le hol (Nat.le_add_right _ _)) (Nat.ne_of_lt (Nat.lt_of_lt_of_le hol (Nat.le_add_right _ _)))).trans f_18
  have f_35 := (r_32 (o) (Nat.lt_of_lt_of_le hol (Nat.le_add_right _ _)) (Nat.ne_of_lt (Nat.lt_of_lt_of_le hol (Nat.le_add_right _ _)))).trans f_34
  obtain ⟨h_36, e_37⟩ : ∃ z, z = h_27.set (o) (.inr (0, [.ref (n0 + 0), .ref (n0 + 13), .int 0, .int 0, .long 0, .int 0, .null, .null, .null, .null])) := ⟨_, rfl⟩
  refine J_putF (C := RX0) (T := TX0) (Z := 10) (ci := 0) (f := 1) (ty0 := tyX0) dX0_init_23 inG0 rfl tyX0_ok nmX0 (by decide) k388 rfl rfl rfl rfl f_35 (Nat.le_of_ble_eq_true rfl) (fun _ _ => ⟨rfl, rfl⟩) e_37.symm ?_
  have f_38 := a_set e_37 f_35
  have l_39 : h_36.length = n0 + 18 := l_set e_37 l_33
  have r_40 := r_set (N := n0 + 18) e_37
  refine J_aload_n (i := 0) (j := 0) dX0_init_26 rfl rfl ?_
  refine J_iconst (v := (-1)) dX0_init_27 (by decide) ?_
  obtain ⟨h_41, e_42⟩ : ∃ z, z = h_36.set (o) (.inr (0, [.ref (n0 + 0), .ref (n0 + 13), .int (-1), .int 0, .long 0, .int 0, .null, .null, .null, .null])) := ⟨_, rfl⟩
  refine J_put (C := RX0) (T := TX0) (Z := 10) (ci := 0) (f := 2) (ty0 := tyX0) dX0_init_28 inG0 rfl tyX0_ok nmX0 (by decide) k389 rfl rfl f_38 (Nat.le_of_ble_eq_true rfl) (fun _ _ => ⟨rfl, rfl⟩) e_42.symm ?_
  have f_43 := a_set e_42 f_38
  have l_44 : h_41.length = n0 + 18 := l_set e_42 l_39
  have r_45 := r_set (N := n0 + 18) e_42
  refine J_aload_n (i := 0) (j := 0) dX0_init_31 rfl rfl ?_
  refine J_iconst (v := (-1)) dX0_init_32 (by decide) ?_
  obtain ⟨h_46, e_47⟩ : ∃ z, z = h_41.set (o) (.inr (0, [.ref (n0 + 0), .ref (n0 + 13), .int (-1), .int (-1), .long 0, .int 0, .null, .null, .null, .null])) := ⟨_, rfl⟩
  refine J_put (C := RX0) (T := TX0) (Z := 10) (ci := 0) (f := 3) (ty0 := tyX0) dX0_init_33 inG0 rfl tyX0_ok nmX0 (by decide) k391 rfl rfl f_43 (Nat.le_of_ble_eq_true rfl) (fun _ _ => ⟨rfl, rfl⟩) e_47.symm ?_
  have f_48 := a_set e_47 f_43
  have l_49 : h_46.length = n0 + 18 := l_set e_47 l_44
  have r_50 := r_set (N := n0 + 18) e_47
  refine J_aload_n (i := 0) (j := 0) dX0_init_36 rfl rfl ?_
  refine J_lconst (v := 0) dX0_init_37 (by decide) ?_
  obtain ⟨h_51, e_52⟩ : ∃ z, z = h_46.set (o) (.inr (0, [.ref (n0 + 0), .ref (n0 + 13), .int (-1), .int (-1), .long 0, .int 0, .null, .null, .null, .null])) := ⟨_, rfl⟩
  refine J_put (C := RX0) (T := TX0) (Z := 10) (ci := 0) (f := 4) (ty0 := tyX0) dX0_init_38 inG0 rfl tyX0_ok nmX0 (by decide) k393 rfl rfl f_48 (Nat.le_of_ble_eq_true rfl) (fun _ _ => ⟨rfl, rfl⟩) e_52.symm ?_
  have f_53 := a_set e_52 f_48
  have l_54 : h_51.length = n0 + 18 := l_set e_52 l_49
  have r_55 := r_set (N := n0 + 18) e_52
  refine J_aload_n (i := 0) (j := 0) dX0_init_41 rfl rfl ?_
  refine J_iconst (v := 0) dX0_init_42 (by decide) ?_
  obtain ⟨h_56, e_57⟩ : ∃ z, z = h_51.set (o) (.inr (0, [.ref (n0 + 0), .ref (n0 + 13), .int (-1), .int (-1), .long 0, .int 0, .null, .null, .null, .null])) := ⟨_, rfl⟩
  refine J_put (C := RX0) (T := TX0) (Z := 10) (ci := 0) (f := 5) (ty0 := tyX0) dX0_init_43 inG0 rfl tyX0_ok nmX0 (by decide) k395 rfl rfl f_53 (Nat.le_of_ble_eq_true rfl) (fun _ _ => ⟨rfl, rfl⟩) e_57.symm ?_
  have f_58 := a_set e_57 f_53
  have l_59 : h_56.length = n0 + 18 := l_set e_57 l_54
  have r_60 := r_set (N := n0 + 18) e_57
  refine J_aload_n (i := 0) (j := 0) dX0_init_46 rfl rfl ?_
  refine J_iconst (v := 4) dX0_init_47 (by decide) ?_
  refine J_newa1 (Z := 4) dX0_init_48 ka1 (by decide) (by decide) (by decide) (hk1 hn l_59) (by decide) (by decide) ?_
  obtain ⟨h_61, e_62⟩ : ∃ z, z = h_56 ++ [(.inl (1, 4, .inl (fun _ => 0)))] := ⟨_, rfl⟩
  refine J_w e_62.symm ?_
  refine J_cr (v := n0 + 18) l_59 ?_
  have f_63 := a_push e_62 l_59
  have l_64 : h_61.length = n0 + 19 := l_push e_62 l_59 rfl
  have r_65 := r_push (a := n0 + 18) e_62 l_59
  have f_66 := (r_65 (o) (Nat.lt_of_lt_of_le hol (Nat.le_add_right _ _)) (Nat.ne_of_lt (Nat.lt_of_lt_of_le hol (Nat.le_add_right _ _)))).trans f_58
  obtain ⟨h_67, e_68⟩ : ∃ z, z = h_61.set (o) (.inr (0, [.ref (n0 + 0), .ref (n0 + 13), .int (-1), .int (-1), .long 0, .int 0, .ref (n0 + 18), .null, .null, .null])) := ⟨_, rfl⟩
  refine J_putF (C := RX0) (T := TX0) (Z := 10) (ci := 0) (f := 6) (ty0 := tyX0) dX0_init_50 inG0 rfl tyX0_ok nmX0 (by decide) k396 rfl rfl rfl rfl f_66 (Nat.le_of_ble_eq_true rfl) (fun _ _ => ⟨rfl, rfl⟩) e_68.symm ?_
  have f_69 := a_set e_68 f_66
  have l_70 : h_67.length = n0 + 19 := l_set e_68 l_64
  have r_71 := r_set (N := n0 + 19) e_68
  refine J_aload_n (i := 0) (j := 0) dX0_init_53 rfl rfl ?_
  refine J_iconst (v := 4) dX0_init_54 (by decide) ?_
  refine J_newa1 (Z := 4) dX0_init_55 ka1 (by decide) (by decide) (by decide) (hk1 hn l_70) (by decide) (by decide) ?_
  obtain ⟨h_72, e_73⟩ : ∃ z, z = h_67 ++ [(.inl (1, 4, .inl (fun _ => 0)))] := ⟨_, rfl⟩
  refine J_w e_73.symm ?_
  refine J_cr (v := n0 + 19) l_70 ?_
  have f_74 := a_push e_73 l_70
  have l_75 : h_72.length = n0 + 20 := l_push e_73 l_70 rfl
  have r_76 := r_push (a := n0 + 19) e_73 l_70
  have f_77 := (r_76 (o) (Nat.lt_of_lt_of_le hol (Nat.le_add_right _ _)) (Nat.ne_of_lt (Nat.lt_of_lt_of_le hol (Nat.le_add_right _ _)))).trans f_69
  obtain ⟨h_78, e_79⟩ : ∃ z, z = h_72.set (o) (.inr (0, [.ref (n0 + 0), .ref (n0 + 13), .int (-1), .int (-1), .long 0, .int 0, .ref (n0 + 18), .ref (n0 + 19), .null, .null])) := ⟨_, rfl⟩
  refine J_putF (C := RX0) (T := TX0) (Z := 10) (ci := 0) (f := 7) (ty0 := tyX0) dX0_init_57 inG0 rfl tyX0_ok nmX0 (by decide) k397 rfl rfl rfl rfl f_77 (Nat.le_of_ble_eq_true rfl) (fun _ _ => ⟨rfl, rfl⟩) e_79.symm ?_
  have f_80 := a_set e_79 f_77
  have l_81 : h_78.length = n0 + 20 := l_set e_79 l_75
  have r_82 := r_set (N := n0 + 20) e_79
  refine J_aload_n (i := 0) (j := 0) dX0_init_60 rfl rfl ?_
  refine J_iconst (v := 4) dX0_init_61 (by decide) ?_
  refine J_newa1 (Z := 4) dX0_init_62 ka1 (by decide) (by decide) (by decide) (hk1 hn l_81) (by decide) (by decide) ?_
  obtain ⟨h_83, e_84⟩ : ∃ z, z = h_78 ++ [(.inl (1, 4, .inl (fun _ => 0)))] := ⟨_, rfl⟩
  refine J_w e_84.symm ?_
  refine J_cr (v := n0 + 20) l_81 ?_
  have f_85 := a_push e_84 l_81
  have l_86 : h_83.length = n0 + 21 := l_push e_84 l_81 rfl
  have r_87 := r_push (a := n0 + 20) e_84 l_81
  have f_88 := (r_87 (o) (Nat.lt_of_lt_of_le hol (Nat.le_add_right _ _)) (Nat.ne_of_lt (Nat.lt_of_lt_of_le hol (Nat.le_add_right _ _)))).trans f_80
  obtain ⟨h_89, e_90⟩ : ∃ z, z = h_83.set (o) (.inr (0, [.ref (n0 + 0), .ref (n0 + 13), .int (-1), .int (-1), .long 0, .int 0, .ref (n0 + 18), .ref (n0 + 19), .ref (n0 + 20), .null])) := ⟨_, rfl⟩
  refine J_putF (C := RX0) (T := TX0) (Z := 10) (ci := 0) (f := 8) (ty0 := tyX0) dX0_init_64 inG0 rfl tyX0_ok nmX0 (by decide) k398 rfl rfl rfl rfl f_88 (Nat.le_of_ble_eq_true rfl) (fun _ _ => ⟨rfl, rfl⟩) e_90.symm ?_
  have f_91 := a_set e_90 f_88
  have l_92 : h_89.length = n0 + 21 := l_set e_90 l_86
  have r_93 := r_set (N := n0 + 21) e_90
  refine J_aload_n (i := 0) (j := 0) dX0_init_67 rfl rfl ?_
  refine J_bipush (v := 16) dX0_init_68 (by decide) ?_
  refine J_newa2 (Z := 16) dX0_init_70 ka2 (by decide) (by decide) (by decide) (hk1 hn l_92) (by decide) (by decide) ?_
  obtain ⟨h_94, e_95⟩ : ∃ z, z = h_89 ++ [(.inl (2, 16, .inr (.inl (fun _ => 0))))] := ⟨_, rfl⟩
  refine J_w e_95.symm ?_
  refine J_cr (v := n0 + 21) l_92 ?_
  have f_96 := a_push e_95 l_92
  have l_97 : h_94.length = n0 + 22 := l_push e_95 l_92 rfl
  have r_98 := r_push (a := n0 + 21) e_95 l_92
  have f_99 := (r_98 (o) (Nat.lt_of_lt_of_le hol (Nat.le_add_right _ _)) (Nat.ne_of_lt (Nat.lt_of_lt_of_le hol (Nat.le_add_right _ _)))).trans f_91
  obtain ⟨h_100, e_101⟩ : ∃ z, z = h_94.set (o) (.inr (0, [.ref (n0 + 0), .ref (n0 + 13), .int (-1), .int (-1), .long 0, .int 0, .ref (n0 + 18), .ref (n0 + 19), .ref (n0 + 20), .ref (n0 + 21)])) := ⟨_, rfl⟩
  refine J_putF (C := RX0) (T := TX0) (Z := 10) (ci := 0) (f := 9) (ty0 := tyX0) dX0_init_72 inG0 rfl tyX0_ok nmX0 (by decide) k399 rfl rfl rfl rfl f_99 (Nat.le_of_ble_eq_true rfl) (fun _ _ => ⟨rfl, rfl⟩) e_101.symm ?_
  have f_102 := a_set e_101 f_99
  have l_103 : h_100.length = n0 + 22 := l_set e_101 l_97
  have r_104 := r_set (N := n0 + 22) e_101
  have f_105 := (r_20 (n0 + 0) (nal rfl) (Nat.ne_of_gt (Nat.lt_of_lt_of_le hol (Nat.le_add_right _ _)))).trans f_10
  have f_106 := (r_25 (n0 + 0) (nal rfl) (nan rfl)).trans f_105
  have f_107 := (r_32 (n0 + 0) (nal rfl) (nan rfl)).trans f_106
  have f_108 := (r_40 (n0 + 0) (nal rfl) (Nat.ne_of_gt (Nat.lt_of_lt_of_le hol (Nat.le_add_right _ _)))).trans f_107
  have f_109 := (r_45 (n0 + 0) (nal rfl) (Nat.ne_of_gt (Nat.lt_of_lt_of_le hol (Nat.le_add_right _ _)))).trans f_108
  have f_110 := (r_50 (n0 + 0) (nal rfl) (Nat.ne_of_gt (Nat.lt_of_lt_of_le hol (Nat.le_add_right _ _)))).trans f_109
  have f_111 := (r_55 (n0 + 0) (nal rfl) (Nat.ne_of_gt (Nat.lt_of_lt_of_le hol (Nat.le_add_right _ _)))).trans f_110
  have f_112 := (r_60 (n0 + 0) (nal rfl) (Nat.ne_of_gt (Nat.lt_of_lt_of_le hol (Nat.le_add_right _ _)))).trans f_111
  have f_113 := (r_65 (n0 + 0) (nal rfl) (nan rfl)).trans f_112
  have f_114 := (r_71 (n0 + 0) (nal rfl) (Nat.ne_of_gt (Nat.lt_of_lt_of_le hol (Nat.le_add_right _ _)))).trans f_113
  have f_115 := (r_76 (n0 + 0) (nal rfl) (nan rfl)).trans f_114
  have f_116 := (r_82 (n0 + 0) (nal rfl) (Nat.ne_of_gt (Nat.lt_of_lt_of_le hol (Nat.le_add_right _ _)))).trans f_115
  have f_117 := (r_87 (n0 + 0) (nal rfl) (nan rfl)).trans f_116
  have f_118 := (r_93 (n0 + 0) (nal rfl) (Nat.ne_of_gt (Nat.lt_of_lt_of_le hol (Nat.le_add_right _ _)))).trans f_117
  have f_119 := (r_98 (n0 + 0) (nal rfl) (nan rfl)).trans f_118
  have f_120 := (r_104 (n0 + 0) (nal rfl) (Nat.ne_of_gt (Nat.lt_of_lt_of_le hol (Nat.le_add_right _ _)))).trans f_119
  have b_121 : At h_16 (n0 + 1) (bk2 (n0 + 1)) := At.fr (m := 12) b_11 bl2 r_20 (bqq rfl) (Or.inl (Nat.lt_of_lt_of_le hol (Nat.le_add_right _ _)))
  have b_122 : At h_21 (n0 + 1) (bk2 (n0 + 1)) := At.fr (m := 12) b_121 bl2 r_25 (bqq rfl) (Or.inr (bqq rfl))
  have b_123 : At h_27 (n0 + 1) (bk2 (n0 + 1)) := At.fr (m := 12) b_122 bl2 r_32 (bqq rfl) (Or.inr (bqq rfl))
  have b_124 : At h_36 (n0 + 1) (bk2 (n0 + 1)) := At.fr (m := 12) b_123 bl2 r_40 (bqq rfl) (Or.inl (Nat.lt_of_lt_of_le hol (Nat.le_add_right _ _)))
  have b_125 : At h_41 (n0 + 1) (bk2 (n0 + 1)) := At.fr (m := 12) b_124 bl2 r_45 (bqq rfl) (Or.inl (Nat.lt_of_lt_of_le hol (Nat.le_add_right _ _)))
  have b_126 : At h_46 (n0 + 1) (bk2 (n0 + 1)) := At.fr (m := 12) b_125 bl2 r_50 (bqq rfl) (Or.inl (Nat.lt_of_lt_of_le hol (Nat.le_add_right _ _)))
  have b_127 : At h_51 (n0 + 1) (bk2 (n0 + 1)) := At.fr (m := 12) b_126 bl2 r_55 (bqq rfl) (Or.inl (Nat.lt_of_lt_of_le hol (Nat.le_add_right _ _)))
  have b_128 : At h_56 (n0 + 1) (bk2 (n0 + 1)) := At.fr (m := 12) b_127 bl2 r_60 (bqq rfl) (Or.inl (Nat.lt_of_lt_of_le hol (Nat.le_add_right _ _)))
  have b_129 : At h_61 (n0 + 1) (bk2 (n0 + 1)) := At.fr (m := 12) b_128 bl2 r_65 (bqq rfl) (Or.inr (bqq rfl))
  have b_130 : At h_67 (n0 + 1) (bk2 (n0 + 1)) := At.fr (m := 12) b_129 bl2 r_71 (bqq rfl) (Or.inl (Nat.lt_of_lt_of_le hol (Nat.le_add_right _ _)))
  have b_131 : At h_72 (n0 + 1) (bk2 (n0 + 1)) := At.fr (m := 12) b_130 bl2 r_76 (bqq rfl) (Or.inr (bqq rfl))
  have b_132 : At h_78 (n0 + 1) (bk2 (n0 + 1)) := At.fr (m := 12) b_131 bl2 r_82 (bqq rfl) (Or.inl (Nat.lt_of_lt_of_le hol (Nat.le_add_right _ _)))
  have b_133 : At h_83 (n0 + 1) (bk2 (n0 + 1)) := At.fr (m := 12) b_132 bl2 r_87 (bqq rfl) (Or.inr (bqq rfl))
  have b_134 : At h_89 (n0 + 1) (bk2 (n0 + 1)) := At.fr (m := 12) b_133 bl2 r_93 (bqq rfl) (Or.inl (Nat.lt_of_lt_of_le hol (Nat.le_add_right _ _)))
  have b_135 : At h_94 (n0 + 1) (bk2 (n0 + 1)) := At.fr (m := 12) b_134 bl2 r_98 (bqq rfl) (Or.inr (bqq rfl))
  have b_136 : At h_100 (n0 + 1) (bk2 (n0 + 1)) := At.fr (m := 12) b_135 bl2 r_104 (bqq rfl) (Or.inl (Nat.lt_of_lt_of_le hol (Nat.le_add_right _ _)))
  have f_137 := (r_40 (n0 + 13) (nal rfl) (Nat.ne_of_gt (Nat.lt_of_lt_of_le hol (Nat.le_add_right _ _)))).trans f_30
  have f_138 := (r_45 (n0 + 13) (nal rfl) (Nat.ne_of_gt (Nat.lt_of_lt_of_le hol (Nat.le_add_right _ _)))).trans f_137
  have f_139 := (r_50 (n0 + 13) (nal rfl) (Nat.ne_of_gt (Nat.lt_of_lt_of_le hol (Nat.le_add_right _ _)))).trans f_138
  have f_140 := (r_55 (n0 + 13) (nal rfl) (Nat.ne_of_gt (Nat.lt_of_lt_of_le hol (Nat.le_add_right _ _)))).trans f_139
  have f_141 := (r_60 (n0 + 13) (nal rfl) (Nat.ne_of_gt (Nat.lt_of_lt_of_le hol (Nat.le_add_right _ _)))).trans f_140
  have f_142 := (r_65 (n0 + 13) (nal rfl) (nan rfl)).trans f_141
  have f_143 := (r_71 (n0 + 13) (nal rfl) (Nat.ne_of_gt (Nat.lt_of_lt_of_le hol (Nat.le_add_right _ _)))).trans f_142
  have f_144 := (r_76 (n0 + 13) (nal rfl) (nan rfl)).trans f_143
  have f_145 := (r_82 (n0 + 13) (nal rfl) (Nat.ne_of_gt (Nat.lt_of_lt_of_le hol (Nat.le_add_right _ _)))).trans f_144
  have f_146 := (r_87 (n0 + 13) (nal rfl) (nan rfl)).trans f_145
  have f_147 := (r_93 (n0 + 13) (nal rfl) (Nat.ne_of_gt (Nat.lt_of_lt_of_le hol (Nat.le_add_right _ _)))).trans f_146
  have f_148 := (r_98 (n0 + 13) (nal rfl) (nan rfl)).trans f_147
  have f_149 := (r_104 (n0 + 13) (nal rfl) (Nat.ne_of_gt (Nat.lt_of_lt_of_le hol (Nat.le_add_right _ _)))).trans f_148
  have b_150 : At h_36 (n0 + 14) (bk1 (n0 + 14)) := At.fr (m := 4) b_31 bl1 r_40 (bqq rfl) (Or.inl (Nat.lt_of_lt_of_le hol (Nat.le_add_right _ _)))
  have b_151 : At h_41 (n0 + 14) (bk1 (n0 + 14)) := At.fr (m := 4) b_150 bl1 r_45 (bqq rfl) (Or.inl (Nat.lt_of_lt_of_le hol (Nat.le_add_right _ _)))
  have b_152 : At h_46 (n0 + 14) (bk1 (n0 + 14)) := At.fr (m := 4) b_151 bl1 r_50 (bqq rfl) (Or.inl (Nat.lt_of_lt_of_le hol (Nat.le_add_right _ _)))
  have b_153 : At h_51 (n0 + 14) (bk1 (n0 + 14)) := At.fr (m := 4) b_152 bl1 r_55 (bqq rfl) (Or.inl (Nat.lt_of_lt_of_le hol (Nat.le_add_right _ _)))
  have b_154 : At h_56 (n0 + 14) (bk1 (n0 + 14)) := At.fr (m := 4) b_153 bl1 r_60 (bqq rfl) (Or.inl (Nat.lt_of_lt_of_le hol (Nat.le_add_right _ _)))
  have b_155 : At h_61 (n0 + 14) (bk1 (n0 + 14)) := At.fr (m := 4) b_154 bl1 r_65 (bqq rfl) (Or.inr (bqq rfl))
  have b_156 : At h_67 (n0 + 14) (bk1 (n0 + 14)) := At.fr (m := 4) b_155 bl1 r_71 (bqq rfl) (Or.inl (Nat.lt_of_lt_of_le hol (Nat.le_add_right _ _)))
  have b_157 : At h_72 (n0 + 14) (bk1 (n0 + 14)) := At.fr (m := 4) b_156 bl1 r_76 (bqq rfl) (Or.inr (bqq rfl))
  have b_158 : At h_78 (n0 + 14) (bk1 (n0 + 14)) := At.fr (m := 4) b_157 bl1 r_82 (bqq rfl) (Or.inl (Nat.lt_of_lt_of_le hol (Nat.le_add_right _ _)))
  have b_159 : At h_83 (n0 + 14) (bk1 (n0 + 14)) := At.fr (m := 4) b_158 bl1 r_87 (bqq rfl) (Or.inr (bqq rfl))
  have b_160 : At h_89 (n0 + 14) (bk1 (n0 + 14)) := At.fr (m := 4) b_159 bl1 r_93 (bqq rfl) (Or.inl (Nat.lt_of_lt_of_le hol (Nat.le_add_right _ _)))
  have b_161 : At h_94 (n0 + 14) (bk1 (n0 + 14)) := At.fr (m := 4) b_160 bl1 r_98 (bqq rfl) (Or.inr (bqq rfl))
  have b_162 : At h_100 (n0 + 14) (bk1 (n0 + 14)) := At.fr (m := 4) b_161 bl1 r_104 (bqq rfl) (Or.inl (Nat.lt_of_lt_of_le hol (Nat.le_add_right _ _)))
  have f_163 := (r_71 (n0 + 18) (nal rfl) (Nat.ne_of_gt (Nat.lt_of_lt_of_le hol (Nat.le_add_right _ _)))).trans f_63
  have f_164 := (r_76 (n0 + 18) (nal rfl) (nan rfl)).trans f_163
  have f_165 := (r_82 (n0 + 18) (nal rfl) (Nat.ne_of_gt (Nat.lt_of_lt_of_le hol (Nat.le_add_right _ _)))).trans f_164
  have f_166 := (r_87 (n0 + 18) (nal rfl) (nan rfl)).trans f_165
  have f_167 := (r_93 (n0 + 18) (nal rfl) (Nat.ne_of_gt (Nat.lt_of_lt_of_le hol (Nat.le_add_right _ _)))).trans f_166
  have f_168 := (r_98 (n0 + 18) (nal rfl) (nan rfl)).trans f_167
  have f_169 := (r_104 (n0 + 18) (nal rfl) (Nat.ne_of_gt (Nat.lt_of_lt_of_le hol (Nat.le_add_right _ _)))).trans f_168
  have f_170 := (r_82 (n0 + 19) (nal rfl) (Nat.ne_of_gt (Nat.lt_of_lt_of_le hol (Nat.le_add_right _ _)))).trans f_74
  have f_171 := (r_87 (n0 + 19) (nal rfl) (nan rfl)).trans f_170
  have f_172 := (r_93 (n0 + 19) (nal rfl) (Nat.ne_of_gt (Nat.lt_of_lt_of_le hol (Nat.le_add_right _ _)))).trans f_171
  have f_173 := (r_98 (n0 + 19) (nal rfl) (nan rfl)).trans f_172
  have f_174 := (r_104 (n0 + 19) (nal rfl) (Nat.ne_of_gt (Nat.lt_of_lt_of_le hol (Nat.le_add_right _ _)))).trans f_173
  have f_175 := (r_93 (n0 + 20) (nal rfl) (Nat.ne_of_gt (Nat.lt_of_lt_of_le hol (Nat.le_add_right _ _)))).trans f_85
  have f_176 := (r_98 (n0 + 20) (nal rfl) (nan rfl)).trans f_175
  have f_177 := (r_104 (n0 + 20) (nal rfl) (Nat.ne_of_gt (Nat.lt_of_lt_of_le hol (Nat.le_add_right _ _)))).trans f_176
  have f_178 := (r_104 (n0 + 21) (nal rfl) (Nat.ne_of_gt (Nat.lt_of_lt_of_le hol (Nat.le_add_right _ _)))).trans f_96
  have hfr : ∀ j, j < n0 → j ≠ o → h_100[j]? = h[j]? := by
    intro j hj hjo
    rw [r_104 j (Nat.lt_of_lt_of_le hj (Nat.le_add_right _ _)) hjo, r_98 j (Nat.lt_of_lt_of_le hj (Nat.le_add_right _ _)) (Nat.ne_of_lt (Nat.lt_of_lt_of_le hj (Nat.le_add_right _ _))), r_93 j (Nat.lt_of_lt_of_le hj (Nat.le_add_right _ _)) hjo, r_87 j (Nat.lt_of_lt_of_le hj (Nat.le_add_right _ _)) (Nat.ne_of_lt (Nat.lt_of_lt_of_le hj (Nat.le_add_right _ _))), r_82 j (Nat.lt_of_lt_of_le hj (Nat.le_add_right _ _)) hjo, r_76 j (Nat.lt_of_lt_of_le hj (Nat.le_add_right _ _)) (Nat.ne_of_lt (Nat.lt_of_lt_of_le hj (Nat.le_add_right _ _))), r_71 j (Nat.lt_of_lt_of_le hj (Nat.le_add_right _ _)) hjo, r_65 j (Nat.lt_of_lt_of_le hj (Nat.le_add_right _ _)) (Nat.ne_of_lt (Nat.lt_of_lt_of_le hj (Nat.le_add_right _ _))), r_60 j (Nat.lt_of_lt_of_le hj (Nat.le_add_right _ _)) hjo, r_55 j (Nat.lt_of_lt_of_le hj (Nat.le_add_right _ _)) hjo, r_50 j (Nat.lt_of_lt_of_le hj (Nat.le_add_right _ _)) hjo, r_45 j (Nat.lt_of_lt_of_le hj (Nat.le_add_right _ _)) hjo, r_40 j (Nat.lt_of_lt_of_le hj (Nat.le_add_right _ _)) hjo, r_32 j (Nat.lt_of_lt_of_le hj (Nat.le_add_right _ _)) (Nat.ne_of_lt (Nat.lt_of_lt_of_le hj (Nat.le_add_right _ _))), r_25 j (Nat.lt_of_lt_of_le hj (Nat.le_add_right _ _)) (Nat.ne_of_lt (Nat.lt_of_lt_of_le hj (Nat.le_add_right _ _))), r_20 j (Nat.lt_of_lt_of_le hj (Nat.le_add_right _ _)) hjo, r_12 j (Nat.lt_of_lt_of_le hj (Nat.le_add_right _ _)) (Nat.ne_of_lt (Nat.lt_of_lt_of_le hj (Nat.le_add_right _ _))), r_5 j (Nat.lt_of_lt_of_le hj (Nat.le_add_right _ _)) (Nat.ne_of_lt (Nat.lt_of_lt_of_le hj (Nat.le_add_right _ _)))]
  exact J_vret hq dX0_init_75 rfl (hk1 hn l_103) (by decide) (by decide) ⟨rfl, l_103, f_102, (At_cons f_120 (At_app bl2 b_136 (At_cons f_149 (At_app bl1 b_162 (At_cons f_169 (At_cons f_174 (At_cons f_177 (At_cons f_178 At_nil)))))))), hfr⟩
def ob10 (n : Nat) : MC := (.inr (10, [.ref (n + 0), .ref (n + 26), .ref (n + 27), .ref (n + 28), .ref (n + 42), .ref (n + 48), .ref (n + 52), .ref (n + 55), .ref (n + 56), .ref (n + 78)]))
def bk10 (n : Nat) : List MC := ob7 (n + 1) :: (bk7 (n + 1) ++ ((.inl (5, 3, .inr (.inr (va_up (va_up (va_up (fun _ => none) ((0 : Int32).toNatClampNeg) (some (n + 83))) ((1 : Int32).toNatClampNeg) (some (n + 109))) ((2 : Int32).toNatClampNeg) (some (n + 135)))))) :: ((.inl (3, 3, .inl (fun _ => 0))) :: (ob3 (n + 29) :: (bk3 (n + 29) ++ (ob4 (n + 43) :: (bk4 (n + 43) ++ (ob8 (n + 49) :: (bk8 (n + 49) ++ (ob5 (n + 53) :: (bk5 (n + 53) ++ (ob0 (n + 56) :: (bk0 (n + 56) ++ (ob1 (n + 79) :: (bk1 (n + 79) ++ (ob7 (n + 84) :: (bk7 (n + 84) ++ (ob7 (n + 110) :: (bk7 (n + 110) ++ (ob7 (n + 136) :: (bk7 (n + 136) ++ ([]))))))))))))))))))))))
set_option maxRecDepth 100000 in
theorem bl10 {n : Nat} : (bk10 n).length = 161 := rfl
set_option maxHeartbeats 4000000 in
set_option maxRecDepth 100000 in
theorem c_X10_init {d : Nat} {h : List MC} {o n0 : Nat} (hd : 4 ≤ d) (hn : h.length = n0) (ho : h[o]? = some (.inr (10, [.null, .null, .null, .null, .null, .null, .null, .null, .null, .null]))) : CT con0 d 161 8812 yX10_init cX10_init 2 none [.ref o] h (fun r h2 => r = none ∧ h2.length = n0 + 161 ∧ h2[o]? = some (ob10 n0) ∧ At h2 n0 (bk10 n0) ∧ ∀ j, j < n0 → j ≠ o → h2[j]? = h[j]?) := by
  have hol : o < n0 := by rw [← hn]; exact (List.getElem?_eq_some_iff.mp ho).1
  have hn0 : h.length = n0 + 0 := hn
  refine CT_of (by decide) (Nat.le_of_ble_eq_true rfl) (fun x hq => ?_)
  show J x yX10_init cX10_init 2 none d 161 8812 h.length 0 [(0, .ref o)] [] h 0 0
  refine J_aload_n (i := 0) (j := 0) dX10_init_0 rfl rfl ?_
  refine J_obj dX10_init_1 k112 k113 k114 (Nat.le_trans (by decide) hd) (Nat.le_of_ble_eq_true rfl) ?_
  refine J_aload_n (i := 0) (j := 0) dX10_init_4 rfl rfl ?_
  refine J_new (C := RX7) (T := TX7) (Z := 8) (ci := 7) (fs := [.null, .int 0, .int 0, .int 0, .null, .int 0, .null, .int 0]) (ty0 := tyX7) dX10_init_5 inG7 rfl tyX7_ok k115 k116 k88 fsX7 (hk1 hn hn0) (by decide) (by decide) ?_
  obtain ⟨h_1, e_2⟩ : ∃ z, z = h ++ [(.inr (7, [.null, .int 0, .int 0, .int 0, .null, .int 0, .null, .int 0]))] := ⟨_, rfl⟩
  refine J_w e_2.symm ?_
  refine J_cr (v := n0 + 0) hn0 ?_
  have f_3 := a_push e_2 hn0
  have l_4 : h_1.length = n0 + 1 := l_push e_2 hn0 rfl
  have r_5 := r_push (a := n0 + 0) e_2 hn0
  refine J_dup dX10_init_8 rfl ?_
  refine J_callI (As := []) (rest := [.ref (n0 + 0), .ref o]) dX10_init_9 (c_X7_init (d := 2) (h := h_1) (o := n0 + 0) (n0 := n0 + 1) (by decide) l_4 f_3) hq.n k117 k118 rfl rfl k88 k119 np_X7_init (Nat.le_trans (by decide) hd) (by decide) (by decide) (by decide) (hk1 hn l_4) rfl (Nat.le_of_ble_eq_true rfl) (fun r_6 h_7 p_8 => ?_)
  obtain ⟨rfl, l_9, f_10, b_11, r_12⟩ := p_8
  have l_13 : h_7.length = n0 + 26 := l_9
  have f_14 := (r_5 (o) (Nat.lt_of_lt_of_le hol (Nat.le_add_right _ _)) (Nat.ne_of_lt (Nat.lt_of_lt_of_le hol (Nat.le_add_right _ _)))).trans ho
  have f_15 := (r_12 (o) (Nat.lt_of_lt_of_le hol (Nat.le_add_right _ _)) (Nat.ne_of_lt (Nat.lt_of_lt_of_le hol (Nat.le_add_right _ _)))).trans f_14
  obtain ⟨h_16, e_17⟩ : ∃ z, z = h_7.set (o) (.inr (10, [.ref (n0 + 0), .null, .null, .null, .null, .null, .null, .null, .null, .null])) := ⟨_, rfl⟩
  refine J_putF (C := RX10) (T := TX10) (Z := 10) (ci := 10) (f := 0) (ty0 := tyX10) dX10_init_12 inG10 rfl tyX10_ok nmX10 (by decide) k423 rfl rfl rfl rfl f_15 (Nat.le_of_ble_eq_true rfl) (fun _ _ => ⟨rfl, rfl⟩) e_17.symm ?_
  have f_18 := a_set e_17 f_15
  have l_19 : h_16.length = n0 + 26 := l_set e_17 l_13
  have r_20 := r_set (N := n0 + 26) e_17
  refine J_aload_n (i := 0) (j := 0) dX10_init_15 rfl rfl ?_
  refine J_iconst (v := 3) dX10_init_16 (by decide) ?_
  refine J_newq (t := 5) (Z := 3) dX10_init_17 k115 ko5 (fun _ => rfl) (by decide) (by decide) (by decide) (hk1 hn l_19) (by decide) (by decide) ?_
  obtain ⟨h_21, e_22⟩ : ∃ z, z = h_16 ++ [(.inl (5, 3, .inr (.inr (fun _ => none))))] := ⟨_, rfl⟩
  refine J_w e_22.symm ?_
  refine J_cr (v := n0 + 26) l_19 ?_
  have f_23 := a_push e_22 l_19
  have l_24 : h_21.length = n0 + 27 := l_push e_22 l_19 rfl
  have r_25 := r_push (a := n0 + 26) e_22 l_19
  have f_26 := (r_25 (o) (Nat.lt_of_lt_of_le hol (Nat.le_add_right _ _)) (Nat.ne_of_lt (Nat.lt_of_lt_of_le hol (Nat.le_add_right _ _)))).trans f_18
  obtain ⟨h_27, e_28⟩ : ∃ z, z = h_21.set (o) (.inr (10, [.ref (n0 + 0), .ref (n0 + 26), .null, .null, .null, .null, .null, .null, .null, .null])) := ⟨_, rfl⟩
  refine J_putF (C := RX10) (T := TX10) (Z := 10) (ci := 10) (f := 1) (ty0 := tyX10) dX10_init_20 inG10 rfl tyX10_ok nmX10 (by decide) k424 rfl rfl rfl rfl f_26 (Nat.le_of_ble_eq_true rfl) (fun _ _ => ⟨rfl, rfl⟩) e_28.symm ?_
  have f_29 := a_set e_28 f_26
  have l_30 : h_27.length = n0 + 27 := l_set e_28 l_24
  have r_31 := r_set (N := n0 + 27) e_28
  refine J_aload_n (i := 0) (j := 0) dX10_init_23 rfl rfl ?_
  refine J_iconst (v := 3) dX10_init_24 (by decide) ?_
  refine J_newa3 (Z := 3) dX10_init_25 ka3 (by decide) (by decide) (by decide) (hk1 hn l_30) (by decide) (by decide) ?_
  obtain ⟨h_32, e_33⟩ : ∃ z, z = h_27 ++ [(.inl (3, 3, .inl (fun _ => 0)))] := ⟨_, rfl⟩
  refine J_w e_33.symm ?_
  refine J_cr (v := n0 + 27) l_30 ?_
  have f_34 := a_push e_33 l_30
  have l_35 : h_32.length = n0 + 28 := l_push e_33 l_30 rfl
  have r_36 := r_push (a := n0 + 27) e_33 l_30
  have f_37 := (r_36 (o) (Nat.lt_of_lt_of_le hol (Nat.le_add_right _ _)) (Nat.ne_of_lt (Nat.lt_of_lt_of_le hol (Nat.le_add_right _ _)))).trans f_29
  obtain ⟨h_38, e_39⟩ : ∃ z, z = h_32.set (o) (.inr (10, [.ref (n0 + 0), .ref (n0 + 26), .ref (n0 + 27), .null, .null, .null, .null, .null, .null, .null])) := ⟨_, rfl⟩
  refine J_putF (C := RX10) (T := TX10) (Z := 10) (ci := 10) (f := 2) (ty0 := tyX10) dX10_init_27 inG10 rfl tyX10_ok nmX10 (by decide) k425 rfl rfl rfl rfl f_37 (Nat.le_of_ble_eq_true rfl) (fun _ _ => ⟨rfl, rfl⟩) e_39.symm ?_
  have f_40 := a_set e_39 f_37
  have l_41 : h_38.length = n0 + 28 := l_set e_39 l_35
  have r_42 := r_set (N := n0 + 28) e_39
  refine J_aload_n (i := 0) (j := 0) dX10_init_30 rfl rfl ?_
  refine J_new (C := RX3) (T := TX3) (Z := 7) (ci := 3) (fs := [.null, .null, .null, .null, .null, .int 0, .int 0]) (ty0 := tyX3) dX10_init_31 inG3 rfl tyX3_ok k220 k221 k91 fsX3 (hk1 hn l_41) (by decide) (by decide) ?_
  obtain ⟨h_43, e_44⟩ : ∃ z, z = h_38 ++ [(.inr (3, [.null, .null, .null, .null, .null, .int 0, .int 0]))] := ⟨_, rfl⟩
  refine J_w e_44.symm ?_
  refine J_cr (v := n0 + 28) l_41 ?_
  have f_45 := a_push e_44 l_41
  have l_46 : h_43.length = n0 + 29 := l_push e_44 l_41 rfl
  have r_47 := r_push (a := n0 + 28) e_44 l_41
  refine J_dup dX10_init_34 rfl ?_
  refine J_callIN (As := []) (rest := [.ref (n0 + 28), .ref o]) dX10_init_35 (c_X3_init (d := 2) (h := h_43) (o := n0 + 28) (n0 := n0 + 29) (by decide) l_46 f_45) hq.n k222 k223 rfl rfl k91 k224 np_X3_init (Nat.le_trans (by decide) hd) (by decide) (by decide) (by decide) (hk1 hn l_46) rfl (Nat.le_of_ble_eq_true rfl) (fun r_48 h_49 p_50 => ?_)
  obtain ⟨rfl, l_51, f_52, b_53, r_54⟩ := p_50
  have l_55 : h_49.length = n0 + 42 := l_51
  have f_56 := (r_47 (o) (Nat.lt_of_lt_of_le hol (Nat.le_add_right _ _)) (Nat.ne_of_lt (Nat.lt_of_lt_of_le hol (Nat.le_add_right _ _)))).trans f_40
  have f_57 := (r_54 (o) (Nat.lt_of_lt_of_le hol (Nat.le_add_right _ _)) (Nat.ne_of_lt (Nat.lt_of_lt_of_le hol (Nat.le_add_right _ _)))).trans f_56
  obtain ⟨h_58, e_59⟩ : ∃ z, z = h_49.set (o) (.inr (10, [.ref (n0 + 0), .ref (n0 + 26), .ref (n0 + 27), .ref (n0 + 28), .null, .null, .null, .null, .null, .null])) := ⟨_, rfl⟩
  refine J_putF (C := RX10) (T := TX10) (Z := 10) (ci := 10) (f := 3) (ty0 := tyX10) dX10_init_38 inG10 rfl tyX10_ok nmX10 (by decide) k426 rfl rfl rfl rfl f_57 (Nat.le_of_ble_eq_true rfl) (fun _ _ => ⟨rfl, rfl⟩) e_59.symm ?_
  have f_60 := a_set e_59 f_57
  have l_61 : h_58.length = n0 + 42 := l_set e_59 l_55
  have r_62 := r_set (N := n0 + 42) e_59
  refine J_aload_n (i := 0) (j := 0) dX10_init_41 rfl rfl ?_
  refine J_new (C := RX4) (T := TX4) (Z := 4) (ci := 4) (fs := [.null, .int 0, .int 0, .int 0]) (ty0 := tyX4) dX10_init_42 inG4 rfl tyX4_ok k286 k287 k93 fsX4 (hk1 hn l_61) (by decide) (by decide) ?_
  obtain ⟨h_63, e_64⟩ : ∃ z, z = h_58 ++ [(.inr (4, [.null, .int 0, .int 0, .int 0]))] := ⟨_, rfl⟩
  refine J_w e_64.symm ?_
  refine J_cr (v := n0 + 42) l_61 ?_
  have f_65 := a_push e_64 l_61
  have l_66 : h_63.length = n0 + 43 := l_push e_64 l_61 rfl
  have r_67 := r_push (a := n0 + 42) e_64 l_61
  refine J_dup dX10_init_45 rfl ?_
  refine J_callIN (As := []) (rest := [.ref (n0 + 42), .ref o]) dX10_init_46 (c_X4_init (d := 2) (h := h_63) (o := n0 + 42) (n0 := n0 + 43) (by decide) l_66 f_65) hq.n k288 k289 rfl rfl k93 k290 np_X4_init (Nat.le_trans (by decide) hd) (by decide) (by decide) (by decide) (hk1 hn l_66) rfl (Nat.le_of_ble_eq_true rfl) (fun r_68 h_69 p_70 => ?_)
  obtain ⟨rfl, l_71, f_72, b_73, r_74⟩ := p_70
  have l_75 : h_69.length = n0 + 48 := l_71
  have f_76 := (r_67 (o) (Nat.lt_of_lt_of_le hol (Nat.le_add_right _ _)) (Nat.ne_of_lt (Nat.lt_of_lt_of_le hol (Nat.le_add_right _ _)))).trans f_60
  have f_77 := (r_74 (o) (Nat.lt_of_lt_of_le hol (Nat.le_add_right _ _)) (Nat.ne_of_lt (Nat.lt_of_lt_of_le hol (Nat.le_add_right _ _)))).trans f_76
  obtain ⟨h_78, e_79⟩ : ∃ z, z = h_69.set (o) (.inr (10, [.ref (n0 + 0), .ref (n0 + 26), .ref (n0 + 27), .ref (n0 + 28), .ref (n0 + 42), .null, .null, .null, .null, .null])) := ⟨_, rfl⟩
  refine J_putF (C := RX10) (T := TX10) (Z := 10) (ci := 10) (f := 4) (ty0 := tyX10) dX10_init_49 inG10 rfl tyX10_ok nmX10 (by decide) k427 rfl rfl rfl rfl f_77 (Nat.le_of_ble_eq_true rfl) (fun _ _ => ⟨rfl, rfl⟩) e_79.symm ?_
  have f_80 := a_set e_79 f_77
  have l_81 : h_78.length = n0 + 48 := l_set e_79 l_75
  have r_82 := r_set (N := n0 + 48) e_79
  refine J_aload_n (i := 0) (j := 0) dX10_init_52 rfl rfl ?_
  refine J_new (C := RX8) (T := TX8) (Z := 4) (ci := 8) (fs := [.int 0, .null, .null, .null]) (ty0 := tyX8) dX10_init_53 inG8 rfl tyX8_ok k311 k163 k90 fsX8 (hk1 hn l_81) (by decide) (by decide) ?_
  obtain ⟨h_83, e_84⟩ : ∃ z, z = h_78 ++ [(.inr (8, [.int 0, .null, .null, .null]))] := ⟨_, rfl⟩
  refine J_w e_84.symm ?_
  refine J_cr (v := n0 + 48) l_81 ?_
  have f_85 := a_push e_84 l_81
  have l_86 : h_83.length = n0 + 49 := l_push e_84 l_81 rfl
  have r_87 := r_push (a := n0 + 48) e_84 l_81
  refine J_dup dX10_init_56 rfl ?_
  refine J_callIN (As := []) (rest := [.ref (n0 + 48), .ref o]) dX10_init_57 (c_X8_init (d := 1) (h := h_83) (o := n0 + 48) (n0 := n0 + 49) (by decide) l_86 f_85) hq.n k312 k165 rfl rfl k90 k166 np_X8_init (Nat.le_trans (by decide) hd) (by decide) (by decide) (by decide) (hk1 hn l_86) rfl (Nat.le_of_ble_eq_true rfl) (fun r_88 h_89 p_90 => ?_)
  obtain ⟨rfl, l_91, f_92, b_93, r_94⟩ := p_90
  have l_95 : h_89.length = n0 + 52 := l_91
  have f_96 := (r_87 (o) (Nat.lt_of_lt_of_le hol (Nat.le_add_right _ _)) (Nat.ne_of_lt (Nat.lt_of_lt_of_le hol (Nat.le_add_right _ _)))).trans f_80
  have f_97 := (r_94 (o) (Nat.lt_of_lt_of_le hol (Nat.le_add_right _ _)) (Nat.ne_of_lt (Nat.lt_of_lt_of_le hol (Nat.le_add_right _ _)))).trans f_96
  obtain ⟨h_98, e_99⟩ : ∃ z, z = h_89.set (o) (.inr (10, [.ref (n0 + 0), .ref (n0 + 26), .ref (n0 + 27), .ref (n0 + 28), .ref (n0 + 42), .ref (n0 + 48), .null, .null, .null, .null])) := ⟨_, rfl⟩
  refine J_putF (C := RX10) (T := TX10) (Z := 10) (ci := 10) (f := 5) (ty0 := tyX10) dX10_init_60 inG10 rfl tyX10_ok nmX10 (by decide) k428 rfl rfl rfl rfl f_97 (Nat.le_of_ble_eq_true rfl) (fun _ _ => ⟨rfl, rfl⟩) e_99.symm ?_
  have f_100 := a_set e_99 f_97
  have l_101 : h_98.length = n0 + 52 := l_set e_99 l_95
  have r_102 := r_set (N := n0 + 52) e_99
  refine J_aload_n (i := 0) (j := 0) dX10_init_63 rfl rfl ?_
  refine J_new (C := RX5) (T := TX5) (Z := 7) (ci := 5) (fs := [.int 0, .int 0, .int 0, .int 0, .int 0, .null, .null]) (ty0 := tyX5) dX10_init_64 inG5 rfl tyX5_ok k313 k314 k94 fsX5 (hk1 hn l_101) (by decide) (by decide) ?_
  obtain ⟨h_103, e_104⟩ : ∃ z, z = h_98 ++ [(.inr (5, [.int 0, .int 0, .int 0, .int 0, .int 0, .null, .null]))] := ⟨_, rfl⟩
  refine J_w e_104.symm ?_
  refine J_cr (v := n0 + 52) l_101 ?_
  have f_105 := a_push e_104 l_101
  have l_106 : h_103.length = n0 + 53 := l_push e_104 l_101 rfl
  have r_107 := r_push (a := n0 + 52) e_104 l_101
  refine J_dup dX10_init_67 rfl ?_
  refine J_callIN (As := []) (rest := [.ref (n0 + 52), .ref o]) dX10_init_68 (c_X5_init (d := 1) (h := h_103) (o := n0 + 52) (n0 := n0 + 53) (by decide) l_106 f_105) hq.n k315 k316 rfl rfl k94 k317 np_X5_init (Nat.le_trans (by decide) hd) (by decide) (by decide) (by decide) (hk1 hn l_106) rfl (Nat.le_of_ble_eq_true rfl) (fun r_108 h_109 p_110 => ?_)
  obtain ⟨rfl, l_111, f_112, b_113, r_114⟩ := p_110
  have l_115 : h_109.length = n0 + 55 := l_111
  have f_116 := (r_107 (o) (Nat.lt_of_lt_of_le hol (Nat.le_add_right _ _)) (Nat.ne_of_lt (Nat.lt_of_lt_of_le hol (Nat.le_add_right _ _)))).trans f_100
  have f_117 := (r_114 (o) (Nat.lt_of_lt_of_le hol (Nat.le_add_right _ _)) (Nat.ne_of_lt (Nat.lt_of_lt_of_le hol (Nat.le_add_right _ _)))).trans f_116
  obtain ⟨h_118, e_119⟩ : ∃ z, z = h_109.set (o) (.inr (10, [.ref (n0 + 0), .ref (n0 + 26), .ref (n0 + 27), .ref (n0 + 28), .ref (n0 + 42), .ref (n0 + 48), .ref (n0 + 52), .null, .null, .null])) := ⟨_, rfl⟩
  refine J_putF (C := RX10) (T := TX10) (Z := 10) (ci := 10) (f := 6) (ty0 := tyX10) dX10_init_71 inG10 rfl tyX10_ok nmX10 (by decide) k429 rfl rfl rfl rfl f_117 (Nat.le_of_ble_eq_true rfl) (fun _ _ => ⟨rfl, rfl⟩) e_119.symm ?_
  have f_120 := a_set e_119 f_117
  have l_121 : h_118.length = n0 + 55 := l_set e_119 l_115
  have r_122 := r_set (N := n0 + 55) e_119
  refine J_aload_n (i := 0) (j := 0) dX10_init_74 rfl rfl ?_
  refine J_new (C := RX0) (T := TX0) (Z := 10) (ci := 0) (fs := [.null, .null, .int 0, .int 0, .long 0, .int 0, .null, .null, .null, .null]) (ty0 := tyX0) dX10_init_75 inG0 rfl tyX0_ok k346 k347 k95 fsX0 (hk1 hn l_121) (by decide) (by decide) ?_
  obtain ⟨h_123, e_124⟩ : ∃ z, z = h_118 ++ [(.inr (0, [.null, .null, .int 0, .int 0, .long 0, .int 0, .null, .null, .null, .null]))] := ⟨_, rfl⟩
  refine J_w e_124.symm ?_
  refine J_cr (v := n0 + 55) l_121 ?_
  have f_125 := a_push e_124 l_121
  have l_126 : h_123.length = n0 + 56 := l_push e_124 l_121 rfl
  have r_127 := r_push (a := n0 + 55) e_124 l_121
  refine J_dup dX10_init_78 rfl ?_
  refine J_callIN (As := []) (rest := [.ref (n0 + 55), .ref o]) dX10_init_79 (c_X0_init (d := 3) (h := h_123) (o := n0 + 55) (n0 := n0 + 56) (by decide) l_126 f_125) hq.n k348 k349 rfl rfl k95 k350 np_X0_init (Nat.le_trans (by decide) hd) (by decide) (by decide) (by decide) (hk1 hn l_126) rfl (Nat.le_of_ble_eq_true rfl) (fun r_128 h_129 p_130 => ?_)
  obtain ⟨rfl, l_131, f_132, b_133, r_134⟩ := p_130
  have l_135 : h_129.length = n0 + 78 := l_131
  have f_136 := (r_127 (o) (Nat.lt_of_lt_of_le hol (Nat.le_add_right _ _)) (Nat.ne_of_lt (Nat.lt_of_lt_of_le hol (Nat.le_add_right _ _)))).trans f_120
  have f_137 := (r_134 (o) (Nat.lt_of_lt_of_le hol (Nat.le_add_right _ _)) (Nat.ne_of_lt (Nat.lt_of_lt_of_le hol (Nat.le_add_right _ _)))).trans f_136
  obtain ⟨h_138, e_139⟩ : ∃ z, z = h_129.set (o) (.inr (10, [.ref (n0 + 0), .ref (n0 + 26), .ref (n0 + 27), .ref (n0 + 28), .ref (n0 + 42), .ref (n0 + 48), .ref (n0 + 52), .ref (n0 + 55), .null, .null])) := ⟨_, rfl⟩
  refine J_putF (C := RX10) (T := TX10) (Z := 10) (ci := 10) (f := 7) (ty0 := tyX10) dX10_init_82 inG10 rfl tyX10_ok nmX10 (by decide) k430 rfl rfl rfl rfl f_137 (Nat.le_of_ble_eq_true rfl) (fun _ _ => ⟨rfl, rfl⟩) e_139.symm ?_
  have f_140 := a_set e_139 f_137
  have l_141 : h_138.length = n0 + 78 := l_set e_139 l_135
  have r_142 := r_set (N := n0 + 78) e_139
  refine J_aload_n (i := 0) (j := 0) dX10_init_85 rfl rfl ?_
  refine J_aload_n (i := 0) (j := 0) dX10_init_86 rfl rfl ?_
  refine J_get (C := RX10) (T := TX10) (Z := 10) (ci := 10) (f := 7) dX10_init_87 inG10 rfl (by decide) k430 f_140 rfl ?_
  have f_143 := (r_142 (n0 + 55) (nal rfl) (Nat.ne_of_gt (Nat.lt_of_lt_of_le hol (Nat.le_add_right _ _)))).trans f_132
  refine J_getN (C := RX0) (T := TX0) (Z := 10) (ci := 0) (f := 0) dX10_init_90 inG0 rfl (by decide) k387 f_143 rfl ?_
  obtain ⟨h_144, e_145⟩ : ∃ z, z = h_138.set (o) (.inr (10, [.ref (n0 + 0), .ref (n0 + 26), .ref (n0 + 27), .ref (n0 + 28), .ref (n0 + 42), .ref (n0 + 48), .ref (n0 + 52), .ref (n0 + 55), .ref (n0 + 56), .null])) := ⟨_, rfl⟩
  refine J_putF (C := RX10) (T := TX10) (Z := 10) (ci := 10) (f := 8) (ty0 := tyX10) dX10_init_93 inG10 rfl tyX10_ok nmX10 (by decide) k431 rfl rfl rfl rfl f_140 (Nat.le_of_ble_eq_true rfl) (fun _ _ => ⟨rfl, rfl⟩) e_145.symm ?_
  have f_146 := a_set e_145 f_140
  have l_147 : h_144.length = n0 + 78 := l_set e_145 l_141
  have r_148 := r_set (N := n0 + 78) e_145
  refine J_aload_n (i := 0) (j := 0) dX10_init_96 rfl rfl ?_
  refine J_new (C := RX1) (T := TX1) (Z := 6) (ci := 1) (fs := [.int 0, .null, .int 0, .null, .null, .null]) (ty0 := tyX1) dX10_init_97 inG1 rfl tyX1_ok k421 k125 k89 fsX1 (hk1 hn l_147) (by decide) (by decide) ?_
  obtain ⟨h_149, e_150⟩ : ∃ z, z = h_144 ++ [(.inr (1, [.int 0, .null, .int 0, .null, .null, .null]))] := ⟨_, rfl⟩
  refine J_w e_150.symm ?_
  refine J_cr (v := n0 + 78) l_147 ?_
  have f_151 := a_push e_150 l_147
  have l_152 : h_149.length = n0 + 79 := l_push e_150 l_147 rfl
  have r_153 := r_push (a := n0 + 78) e_150 l_147
  refine J_dup dX10_init_100 rfl ?_
  refine J_callIN (As := []) (rest := [.ref (n0 + 78), .ref o]) dX10_init_101 (c_X1_init (d := 1) (h := h_149) (o := n0 + 78) (n0 := n0 + 79) (by decide) l_152 f_151) hq.n k422 k127 rfl rfl k89 k128 np_X1_init (Nat.le_trans (by decide) hd) (by decide) (by decide) (by decide) (hk1 hn l_152) rfl (Nat.le_of_ble_eq_true rfl) (fun r_154 h_155 p_156 => ?_)
  obtain ⟨rfl, l_157, f_158, b_159, r_160⟩ := p_156
  have l_161 : h_155.length = n0 + 83 := l_157
  have f_162 := (r_153 (o) (Nat.lt_of_lt_of_le hol (Nat.le_add_right _ _)) (Nat.ne_of_lt (Nat.lt_of_lt_of_le hol (Nat.le_add_right _ _)))).trans f_146
  have f_163 := (r_160 (o) (Nat.lt_of_lt_of_le hol (Nat.le_add_right _ _)) (Nat.ne_of_lt (Nat.lt_of_lt_of_le hol (Nat.le_add_right _ _)))).trans f_162
  obtain ⟨h_164, e_165⟩ : ∃ z, z = h_155.set (o) (.inr (10, [.ref (n0 + 0), .ref (n0 + 26), .ref (n0 + 27), .ref (n0 + 28), .ref (n0 + 42), .ref (n0 + 48), .ref (n0 + 52), .ref (n0 + 55), .ref (n0 + 56), .ref (n0 + 78)])) := ⟨_, rfl⟩
  refine J_putF (C := RX10) (T := TX10) (Z := 10) (ci := 10) (f := 9) (ty0 := tyX10) dX10_init_104 inG10 rfl tyX10_ok nmX10 (by decide) k432 rfl rfl rfl rfl f_163 (Nat.le_of_ble_eq_true rfl) (fun _ _ => ⟨rfl, rfl⟩) e_165.symm ?_
  have f_166 := a_set e_165 f_163
  have l_167 : h_164.length = n0 + 83 := l_set e_165 l_161
  have r_168 := r_set (N := n0 + 83) e_165
  refine J_iconst (v := 0) dX10_init_107 (by decide) ?_
  refine J_istore_n (i := 1) (lw := [(1, .int 0), (0, .ref o)]) dX10_init_108 rfl (by decide) rfl ?_
  refine J_iload_n (i := 1) (j := 0) dX10_init_109 rfl rfl ?_
  refine J_iconst (v := 3) dX10_init_110 (by decide) ?_
  refine J_icmp_ge (tgt := 133) dX10_init_111 (by decide) (fun q => absurd q (by decide)) (fun _ => ?_)
  refine J_aload_n (i := 0) (j := 1) dX10_init_114 rfl rfl ?_
  refine J_get (C := RX10) (T := TX10) (Z := 10) (ci := 10) (f := 1) dX10_init_115 inG10 rfl (by decide) k424 f_166 rfl ?_
  refine J_iload_n (i := 1) (j := 0) dX10_init_118 rfl rfl ?_
  refine J_new (C := RX7) (T := TX7) (Z := 8) (ci := 7) (fs := [.null, .int 0, .int 0, .int 0, .null, .int 0, .null, .int 0]) (ty0 := tyX7) dX10_init_119 inG7 rfl tyX7_ok k115 k116 k88 fsX7 (hk1 hn l_167) (by decide) (by decide) ?_
  obtain ⟨h_169, e_170⟩ : ∃ z, z = h_164 ++ [(.inr (7, [.null, .int 0, .int 0, .int 0, .null, .int 0, .null, .int 0]))] := ⟨_, rfl⟩
  refine J_w e_170.symm ?_
  refine J_cr (v := n0 + 83) l_167 ?_
  have f_171 := a_push e_170 l_167
  have l_172 : h_169.length = n0 + 84 := l_push e_170 l_167 rfl
  have r_173 := r_push (a := n0 + 83) e_170 l_167
  refine J_dup dX10_init_122 rfl ?_
  refine J_callI (As := []) (rest := [.ref (n0 + 83), .int 0, .ref (n0 + 26)]) dX10_init_123 (c_X7_init (d := 2) (h := h_169) (o := n0 + 83) (n0 := n0 + 84) (by decide) l_172 f_171) hq.n k117 k118 rfl rfl k88 k119 np_X7_init (Nat.le_trans (by decide) hd) (by decide) (by decide) (by decide) (hk1 hn l_172) rfl (Nat.le_of_ble_eq_true rfl) (fun r_174 h_175 p_176 => ?_)
  obtain ⟨rfl, l_177, f_178, b_179, r_180⟩ := p_176
  have l_181 : h_175.length = n0 + 109 := l_177
  have f_182 := (r_31 (n0 + 26) (nal rfl) (Nat.ne_of_gt (Nat.lt_of_lt_of_le hol (Nat.le_add_right _ _)))).trans f_23
  have f_183 := (r_36 (n0 + 26) (nal rfl) (nan rfl)).trans f_182
  have f_184 := (r_42 (n0 + 26) (nal rfl) (Nat.ne_of_gt (Nat.lt_of_lt_of_le hol (Nat.le_add_right _ _)))).trans f_183
  have f_185 := (r_47 (n0 + 26) (nal rfl) (nan rfl)).trans f_184
  have f_186 := (r_54 (n0 + 26) (nal rfl) (nan rfl)).trans f_185
  have f_187 := (r_62 (n0 + 26) (nal rfl) (Nat.ne_of_gt (Nat.lt_of_lt_of_le hol (Nat.le_add_right _ _)))).trans f_186
  have f_188 := (r_67 (n0 + 26) (nal rfl) (nan rfl)).trans f_187
  have f_189 := (r_74 (n0 + 26) (nal rfl) (nan rfl)).trans f_188
  have f_190 := (r_82 (n0 + 26) (nal rfl) (Nat.ne_of_gt (Nat.lt_of_lt_of_le hol (Nat.le_add_right _ _)))).trans f_189
  have f_191 := (r_87 (n0 + 26) (nal rfl) (nan rfl)).trans f_190
  have f_192 := (r_94 (n0 + 26) (nal rfl) (nan rfl)).trans f_191
  have f_193 := (r_102 (n0 + 26) (nal rfl) (Nat.ne_of_gt (Nat.lt_of_lt_of_le hol (Nat.le_add_right _ _)))).trans f_192
  have f_194 := (r_107 (n0 + 26) (nal rfl) (nan rfl)).trans f_193
  have f_195 := (r_114 (n0 + 26) (nal rfl) (nan rfl)).trans f_194
  have f_196 := (r_122 (n0 + 26) (nal rfl) (Nat.ne_of_gt (Nat.lt_of_lt_of_le hol (Nat.le_add_right _ _)))).trans f_195
  have f_197 := (r_127 (n0 + 26) (nal rfl) (nan rfl)).trans f_196
  have f_198 := (r_134 (n0 + 26) (nal rfl) (nan rfl)).trans f_197
  have f_199 := (r_142 (n0 + 26) (nal rfl) (Nat.ne_of_gt (Nat.lt_of_lt_of_le hol (Nat.le_add_right _ _)))).trans f_198
  have f_200 := (r_148 (n0 + 26) (nal rfl) (Nat.ne_of_gt (Nat.lt_of_lt_of_le hol (Nat.le_add_right _ _)))).trans f_199
  have f_201 := (r_153 (n0 + 26) (nal rfl) (nan rfl)).trans f_200
  have f_202 := (r_160 (n0 + 26) (nal rfl) (nan rfl)).trans f_201
  have f_203 := (r_168 (n0 + 26) (nal rfl) (Nat.ne_of_gt (Nat.lt_of_lt_of_le hol (Nat.le_add_right _ _)))).trans f_202
  have f_204 := (r_173 (n0 + 26) (nal rfl) (nan rfl)).trans f_203
  have f_205 := (r_180 (n0 + 26) (nal rfl) (nan rfl)).trans f_204
  obtain ⟨h_206, e_207⟩ : ∃ z, z = h_175.set (n0 + 26) (.inl (5, 3, .inr (.inr (va_up (fun _ => none) ((0 : Int32).toNatClampNeg) (some (n0 + 83)))))) := ⟨_, rfl⟩
  refine J_aast (r := (RX7, TX7, 8)) dX10_init_126 f_205 (fun _ => rfl) f_178 rfl (vp_c (by decide)) e_207.symm ?_
  have f_208 := a_set e_207 f_205
  have l_209 : h_206.length = n0 + 109 := l_set e_207 l_181
  have r_210 := r_set (N := n0 + 109) e_207
  refine J_iinc (i := 1) (j := 0) (v := 1) (lw := [(1, .int 1), (0, .ref o)]) dX10_init_127 rfl (by decide) (by decide) rfl ?_
  refine J_goto (tgt := 109) dX10_init_130 (by decide) ?_
  refine J_iload_n (i := 1) (j := 0) dX10_init_109 rfl rfl ?_
  refine J_iconst (v := 3) dX10_init_110 (by decide) ?_
  refine J_icmp_ge (tgt := 133) dX10_init_111 (by decide) (fun q => absurd q (by decide)) (fun _ => ?_)
  refine J_aload_n (i := 0) (j := 1) dX10_init_114 rfl rfl ?_
  have f_211 := (r_173 (o) (Nat.lt_of_lt_of_le hol (Nat.le_add_right _ _)) (Nat.ne_of_lt (Nat.lt_of_lt_of_le hol (Nat.le_add_right _ _)))).trans f_166
  have f_212 := (r_180 (o) (Nat.lt_of_lt_of_le hol (Nat.le_add_right _ _)) (Nat.ne_of_lt (Nat.lt_of_lt_of_le hol (Nat.le_add_right _ _)))).trans f_211
  have f_213 := (r_210 (o) (Nat.lt_of_lt_of_le hol (Nat.le_add_right _ _)) (Nat.ne_of_lt (Nat.lt_of_lt_of_le hol (Nat.le_add_right _ _)))).trans f_212
  refine J_get (C := RX10) (T := TX10) (Z := 10) (ci := 10) (f := 1) dX10_init_115 inG10 rfl (by decide) k424 f_213 rfl ?_
  refine J_iload_n (i := 1) (j := 0) dX10_init_118 rfl rfl ?_
  refine J_new (C := RX7) (T := TX7) (Z := 8) (ci := 7) (fs := [.null, .int 0, .int 0, .int 0, .null, .int 0, .null, .int 0]) (ty0 := tyX7) dX10_init_119 inG7 rfl tyX7_ok k115 k116 k88 fsX7 (hk1 hn l_209) (by decide) (by decide) ?_
  obtain ⟨h_214, e_215⟩ : ∃ z, z = h_206 ++ [(.inr (7, [.null, .int 0, .int 0, .int 0, .null, .int 0, .null, .int 0]))] := ⟨_, rfl⟩
  refine J_w e_215.symm ?_
  refine J_cr (v := n0 + 109) l_209 ?_
  have f_216 := a_push e_215 l_209
  have l_217 : h_214.length = n0 + 110 := l_push e_215 l_209 rfl
  have r_218 := r_push (a := n0 + 109) e_215 l_209
  refine J_dup dX10_init_122 rfl ?_
  refine J_callI (As := []) (rest := [.ref (n0 + 109), .int 1, .ref (n0 + 26)]) dX10_init_123 (c_X7_init (d := 2) (h := h_214) (o := n0 + 109) (n0 := n0 + 110) (by decide) l_217 f_216) hq.n k117 k118 rfl rfl k88 k119 np_X7_init (Nat.le_trans (by decide) hd) (by decide) (by decide) (by decide) (hk1 hn l_217) rfl (Nat.le_of_ble_eq_true rfl) (fun r_219 h_220 p_221 => ?_)
  obtain ⟨rfl, l_222, f_223, b_224, r_225⟩ := p_221
  have l_226 : h_220.length = n0 + 135 := l_222
  have f_227 := (r_218 (n0 + 26) (nal rfl) (nan rfl)).trans f_208
  have f_228 := (r_225 (n0 + 26) (nal rfl) (nan rfl)).trans f_227
  obtain ⟨h_229, e_230⟩ : ∃ z, z = h_220.set (n0 + 26) (.inl (5, 3, .inr (.inr (va_up (va_up (fun _ => none) ((0 : Int32).toNatClampNeg) (some (n0 + 83))) ((1 : Int32).toNatClampNeg) (some (n0 + 109)))))) := ⟨_, rfl⟩
  refine J_aast (r := (RX7, TX7, 8)) dX10_init_126 f_228 (fun _ => rfl) f_223 rfl (vp_c (by decide)) e_230.symm ?_
  have f_231 := a_set e_230 f_228
  have l_232 : h_229.length = n0 + 135 := l_set e_230 l_226
  have r_233 := r_set (N := n0 + 135) e_230
  refine J_iinc (i := 1) (j := 0) (v := 2) (lw := [(1, .int 2), (0, .ref o)]) dX10_init_127 rfl (by decide) (by decide) rfl ?_
  refine J_goto (tgt := 109) dX10_init_130 (by decide) ?_
  refine J_iload_n (i := 1) (j := 0) dX10_init_109 rfl rfl ?_
  refine J_iconst (v := 3) dX10_init_110 (by decide) ?_
  refine J_icmp_ge (tgt := 133) dX10_init_111 (by decide) (fun q => absurd q (by decide)) (fun _ => ?_)
  refine J_aload_n (i := 0) (j := 1) dX10_init_114 rfl rfl ?_
  have f_234 := (r_218 (o) (Nat.lt_of_lt_of_le hol (Nat.le_add_right _ _)) (Nat.ne_of_lt (Nat.lt_of_lt_of_le hol (Nat.le_add_right _ _)))).trans f_213
  have f_235 := (r_225 (o) (Nat.lt_of_lt_of_le hol (Nat.le_add_right _ _)) (Nat.ne_of_lt (Nat.lt_of_lt_of_le hol (Nat.le_add_right _ _)))).trans f_234
  have f_236 := (r_233 (o) (Nat.lt_of_lt_of_le hol (Nat.le_add_right _ _)) (Nat.ne_of_lt (Nat.lt_of_lt_of_le hol (Nat.le_add_right _ _)))).trans f_235
  refine J_get (C := RX10) (T := TX10) (Z := 10) (ci := 10) (f := 1) dX10_init_115 inG10 rfl (by decide) k424 f_236 rfl ?_
  refine J_iload_n (i := 1) (j := 0) dX10_init_118 rfl rfl ?_
  refine J_new (C := RX7) (T := TX7) (Z := 8) (ci := 7) (fs := [.null, .int 0, .int 0, .int 0, .null, .int 0, .null, .int 0]) (ty0 := tyX7) dX10_init_119 inG7 rfl tyX7_ok k115 k116 k88 fsX7 (hk1 hn l_232) (by decide) (by decide) ?_
  obtain ⟨h_237, e_238⟩ : ∃ z, z = h_229 ++ [(.inr (7, [.null, .int 0, .int 0, .int 0, .null, .int 0, .null, .int 0]))] := ⟨_, rfl⟩
  refine J_w e_238.symm ?_
  refine J_cr (v := n0 + 135) l_232 ?_
  have f_239 := a_push e_238 l_232
  have l_240 : h_237.length = n0 + 136 := l_push e_238 l_232 rfl
  have r_241 := r_push (a := n0 + 135) e_238 l_232
  refine J_dup dX10_init_122 rfl ?_
  refine J_callI (As := []) (rest := [.ref (n0 + 135), .int 2, .ref (n0 + 26)]) dX10_init_123 (c_X7_init (d := 2) (h := h_237) (o := n0 + 135) (n0 := n0 + 136) (by decide) l_240 f_239) hq.n k117 k118 rfl rfl k88 k119 np_X7_init (Nat.le_trans (by decide) hd) (by decide) (by decide) (by decide) (hk1 hn l_240) rfl (Nat.le_of_ble_eq_true rfl) (fun r_242 h_243 p_244 => ?_)
  obtain ⟨rfl, l_245, f_246, b_247, r_248⟩ := p_244
  have l_249 : h_243.length = n0 + 161 := l_245
  have f_250 := (r_241 (n0 + 26) (nal rfl) (nan rfl)).trans f_231
  have f_251 := (r_248 (n0 + 26) (nal rfl) (nan rfl)).trans f_250
  obtain ⟨h_252, e_253⟩ : ∃ z, z = h_243.set (n0 + 26) (.inl (5, 3, .inr (.inr (va_up (va_up (va_up (fun _ => none) ((0 : Int32).toNatClampNeg) (some (n0 + 83))) ((1 : Int32).toNatClampNeg) (some (n0 + 109))) ((2 : Int32).toNatClampNeg) (some (n0 + 135)))))) := ⟨_, rfl⟩
  refine J_aast (r := (RX7, TX7, 8)) dX10_init_126 f_251 (fun _ => rfl) f_246 rfl (vp_c (by decide)) e_253.symm ?_
  have f_254 := a_set e_253 f_251
  have l_255 : h_252.length = n0 + 161 := l_set e_253 l_249
  have r_256 := r_set (N := n0 + 161) e_253
  refine J_iinc (i := 1) (j := 0) (v := 3) (lw := [(1, .int 3), (0, .ref o)]) dX10_init_127 rfl (by decide) (by decide) rfl ?_
  refine J_goto (tgt := 109) dX10_init_130 (by decide) ?_
  refine J_iload_n (i := 1) (j := 0) dX10_init_109 rfl rfl ?_
  refine J_iconst (v := 3) dX10_init_110 (by decide) ?_
  refine J_icmp_ge (tgt := 133) dX10_init_111 (by decide) (fun _ => ?_) (fun q => absurd (by decide) q)
  have f_257 := (r_241 (o) (Nat.lt_of_lt_of_le hol (Nat.le_add_right _ _)) (Nat.ne_of_lt (Nat.lt_of_lt_of_le hol (Nat.le_add_right _ _)))).trans f_236
  have f_258 := (r_248 (o) (Nat.lt_of_lt_of_le hol (Nat.le_add_right _ _)) (Nat.ne_of_lt (Nat.lt_of_lt_of_le hol (Nat.le_add_right _ _)))).trans f_257
  have f_259 := (r_256 (o) (Nat.lt_of_lt_of_le hol (Nat.le_add_right _ _)) (Nat.ne_of_lt (Nat.lt_of_lt_of_le hol (Nat.le_add_right _ _)))).trans f_258
  have f_260 := (r_20 (n0 + 0) (nal rfl) (Nat.ne_of_gt (Nat.lt_of_lt_of_le hol (Nat.le_add_right _ _)))).trans f_10
  have f_261 := (r_25 (n0 + 0) (nal rfl) (nan rfl)).trans f_260
  have f_262 := (r_31 (n0 + 0) (nal rfl) (Nat.ne_of_gt (Nat.lt_of_lt_of_le hol (Nat.le_add_right _ _)))).trans f_261
  have f_263 := (r_36 (n0 + 0) (nal rfl) (nan rfl)).trans f_262
  have f_264 := (r_42 (n0 + 0) (nal rfl) (Nat.ne_of_gt (Nat.lt_of_lt_of_le hol (Nat.le_add_right _ _)))).trans f_263
  have f_265 := (r_47 (n0 + 0) (nal rfl) (nan rfl)).trans f_264
  have f_266 := (r_54 (n0 + 0) (nal rfl) (nan rfl)).trans f_265
  have f_267 := (r_62 (n0 + 0) (nal rfl) (Nat.ne_of_gt (Nat.lt_of_lt_of_le hol (Nat.le_add_right _ _)))).trans f_266
  have f_268 := (r_67 (n0 + 0) (nal rfl) (nan rfl)).trans f_267
  have f_269 := (r_74 (n0 + 0) (nal rfl) (nan rfl)).trans f_268
  have f_270 := (r_82 (n0 + 0) (nal rfl) (Nat.ne_of_gt (Nat.lt_of_lt_of_le hol (Nat.le_add_right _ _)))).trans f_269
  have f_271 := (r_87 (n0 + 0) (nal rfl) (nan rfl)).trans f_270
  have f_272 := (r_94 (n0 + 0) (nal rfl) (nan rfl)).trans f_271
  have f_273 := (r_102 (n0 + 0) (nal rfl) (Nat.ne_of_gt (Nat.lt_of_lt_of_le hol (Nat.le_add_right _ _)))).trans f_272
  have f_274 := (r_107 (n0 + 0) (nal rfl) (nan rfl)).trans f_273
  have f_275 := (r_114 (n0 + 0) (nal rfl) (nan rfl)).trans f_274
  have f_276 := (r_122 (n0 + 0) (nal rfl) (Nat.ne_of_gt (Nat.lt_of_lt_of_le hol (Nat.le_add_right _ _)))).trans f_275
  have f_277 := (r_127 (n0 + 0) (nal rfl) (nan rfl)).trans f_276
  have f_278 := (r_134 (n0 + 0) (nal rfl) (nan rfl)).trans f_277
  have f_279 := (r_142 (n0 + 0) (nal rfl) (Nat.ne_of_gt (Nat.lt_of_lt_of_le hol (Nat.le_add_right _ _)))).trans f_278
  have f_280 := (r_148 (n0 + 0) (nal rfl) (Nat.ne_of_gt (Nat.lt_of_lt_of_le hol (Nat.le_add_right _ _)))).trans f_279
  have f_281 := (r_153 (n0 + 0) (nal rfl) (nan rfl)).trans f_280
  have f_282 := (r_160 (n0 + 0) (nal rfl) (nan rfl)).trans f_281
  have f_283 := (r_168 (n0 + 0) (nal rfl) (Nat.ne_of_gt (Nat.lt_of_lt_of_le hol (Nat.le_add_right _ _)))).trans f_282
  have f_284 := (r_173 (n0 + 0) (nal rfl) (nan rfl)).trans f_283
  have f_285 := (r_180 (n0 + 0) (nal rfl) (nan rfl)).trans f_284
  have f_286 := (r_210 (n0 + 0) (nal rfl) (nan rfl)).trans f_285
  have f_287 := (r_218 (n0 + 0) (nal rfl) (nan rfl)).trans f_286
  have f_288 := (r_225 (n0 + 0) (nal rfl) (nan rfl)).trans f_287
  have f_289 := (r_233 (n0 + 0) (nal rfl) (nan rfl)).trans f_288
  have f_290 := (r_241 (n0 + 0) (nal rfl) (nan rfl)).trans f_289
  have f_291 := (r_248 (n0 + 0) (nal rfl) (nan rfl)).trans f_290
  have f_292 := (r_256 (n0 + 0) (nal rfl) (nan rfl)).trans f_291
  have b_293 : At h_16 (n0 + 1) (bk7 (n0 + 1)) := At.fr (m := 25) b_11 bl7 r_20 (bqq rfl) (Or.inl (Nat.lt_of_lt_of_le hol (Nat.le_add_right _ _)))
  have b_294 : At h_21 (n0 + 1) (bk7 (n0 + 1)) := At.fr (m := 25) b_293 bl7 r_25 (bqq rfl) (Or.inr (bqq rfl))
  have b_295 : At h_27 (n0 + 1) (bk7 (n0 + 1)) := At.fr (m := 25) b_294 bl7 r_31 (bqq rfl) (Or.inl (Nat.lt_of_lt_of_le hol (Nat.le_add_right _ _)))
  have b_296 : At h_32 (n0 + 1) (bk7 (n0 + 1)) := At.fr (m := 25) b_295 bl7 r_36 (bqq rfl) (Or.inr (bqq rfl))
  have b_297 : At h_38 (n0 + 1) (bk7 (n0 + 1)) := At.fr (m := 25) b_296 bl7 r_42 (bqq rfl) (Or.inl (Nat.lt_of_lt_of_le hol (Nat.le_add_right _ _)))
  have b_298 : At h_43 (n0 + 1) (bk7 (n0 + 1)) := At.fr (m := 25) b_297 bl7 r_47 (bqq rfl) (Or.inr (bqq rfl))
  have b_299 : At h_49 (n0 + 1) (bk7 (n0 + 1)) := At.fr (m := 25) b_298 bl7 r_54 (bqq rfl) (Or.inr (bqq rfl))
  have b_300 : At h_58 (n0 + 1) (bk7 (n0 + 1)) := At.fr (m := 25) b_299 bl7 r_62 (bqq rfl) (Or.inl (Nat.lt_of_lt_of_le hol (Nat.le_add_right _ _)))
  have b_301 : At h_63 (n0 + 1) (bk7 (n0 + 1)) := At.fr (m := 25) b_300 bl7 r_67 (bqq rfl) (Or.inr (bqq rfl))
  have b_302 : At h_69 (n0 + 1) (bk7 (n0 + 1)) := At.fr (m := 25) b_301 bl7 r_74 (bqq rfl) (Or.inr (bqq rfl))
  have b_303 : At h_78 (n0 + 1) (bk7 (n0 + 1)) := At.fr (m := 25) b_302 bl7 r_82 (bqq rfl) (Or.inl (Nat.lt_of_lt_of_le hol (Nat.le_add_right _ _)))
  have b_304 : At h_83 (n0 + 1) (bk7 (n0 + 1)) := At.fr (m := 25) b_303 bl7 r_87 (bqq rfl) (Or.inr (bqq rfl))
  have b_305 : At h_89 (n0 + 1) (bk7 (n0 + 1)) := At.fr (m := 25) b_304 bl7 r_94 (bqq rfl) (Or.inr (bqq rfl))
  have b_306 : At h_98 (n0 + 1) (bk7 (n0 + 1)) := At.fr (m := 25) b_305 bl7 r_102 (bqq rfl) (Or.inl (Nat.lt_of_lt_of_le hol (Nat.le_add_right _ _)))
  have b_307 : At h_103 (n0 + 1) (bk7 (n0 + 1)) := At.fr (m := 25) b_306 bl7 r_107 (bqq rfl) (Or.inr (bqq rfl))
  have b_308 : At h_109 (n0 + 1) (bk7 (n0 + 1)) := At.fr (m := 25) b_307 bl7 r_114 (bqq rfl) (Or.inr (bqq rfl))
  have b_309 : At h_118 (n0 + 1) (bk7 (n0 + 1)) := At.fr (m := 25) b_308 bl7 r_122 (bqq rfl) (Or.inl (Nat.lt_of_lt_of_le hol (Nat.le_add_right _ _)))
  have b_310 : At h_123 (n0 + 1) (bk7 (n0 + 1)) := At.fr (m := 25) b_309 bl7 r_127 (bqq rfl) (Or.inr (bqq rfl))
  have b_311 : At h_129 (n0 + 1) (bk7 (n0 + 1)) := At.fr (m := 25) b_310 bl7 r_134 (bqq rfl) (Or.inr (bqq rfl))
  have b_312 : At h_138 (n0 + 1) (bk7 (n0 + 1)) := At.fr (m := 25) b_311 bl7 r_142 (bqq rfl) (Or.inl (Nat.lt_of_lt_of_le hol (Nat.le_add_right _ _)))
  have b_313 : At h_144 (n0 + 1) (bk7 (n0 + 1)) := At.fr (m := 25) b_312 bl7 r_148 (bqq rfl) (Or.inl (Nat.lt_of_lt_of_le hol (Nat.le_add_right _ _)))
  have b_314 : At h_149 (n0 + 1) (bk7 (n0 + 1)) := At.fr (m := 25) b_313 bl7 r_153 (bqq rfl) (Or.inr (bqq rfl))
  have b_315 : At h_155 (n0 + 1) (bk7 (n0 + 1)) := At.fr (m := 25) b_314 bl7 r_160 (bqq rfl) (Or.inr (bqq rfl))
  have b_316 : At h_164 (n0 + 1) (bk7 (n0 + 1)) := At.fr (m := 25) b_315 bl7 r_168 (bqq rfl) (Or.inl (Nat.lt_of_lt_of_le hol (Nat.le_add_right _ _)))
  have b_317 : At h_169 (n0 + 1) (bk7 (n0 + 1)) := At.fr (m := 25) b_316 bl7 r_173 (bqq rfl) (Or.inr (bqq rfl))
  have b_318 : At h_175 (n0 + 1) (bk7 (n0 + 1)) := At.fr (m := 25) b_317 bl7 r_180 (bqq rfl) (Or.inr (bqq rfl))
  have b_319 : At h_206 (n0 + 1) (bk7 (n0 + 1)) := At.fr (m := 25) b_318 bl7 r_210 (bqq rfl) (Or.inr (bqq rfl))
  have b_320 : At h_214 (n0 + 1) (bk7 (n0 + 1)) := At.fr (m := 25) b_319 bl7 r_218 (bqq rfl) (Or.inr (bqq rfl))
  have b_321 : At h_220 (n0 + 1) (bk7 (n0 + 1)) := At.fr (m := 25) b_320 bl7 r_225 (bqq rfl) (Or.inr (bqq rfl))
  have b_322 : At h_229 (n0 + 1) (bk7 (n0 + 1)) := At.fr (m := 25) b_321 bl7 r_233 (bqq rfl) (Or.inr (bqq rfl))
  have b_323 : At h_237 (n0 + 1) (bk7 (n0 + 1)) := At.fr (m := 25) b_322 bl7 r_241 (bqq rfl) (Or.inr (bqq rfl))
  have b_324 : At h_243 (n0 + 1) (bk7 (n0 + 1)) := At.fr (m := 25) b_323 bl7 r_248 (bqq rfl) (Or.inr (bqq rfl))
  have b_325 : At h_252 (n0 + 1) (bk7 (n0 + 1)) := At.fr (m := 25) b_324 bl7 r_256 (bqq rfl) (Or.inr (bqq rfl))
  have f_326 := (r_42 (n0 + 27) (nal rfl) (Nat.ne_of_gt (Nat.lt_of_lt_of_le hol (Nat.le_add_right _ _)))).trans f_34
  have f_327 := (r_47 (n0 + 27) (nal rfl) (nan rfl)).trans f_326
  have f_328 := (r_54 (n0 + 27) (nal rfl) (nan rfl)).trans f_327
  have f_329 := (r_62 (n0 + 27) (nal rfl) (Nat.ne_of_gt (Nat.lt_of_lt_of_le hol (Nat.le_add_right _ _)))).trans f_328
  have f_330 := (r_67 (n0 + 27) (nal rfl) (nan rfl)).trans f_329
  have f_331 := (r_74 (n0 + 27) (nal rfl) (nan rfl)).trans f_330
  have f_332 := (r_82 (n0 + 27) (nal rfl) (Nat.ne_of_gt (Nat.lt_of_lt_of_le hol (Nat.le_add_right _ _)))).trans f_331
  have f_333 := (r_87 (n0 + 27) (nal rfl) (nan rfl)).trans f_332
  have f_334 := (r_94 (n0 + 27) (nal rfl) (nan rfl)).trans f_333
  have f_335 := (r_102 (n0 + 27) (nal rfl) (Nat.ne_of_gt (Nat.lt_of_lt_of_le hol (Nat.le_add_right _ _)))).trans f_334
  have f_336 := (r_107 (n0 + 27) (nal rfl) (nan rfl)).trans f_335
  have f_337 := (r_114 (n0 + 27) (nal rfl) (nan rfl)).trans f_336
  have f_338 := (r_122 (n0 + 27) (nal rfl) (Nat.ne_of_gt (Nat.lt_of_lt_of_le hol (Nat.le_add_right _ _)))).trans f_337
  have f_339 := (r_127 (n0 + 27) (nal rfl) (nan rfl)).trans f_338
  have f_340 := (r_134 (n0 + 27) (nal rfl) (nan rfl)).trans f_339
  have f_341 := (r_142 (n0 + 27) (nal rfl) (Nat.ne_of_gt (Nat.lt_of_lt_of_le hol (Nat.le_add_right _ _)))).trans f_340
  have f_342 := (r_148 (n0 + 27) (nal rfl) (Nat.ne_of_gt (Nat.lt_of_lt_of_le hol (Nat.le_add_right _ _)))).trans f_341
  have f_343 := (r_153 (n0 + 27) (nal rfl) (nan rfl)).trans f_342
  have f_344 := (r_160 (n0 + 27) (nal rfl) (nan rfl)).trans f_343
  have f_345 := (r_168 (n0 + 27) (nal rfl) (Nat.ne_of_gt (Nat.lt_of_lt_of_le hol (Nat.le_add_right _ _)))).trans f_344
  have f_346 := (r_173 (n0 + 27) (nal rfl) (nan rfl)).trans f_345
  have f_347 := (r_180 (n0 + 27) (nal rfl) (nan rfl)).trans f_346
  have f_348 := (r_210 (n0 + 27) (nal rfl) (nan rfl)).trans f_347
  have f_349 := (r_218 (n0 + 27) (nal rfl) (nan rfl)).trans f_348
  have f_350 := (r_225 (n0 + 27) (nal rfl) (nan rfl)).trans f_349
  have f_351 := (r_233 (n0 + 27) (nal rfl) (nan rfl)).trans f_350
  have f_352 := (r_241 (n0 + 27) (nal rfl) (nan rfl)).trans f_351
  have f_353 := (r_248 (n0 + 27) (nal rfl) (nan rfl)).trans f_352
  have f_354 := (r_256 (n0 + 27) (nal rfl) (nan rfl)).trans f_353
  have f_355 := (r_62 (n0 + 28) (nal rfl) (Nat.ne_of_gt (Nat.lt_of_lt_of_le hol (Nat.le_add_right _ _)))).trans f_52
  have f_356 := (r_67 (n0 + 28) (nal rfl) (nan rfl)).trans f_355
  have f_357 := (r_74 (n0 + 28) (nal rfl) (nan rfl)).trans f_356
  have f_358 := (r_82 (n0 + 28) (nal rfl) (Nat.ne_of_gt (Nat.lt_of_lt_of_le hol (Nat.le_add_right _ _)))).trans f_357
  have f_359 := (r_87 (n0 + 28) (nal rfl) (nan rfl)).trans f_358
  have f_360 := (r_94 (n0 + 28) (nal rfl) (nan rfl)).trans f_359
  have f_361 := (r_102 (n0 + 28) (nal rfl) (Nat.ne_of_gt (Nat.lt_of_lt_of_le hol (Nat.le_add_right _ _)))).trans f_360
  have f_362 := (r_107 (n0 + 28) (nal rfl) (nan rfl)).trans f_361
  have f_363 := (r_114 (n0 + 28) (nal rfl) (nan rfl)).trans f_362
  have f_364 := (r_122 (n0 + 28) (nal rfl) (Nat.ne_of_gt (Nat.lt_of_lt_of_le hol (Nat.le_add_right _ _)))).trans f_363
  have f_365 := (r_127 (n0 + 28) (nal rfl) (nan rfl)).trans f_364
  have f_366 := (r_134 (n0 + 28) (nal rfl) (nan rfl)).trans f_365
  have f_367 := (r_142 (n0 + 28) (nal rfl) (Nat.ne_of_gt (Nat.lt_of_lt_of_le hol (Nat.le_add_right _ _)))).trans f_366
  have f_368 := (r_148 (n0 + 28) (nal rfl) (Nat.ne_of_gt (Nat.lt_of_lt_of_le hol (Nat.le_add_right _ _)))).trans f_367
  have f_369 := (r_153 (n0 + 28) (nal rfl) (nan rfl)).trans f_368
  have f_370 := (r_160 (n0 + 28) (nal rfl) (nan rfl)).trans f_369
  have f_371 := (r_168 (n0 + 28) (nal rfl) (Nat.ne_of_gt (Nat.lt_of_lt_of_le hol (Nat.le_add_right _ _)))).trans f_370
  have f_372 := (r_173 (n0 + 28) (nal rfl) (nan rfl)).trans f_371
  have f_373 := (r_180 (n0 + 28) (nal rfl) (nan rfl)).trans f_372
  have f_374 := (r_210 (n0 + 28) (nal rfl) (nan rfl)).trans f_373
  have f_375 := (r_218 (n0 + 28) (nal rfl) (nan rfl)).trans f_374
  have f_376 := (r_225 (n0 + 28) (nal rfl) (nan rfl)).trans f_375
  have f_377 := (r_233 (n0 + 28) (nal rfl) (nan rfl)).trans f_376
  have f_378 := (r_241 (n0 + 28) (nal rfl) (nan rfl)).trans f_377
  have f_379 := (r_248 (n0 + 28) (nal rfl) (nan rfl)).trans f_378
  have f_380 := (r_256 (n0 + 28) (nal rfl) (nan rfl)).trans f_379
  have b_381 : At h_58 (n0 + 29) (bk3 (n0 + 29)) := At.fr (m := 13) b_53 bl3 r_62 (bqq rfl) (Or.inl (Nat.lt_of_lt_of_le hol (Nat.le_add_right _ _)))
  have b_382 : At h_63 (n0 + 29) (bk3 (n0 + 29)) := At.fr (m := 13) b_381 bl3 r_67 (bqq rfl) (Or.inr (bqq rfl))
  have b_383 : At h_69 (n0 + 29) (bk3 (n0 + 29)) := At.fr (m := 13) b_382 bl3 r_74 (bqq rfl) (Or.inr (bqq rfl))
  have b_384 : At h_78 (n0 + 29) (bk3 (n0 + 29)) := At.fr (m := 13) b_383 bl3 r_82 (bqq rfl) (Or.inl (Nat.lt_of_lt_of_le hol (Nat.le_add_right _ _)))
  have b_385 : At h_83 (n0 + 29) (bk3 (n0 + 29)) := At.fr (m := 13) b_384 bl3 r_87 (bqq rfl) (Or.inr (bqq rfl))
  have b_386 : At h_89 (n0 + 29) (bk3 (n0 + 29)) := At.fr (m := 13) b_385 bl3 r_94 (bqq rfl) (Or.inr (bqq rfl))
  have b_387 : At h_98 (n0 + 29) (bk3 (n0 + 29)) := At.fr (m := 13) b_386 bl3 r_102 (bqq rfl) (Or.inl (Nat.lt_of_lt_of_le hol (Nat.le_add_right _ _)))
  have b_388 : At h_103 (n0 + 29) (bk3 (n0 + 29)) := At.fr (m := 13) b_387 bl3 r_107 (bqq rfl) (Or.inr (bqq rfl))
  have b_389 : At h_109 (n0 + 29) (bk3 (n0 + 29)) := At.fr (m := 13) b_388 bl3 r_114 (bqq rfl) (Or.inr (bqq rfl))
  have b_390 : At h_118 (n0 + 29) (bk3 (n0 + 29)) := At.fr (m := 13) b_389 bl3 r_122 (bqq rfl) (Or.inl (Nat.lt_of_lt_of_le hol (Nat.le_add_right _ _)))
  have b_391 : At h_123 (n0 + 29) (bk3 (n0 + 29)) := At.fr (m := 13) b_390 bl3 r_127 (bqq rfl) (Or.inr (bqq rfl))
  have b_392 : At h_129 (n0 + 29) (bk3 (n0 + 29)) := At.fr (m := 13) b_391 bl3 r_134 (bqq rfl) (Or.inr (bqq rfl))
  have b_393 : At h_138 (n0 + 29) (bk3 (n0 + 29)) := At.fr (m := 13) b_392 bl3 r_142 (bqq rfl) (Or.inl (Nat.lt_of_lt_of_le hol (Nat.le_add_right _ _)))
  have b_394 : At h_144 (n0 + 29) (bk3 (n0 + 29)) := At.fr (m := 13) b_393 bl3 r_148 (bqq rfl) (Or.inl (Nat.lt_of_lt_of_le hol (Nat.le_add_right _ _)))
  have b_395 : At h_149 (n0 + 29) (bk3 (n0 + 29)) := At.fr (m := 13) b_394 bl3 r_153 (bqq rfl) (Or.inr (bqq rfl))
  have b_396 : At h_155 (n0 + 29) (bk3 (n0 + 29)) := At.fr (m := 13) b_395 bl3 r_160 (bqq rfl) (Or.inr (bqq rfl))
  have b_397 : At h_164 (n0 + 29) (bk3 (n0 + 29)) := At.fr (m := 13) b_396 bl3 r_168 (bqq rfl) (Or.inl (Nat.lt_of_lt_of_le hol (Nat.le_add_right _ _)))
  have b_398 : At h_169 (n0 + 29) (bk3 (n0 + 29)) := At.fr (m := 13) b_397 bl3 r_173 (bqq rfl) (Or.inr (bqq rfl))
  have b_399 : At h_175 (n0 + 29) (bk3 (n0 + 29)) := At.fr (m := 13) b_398 bl3 r_180 (bqq rfl) (Or.inr (bqq rfl))
  have b_400 : At h_206 (n0 + 29) (bk3 (n0 + 29)) := At.fr (m := 13) b_399 bl3 r_210 (bqq rfl) (Or.inl (nal rfl))
  have b_401 : At h_214 (n0 + 29) (bk3 (n0 + 29)) := At.fr (m := 13) b_400 bl3 r_218 (bqq rfl) (Or.inr (bqq rfl))
  have b_402 : At h_220 (n0 + 29) (bk3 (n0 + 29)) := At.fr (m := 13) b_401 bl3 r_225 (bqq rfl) (Or.inr (bqq rfl))
  have b_403 : At h_229 (n0 + 29) (bk3 (n0 + 29)) := At.fr (m := 13) b_402 bl3 r_233 (bqq rfl) (Or.inl (nal rfl))
  have b_404 : At h_237 (n0 + 29) (bk3 (n0 + 29)) := At.fr (m := 13) b_403 bl3 r_241 (bqq rfl) (Or.inr (bqq rfl))
  have b_405 : At h_243 (n0 + 29) (bk3 (n0 + 29)) := At.fr (m := 13) b_404 bl3 r_248 (bqq rfl) (Or.inr (bqq rfl))
  have b_406 : At h_252 (n0 + 29) (bk3 (n0 + 29)) := At.fr (m := 13) b_405 bl3 r_256 (bqq rfl) (Or.inl (nal rfl))
  have f_407 := (r_82 (n0 + 42) (nal rfl) (Nat.ne_of_gt (Nat.lt_of_lt_of_le hol (Nat.le_add_right _ _)))).trans f_72
  have f_408 := (r_87 (n0 + 42) (nal rfl) (nan rfl)).trans f_407
  have f_409 := (r_94 (n0 + 42) (nal rfl) (nan rfl)).trans f_408
  have f_410 := (r_102 (n0 + 42) (nal rfl) (Nat.ne_of_gt (Nat.lt_of_lt_of_le hol (Nat.le_add_right _ _)))).trans f_409
  have f_411 := (r_107 (n0 + 42) (nal rfl) (nan rfl)).trans f_410
  have f_412 := (r_114 (n0 + 42) (nal rfl) (nan rfl)).trans f_411
  have f_413 := (r_122 (n0 + 42) (nal rfl) (Nat.ne_of_gt (Nat.lt_of_lt_of_le hol (Nat.le_add_right _ _)))).trans f_412
  have f_414 := (r_127 (n0 + 42) (nal rfl) (nan rfl)).trans f_413
  have f_415 := (r_134 (n0 + 42) (nal rfl) (nan rfl)).trans f_414
  have f_416 := (r_142 (n0 + 42) (nal rfl) (Nat.ne_of_gt (Nat.lt_of_lt_of_le hol (Nat.le_add_right _ _)))).trans f_415
  have f_417 := (r_148 (n0 + 42) (nal rfl) (Nat.ne_of_gt (Nat.lt_of_lt_of_le hol (Nat.le_add_right _ _)))).trans f_416
  have f_418 := (r_153 (n0 + 42) (nal rfl) (nan rfl)).trans f_417
  have f_419 := (r_160 (n0 + 42) (nal rfl) (nan rfl)).trans f_418
  have f_420 := (r_168 (n0 + 42) (nal rfl) (Nat.ne_of_gt (Nat.lt_of_lt_of_le hol (Nat.le_add_right _ _)))).trans f_419
  have f_421 := (r_173 (n0 + 42) (nal rfl) (nan rfl)).trans f_420
  have f_422 := (r_180 (n0 + 42) (nal rfl) (nan rfl)).trans f_421
  have f_423 := (r_210 (n0 + 42) (nal rfl) (nan rfl)).trans f_422
  have f_424 := (r_218 (n0 + 42) (nal rfl) (nan rfl)).trans f_423
  have f_425 := (r_225 (n0 + 42) (nal rfl) (nan rfl)).trans f_424
  have f_426 := (r_233 (n0 + 42) (nal rfl) (nan rfl)).trans f_425
  have f_427 := (r_241 (n0 + 42) (nal rfl) (nan rfl)).trans f_426
  have f_428 := (r_248 (n0 + 42) (nal rfl) (nan rfl)).trans f_427
  have f_429 := (r_256 (n0 + 42) (nal rfl) (nan rfl)).trans f_428
  have b_430 : At h_78 (n0 + 43) (bk4 (n0 + 43)) := At.fr (m := 5) b_73 bl4 r_82 (bqq rfl) (Or.inl (Nat.lt_of_lt_of_le hol (Nat.le_add_right _ _)))
  have b_431 : At h_83 (n0 + 43) (bk4 (n0 + 43)) := At.fr (m := 5) b_430 bl4 r_87 (bqq rfl) (Or.inr (bqq rfl))
  have b_432 : At h_89 (n0 + 43) (bk4 (n0 + 43)) := At.fr (m := 5) b_431 bl4 r_94 (bqq rfl) (Or.inr (bqq rfl))
  have b_433 : At h_98 (n0 + 43) (bk4 (n0 + 43)) := At.fr (m := 5) b_432 bl4 r_102 (bqq rfl) (Or.inl (Nat.lt_of_lt_of_le hol (Nat.le_add_right _ _)))
  have b_434 : At h_103 (n0 + 43) (bk4 (n0 + 43)) := At.fr (m := 5) b_433 bl4 r_107 (bqq rfl) (Or.inr (bqq rfl))
  have b_435 : At h_109 (n0 + 43) (bk4 (n0 + 43)) := At.fr (m := 5) b_434 bl4 r_114 (bqq rfl) (Or.inr (bqq rfl))
  have b_436 : At h_118 (n0 + 43) (bk4 (n0 + 43)) := At.fr (m := 5) b_435 bl4 r_122 (bqq rfl) (Or.inl (Nat.lt_of_lt_of_le hol (Nat.le_add_right _ _)))
  have b_437 : At h_123 (n0 + 43) (bk4 (n0 + 43)) := At.fr (m := 5) b_436 bl4 r_127 (bqq rfl) (Or.inr (bqq rfl))
  have b_438 : At h_129 (n0 + 43) (bk4 (n0 + 43)) := At.fr (m := 5) b_437 bl4 r_134 (bqq rfl) (Or.inr (bqq rfl))
  have b_439 : At h_138 (n0 + 43) (bk4 (n0 + 43)) := At.fr (m := 5) b_438 bl4 r_142 (bqq rfl) (Or.inl (Nat.lt_of_lt_of_le hol (Nat.le_add_right _ _)))
  have b_440 : At h_144 (n0 + 43) (bk4 (n0 + 43)) := At.fr (m := 5) b_439 bl4 r_148 (bqq rfl) (Or.inl (Nat.lt_of_lt_of_le hol (Nat.le_add_right _ _)))
  have b_441 : At h_149 (n0 + 43) (bk4 (n0 + 43)) := At.fr (m := 5) b_440 bl4 r_153 (bqq rfl) (Or.inr (bqq rfl))
  have b_442 : At h_155 (n0 + 43) (bk4 (n0 + 43)) := At.fr (m := 5) b_441 bl4 r_160 (bqq rfl) (Or.inr (bqq rfl))
  have b_443 : At h_164 (n0 + 43) (bk4 (n0 + 43)) := At.fr (m := 5) b_442 bl4 r_168 (bqq rfl) (Or.inl (Nat.lt_of_lt_of_le hol (Nat.le_add_right _ _)))
  have b_444 : At h_169 (n0 + 43) (bk4 (n0 + 43)) := At.fr (m := 5) b_443 bl4 r_173 (bqq rfl) (Or.inr (bqq rfl))
  have b_445 : At h_175 (n0 + 43) (bk4 (n0 + 43)) := At.fr (m := 5) b_444 bl4 r_180 (bqq rfl) (Or.inr (bqq rfl))
  have b_446 : At h_206 (n0 + 43) (bk4 (n0 + 43)) := At.fr (m := 5) b_445 bl4 r_210 (bqq rfl) (Or.inl (nal rfl))
  have b_447 : At h_214 (n0 + 43) (bk4 (n0 + 43)) := At.fr (m := 5) b_446 bl4 r_218 (bqq rfl) (Or.inr (bqq rfl))
  have b_448 : At h_220 (n0 + 43) (bk4 (n0 + 43)) := At.fr (m := 5) b_447 bl4 r_225 (bqq rfl) (Or.inr (bqq rfl))
  have b_449 : At h_229 (n0 + 43) (bk4 (n0 + 43)) := At.fr (m := 5) b_448 bl4 r_233 (bqq rfl) (Or.inl (nal rfl))
  have b_450 : At h_237 (n0 + 43) (bk4 (n0 + 43)) := At.fr (m := 5) b_449 bl4 r_241 (bqq rfl) (Or.inr (bqq rfl))
  have b_451 : At h_243 (n0 + 43) (bk4 (n0 + 43)) := At.fr (m := 5) b_450 bl4 r_248 (bqq rfl) (Or.inr (bqq rfl))
  have b_452 : At h_252 (n0 + 43) (bk4 (n0 + 43)) := At.fr (m := 5) b_451 bl4 r_256 (bqq rfl) (Or.inl (nal rfl))
  have f_453 := (r_102 (n0 + 48) (nal rfl) (Nat.ne_of_gt (Nat.lt_of_lt_of_le hol (Nat.le_add_right _ _)))).trans f_92
  have f_454 := (r_107 (n0 + 48) (nal rfl) (nan rfl)).trans f_453
  have f_455 := (r_114 (n0 + 48) (nal rfl) (nan rfl)).trans f_454
  have f_456 := (r_122 (n0 + 48) (nal rfl) (Nat.ne_of_gt (Nat.lt_of_lt_of_le hol (Nat.le_add_right _ _)))).trans f_455
  have f_457 := (r_127 (n0 + 48) (nal rfl) (nan rfl)).trans f_456
  have f_458 := (r_134 (n0 + 48) (nal rfl) (nan rfl)).trans f_457
  have f_459 := (r_142 (n0 + 48) (nal rfl) (Nat.ne_of_gt (Nat.lt_of_lt_of_le hol (Nat.le_add_right _ _)))).trans f_458
  have f_460 := (r_148 (n0 + 48) (nal rfl) (Nat.ne_of_gt (Nat.lt_of_lt_of_le hol (Nat.le_add_right _ _)))).trans f_459
  have f_461 := (r_153 (n0 + 48) (nal rfl) (nan rfl)).trans f_460
  have f_462 := (r_160 (n0 + 48) (nal rfl) (nan rfl)).trans f_461
  have f_463 := (r_168 (n0 + 48) (nal rfl) (Nat.ne_of_gt (Nat.lt_of_lt_of_le hol (Nat.le_add_right _ _)))).trans f_462
  have f_464 := (r_173 (n0 + 48) (nal rfl) (nan rfl)).trans f_463
  have f_465 := (r_180 (n0 + 48) (nal rfl) (nan rfl)).trans f_464
  have f_466 := (r_210 (n0 + 48) (nal rfl) (nan rfl)).trans f_465
  have f_467 := (r_218 (n0 + 48) (nal rfl) (nan rfl)).trans f_466
  have f_468 := (r_225 (n0 + 48) (nal rfl) (nan rfl)).trans f_467
  have f_469 := (r_233 (n0 + 48) (nal rfl) (nan rfl)).trans f_468
  have f_470 := (r_241 (n0 + 48) (nal rfl) (nan rfl)).trans f_469
  have f_471 := (r_248 (n0 + 48) (nal rfl) (nan rfl)).trans f_470
  have f_472 := (r_256 (n0 + 48) (nal rfl) (nan rfl)).trans f_471
  have b_473 : At h_98 (n0 + 49) (bk8 (n0 + 49)) := At.fr (m := 3) b_93 bl8 r_102 (bqq rfl) (Or.inl (Nat.lt_of_lt_of_le hol (Nat.le_add_right _ _)))
  have b_474 : At h_103 (n0 + 49) (bk8 (n0 + 49)) := At.fr (m := 3) b_473 bl8 r_107 (bqq rfl) (Or.inr (bqq rfl))
  have b_475 : At h_109 (n0 + 49) (bk8 (n0 + 49)) := At.fr (m := 3) b_474 bl8 r_114 (bqq rfl) (Or.inr (bqq rfl))
  have b_476 : At h_118 (n0 + 49) (bk8 (n0 + 49)) := At.fr (m := 3) b_475 bl8 r_122 (bqq rfl) (Or.inl (Nat.lt_of_lt_of_le hol (Nat.le_add_right _ _)))
  have b_477 : At h_123 (n0 + 49) (bk8 (n0 + 49)) := At.fr (m := 3) b_476 bl8 r_127 (bqq rfl) (Or.inr (bqq rfl))
  have b_478 : At h_129 (n0 + 49) (bk8 (n0 + 49)) := At.fr (m := 3) b_477 bl8 r_134 (bqq rfl) (Or.inr (bqq rfl))
  have b_479 : At h_138 (n0 + 49) (bk8 (n0 + 49)) := At.fr (m := 3) b_478 bl8 r_142 (bqq rfl) (Or.inl (Nat.lt_of_lt_of_le hol (Nat.le_add_right _ _)))
  have b_480 : At h_144 (n0 + 49) (bk8 (n0 + 49)) := At.fr (m := 3) b_479 bl8 r_148 (bqq rfl) (Or.inl (Nat.lt_of_lt_of_le hol (Nat.le_add_right _ _)))
  have b_481 : At h_149 (n0 + 49) (bk8 (n0 + 49)) := At.fr (m := 3) b_480 bl8 r_153 (bqq rfl) (Or.inr (bqq rfl))
  have b_482 : At h_155 (n0 + 49) (bk8 (n0 + 49)) := At.fr (m := 3) b_481 bl8 r_160 (bqq rfl) (Or.inr (bqq rfl))
  have b_483 : At h_164 (n0 + 49) (bk8 (n0 + 49)) := At.fr (m := 3) b_482 bl8 r_168 (bqq rfl) (Or.inl (Nat.lt_of_lt_of_le hol (Nat.le_add_right _ _)))
  have b_484 : At h_169 (n0 + 49) (bk8 (n0 + 49)) := At.fr (m := 3) b_483 bl8 r_173 (bqq rfl) (Or.inr (bqq rfl))
  have b_485 : At h_175 (n0 + 49) (bk8 (n0 + 49)) := At.fr (m := 3) b_484 bl8 r_180 (bqq rfl) (Or.inr (bqq rfl))
  have b_486 : At h_206 (n0 + 49) (bk8 (n0 + 49)) := At.fr (m := 3) b_485 bl8 r_210 (bqq rfl) (Or.inl (nal rfl))
  have b_487 : At h_214 (n0 + 49) (bk8 (n0 + 49)) := At.fr (m := 3) b_486 bl8 r_218 (bqq rfl) (Or.inr (bqq rfl))
  have b_488 : At h_220 (n0 + 49) (bk8 (n0 + 49)) := At.fr (m := 3) b_487 bl8 r_225 (bqq rfl) (Or.inr (bqq rfl))
  have b_489 : At h_229 (n0 + 49) (bk8 (n0 + 49)) := At.fr (m := 3) b_488 bl8 r_233 (bqq rfl) (Or.inl (nal rfl))
  have b_490 : At h_237 (n0 + 49) (bk8 (n0 + 49)) := At.fr (m := 3) b_489 bl8 r_241 (bqq rfl) (Or.inr (bqq rfl))
  have b_491 : At h_243 (n0 + 49) (bk8 (n0 + 49)) := At.fr (m := 3) b_490 bl8 r_248 (bqq rfl) (Or.inr (bqq rfl))
  have b_492 : At h_252 (n0 + 49) (bk8 (n0 + 49)) := At.fr (m := 3) b_491 bl8 r_256 (bqq rfl) (Or.inl (nal rfl))
  have f_493 := (r_122 (n0 + 52) (nal rfl) (Nat.ne_of_gt (Nat.lt_of_lt_of_le hol (Nat.le_add_right _ _)))).trans f_112
  have f_494 := (r_127 (n0 + 52) (nal rfl) (nan rfl)).trans f_493
  have f_495 := (r_134 (n0 + 52) (nal rfl) (nan rfl)).trans f_494
  have f_496 := (r_142 (n0 + 52) (nal rfl) (Nat.ne_of_gt (Nat.lt_of_lt_of_le hol (Nat.le_add_right _ _)))).trans f_495
  have f_497 := (r_148 (n0 + 52) (nal rfl) (Nat.ne_of_gt (Nat.lt_of_lt_of_le hol (Nat.le_add_right _ _)))).trans f_496
  have f_498 := (r_153 (n0 + 52) (nal rfl) (nan rfl)).trans f_497
  have f_499 := (r_160 (n0 + 52) (nal rfl) (nan rfl)).trans f_498
  have f_500 := (r_168 (n0 + 52) (nal rfl) (Nat.ne_of_gt (Nat.lt_of_lt_of_le hol (Nat.le_add_right _ _)))).trans f_499
  have f_501 := (r_173 (n0 + 52) (nal rfl) (nan rfl)).trans f_500
  have f_502 := (r_180 (n0 + 52) (nal rfl) (nan rfl)).trans f_501
  have f_503 := (r_210 (n0 + 52) (nal rfl) (nan rfl)).trans f_502
  have f_504 := (r_218 (n0 + 52) (nal rfl) (nan rfl)).trans f_503
  have f_505 := (r_225 (n0 + 52) (nal rfl) (nan rfl)).trans f_504
  have f_506 := (r_233 (n0 + 52) (nal rfl) (nan rfl)).trans f_505
  have f_507 := (r_241 (n0 + 52) (nal rfl) (nan rfl)).trans f_506
  have f_508 := (r_248 (n0 + 52) (nal rfl) (nan rfl)).trans f_507
  have f_509 := (r_256 (n0 + 52) (nal rfl) (nan rfl)).trans f_508
  have b_510 : At h_118 (n0 + 53) (bk5 (n0 + 53)) := At.fr (m := 2) b_113 bl5 r_122 (bqq rfl) (Or.inl (Nat.lt_of_lt_of_le hol (Nat.le_add_right _ _)))
  have b_511 : At h_123 (n0 + 53) (bk5 (n0 + 53)) := At.fr (m := 2) b_510 bl5 r_127 (bqq rfl) (Or.inr (bqq rfl))
  have b_512 : At h_129 (n0 + 53) (bk5 (n0 + 53)) := At.fr (m := 2) b_511 bl5 r_134 (bqq rfl) (Or.inr (bqq rfl))
  have b_513 : At h_138 (n0 + 53) (bk5 (n0 + 53)) := At.fr (m := 2) b_512 bl5 r_142 (bqq rfl) (Or.inl (Nat.lt_of_lt_of_le hol (Nat.le_add_right _ _)))
  have b_514 : At h_144 (n0 + 53) (bk5 (n0 + 53)) := At.fr (m := 2) b_513 bl5 r_148 (bqq rfl) (Or.inl (Nat.lt_of_lt_of_le hol (Nat.le_add_right _ _)))
  have b_515 : At h_149 (n0 + 53) (bk5 (n0 + 53)) := At.fr (m := 2) b_514 bl5 r_153 (bqq rfl) (Or.inr (bqq rfl))
  have b_516 : At h_155 (n0 + 53) (bk5 (n0 + 53)) := At.fr (m := 2) b_515 bl5 r_160 (bqq rfl) (Or.inr (bqq rfl))
  have b_517 : At h_164 (n0 + 53) (bk5 (n0 + 53)) := At.fr (m := 2) b_516 bl5 r_168 (bqq rfl) (Or.inl (Nat.lt_of_lt_of_le hol (Nat.le_add_right _ _)))
  have b_518 : At h_169 (n0 + 53) (bk5 (n0 + 53)) := At.fr (m := 2) b_517 bl5 r_173 (bqq rfl) (Or.inr (bqq rfl))
  have b_519 : At h_175 (n0 + 53) (bk5 (n0 + 53)) := At.fr (m := 2) b_518 bl5 r_180 (bqq rfl) (Or.inr (bqq rfl))
  have b_520 : At h_206 (n0 + 53) (bk5 (n0 + 53)) := At.fr (m := 2) b_519 bl5 r_210 (bqq rfl) (Or.inl (nal rfl))
  have b_521 : At h_214 (n0 + 53) (bk5 (n0 + 53)) := At.fr (m := 2) b_520 bl5 r_218 (bqq rfl) (Or.inr (bqq rfl))
  have b_522 : At h_220 (n0 + 53) (bk5 (n0 + 53)) := At.fr (m := 2) b_521 bl5 r_225 (bqq rfl) (Or.inr (bqq rfl))
  have b_523 : At h_229 (n0 + 53) (bk5 (n0 + 53)) := At.fr (m := 2) b_522 bl5 r_233 (bqq rfl) (Or.inl (nal rfl))
  have b_524 : At h_237 (n0 + 53) (bk5 (n0 + 53)) := At.fr (m := 2) b_523 bl5 r_241 (bqq rfl) (Or.inr (bqq rfl))
  have b_525 : At h_243 (n0 + 53) (bk5 (n0 + 53)) := At.fr (m := 2) b_524 bl5 r_248 (bqq rfl) (Or.inr (bqq rfl))
  have b_526 : At h_252 (n0 + 53) (bk5 (n0 + 53)) := At.fr (m := 2) b_525 bl5 r_256 (bqq rfl) (Or.inl (nal rfl))
  have f_527 := (r_148 (n0 + 55) (nal rfl) (Nat.ne_of_gt (Nat.lt_of_lt_of_le hol (Nat.le_add_right _ _)))).trans f_143
  have f_528 := (r_153 (n0 + 55) (nal rfl) (nan rfl)).trans f_527
  have f_529 := (r_160 (n0 + 55) (nal rfl) (nan rfl)).trans f_528
  have f_530 := (r_168 (n0 + 55) (nal rfl) (Nat.ne_of_gt (Nat.lt_of_lt_of_le hol (Nat.le_add_right _ _)))).trans f_529
  have f_531 := (r_173 (n0 + 55) (nal rfl) (nan rfl)).trans f_530
  have f_532 := (r_180 (n0 + 55) (nal rfl) (nan rfl)).trans f_531
  have f_533 := (r_210 (n0 + 55) (nal rfl) (nan rfl)).trans f_532
  have f_534 := (r_218 (n0 + 55) (nal rfl) (nan rfl)).trans f_533
  have f_535 := (r_225 (n0 + 55) (nal rfl) (nan rfl)).trans f_534
  have f_536 := (r_233 (n0 + 55) (nal rfl) (nan rfl)).trans f_535
  have f_537 := (r_241 (n0 + 55) (nal rfl) (nan rfl)).trans f_536
  have f_538 := (r_248 (n0 + 55) (nal rfl) (nan rfl)).trans f_537
  have f_539 := (r_256 (n0 + 55) (nal rfl) (nan rfl)).trans f_538
  have b_540 : At h_138 (n0 + 56) (bk0 (n0 + 56)) := At.fr (m := 22) b_133 bl0 r_142 (bqq rfl) (Or.inl (Nat.lt_of_lt_of_le hol (Nat.le_add_right _ _)))
  have b_541 : At h_144 (n0 + 56) (bk0 (n0 + 56)) := At.fr (m := 22) b_540 bl0 r_148 (bqq rfl) (Or.inl (Nat.lt_of_lt_of_le hol (Nat.le_add_right _ _)))
  have b_542 : At h_149 (n0 + 56) (bk0 (n0 + 56)) := At.fr (m := 22) b_541 bl0 r_153 (bqq rfl) (Or.inr (bqq rfl))
  have b_543 : At h_155 (n0 + 56) (bk0 (n0 + 56)) := At.fr (m := 22) b_542 bl0 r_160 (bqq rfl) (Or.inr (bqq rfl))
  have b_544 : At h_164 (n0 + 56) (bk0 (n0 + 56)) := At.fr (m := 22) b_543 bl0 r_168 (bqq rfl) (Or.inl (Nat.lt_of_lt_of_le hol (Nat.le_add_right _ _)))
  have b_545 : At h_169 (n0 + 56) (bk0 (n0 + 56)) := At.fr (m := 22) b_544 bl0 r_173 (bqq rfl) (Or.inr (bqq rfl))
  have b_546 : At h_175 (n0 + 56) (bk0 (n0 + 56)) := At.fr (m := 22) b_545 bl0 r_180 (bqq rfl) (Or.inr (bqq rfl))
  have b_547 : At h_206 (n0 + 56) (bk0 (n0 + 56)) := At.fr (m := 22) b_546 bl0 r_210 (bqq rfl) (Or.inl (nal rfl))
  have b_548 : At h_214 (n0 + 56) (bk0 (n0 + 56)) := At.fr (m := 22) b_547 bl0 r_218 (bqq rfl) (Or.inr (bqq rfl))
  have b_549 : At h_220 (n0 + 56) (bk0 (n0 + 56)) := At.fr (m := 22) b_548 bl0 r_225 (bqq rfl) (Or.inr (bqq rfl))
  have b_550 : At h_229 (n0 + 56) (bk0 (n0 + 56)) := At.fr (m := 22) b_549 bl0 r_233 (bqq rfl) (Or.inl (nal rfl))
  have b_551 : At h_237 (n0 + 56) (bk0 (n0 + 56)) := At.fr (m := 22) b_550 bl0 r_241 (bqq rfl) (Or.inr (bqq rfl))
  have b_552 : At h_243 (n0 + 56) (bk0 (n0 + 56)) := At.fr (m := 22) b_551 bl0 r_248 (bqq rfl) (Or.inr (bqq rfl))
  have b_553 : At h_252 (n0 + 56) (bk0 (n0 + 56)) := At.fr (m := 22) b_552 bl0 r_256 (bqq rfl) (Or.inl (nal rfl))
  have f_554 := (r_168 (n0 + 78) (nal rfl) (Nat.ne_of_gt (Nat.lt_of_lt_of_le hol (Nat.le_add_right _ _)))).trans f_158
  have f_555 := (r_173 (n0 + 78) (nal rfl) (nan rfl)).trans f_554
  have f_556 := (r_180 (n0 + 78) (nal rfl) (nan rfl)).trans f_555
  have f_557 := (r_210 (n0 + 78) (nal rfl) (nan rfl)).trans f_556
  have f_558 := (r_218 (n0 + 78) (nal rfl) (nan rfl)).trans f_557
  have f_559 := (r_225 (n0 + 78) (nal rfl) (nan rfl)).trans f_558
  have f_560 := (r_233 (n0 + 78) (nal rfl) (nan rfl)).trans f_559
  have f_561 := (r_241 (n0 + 78) (nal rfl) (nan rfl)).trans f_560
  have f_562 := (r_248 (n0 + 78) (nal rfl) (nan rfl)).trans f_561
  have f_563 := (r_256 (n0 + 78) (nal rfl) (nan rfl)).trans f_562
  have b_564 : At h_164 (n0 + 79) (bk1 (n0 + 79)) := At.fr (m := 4) b_159 bl1 r_168 (bqq rfl) (Or.inl (Nat.lt_of_lt_of_le hol (Nat.le_add_right _ _)))
  have b_565 : At h_169 (n0 + 79) (bk1 (n0 + 79)) := At.fr (m := 4) b_564 bl1 r_173 (bqq rfl) (Or.inr (bqq rfl))
  have b_566 : At h_175 (n0 + 79) (bk1 (n0 + 79)) := At.fr (m := 4) b_565 bl1 r_180 (bqq rfl) (Or.inr (bqq rfl))
  have b_567 : At h_206 (n0 + 79) (bk1 (n0 + 79)) := At.fr (m := 4) b_566 bl1 r_210 (bqq rfl) (Or.inl (nal rfl))
  have b_568 : At h_214 (n0 + 79) (bk1 (n0 + 79)) := At.fr (m := 4) b_567 bl1 r_218 (bqq rfl) (Or.inr (bqq rfl))
  have b_569 : At h_220 (n0 + 79) (bk1 (n0 + 79)) := At.fr (m := 4) b_568 bl1 r_225 (bqq rfl) (Or.inr (bqq rfl))
  have b_570 : At h_229 (n0 + 79) (bk1 (n0 + 79)) := At.fr (m := 4) b_569 bl1 r_233 (bqq rfl) (Or.inl (nal rfl))
  have b_571 : At h_237 (n0 + 79) (bk1 (n0 + 79)) := At.fr (m := 4) b_570 bl1 r_241 (bqq rfl) (Or.inr (bqq rfl))
  have b_572 : At h_243 (n0 + 79) (bk1 (n0 + 79)) := At.fr (m := 4) b_571 bl1 r_248 (bqq rfl) (Or.inr (bqq rfl))
  have b_573 : At h_252 (n0 + 79) (bk1 (n0 + 79)) := At.fr (m := 4) b_572 bl1 r_256 (bqq rfl) (Or.inl (nal rfl))
  have f_574 := (r_210 (n0 + 83) (nal rfl) (nan rfl)).trans f_178
  have f_575 := (r_218 (n0 + 83) (nal rfl) (nan rfl)).trans f_574
  have f_576 := (r_225 (n0 + 83) (nal rfl) (nan rfl)).trans f_575
  have f_577 := (r_233 (n0 + 83) (nal rfl) (nan rfl)).trans f_576
  have f_578 := (r_241 (n0 + 83) (nal rfl) (nan rfl)).trans f_577
  have f_579 := (r_248 (n0 + 83) (nal rfl) (nan rfl)).trans f_578
  have f_580 := (r_256 (n0 + 83) (nal rfl) (nan rfl)).trans f_579
  have b_581 : At h_206 (n0 + 84) (bk7 (n0 + 84)) := At.fr (m := 25) b_179 bl7 r_210 (bqq rfl) (Or.inl (nal rfl))
  have b_582 : At h_214 (n0 + 84) (bk7 (n0 + 84)) := At.fr (m := 25) b_581 bl7 r_218 (bqq rfl) (Or.inr (bqq rfl))
  have b_583 : At h_220 (n0 + 84) (bk7 (n0 + 84)) := At.fr (m := 25) b_582 bl7 r_225 (bqq rfl) (Or.inr (bqq rfl))
  have b_584 : At h_229 (n0 + 84) (bk7 (n0 + 84)) := At.fr (m := 25) b_583 bl7 r_233 (bqq rfl) (Or.inl (nal rfl))
  have b_585 : At h_237 (n0 + 84) (bk7 (n0 + 84)) := At.fr (m := 25) b_584 bl7 r_241 (bqq rfl) (Or.inr (bqq rfl))
  have b_586 : At h_243 (n0 + 84) (bk7 (n0 + 84)) := At.fr (m := 25) b_585 bl7 r_248 (bqq rfl) (Or.inr (bqq rfl))
  have b_587 : At h_252 (n0 + 84) (bk7 (n0 + 84)) := At.fr (m := 25) b_586 bl7 r_256 (bqq rfl) (Or.inl (nal rfl))
  have f_588 := (r_233 (n0 + 109) (nal rfl) (nan rfl)).trans f_223
  have f_589 := (r_241 (n0 + 109) (nal rfl) (nan rfl)).trans f_588
  have f_590 := (r_248 (n0 + 109) (nal rfl) (nan rfl)).trans f_589
  have f_591 := (r_256 (n0 + 109) (nal rfl) (nan rfl)).trans f_590
  have b_592 : At h_229 (n0 + 110) (bk7 (n0 + 110)) := At.fr (m := 25) b_224 bl7 r_233 (bqq rfl) (Or.inl (nal rfl))
  have b_593 : At h_237 (n0 + 110) (bk7 (n0 + 110)) := At.fr (m := 25) b_592 bl7 r_241 (bqq rfl) (Or.inr (bqq rfl))
  have b_594 : At h_243 (n0 + 110) (bk7 (n0 + 110)) := At.fr (m := 25) b_593 bl7 r_248 (bqq rfl) (Or.inr (bqq rfl))
  have b_595 : At h_252 (n0 + 110) (bk7 (n0 + 110)) := At.fr (m := 25) b_594 bl7 r_256 (bqq rfl) (Or.inl (nal rfl))
  have f_596 := (r_256 (n0 + 135) (nal rfl) (nan rfl)).trans f_246
  have b_597 : At h_252 (n0 + 136) (bk7 (n0 + 136)) := At.fr (m := 25) b_247 bl7 r_256 (bqq rfl) (Or.inl (nal rfl))
  have hfr : ∀ j, j < n0 → j ≠ o → h_252[j]? = h[j]? := by
    intro j hj hjo
    rw [r_256 j (Nat.lt_of_lt_of_le hj (Nat.le_add_right _ _)) (Nat.ne_of_lt (Nat.lt_of_lt_of_le hj (Nat.le_add_right _ _))), r_248 j (Nat.lt_of_lt_of_le hj (Nat.le_add_right _ _)) (Nat.ne_of_lt (Nat.lt_of_lt_of_le hj (Nat.le_add_right _ _))), r_241 j (Nat.lt_of_lt_of_le hj (Nat.le_add_right _ _)) (Nat.ne_of_lt (Nat.lt_of_lt_of_le hj (Nat.le_add_right _ _))), r_233 j (Nat.lt_of_lt_of_le hj (Nat.le_add_right _ _)) (Nat.ne_of_lt (Nat.lt_of_lt_of_le hj (Nat.le_add_right _ _))), r_225 j (Nat.lt_of_lt_of_le hj (Nat.le_add_right _ _)) (Nat.ne_of_lt (Nat.lt_of_lt_of_le hj (Nat.le_add_right _ _))), r_218 j (Nat.lt_of_lt_of_le hj (Nat.le_add_right _ _)) (Nat.ne_of_lt (Nat.lt_of_lt_of_le hj (Nat.le_add_right _ _))), r_210 j (Nat.lt_of_lt_of_le hj (Nat.le_add_right _ _)) (Nat.ne_of_lt (Nat.lt_of_lt_of_le hj (Nat.le_add_right _ _))), r_180 j (Nat.lt_of_lt_of_le hj (Nat.le_add_right _ _)) (Nat.ne_of_lt (Nat.lt_of_lt_of_le hj (Nat.le_add_right _ _))), r_173 j (Nat.lt_of_lt_of_le hj (Nat.le_add_right _ _)) (Nat.ne_of_lt (Nat.lt_of_lt_of_le hj (Nat.le_add_right _ _))), r_168 j (Nat.lt_of_lt_of_le hj (Nat.le_add_right _ _)) hjo, r_160 j (Nat.lt_of_lt_of_le hj (Nat.le_add_right _ _)) (Nat.ne_of_lt (Nat.lt_of_lt_of_le hj (Nat.le_add_right _ _))), r_153 j (Nat.lt_of_lt_of_le hj (Nat.le_add_right _ _)) (Nat.ne_of_lt (Nat.lt_of_lt_of_le hj (Nat.le_add_right _ _))), r_148 j (Nat.lt_of_lt_of_le hj (Nat.le_add_right _ _)) hjo, r_142 j (Nat.lt_of_lt_of_le hj (Nat.le_add_right _ _)) hjo, r_134 j (Nat.lt_of_lt_of_le hj (Nat.le_add_right _ _)) (Nat.ne_of_lt (Nat.lt_of_lt_of_le hj (Nat.le_add_right _ _))), r_127 j (Nat.lt_of_lt_of_le hj (Nat.le_add_right _ _)) (Nat.ne_of_lt (Nat.lt_of_lt_of_le hj (Nat.le_add_right _ _))), r_122 j (Nat.lt_of_lt_of_le hj (Nat.le_add_right _ _)) hjo, r_114 j (Nat.lt_of_lt_of_le hj (Nat.le_add_right _ _)) (Nat.ne_of_lt (Nat.lt_of_lt_of_le hj (Nat.le_add_right _ _))), r_107 j (Nat.lt_of_lt_of_le hj (Nat.le_add_right _ _)) (Nat.ne_of_lt (Nat.lt_of_lt_of_le hj (Nat.le_add_right _ _))), r_102 j (Nat.lt_of_lt_of_le hj (Nat.le_add_right _ _)) hjo, r_94 j (Nat.lt_of_lt_of_le hj (Nat.le_add_right _ _)) (Nat.ne_of_lt (Nat.lt_of_lt_of_le hj (Nat.le_add_right _ _))), r_87 j (Nat.lt_of_lt_of_le hj (Nat.le_add_right _ _)) (Nat.ne_of_lt (Nat.lt_of_lt_of_le hj (Nat.le_add_right _ _))), r_82 j (Nat.lt_of_lt_of_le hj (Nat.le_add_right _ _)) hjo, r_74 j (Nat.lt_of_lt_of_le hj (Nat.le_add_right _ _)) (Nat.ne_of_lt (Nat.lt_of_lt_of_le hj (Nat.le_add_right _ _))), r_67 j (Nat.lt_of_lt_of_le hj (Nat.le_add_right _ _)) (Nat.ne_of_lt (Nat.lt_of_lt_of_le hj (Nat.le_add_right _ _))), r_62 j (Nat.lt_of_lt_of_le hj (Nat.le_add_right _ _)) hjo, r_54 j (Nat.lt_of_lt_of_le hj (Nat.le_add_right _ _)) (Nat.ne_of_lt (Nat.lt_of_lt_of_le hj (Nat.le_add_right _ _))), r_47 j (Nat.lt_of_lt_of_le hj (Nat.le_add_right _ _)) (Nat.ne_of_lt (Nat.lt_of_lt_of_le hj (Nat.le_add_right _ _))), r_42 j (Nat.lt_of_lt_of_le hj (Nat.le_add_right _ _)) hjo, r_36 j (Nat.lt_of_lt_of_le hj (Nat.le_add_right _ _)) (Nat.ne_of_lt (Nat.lt_of_lt_of_le hj (Nat.le_add_right _ _))), r_31 j (Nat.lt_of_lt_of_le hj (Nat.le_add_right _ _)) hjo, r_25 j (Nat.lt_of_lt_of_le hj (Nat.le_add_right _ _)) (Nat.ne_of_lt (Nat.lt_of_lt_of_le hj (Nat.le_add_right _ _))), r_20 j (Nat.lt_of_lt_of_le hj (Nat.le_add_right _ _)) hjo, r_12 j (Nat.lt_of_lt_of_le hj (Nat.le_add_right _ _)) (Nat.ne_of_lt (Nat.lt_of_lt_of_le hj (Nat.le_add_right _ _))), r_5 j (Nat.lt_of_lt_of_le hj (Nat.le_add_right _ _)) (Nat.ne_of_lt (Nat.lt_of_lt_of_le hj (Nat.le_add_right _ _)))]
  exact J_vret hq dX10_init_133 rfl (hk1 hn l_255) (by decide) (by decide) ⟨rfl, l_255, f_259, (At_cons f_292 (At_app bl7 b_325 (At_cons f_254 (At_cons f_354 (At_cons f_380 (At_app bl3 b_406 (At_cons f_429 (At_app bl4 b_452 (At_cons f_472 (At_app bl8 b_492 (At_cons f_509 (At_app bl5 b_526 (At_cons f_539 (At_app bl0 b_553 (At_cons f_563 (At_app bl1 b_573 (At_cons f_580 (At_app bl7 b_587 (At_cons f_591 (At_app bl7 b_595 (At_cons f_596 (At_app bl7 b_597 At_nil)))))))))))))))))))))), hfr⟩
def ob11 (n : Nat) : MC := (.inr (11, [.int 0, .ref (n + 0), .ref (n + 1), .ref (n + 2), .ref (n + 3), .ref (n + 4), .ref (n + 5), .ref (n + 6), .int 0, .int 0, .int 0, .int 0, .int 0, .long 0, .int 0, .int 0, .int 0, .int 0, .int 0, .ref (n + 7), .ref (n + 8), .ref (n + 9), .int 0, .int 0, .int 0, .int 0, .int 0, .int 0, .ref (n + 10), .ref (n + 11), .ref (n + 12), .int 0, .int 0, .int 0, .ref (n + 13), .ref (n + 14), .ref (n + 15), .ref (n + 16), .ref (n + 17), .int 0, .long 0, .int 0, .ref (n + 18)]))
def bk11 (n : Nat) : List MC := (.inl (0, 2400, .inl (fun _ => 0))) :: ((.inl (1, 4, .inl (fun _ => 0))) :: ((.inl (1, 4, .inl (fun _ => 0))) :: ((.inl (1, 4, .inl (upd (fun _ => 0) ((0 : Int32).toNatClampNeg) (-1)))) :: ((.inl (1, 8, .inl (fun _ => 0))) :: ((.inl (1, 1256, .inl (fun _ => 0))) :: ((.inl (1, 444, .inl (fun _ => 0))) :: ((.inl (1, 157, .inl (fun _ => 0))) :: ((.inl (1, 3, .inl (fun _ => 0))) :: ((.inl (1, 157, .inl (fun _ => 0))) :: ((.inl (1, 9, .inl (fun _ => 0))) :: ((.inl (1, 9, .inl (fun _ => 0))) :: ((.inl (1, 9, .inl (fun _ => 0))) :: ((.inl (2, 512, .inr (.inl (fun _ => 0)))) :: ((.inl (1, 9, .inl (fun _ => 0))) :: ((.inl (1, 9, .inl (fun _ => 0))) :: ((.inl (1, 4, .inl (fun _ => 0))) :: ((.inl (1, 4, .inl (fun _ => 0))) :: ((.inl (3, 3, .inl (fun _ => 0))) :: ([])))))))))))))))))))
set_option maxHeartbeats 4000000 in
set_option maxRecDepth 100000 in
theorem c_X11_init {d : Nat} {h : List MC} {o n0 : Nat} (hd : 1 ≤ d) (hn : h.length = n0) (ho : h[o]? = some (.inr (11, [.int 0, .null, .null, .null, .null, .null, .null, .null, .int 0, .int 0, .int 0, .int 0, .int 0, .long 0, .int 0, .int 0, .int 0, .int 0, .int 0, .null, .null, .null, .int 0, .int 0, .int 0, .int 0, .int 0, .int 0, .null, .null, .null, .int 0, .int 0, .int 0, .null, .null, .null, .null, .null, .int 0, .long 0, .int 0, .null]))) : CT con0 d 19 5005 yX11_init cX11_init 1 none [.ref o] h (fun r h2 => r = none ∧ h2.length = n0 + 19 ∧ h2[o]? = some (ob11 n0) ∧ At h2 n0 (bk11 n0) ∧ ∀ j, j < n0 → j ≠ o → h2[j]? = h[j]?) := by
  have hol : o < n0 := by rw [← hn]; exact (List.getElem?_eq_some_iff.mp ho).1
  have hn0 : h.length = n0 + 0 := hn
  refine CT_of (by decide) (Nat.le_of_ble_eq_true rfl) (fun x hq => ?_)
  show J x yX11_init cX11_init 1 none d 19 5005 h.length 0 [(0, .ref o)] [] h 0 0
  refine J_aload_n (i := 0) (j := 0) dX11_init_0 rfl rfl ?_
  refine J_obj dX11_init_1 k1263 k113 k114 (Nat.le_trans (by decide) hd) (Nat.le_of_ble_eq_true rfl) ?_
  refine J_aload_n (i := 0) (j := 0) dX11_init_4 rfl rfl ?_
  refine J_sipush (v := 2400) dX11_init_5 (by decide) ?_
  refine J_newa0 (Z := 2400) dX11_init_8 ka0 (by decide) (by decide) (by decide) (hk1 hn hn0) (by decide) (by decide) ?_
  obtain ⟨h_1, e_2⟩ : ∃ z, z = h ++ [(.inl (0, 2400, .inl (fun _ => 0)))] := ⟨_, rfl⟩
  refine J_w e_2.symm ?_
  refine J_cr (v := n0 + 0) hn0 ?_
  have f_3 := a_push e_2 hn0
  have l_4 : h_1.length = n0 + 1 := l_push e_2 hn0 rfl
  have r_5 := r_push (a := n0 + 0) e_2 hn0
  have f_6 := (r_5 (o) (Nat.lt_of_lt_of_le hol (Nat.le_add_right _ _)) (Nat.ne_of_lt (Nat.lt_of_lt_of_le hol (Nat.le_add_right _ _)))).trans ho
  obtain ⟨h_7, e_8⟩ : ∃ z, z = h_1.set (o) (.inr (11, [.int 0, .ref (n0 + 0), .null, .null, .null, .null, .null, .null, .int 0, .int 0, .int 0, .int 0, .int 0, .long 0, .int 0, .int 0, .int 0, .int 0, .int 0, .null, .null, .null, .int 0, .int 0, .int 0, .int 0, .int 0, .int 0, .null, .null, .null, .int 0, .int 0, .int 0, .null, .null, .null, .null, .null, .int 0, .long 0, .int 0, .null])) := ⟨_, rfl⟩
  refine J_putF (C := RX11) (T := TX11) (Z := 43) (ci := 11) (f := 1) (ty0 := tyX11) dX11_init_10 inG11 rfl tyX11_ok nmX11 (by decide) k1265 rfl rfl rfl rfl f_6 (Nat.le_of_ble_eq_true rfl) (fun _ _ => ⟨rfl, rfl⟩) e_8.symm ?_
  have f_9 := a_set e_8 f_6
  have l_10 : h_7.length = n0 + 1 := l_set e_8 l_4
  have r_11 := r_set (N := n0 + 1) e_8
  refine J_aload_n (i := 0) (j := 0) dX11_init_13 rfl rfl ?_
  refine J_iconst (v := 4) dX11_init_14 (by decide) ?_
  refine J_newa1 (Z := 4) dX11_init_15 ka1 (by decide) (by decide) (by decide) (hk1 hn l_10) (by decide) (by decide) ?_
  obtain ⟨h_12, e_13⟩ : ∃ z, z = h_7 ++ [(.inl (1, 4, .inl (fun _ => 0)))] := ⟨_, rfl⟩
  refine J_w e_13.symm ?_
  refine J_cr (v := n0 + 1) l_10 ?_
  have f_14 := a_push e_13 l_10
  have l_15 : h_12.length = n0 + 2 := l_push e_13 l_10 rfl
  have r_16 := r_push (a := n0 + 1) e_13 l_10
  have f_17 := (r_16 (o) (Nat.lt_of_lt_of_le hol (Nat.le_add_right _ _)) (Nat.ne_of_lt (Nat.lt_of_lt_of_le hol (Nat.le_add_right _ _)))).trans f_9
  obtain ⟨h_18, e_19⟩ : ∃ z, z = h_12.set (o) (.inr (11, [.int 0, .ref (n0 + 0), .ref (n0 + 1), .null, .null, .null, .null, .null, .int 0, .int 0, .int 0, .int 0, .int 0, .long 0, .int 0, .int 0, .int 0, .int 0, .int 0, .null, .null, .null, .int 0, .int 0, .int 0, .int 0, .int 0, .int 0, .null, .null, .null, .int 0, .int 0, .int 0, .null, .null, .null, .null, .null, .int 0, .long 0, .int 0, .null])) := ⟨_, rfl⟩
  refine J_putF (C := RX11) (T := TX11) (Z := 43) (ci := 11) (f := 2) (ty0 := tyX11) dX11_init_17 inG11 rfl tyX11_ok nmX11 (by decide) k1266 rfl rfl rfl rfl f_17 (Nat.le_of_ble_eq_true rfl) (fun _ _ => ⟨rfl, rfl⟩) e_19.symm ?_
  have f_20 := a_set e_19 f_17
  have l_21 : h_18.length = n0 + 2 := l_set e_19 l_15
  have r_22 := r_set (N := n0 + 2) e_19
  refine J_aload_n (i := 0) (j := 0) dX11_init_20 rfl rfl ?_
  refine J_iconst (v := 4) dX11_init_21 (by decide) ?_
  refine J_newa1 (Z := 4) dX11_init_22 ka1 (by decide) (by decide) (by decide) (hk1 hn l_21) (by decide) (by decide) ?_
  obtain ⟨h_23, e_24⟩ : ∃ z, z = h_18 ++ [(.inl (1, 4, .inl (fun _ => 0)))] := ⟨_, rfl⟩
  refine J_w e_24.symm ?_
  refine J_cr (v := n0 + 2) l_21 ?_
  have f_25 := a_push e_24 l_21
  have l_26 : h_23.length = n0 + 3 := l_push e_24 l_21 rfl
  have r_27 := r_push (a := n0 + 2) e_24 l_21
  have f_28 := (r_27 (o) (Nat.lt_of_lt_of_le hol (Nat.le_add_right _ _)) (Nat.ne_of_lt (Nat.lt_of_lt_of_le hol (Nat.le_add_right _ _)))).trans f_20
  obtain ⟨h_29, e_30⟩ : ∃ z, z = h_23.set (o) (.inr (11, [.int 0, .ref (n0 + 0), .ref (n0 + 1), .ref (n0 + 2), .null, .null, .null, .null, .int 0, .int 0, .int 0, .int 0, .int 0, .long 0, .int 0, .int 0, .int 0, .int 0, .int 0, .null, .null, .null, .int 0, .int 0, .int 0, .int 0, .int 0, .int 0, .null, .null, .null, .int 0, .int 0, .int 0, .null, .null, .null, .null, .null, .int 0, .long 0, .int 0, .null])) := ⟨_, rfl⟩
  refine J_putF (C := RX11) (T := TX11) (Z := 43) (ci := 11) (f := 3) (ty0 := tyX11) dX11_init_24 inG11 rfl tyX11_ok nmX11 (by decide) k1267 rfl rfl rfl rfl f_28 (Nat.le_of_ble_eq_true rfl) (fun _ _ => ⟨rfl, rfl⟩) e_30.symm ?_
  have f_31 := a_set e_30 f_28
  have l_32 : h_29.length = n0 + 3 := l_set e_30 l_26
  have r_33 := r_set (N := n0 + 3) e_30
  refine J_aload_n (i := 0) (j := 0) dX11_init_27 rfl rfl ?_
  refine J_iconst (v := 4) dX11_init_28 (by decide) ?_
  refine J_newa1 (Z := 4) dX11_init_29 ka1 (by decide) (by decide) (by decide) (hk1 hn l_32) (by decide) (by decide) ?_
  obtain ⟨h_34, e_35⟩ : ∃ z, z = h_29 ++ [(.inl (1, 4, .inl (fun _ => 0)))] := ⟨_, rfl⟩
  refine J_w e_35.symm ?_
  refine J_cr (v := n0 + 3) l_32 ?_
  have f_36 := a_push e_35 l_32
  have l_37 : h_34.length = n0 + 4 := l_push e_35 l_32 rfl
  have r_38 := r_push (a := n0 + 3) e_35 l_32
  have f_39 := (r_38 (o) (Nat.lt_of_lt_of_le hol (Nat.le_add_right _ _)) (Nat.ne_of_lt (Nat.lt_of_lt_of_le hol (Nat.le_add_right _ _)))).trans f_31
  obtain ⟨h_40, e_41⟩ : ∃ z, z = h_34.set (o) (.inr (11, [.int 0, .ref (n0 + 0), .ref (n0 + 1), .ref (n0 + 2), .ref (n0 + 3), .null, .null, .null, .int 0, .int 0, .int 0, .int 0, .int 0, .long 0, .int 0, .int 0, .int 0, .int 0, .int 0, .null, .null, .null, .int 0, .int 0, .int 0, .int 0, .int 0, .int 0, .null, .null, .null, .int 0, .int 0, .int 0, .null, .null, .null, .null, .null, .int 0, .long 0, .int 0, .null])) := ⟨_, rfl⟩
  refine J_putF (C := RX11) (T := TX11) (Z := 43) (ci := 11) (f := 4) (ty0 := tyX11) dX11_init_31 inG11 rfl tyX11_ok nmX11 (by decide) k1268 rfl rfl rfl rfl f_39 (Nat.le_of_ble_eq_true rfl) (fun _ _ => ⟨rfl, rfl⟩) e_41.symm ?_
  have f_42 := a_set e_41 f_39
  have l_43 : h_40.length = n0 + 4 := l_set e_41 l_37
  have r_44 := r_set (N := n0 + 4) e_41
  refine J_aload_n (i := 0) (j := 0) dX11_init_34 rfl rfl ?_
  refine J_bipush (v := 8) dX11_init_35 (by decide) ?_
  refine J_newa1 (Z := 8) dX11_init_37 ka1 (by decide) (by decide) (by decide) (hk1 hn l_43) (by decide) (by decide) ?_
  obtain ⟨h_45, e_46⟩ : ∃ z, z = h_40 ++ [(.inl (1, 8, .inl (fun _ => 0)))] := ⟨_, rfl⟩
  refine J_w e_46.symm ?_
  refine J_cr (v := n0 + 4) l_43 ?_
  have f_47 := a_push e_46 l_43
  have l_48 : h_45.length = n0 + 5 := l_push e_46 l_43 rfl
  have r_49 := r_push (a := n0 + 4) e_46 l_43
  have f_50 := (r_49 (o) (Nat.lt_of_lt_of_le hol (Nat.le_add_right _ _)) (Nat.ne_of_lt (Nat.lt_of_lt_of_le hol (Nat.le_add_right _ _)))).trans f_42
  obtain ⟨h_51, e_52⟩ : ∃ z, z = h_45.set (o) (.inr (11, [.int 0, .ref (n0 + 0), .ref (n0 + 1), .ref (n0 + 2), .ref (n0 + 3), .ref (n0 + 4), .null, .null, .int 0, .int 0, .int 0, .int 0, .int 0, .long 0, .int 0, .int 0, .int 0, .int 0, .int 0, .null, .null, .null, .int 0, .int 0, .int 0, .int 0, .int 0, .int 0, .null, .null, .null, .int 0, .int 0, .int 0, .null, .null, .null, .null, .null, .int 0, .long 0, .int 0, .null])) := ⟨_, rfl⟩
  refine J_putF (C := RX11) (T := TX11) (Z := 43) (ci := 11) (f := 5) (ty0 := tyX11) dX11_init_39 inG11 rfl tyX11_ok nmX11 (by decide) k1269 rfl rfl rfl rfl f_50 (Nat.le_of_ble_eq_true rfl) (fun _ _ => ⟨rfl, rfl⟩) e_52.symm ?_
  have f_53 := a_set e_52 f_50
  have l_54 : h_51.length = n0 + 5 := l_set e_52 l_48
  have r_55 := r_set (N := n0 + 5) e_52
  refine J_aload_n (i := 0) (j := 0) dX11_init_42 rfl rfl ?_
  refine J_sipush (v := 1256) dX11_init_43 (by decide) ?_
  refine J_newa1 (Z := 1256) dX11_init_46 ka1 (by decide) (by decide) (by decide) (hk1 hn l_54) (by decide) (by decide) ?_
  obtain ⟨h_56, e_57⟩ : ∃ z, z = h_51 ++ [(.inl (1, 1256, .inl (fun _ => 0)))] := ⟨_, rfl⟩
  refine J_w e_57.symm ?_
  refine J_cr (v := n0 + 5) l_54 ?_
  have f_58 := a_push e_57 l_54
  have l_59 : h_56.length = n0 + 6 := l_push e_57 l_54 rfl
  have r_60 := r_push (a := n0 + 5) e_57 l_54
  have f_61 := (r_60 (o) (Nat.lt_of_lt_of_le hol (Nat.le_add_right _ _)) (Nat.ne_of_lt (Nat.lt_of_lt_of_le hol (Nat.le_add_right _ _)))).trans f_53
  obtain ⟨h_62, e_63⟩ : ∃ z, z = h_56.set (o) (.inr (11, [.int 0, .ref (n0 + 0), .ref (n0 + 1), .ref (n0 + 2), .ref (n0 + 3), .ref (n0 + 4), .ref (n0 + 5), .null, .int 0, .int 0, .int 0, .int 0, .int 0, .long 0, .int 0, .int 0, .int 0, .int 0, .int 0, .null, .null, .null, .int 0, .int 0, .int 0, .int 0, .int 0, .int 0, .null, .null, .null, .int 0, .int 0, .int 0, .null, .null, .null, .null, .null, .int 0, .long 0, .int 0, .null])) := ⟨_, rfl⟩
  refine J_putF (C := RX11) (T := TX11) (Z := 43) (ci := 11) (f := 6) (ty0 := tyX11) dX11_init_48 inG11 rfl tyX11_ok nmX11 (by decide) k1270 rfl rfl rfl rfl f_61 (Nat.le_of_ble_eq_true rfl) (fun _ _ => ⟨rfl, rfl⟩) e_63.symm ?_
  have f_64 := a_set e_63 f_61
  have l_65 : h_62.length = n0 + 6 := l_set e_63 l_59
  have r_66 := r_set (N := n0 + 6) e_63
  refine J_aload_n (i := 0) (j := 0) dX11_init_51 rfl rfl ?_
  refine J_sipush (v := 444) dX11_init_52 (by decide) ?_
  refine J_newa1 (Z := 444) dX11_init_55 ka1 (by decide) (by decide) (by decide) (hk1 hn l_65) (by decide) (by decide) ?_
  obtain ⟨h_67, e_68⟩ : ∃ z, z = h_62 ++ [(.inl (1, 444, .inl (fun _ => 0)))] := ⟨_, rfl⟩
  refine J_w e_68.symm ?_
  refine J_cr (v := n0 + 6) l_65 ?_
  have f_69 := a_push e_68 l_65
  have l_70 : h_67.length = n0 + 7 := l_push e_68 l_65 rfl
  have r_71 := r_push (a := n0 + 6) e_68 l_65
  have f_72 := (r_71 (o) (Nat.lt_of_lt_of_le hol (Nat.le_add_right _ _)) (Nat.ne_of_lt (Nat.lt_of_lt_of_le hol (Nat.le_add_right _ _)))).trans f_64
  obtain ⟨h_73, e_74⟩ : ∃ z, z = h_67.set (o) (.inr (11, [.int 0, .ref (n0 + 0), .ref (n0 + 1), .ref (n0 + 2), .ref (n0 + 3), .ref (n0 + 4), .ref (n0 + 5), .ref (n0 + 6), .int 0, .int 0, .int 0, .int 0, .int 0, .long 0, .int 0, .int 0, .int 0, .int 0, .int 0, .null, .null, .null, .int 0, .int 0, .int 0, .int 0, .int 0, .int 0, .null, .null, .null, .int 0, .int 0, .int 0, .null, .null, .null, .null, .null, .int 0, .long 0, .int 0, .null])) := ⟨_, rfl⟩
  refine J_putF (C := RX11) (T := TX11) (Z := 43) (ci := 11) (f := 7) (ty0 := tyX11) dX11_init_57 inG11 rfl tyX11_ok nmX11 (by decide) k1271 rfl rfl rfl rfl f_72 (Nat.le_of_ble_eq_true rfl) (fun _ _ => ⟨rfl, rfl⟩) e_74.symm ?_
  have f_75 := a_set e_74 f_72
  have l_76 : h_73.length = n0 + 7 := l_set e_74 l_70
  have r_77 := r_set (N := n0 + 7) e_74
  refine J_aload_n (i := 0) (j := 0) dX11_init_60 rfl rfl ?_
  refine J_sipush (v := 157) dX11_init_61 (by decide) ?_
  refine J_newa1 (Z := 157) dX11_init_64 ka1 (by decide) (by decide) (by decide) (hk1 hn l_76) (by decide) (by decide) ?_
  obtain ⟨h_78, e_79⟩ : ∃ z, z = h_73 ++ [(.inl (1, 157, .inl (fun _ => 0)))] := ⟨_, rfl⟩
  refine J_w e_79.symm ?_
  refine J_cr (v := n0 + 7) l_76 ?_
  have f_80 := a_push e_79 l_76
  have l_81 : h_78.length = n0 + 8 := l_push e_79 l_76 rfl
  have r_82 := r_push (a := n0 + 7) e_79 l_76
  have f_83 := (r_82 (o) (Nat.lt_of_lt_of_le hol (Nat.le_add_right _ _)) (Nat.ne_of_lt (Nat.lt_of_lt_of_le hol (Nat.le_add_right _ _)))).trans f_75
  obtain ⟨h_84, e_85⟩ : ∃ z, z = h_78.set (o) (.inr (11, [.int 0, .ref (n0 + 0), .ref (n0 + 1), .ref (n0 + 2), .ref (n0 + 3), .ref (n0 + 4), .ref (n0 + 5), .ref (n0 + 6), .int 0, .int 0, .int 0, .int 0, .int 0, .long 0, .int 0, .int 0, .int 0, .int 0, .int 0, .ref (n0 + 7), .null, .null, .int 0, .int 0, .int 0, .int 0, .int 0, .int 0, .null, .null, .null, .int 0, .int 0, .int 0, .null, .null, .null, .null, .null, .int 0, .long 0, .int 0, .null])) := ⟨_, rfl⟩
  refine J_putF (C := RX11) (T := TX11) (Z := 43) (ci := 11) (f := 19) (ty0 := tyX11) dX11_init_66 inG11 rfl tyX11_ok nmX11 (by decide) k1283 rfl rfl rfl rfl f_83 (Nat.le_of_ble_eq_true rfl) (fun _ _ => ⟨rfl, rfl⟩) e_85.symm ?_
  have f_86 := a_set e_85 f_83
  have l_87 : h_84.length = n0 + 8 := l_set e_85 l_81
  have r_88 := r_set (N := n0 + 8) e_85
  refine J_aload_n (i := 0) (j := 0) dX11_init_69 rfl rfl ?_
  refine J_iconst (v := 3) dX11_init_70 (by decide) ?_
  refine J_newa1 (Z := 3) dX11_init_71 ka1 (by decide) (by decide) (by decide) (hk1 hn l_87) (by decide) (by decide) ?_
  obtain ⟨h_89, e_90⟩ : ∃ z, z = h_84 ++ [(.inl (1, 3, .inl (fun _ => 0)))] := ⟨_, rfl⟩
  refine J_w e_90.symm ?_
  refine J_cr (v := n0 + 8) l_87 ?_
  have f_91 := a_push e_90 l_87
  have l_92 : h_89.length = n0 + 9 := l_push e_90 l_87 rfl
  have r_93 := r_push (a := n0 + 8) e_90 l_87
  have f_94 := (r_93 (o) (Nat.lt_of_lt_of_le hol (Nat.le_add_right _ _)) (Nat.ne_of_lt (Nat.lt_of_lt_of_le hol (Nat.le_add_right _ _)))).trans f_86
  obtain ⟨h_95, e_96⟩ : ∃ z, z = h_89.set (o) (.inr (11, [.int 0, .ref (n0 + 0), .ref (n0 + 1), .ref (n0 + 2), .ref (n0 + 3), .ref (n0 + 4), .ref (n0 + 5), .ref (n0 + 6), .int 0, .int 0, .int 0, .int 0, .int 0, .long 0, .int 0, .int 0, .int 0, .int 0, .int 0, .ref (n0 + 7), .ref (n0 + 8), .null, .int 0, .int 0, .int 0, .int 0, .int 0, .int 0, .null, .null, .null, .int 0, .int 0, .int 0, .null, .null, .null, .null, .null, .int 0, .long 0, .int 0, .null])) := ⟨_, rfl⟩
  refine J_putF (C := RX11) (T := TX11) (Z := 43) (ci := 11) (f := 20) (ty0 := tyX11) dX11_init_73 inG11 rfl tyX11_ok nmX11 (by decide) k1284 rfl rfl rfl rfl f_94 (Nat.le_of_ble_eq_true rfl) (fun _ _ => ⟨rfl, rfl⟩) e_96.symm ?_
  have f_97 := a_set e_96 f_94
  have l_98 : h_95.length = n0 + 9 := l_set e_96 l_92
  have r_99 := r_set (N := n0 + 9) e_96
  refine J_aload_n (i := 0) (j := 0) dX11_init_76 rfl rfl ?_
  refine J_sipush (v := 157) dX11_init_77 (by decide) ?_
  refine J_newa1 (Z := 157) dX11_init_80 ka1 (by decide) (by decide) (by decide) (hk1 hn l_98) (by decide) (by decide) ?_
  obtain ⟨h_100, e_101⟩ : ∃ z, z = h_95 ++ [(.inl (1, 157, .inl (fun _ => 0)))] := ⟨_, rfl⟩
  refine J_w e_101.symm ?_
  refine J_cr (v := n0 + 9) l_98 ?_
  have f_102 := a_push e_101 l_98
  have l_103 : h_100.length = n0 + 10 := l_push e_101 l_98 rfl
  have r_104 := r_push (a := n0 + 9) e_101 l_98
  have f_105 := (r_104 (o) (Nat.lt_of_lt_of_le hol (Nat.le_add_right _ _)) (Nat.ne_of_lt (Nat.lt_of_lt_of_le hol (Nat.le_add_right _ _)))).trans f_97
  obtain ⟨h_106, e_107⟩ : ∃ z, z = h_100.set (o) (.inr (11, [.int 0, .ref (n0 + 0), .ref (n0 + 1), .ref (n0 + 2), .ref (n0 + 3), .ref (n0 + 4), .ref (n0 + 5), .ref (n0 + 6), .int 0, .int 0, .int 0, .int 0, .int 0, .long 0, .int 0, .int 0, .int 0, .int 0, .int 0, .ref (n0 + 7), .ref (n0 + 8), .ref (n0 + 9), .int 0, .int 0, .int 0, .int 0, .int 0, .int 0, .null, .null, .null, .int 0, .int 0, .int 0, .null, .null, .null, .null, .null, .int 0, .long 0, .int 0, .null])) := ⟨_, rfl⟩
  refine J_putF (C := RX11) (T := TX11) (Z := 43) (ci := 11) (f := 21) (ty0 := tyX11) dX11_init_82 inG11 rfl tyX11_ok nmX11 (by decide) k1285 rfl rfl rfl rfl f_105 (Nat.le_of_ble_eq_true rfl) (fun _ _ => ⟨rfl, rfl⟩) e_107.symm ?_
  have f_108 := a_set e_107 f_105
  have l_109 : h_106.length = n0 + 10 := l_set e_107 l_103
  have r_110 := r_set (N := n0 + 10) e_107
  refine J_aload_n (i := 0) (j := 0) dX11_init_85 rfl rfl ?_
  refine J_bipush (v := 9) dX11_init_86 (by decide) ?_
  refine J_newa1 (Z := 9) dX11_init_88 ka1 (by decide) (by decide) (by decide) (hk1 hn l_109) (by decide) (by decide) ?_
  obtain ⟨h_111, e_112⟩ : ∃ z, z = h_106 ++ [(.inl (1, 9, .inl (fun _ => 0)))] := ⟨_, rfl⟩
  refine J_w e_112.symm ?_
  refine J_cr (v := n0 + 10) l_109 ?_
  have f_113 := a_push e_112 l_109
  have l_114 : h_111.length = n0 + 11 := l_push e_112 l_109 rfl
  have r_115 := r_push (a := n0 + 10) e_112 l_109
  have f_116 := (r_115 (o) (Nat.lt_of_lt_of_le hol (Nat.le_add_right _ _)) (Nat.ne_of_lt (Nat.lt_of_lt_of_le hol (Nat.le_add_right _ _)))).trans f_108
  obtain ⟨h_117, e_118⟩ : ∃ z, z = h_111.set (o) (.inr (11, [.int 0, .ref (n0 + 0), .ref (n0 + 1), .ref (n0 + 2), .ref (n0 + 3), .ref (n0 + 4), .ref (n0 + 5), .ref (n0 + 6), .int 0, .int 0, .int 0, .int 0, .int 0, .long 0, .int 0, .int 0, .int 0, .int 0, .int 0, .ref (n0 + 7), .ref (n0 + 8), .ref (n0 + 9), .int 0, .int 0, .int 0, .int 0, .int 0, .int 0, .ref (n0 + 10), .null, .null, .int 0, .int 0, .int 0, .null, .null, .null, .null, .null, .int 0, .long 0, .int 0, .null])) := ⟨_, rfl⟩
  refine J_putF (C := RX11) (T := TX11) (Z := 43) (ci := 11) (f := 28) (ty0 := tyX11) dX11_init_90 inG11 rfl tyX11_ok nmX11 (by decide) k1292 rfl rfl rfl rfl f_116 (Nat.le_of_ble_eq_true rfl) (fun _ _ => ⟨rfl, rfl⟩) e_118.symm ?_
  have f_119 := a_set e_118 f_116
  have l_120 : h_117.length = n0 + 11 := l_set e_118 l_114
  have r_121 := r_set (N := n0 + 11) e_118
  refine J_aload_n (i := 0) (j := 0) dX11_init_93 rfl rfl ?_
  refine J_bipush (v := 9) dX11_init_94 (by decide) ?_
  refine J_newa1 (Z := 9) dX11_init_96 ka1 (by decide) (by decide) (by decide) (hk1 hn l_120) (by decide) (by decide) ?_
  obtain ⟨h_122, e_123⟩ : ∃ z, z = h_117 ++ [(.inl (1, 9, .inl (fun _ => 0)))] := ⟨_, rfl⟩
  refine J_w e_123.symm ?_
  refine J_cr (v := n0 + 11) l_120 ?_
  have f_124 := a_push e_123 l_120
  have l_125 : h_122.length = n0 + 12 := l_push e_123 l_120 rfl
  have r_126 := r_push (a := n0 + 11) e_123 l_120
  have f_127 := (r_126 (o) (Nat.lt_of_lt_of_le hol (Nat.le_add_right _ _)) (Nat.ne_of_lt (Nat.lt_of_lt_of_le hol (Nat.le_add_right _ _)))).trans f_119
  obtain ⟨h_128, e_129⟩ : ∃ z, z = h_122.set (o) (.inr (11, [.int 0, .ref (n0 + 0), .ref (n0 + 1), .ref (n0 + 2), .ref (n0 + 3), .ref (n0 + 4), .ref (n0 + 5), .ref (n0 + 6), .int 0, .int 0, .int 0, .int 0, .int 0, .long 0, .int 0, .int 0, .int 0, .int 0, .int 0, .ref (n0 + 7), .ref (n0 + 8), .ref (n0 + 9), .int 0, .int 0, .int 0, .int 0, .int 0, .int 0, .ref (n0 + 10), .ref (n0 + 11), .null, .int 0, .int 0, .int 0, .null, .null, .null, .null, .null, .int 0, .long 0, .int 0, .null])) := ⟨_, rfl⟩
  refine J_putF (C := RX11) (T := TX11) (Z := 43) (ci := 11) (f := 29) (ty0 := tyX11) dX11_init_98 inG11 rfl tyX11_ok nmX11 (by decide) k1293 rfl rfl rfl rfl f_127 (Nat.le_of_ble_eq_true rfl) (fun _ _ => ⟨rfl, rfl⟩) e_129.symm ?_
  have f_130 := a_set e_129 f_127
  have l_131 : h_128.length = n0 + 12 := l_set e_129 l_125
  have r_132 := r_set (N := n0 + 12) e_129
  refine J_aload_n (i := 0) (j := 0) dX11_init_101 rfl rfl ?_
  refine J_bipush (v := 9) dX11_init_102 (by decide) ?_
  refine J_newa1 (Z := 9) dX11_init_104 ka1 (by decide) (by decide) (by decide) (hk1 hn l_131) (by decide) (by decide) ?_
  obtain ⟨h_133, e_134⟩ : ∃ z, z = h_128 ++ [(.inl (1, 9, .inl (fun _ => 0)))] := ⟨_, rfl⟩
  refine J_w e_134.symm ?_
  refine J_cr (v := n0 + 12) l_131 ?_
  have f_135 := a_push e_134 l_131
  have l_136 : h_133.length = n0 + 13 := l_push e_134 l_131 rfl
  have r_137 := r_push (a := n0 + 12) e_134 l_131
  have f_138 := (r_137 (o) (Nat.lt_of_lt_of_le hol (Nat.le_add_right _ _)) (Nat.ne_of_lt (Nat.lt_of_lt_of_le hol (Nat.le_add_right _ _)))).trans f_130
  obtain ⟨h_139, e_140⟩ : ∃ z, z = h_133.set (o) (.inr (11, [.int 0, .ref (n0 + 0), .ref (n0 + 1), .ref (n0 + 2), .ref (n0 + 3), .ref (n0 + 4), .ref (n0 + 5), .ref (n0 + 6), .int 0, .int 0, .int 0, .int 0, .int 0, .long 0, .int 0, .int 0, .int 0, .int 0, .int 0, .ref (n0 + 7), .ref (n0 + 8), .ref (n0 + 9), .int 0, .int 0, .int 0, .int 0, .int 0, .int 0, .ref (n0 + 10), .ref (n0 + 11), .ref (n0 + 12), .int 0, .int 0, .int 0, .null, .null, .null, .null, .null, .int 0, .long 0, .int 0, .null])) := ⟨_, rfl⟩
  refine J_putF (C := RX11) (T := TX11) (Z := 43) (ci := 11) (f := 30) (ty0 := tyX11) dX11_init_106 inG11 rfl tyX11_ok nmX11 (by decide) k1294 rfl rfl rfl rfl f_138 (Nat.le_of_ble_eq_true rfl) (fun _ _ => ⟨rfl, rfl⟩) e_140.symm ?_
  have f_141 := a_set e_140 f_138
  have l_142 : h_139.length = n0 + 13 := l_set e_140 l_136
  have r_143 := r_set (N := n0 + 13) e_140
  refine J_aload_n (i := 0) (j := 0) dX11_init_109 rfl rfl ?_
  refine J_sipush (v := 512) dX11_init_110 (by decide) ?_
  refine J_newa2 (Z := 512) dX11_init_113 ka2 (by decide) (by decide) (by decide) (hk1 hn l_142) (by decide) (by decide) ?_
  obtain ⟨h_144, e_145⟩ : ∃ z, z = h_139 ++ [(.inl (2, 512, .inr (.inl (fun _ => 0))))] := ⟨_, rfl⟩
  refine J_w e_145.symm ?_
  refine J_cr (v := n0 + 13) l_142 ?_
  have f_146 := a_push e_145 l_142
  have l_147 : h_144.length = n0 + 14 := l_push e_145 l_142 rfl
  have r_148 := r_push (a := n0 + 13) e_145 l_142
  have f_149 := (r_148 (o) (Nat.lt_of_lt_of_le hol (Nat.le_add_right _ _)) (Nat.ne_of_lt (Nat.lt_of_lt_of_le hol (Nat.le_add_right _ _)))).trans f_141
  obtain ⟨h_150, e_151⟩ : ∃ z, z = h_144.set (o) (.inr (11, [.int 0, .ref (n0 + 0), .ref (n0 + 1), .ref (n0 + 2), .ref (n0 + 3), .ref (n0 + 4), .ref (n0 + 5), .ref (n0 + 6), .int 0, .int 0, .int 0, .int 0, .int 0, .long 0, .int 0, .int 0, .int 0, .int 0, .int 0, .ref (n0 + 7), .ref (n0 + 8), .ref (n0 + 9), .int 0, .int 0, .int 0, .int 0, .int 0, .int 0, .ref (n0 + 10), .ref (n0 + 11), .ref (n0 + 12), .int 0, .int 0, .int 0, .ref (n0 + 13), .null, .null, .null, .null, .int 0, .long 0, .int 0, .null])) := ⟨_, rfl⟩
  refine J_putF (C := RX11) (T := TX11) (Z := 43) (ci := 11) (f := 34) (ty0 := tyX11) dX11_init_115 inG11 rfl tyX11_ok nmX11 (by decide) k1298 rfl rfl rfl rfl f_149 (Nat.le_of_ble_eq_true rfl) (fun _ _ => ⟨rfl, rfl⟩) e_151.symm ?_
  have f_152 := a_set e_151 f_149
  have l_153 : h_150.length = n0 + 14 := l_set e_151 l_147
  have r_154 := r_set (N := n0 + 14) e_151
  refine J_aload_n (i := 0) (j := 0) dX11_init_118 rfl rfl ?_
  refine J_bipush (v := 9) dX11_init_119 (by decide) ?_
  refine J_newa1 (Z := 9) dX11_init_121 ka1 (by decide) (by decide) (by decide) (hk1 hn l_153) (by decide) (by decide) ?_
  obtain ⟨h_155, e_156⟩ : ∃ z, z = h_150 ++ [(.inl (1, 9, .inl (fun _ => 0)))] := ⟨_, rfl⟩
  refine J_w e_156.symm ?_
  refine J_cr (v := n0 + 14) l_153 ?_
  have f_157 := a_push e_156 l_153
  have l_158 : h_155.length = n0 + 15 := l_push e_156 l_153 rfl
  have r_159 := r_push (a := n0 + 14) e_156 l_153
  have f_160 := (r_159 (o) (Nat.lt_of_lt_of_le hol (Nat.le_add_right _ _)) (Nat.ne_of_lt (Nat.lt_of_lt_of_le hol (Nat.le_add_right _ _)))).trans f_152
  obtain ⟨h_161, e_162⟩ : ∃ z, z = h_155.set (o) (.inr (11, [.int 0, .ref (n0 + 0), .ref (n0 + 1), .ref (n0 + 2), .ref (n0 + 3), .ref (n0 + 4), .ref (n0 + 5), .ref (n0 + 6), .int 0, .int 0, .int 0, .int 0, .int 0, .long 0, .int 0, .int 0, .int 0, .int 0, .int 0, .ref (n0 + 7), .ref (n0 + 8), .ref (n0 + 9), .int 0, .int 0, .int 0, .int 0, .int 0, .int 0, .ref (n0 + 10), .ref (n0 + 11), .ref (n0 + 12), .int 0, .int 0, .int 0, .ref (n0 + 13), .ref (n0 + 14), .null, .null, .null, .int 0, .long 0, .int 0, .null])) := ⟨_, rfl⟩
  refine J_putF (C := RX11) (T := TX11) (Z := 43) (ci := 11) (f := 35) (ty0 := tyX11) dX11_init_123 inG11 rfl tyX11_ok nmX11 (by decide) k1299 rfl rfl rfl rfl f_160 (Nat.le_of_ble_eq_true rfl) (fun _ _ => ⟨rfl, rfl⟩) e_162.symm ?_
  have f_163 := a_set e_162 f_160
  have l_164 : h_161.length = n0 + 15 := l_set e_162 l_158
  have r_165 := r_set (N := n0 + 15) e_162
  refine J_aload_n (i := 0) (j := 0) dX11_init_126 rfl rfl ?_
  refine J_bipush (v := 9) dX11_init_127 (by decide) ?_
  refine J_newa1 (Z := 9) dX11_init_129 ka1 (by decide) (by decide) (by decide) (hk1 hn l_164) (by decide) (by decide) ?_
  obtain ⟨h_166, e_167⟩ : ∃ z, z = h_161 ++ [(.inl (1, 9, .inl (fun _ => 0)))] := ⟨_, rfl⟩
  refine J_w e_167.symm ?_
  refine J_cr (v := n0 + 15) l_164 ?_
  have f_168 := a_push e_167 l_164
  have l_169 : h_166.length = n0 + 16 := l_push e_167 l_164 rfl
  have r_170 := r_push (a := n0 + 15) e_167 l_164
  have f_171 := (r_170 (o) (Nat.lt_of_lt_of_le hol (Nat.le_add_right _ _)) (Nat.ne_of_lt (Nat.lt_of_lt_of_le hol (Nat.le_add_right _ _)))).trans f_163
  obtain ⟨h_172, e_173⟩ : ∃ z, z = h_166.set (o) (.inr (11, [.int 0, .ref (n0 + 0), .ref (n0 + 1), .ref (n0 + 2), .ref (n0 + 3), .ref (n0 + 4), .ref (n0 + 5), .ref (n0 + 6), .int 0, .int 0, .int 0, .int 0, .int 0, .long 0, .int 0, .int 0, .int 0, .int 0, .int 0, .ref (n0 + 7), .ref (n0 + 8), .ref (n0 + 9), .int 0, .int 0, .int 0, .int 0, .int 0, .int 0, .ref (n0 + 10), .ref (n0 + 11), .ref (n0 + 12), .int 0, .int 0, .int 0, .ref (n0 + 13), .ref (n0 + 14), .ref (n0 + 15), .null, .null, .int 0, .long 0, .int 0, .null])) := ⟨_, rfl⟩
  refine J_putF (C := RX11) (T := TX11) (Z := 43) (ci := 11) (f := 36) (ty0 := tyX11) dX11_init_131 inG11 rfl tyX11_ok nmX11 (by decide) k1300 rfl rfl rfl rfl f_171 (Nat.le_of_ble_eq_true rfl) (fun _ _ => ⟨rfl, rfl⟩) e_173.symm ?_
  have f_174 := a_set e_173 f_171
  have l_175 : h_172.length = n0 + 16 := l_set e_173 l_169
  have r_176 := r_set (N := n0 + 16) e_173
  refine J_aload_n (i := 0) (j := 0) dX11_init_134 rfl rfl ?_
  refine J_iconst (v := 4) dX11_init_135 (by decide) ?_
  refine J_newa1 (Z := 4) dX11_init_136 ka1 (by decide) (by decide) (by decide) (hk1 hn l_175) (by decide) (by decide) ?_
  obtain ⟨h_177, e_178⟩ : ∃ z, z = h_172 ++ [(.inl (1, 4, .inl (fun _ => 0)))] := ⟨_, rfl⟩
  refine J_w e_178.symm ?_
  refine J_cr (v := n0 + 16) l_175 ?_
  have f_179 := a_push e_178 l_175
  have l_180 : h_177.length = n0 + 17 := l_push e_178 l_175 rfl
  have r_181 := r_push (a := n0 + 16) e_178 l_175
  have f_182 := (r_181 (o) (Nat.lt_of_lt_of_le hol (Nat.le_add_right _ _)) (Nat.ne_of_lt (Nat.lt_of_lt_of_le hol (Nat.le_add_right _ _)))).trans f_174
  obtain ⟨h_183, e_184⟩ : ∃ z, z = h_177.set (o) (.inr (11, [.int 0, .ref (n0 + 0), .ref (n0 + 1), .ref (n0 + 2), .ref (n0 + 3), .ref (n0 + 4), .ref (n0 + 5), .ref (n0 + 6), .int 0, .int 0, .int 0, .int 0, .int 0, .long 0, .int 0, .int 0, .int 0, .int 0, .int 0, .ref (n0 + 7), .ref (n0 + 8), .ref (n0 + 9), .int 0, .int 0, .int 0, .int 0, .int 0, .int 0, .ref (n0 + 10), .ref (n0 + 11), .ref (n0 + 12), .int 0, .int 0, .int 0, .ref (n0 + 13), .ref (n0 + 14), .ref (n0 + 15), .ref (n0 + 16), .null, .int 0, .long 0, .int 0, .null])) := ⟨_, rfl⟩
  refine J_putF (C := RX11) (T := TX11) (Z := 43) (ci := 11) (f := 37) (ty0 := tyX11) dX11_init_138 inG11 rfl tyX11_ok nmX11 (by decide) k1301 rfl rfl rfl rfl f_182 (Nat.le_of_ble_eq_true rfl) (fun _ _ => ⟨rfl, rfl⟩) e_184.symm ?_
  have f_185 := a_set e_184 f_182
  have l_186 : h_183.length = n0 + 17 := l_set e_184 l_180
  have r_187 := r_set (N := n0 + 17) e_184
  refine J_aload_n (i := 0) (j := 0) dX11_init_141 rfl rfl ?_
  refine J_iconst (v := 4) dX11_init_142 (by decide) ?_
  refine J_newa1 (Z := 4) dX11_init_143 ka1 (by decide) (by decide) (by decide) (hk1 hn l_186) (by decide) (by decide) ?_
  obtain ⟨h_188, e_189⟩ : ∃ z, z = h_183 ++ [(.inl (1, 4, .inl (fun _ => 0)))] := ⟨_, rfl⟩
  refine J_w e_189.symm ?_
  refine J_cr (v := n0 + 17) l_186 ?_
  have f_190 := a_push e_189 l_186
  have l_191 : h_188.length = n0 + 18 := l_push e_189 l_186 rfl
  have r_192 := r_push (a := n0 + 17) e_189 l_186
  have f_193 := (r_192 (o) (Nat.lt_of_lt_of_le hol (Nat.le_add_right _ _)) (Nat.ne_of_lt (Nat.lt_of_lt_of_le hol (Nat.le_add_right _ _)))).trans f_185
  obtain ⟨h_194, e_195⟩ : ∃ z, z = h_188.set (o) (.inr (11, [.int 0, .ref (n0 + 0), .ref (n0 + 1), .ref (n0 + 2), .ref (n0 + 3), .ref (n0 + 4), .ref (n0 + 5), .ref (n0 + 6), .int 0, .int 0, .int 0, .int 0, .int 0, .long 0, .int 0, .int 0, .int 0, .int 0, .int 0, .ref (n0 + 7), .ref (n0 + 8), .ref (n0 + 9), .int 0, .int 0, .int 0, .int 0, .int 0, .int 0, .ref (n0 + 10), .ref (n0 + 11), .ref (n0 + 12), .int 0, .int 0, .int 0, .ref (n0 + 13), .ref (n0 + 14), .ref (n0 + 15), .ref (n0 + 16), .ref (n0 + 17), .int 0, .long 0, .int 0, .null])) := ⟨_, rfl⟩
  refine J_putF (C := RX11) (T := TX11) (Z := 43) (ci := 11) (f := 38) (ty0 := tyX11) dX11_init_145 inG11 rfl tyX11_ok nmX11 (by decide) k1302 rfl rfl rfl rfl f_193 (Nat.le_of_ble_eq_true rfl) (fun _ _ => ⟨rfl, rfl⟩) e_195.symm ?_
  have f_196 := a_set e_195 f_193
  have l_197 : h_194.length = n0 + 18 := l_set e_195 l_191
  have r_198 := r_set (N := n0 + 18) e_195
  refine J_aload_n (i := 0) (j := 0) dX11_init_148 rfl rfl ?_
  refine J_iconst (v := 3) dX11_init_149 (by decide) ?_
  refine J_newa3 (Z := 3) dX11_init_150 ka3 (by decide) (by decide) (by decide) (hk1 hn l_197) (by decide) (by decide) ?_
  obtain ⟨h_199, e_200⟩ : ∃ z, z = h_194 ++ [(.inl (3, 3, .inl (fun _ => 0)))] := ⟨_, rfl⟩
  refine J_w e_200.symm ?_
  refine J_cr (v := n0 + 18) l_197 ?_
  have f_201 := a_push e_200 l_197
  have l_202 : h_199.length = n0 + 19 := l_push e_200 l_197 rfl
  have r_203 := r_push (a := n0 + 18) e_200 l_197
  have f_204 := (r_203 (o) (Nat.lt_of_lt_of_le hol (Nat.le_add_right _ _)) (Nat.ne_of_lt (Nat.lt_of_lt_of_le hol (Nat.le_add_right _ _)))).trans f_196
  obtain ⟨h_205, e_206⟩ : ∃ z, z = h_199.set (o) (.inr (11, [.int 0, .ref (n0 + 0), .ref (n0 + 1), .ref (n0 + 2), .ref (n0 + 3), .ref (n0 + 4), .ref (n0 + 5), .ref (n0 + 6), .int 0, .int 0, .int 0, .int 0, .int 0, .long 0, .int 0, .int 0, .int 0, .int 0, .int 0, .ref (n0 + 7), .ref (n0 + 8), .ref (n0 + 9), .int 0, .int 0, .int 0, .int 0, .int 0, .int 0, .ref (n0 + 10), .ref (n0 + 11), .ref (n0 + 12), .int 0, .int 0, .int 0, .ref (n0 + 13), .ref (n0 + 14), .ref (n0 + 15), .ref (n0 + 16), .ref (n0 + 17), .int 0, .long 0, .int 0, .ref (n0 + 18)])) := ⟨_, rfl⟩
  refine J_putF (C := RX11) (T := TX11) (Z := 43) (ci := 11) (f := 42) (ty0 := tyX11) dX11_init_152 inG11 rfl tyX11_ok nmX11 (by decide) k1306 rfl rfl rfl rfl f_204 (Nat.le_of_ble_eq_true rfl) (fun _ _ => ⟨rfl, rfl⟩) e_206.symm ?_
  have f_207 := a_set e_206 f_204
  have l_208 : h_205.length = n0 + 19 := l_set e_206 l_202
  have r_209 := r_set (N := n0 + 19) e_206
  refine J_aload_n (i := 0) (j := 0) dX11_init_155 rfl rfl ?_
  refine J_get (C := RX11) (T := TX11) (Z := 43) (ci := 11) (f := 4) dX11_init_156 inG11 rfl (by decide) k1268 f_207 rfl ?_
  refine J_iconst (v := 0) dX11_init_159 (by decide) ?_
  refine J_iconst (v := (-1)) dX11_init_160 (by decide) ?_
  have f_210 := (r_44 (n0 + 3) (nal rfl) (Nat.ne_of_gt (Nat.lt_of_lt_of_le hol (Nat.le_add_right _ _)))).trans f_36
  have f_211 := (r_49 (n0 + 3) (nal rfl) (nan rfl)).trans f_210
  have f_212 := (r_55 (n0 + 3) (nal rfl) (Nat.ne_of_gt (Nat.lt_of_lt_of_le hol (Nat.le_add_right _ _)))).trans f_211
  have f_213 := (r_60 (n0 + 3) (nal rfl) (nan rfl)).trans f_212
  have f_214 := (r_66 (n0 + 3) (nal rfl) (Nat.ne_of_gt (Nat.lt_of_lt_of_le hol (Nat.le_add_right _ _)))).trans f_213
  have f_215 := (r_71 (n0 + 3) (nal rfl) (nan rfl)).trans f_214
  have f_216 := (r_77 (n0 + 3) (nal rfl) (Nat.ne_of_gt (Nat.lt_of_lt_of_le hol (Nat.le_add_right _ _)))).trans f_215
  have f_217 := (r_82 (n0 + 3) (nal rfl) (nan rfl)).trans f_216
  have f_218 := (r_88 (n0 + 3) (nal rfl) (Nat.ne_of_gt (Nat.lt_of_lt_of_le hol (Nat.le_add_right _ _)))).trans f_217
  have f_219 := (r_93 (n0 + 3) (nal rfl) (nan rfl)).trans f_218
  have f_220 := (r_99 (n0 + 3) (nal rfl) (Nat.ne_of_gt (Nat.lt_of_lt_of_le hol (Nat.le_add_right _ _)))).trans f_219
  have f_221 := (r_104 (n0 + 3) (nal rfl) (nan rfl)).trans f_220
  have f_222 := (r_110 (n0 + 3) (nal rfl) (Nat.ne_of_gt (Nat.lt_of_lt_of_le hol (Nat.le_add_right _ _)))).trans f_221
  have f_223 := (r_115 (n0 + 3) (nal rfl) (nan rfl)).trans f_222
  have f_224 := (r_121 (n0 + 3) (nal rfl) (Nat.ne_of_gt (Nat.lt_of_lt_of_le hol (Nat.le_add_right _ _)))).trans f_223
  have f_225 := (r_126 (n0 + 3) (nal rfl) (nan rfl)).trans f_224
  have f_226 := (r_132 (n0 + 3) (nal rfl) (Nat.ne_of_gt (Nat.lt_of_lt_of_le hol (Nat.le_add_right _ _)))).trans f_225
  have f_227 := (r_137 (n0 + 3) (nal rfl) (nan rfl)).trans f_226
  have f_228 := (r_143 (n0 + 3) (nal rfl) (Nat.ne_of_gt (Nat.lt_of_lt_of_le hol (Nat.le_add_right _ _)))).trans f_227
  have f_229 := (r_148 (n0 + 3) (nal rfl) (nan rfl)).trans f_228
  have f_230 := (r_154 (n0 + 3) (nal rfl) (Nat.ne_of_gt (Nat.lt_of_lt_of_le hol (Nat.le_add_right _ _)))).trans f_229
  have f_231 := (r_159 (n0 + 3) (nal rfl) (nan rfl)).trans f_230
  have f_232 := (r_165 (n0 + 3) (nal rfl) (Nat.ne_of_gt (Nat.lt_of_lt_of_le hol (Nat.le_add_right _ _)))).trans f_231
  have f_233 := (r_170 (n0 + 3) (nal rfl) (nan rfl)).trans f_232
  have f_234 := (r_176 (n0 + 3) (nal rfl) (Nat.ne_of_gt (Nat.lt_of_lt_of_le hol (Nat.le_add_right _ _)))).trans f_233
  have f_235 := (r_181 (n0 + 3) (nal rfl) (nan rfl)).trans f_234
  have f_236 := (r_187 (n0 + 3) (nal rfl) (Nat.ne_of_gt (Nat.lt_of_lt_of_le hol (Nat.le_add_right _ _)))).trans f_235
  have f_237 := (r_192 (n0 + 3) (nal rfl) (nan rfl)).trans f_236
  have f_238 := (r_198 (n0 + 3) (nal rfl) (Nat.ne_of_gt (Nat.lt_of_lt_of_le hol (Nat.le_add_right _ _)))).trans f_237
  have f_239 := (r_203 (n0 + 3) (nal rfl) (nan rfl)).trans f_238
  have f_240 := (r_209 (n0 + 3) (nal rfl) (Nat.ne_of_gt (Nat.lt_of_lt_of_le hol (Nat.le_add_right _ _)))).trans f_239
  obtain ⟨h_241, e_242⟩ : ∃ z, z = h_205.set (n0 + 3) (.inl (1, 4, .inl (upd (fun _ => 0) ((0 : Int32).toNatClampNeg) (-1)))) := ⟨_, rfl⟩
  refine J_iast dX11_init_161 f_240 (vp_c (by decide)) e_242.symm ?_
  have f_243 := a_set e_242 f_240
  have l_244 : h_241.length = n0 + 19 := l_set e_242 l_208
  have r_245 := r_set (N := n0 + 19) e_242
  have f_246 := (r_245 (o) (Nat.lt_of_lt_of_le hol (Nat.le_add_right _ _)) (Nat.ne_of_lt (Nat.lt_of_lt_of_le hol (Nat.le_add_right _ _)))).trans f_207
  have f_247 := (r_11 (n0 + 0) (nal rfl) (Nat.ne_of_gt (Nat.lt_of_lt_of_le hol (Nat.le_add_right _ _)))).trans f_3
  have f_248 := (r_16 (n0 + 0) (nal rfl) (nan rfl)).trans f_247
  have f_249 := (r_22 (n0 + 0) (nal rfl) (Nat.ne_of_gt (Nat.lt_of_lt_of_le hol (Nat.le_add_right _ _)))).trans f_248
  have f_250 := (r_27 (n0 + 0) (nal rfl) (nan rfl)).trans f_249
  have f_251 := (r_33 (n0 + 0) (nal rfl) (Nat.ne_of_gt (Nat.lt_of_lt_of_le hol (Nat.le_add_right _ _)))).trans f_250
  have f_252 := (r_38 (n0 + 0) (nal rfl) (nan rfl)).trans f_251
  have f_253 := (r_44 (n0 + 0) (nal rfl) (Nat.ne_of_gt (Nat.lt_of_lt_of_le hol (Nat.le_add_right _ _)))).trans f_252
  have f_254 := (r_49 (n0 + 0) (nal rfl) (nan rfl)).trans f_253
  have f_255 := (r_55 (n0 + 0) (nal rfl) (Nat.ne_of_gt (Nat.lt_of_lt_of_le hol (Nat.le_add_right _ _)))).trans f_254
  have f_256 := (r_60 (n0 + 0) (nal rfl) (nan rfl)).trans f_255
  have f_257 := (r_66 (n0 + 0) (nal rfl) (Nat.ne_of_gt (Nat.lt_of_lt_of_le hol (Nat.le_add_right _ _)))).trans f_256
  have f_258 := (r_71 (n0 + 0) (nal rfl) (nan rfl)).trans f_257
  have f_259 := (r_77 (n0 + 0) (nal rfl) (Nat.ne_of_gt (Nat.lt_of_lt_of_le hol (Nat.le_add_right _ _)))).trans f_258
  have f_260 := (r_82 (n0 + 0) (nal rfl) (nan rfl)).trans f_259
  have f_261 := (r_88 (n0 + 0) (nal rfl) (Nat.ne_of_gt (Nat.lt_of_lt_of_le hol (Nat.le_add_right _ _)))).trans f_260
  have f_262 := (r_93 (n0 + 0) (nal rfl) (nan rfl)).trans f_261
  have f_263 := (r_99 (n0 + 0) (nal rfl) (Nat.ne_of_gt (Nat.lt_of_lt_of_le hol (Nat.le_add_right _ _)))).trans f_262
  have f_264 := (r_104 (n0 + 0) (nal rfl) (nan rfl)).trans f_263
  have f_265 := (r_110 (n0 + 0) (nal rfl) (Nat.ne_of_gt (Nat.lt_of_lt_of_le hol (Nat.le_add_right _ _)))).trans f_264
  have f_266 := (r_115 (n0 + 0) (nal rfl) (nan rfl)).trans f_265
  have f_267 := (r_121 (n0 + 0) (nal rfl) (Nat.ne_of_gt (Nat.lt_of_lt_of_le hol (Nat.le_add_right _ _)))).trans f_266
  have f_268 := (r_126 (n0 + 0) (nal rfl) (nan rfl)).trans f_267
  have f_269 := (r_132 (n0 + 0) (nal rfl) (Nat.ne_of_gt (Nat.lt_of_lt_of_le hol (Nat.le_add_right _ _)))).trans f_268
  have f_270 := (r_137 (n0 + 0) (nal rfl) (nan rfl)).trans f_269
  have f_271 := (r_143 (n0 + 0) (nal rfl) (Nat.ne_of_gt (Nat.lt_of_lt_of_le hol (Nat.le_add_right _ _)))).trans f_270
  have f_272 := (r_148 (n0 + 0) (nal rfl) (nan rfl)).trans f_271
  have f_273 := (r_154 (n0 + 0) (nal rfl) (Nat.ne_of_gt (Nat.lt_of_lt_of_le hol (Nat.le_add_right _ _)))).trans f_272
  have f_274 := (r_159 (n0 + 0) (nal rfl) (nan rfl)).trans f_273
  have f_275 := (r_165 (n0 + 0) (nal rfl) (Nat.ne_of_gt (Nat.lt_of_lt_of_le hol (Nat.le_add_right _ _)))).trans f_274
  have f_276 := (r_170 (n0 + 0) (nal rfl) (nan rfl)).trans f_275
  have f_277 := (r_176 (n0 + 0) (nal rfl) (Nat.ne_of_gt (Nat.lt_of_lt_of_le hol (Nat.le_add_right _ _)))).trans f_276
  have f_278 := (r_181 (n0 + 0) (nal rfl) (nan rfl)).trans f_277
  have f_279 := (r_187 (n0 + 0) (nal rfl) (Nat.ne_of_gt (Nat.lt_of_lt_of_le hol (Nat.le_add_right _ _)))).trans f_278
  have f_280 := (r_192 (n0 + 0) (nal rfl) (nan rfl)).trans f_279
  have f_281 := (r_198 (n0 + 0) (nal rfl) (Nat.ne_of_gt (Nat.lt_of_lt_of_le hol (Nat.le_add_right _ _)))).trans f_280
  have f_282 := (r_203 (n0 + 0) (nal rfl) (nan rfl)).trans f_281
  have f_283 := (r_209 (n0 + 0) (nal rfl) (Nat.ne_of_gt (Nat.lt_of_lt_of_le hol (Nat.le_add_right _ _)))).trans f_282
  have f_284 := (r_245 (n0 + 0) (nal rfl) (nan rfl)).trans f_283
  have f_285 := (r_22 (n0 + 1) (nal rfl) (Nat.ne_of_gt (Nat.lt_of_lt_of_le hol (Nat.le_add_right _ _)))).trans f_14
  have f_286 := (r_27 (n0 + 1) (nal rfl) (nan rfl)).trans f_285
  have f_287 := (r_33 (n0 + 1) (nal rfl) (Nat.ne_of_gt (Nat.lt_of_lt_of_le hol (Nat.le_add_right _ _)))).trans f_286
  have f_288 := (r_38 (n0 + 1) (nal rfl) (nan rfl)).trans f_287
  have f_289 := (r_44 (n0 + 1) (nal rfl) (Nat.ne_of_gt (Nat.lt_of_lt_of_le hol (Nat.le_add_right _ _)))).trans f_288
  have f_290 := (r_49 (n0 + 1) (nal rfl) (nan rfl)).trans f_289
  have f_291 := (r_55 (n0 + 1) (nal rfl) (Nat.ne_of_gt (Nat.lt_of_lt_of_le hol (Nat.le_add_right _ _)))).trans f_290
  have f_292 := (r_60 (n0 + 1) (nal rfl) (nan rfl)).trans f_291
  have f_293 := (r_66 (n0 + 1) (nal rfl) (Nat.ne_of_gt (Nat.lt_of_lt_of_le hol (Nat.le_add_right _ _)))).trans f_292
  have f_294 := (r_71 (n0 + 1) (nal rfl) (nan rfl)).trans f_293
  have f_295 := (r_77 (n0 + 1) (nal rfl) (Nat.ne_of_gt (Nat.lt_of_lt_of_le hol (Nat.le_add_right _ _)))).trans f_294
  have f_296 := (r_82 (n0 + 1) (nal rfl) (nan rfl)).trans f_295
  have f_297 := (r_88 (n0 + 1) (nal rfl) (Nat.ne_of_gt (Nat.lt_of_lt_of_le hol (Nat.le_add_right _ _)))).trans f_296
  have f_298 := (r_93 (n0 + 1) (nal rfl) (nan rfl)).trans f_297
  have f_299 := (r_99 (n0 + 1) (nal rfl) (Nat.ne_of_gt (Nat.lt_of_lt_of_le hol (Nat.le_add_right _ _)))).trans f_298
  have f_300 := (r_104 (n0 + 1) (nal rfl) (nan rfl)).trans f_299
  have f_301 := (r_110 (n0 + 1) (nal rfl) (Nat.ne_of_gt (Nat.lt_of_lt_of_le hol (Nat.le_add_right _ _)))).trans f_300
  have f_302 := (r_115 (n0 + 1) (nal rfl) (nan rfl)).trans f_301
  have f_303 := (r_121 (n0 + 1) (nal rfl) (Nat.ne_of_gt (Nat.lt_of_lt_of_le hol (Nat.le_add_right _ _)))).trans f_302
  have f_304 := (r_126 (n0 + 1) (nal rfl) (nan rfl)).trans f_303
  have f_305 := (r_132 (n0 + 1) (nal rfl) (Nat.ne_of_gt (Nat.lt_of_lt_of_le hol (Nat.le_add_right _ _)))).trans f_304
  have f_306 := (r_137 (n0 + 1) (nal rfl) (nan rfl)).trans f_305
  have f_307 := (r_143 (n0 + 1) (nal rfl) (Nat.ne_of_gt (Nat.lt_of_lt_of_le hol (Nat.le_add_right _ _)))).trans f_306
  have f_308 := (r_148 (n0 + 1) (nal rfl) (nan rfl)).trans f_307
  have f_309 := (r_154 (n0 + 1) (nal rfl) (Nat.ne_of_gt (Nat.lt_of_lt_of_le hol (Nat.le_add_right _ _)))).trans f_308
  have f_310 := (r_159 (n0 + 1) (nal rfl) (nan rfl)).trans f_309
  have f_311 := (r_165 (n0 + 1) (nal rfl) (Nat.ne_of_gt (Nat.lt_of_lt_of_le hol (Nat.le_add_right _ _)))).trans f_310
  have f_312 := (r_170 (n0 + 1) (nal rfl) (nan rfl)).trans f_311
  have f_313 := (r_176 (n0 + 1) (nal rfl) (Nat.ne_of_gt (Nat.lt_of_lt_of_le hol (Nat.le_add_right _ _)))).trans f_312
  have f_314 := (r_181 (n0 + 1) (nal rfl) (nan rfl)).trans f_313
  have f_315 := (r_187 (n0 + 1) (nal rfl) (Nat.ne_of_gt (Nat.lt_of_lt_of_le hol (Nat.le_add_right _ _)))).trans f_314
  have f_316 := (r_192 (n0 + 1) (nal rfl) (nan rfl)).trans f_315
  have f_317 := (r_198 (n0 + 1) (nal rfl) (Nat.ne_of_gt (Nat.lt_of_lt_of_le hol (Nat.le_add_right _ _)))).trans f_316
  have f_318 := (r_203 (n0 + 1) (nal rfl) (nan rfl)).trans f_317
  have f_319 := (r_209 (n0 + 1) (nal rfl) (Nat.ne_of_gt (Nat.lt_of_lt_of_le hol (Nat.le_add_right _ _)))).trans f_318
  have f_320 := (r_245 (n0 + 1) (nal rfl) (nan rfl)).trans f_319
  have f_321 := (r_33 (n0 + 2) (nal rfl) (Nat.ne_of_gt (Nat.lt_of_lt_of_le hol (Nat.le_add_right _ _)))).trans f_25
  have f_322 := (r_38 (n0 + 2) (nal rfl) (nan rfl)).trans f_321
  have f_323 := (r_44 (n0 + 2) (nal rfl) (Nat.ne_of_gt (Nat.lt_of_lt_of_le hol (Nat.le_add_right _ _)))).trans f_322
  have f_324 := (r_49 (n0 + 2) (nal rfl) (nan rfl)).trans f_323
  have f_325 := (r_55 (n0 + 2) (nal rfl) (Nat.ne_of_gt (Nat.lt_of_lt_of_le hol (Nat.le_add_right _ _)))).trans f_324
  have f_326 := (r_60 (n0 + 2) (nal rfl) (nan rfl)).trans f_325
  have f_327 := (r_66 (n0 + 2) (nal rfl) (Nat.ne_of_gt (Nat.lt_of_lt_of_le hol (Nat.le_add_right _ _)))).trans f_326
  have f_328 := (r_71 (n0 + 2) (nal rfl) (nan rfl)).trans f_327
  have f_329 := (r_77 (n0 + 2) (nal rfl) (Nat.ne_of_gt (Nat.lt_of_lt_of_le hol (Nat.le_add_right _ _)))).trans f_328
  have f_330 := (r_82 (n0 + 2) (nal rfl) (nan rfl)).trans f_329
  have f_331 := (r_88 (n0 + 2) (nal rfl) (Nat.ne_of_gt (Nat.lt_of_lt_of_le hol (Nat.le_add_right _ _)))).trans f_330
  have f_332 := (r_93 (n0 + 2) (nal rfl) (nan rfl)).trans f_331
  have f_333 := (r_99 (n0 + 2) (nal rfl) (Nat.ne_of_gt (Nat.lt_of_lt_of_le hol (Nat.le_add_right _ _)))).trans f_332
  have f_334 := (r_104 (n0 + 2) (nal rfl) (nan rfl)).trans f_333
  have f_335 := (r_110 (n0 + 2) (nal rfl) (Nat.ne_of_gt (Nat.lt_of_lt_of_le hol (Nat.le_add_right _ _)))).trans f_334
  have f_336 := (r_115 (n0 + 2) (nal rfl) (nan rfl)).trans f_335
  have f_337 := (r_121 (n0 + 2) (nal rfl) (Nat.ne_of_gt (Nat.lt_of_lt_of_le hol (Nat.le_add_right _ _)))).trans f_336
  have f_338 := (r_126 (n0 + 2) (nal rfl) (nan rfl)).trans f_337
  have f_339 := (r_132 (n0 + 2) (nal rfl) (Nat.ne_of_gt (Nat.lt_of_lt_of_le hol (Nat.le_add_right _ _)))).trans f_338
  have f_340 := (r_137 (n0 + 2) (nal rfl) (nan rfl)).trans f_339
  have f_341 := (r_143 (n0 + 2) (nal rfl) (Nat.ne_of_gt (Nat.lt_of_lt_of_le hol (Nat.le_add_right _ _)))).trans f_340
  have f_342 := (r_148 (n0 + 2) (nal rfl) (nan rfl)).trans f_341
  have f_343 := (r_154 (n0 + 2) (nal rfl) (Nat.ne_of_gt (Nat.lt_of_lt_of_le hol (Nat.le_add_right _ _)))).trans f_342
  have f_344 := (r_159 (n0 + 2) (nal rfl) (nan rfl)).trans f_343
  have f_345 := (r_165 (n0 + 2) (nal rfl) (Nat.ne_of_gt (Nat.lt_of_lt_of_le hol (Nat.le_add_right _ _)))).trans f_344
  have f_346 := (r_170 (n0 + 2) (nal rfl) (nan rfl)).trans f_345
  have f_347 := (r_176 (n0 + 2) (nal rfl) (Nat.ne_of_gt (Nat.lt_of_lt_of_le hol (Nat.le_add_right _ _)))).trans f_346
  have f_348 := (r_181 (n0 + 2) (nal rfl) (nan rfl)).trans f_347
  have f_349 := (r_187 (n0 + 2) (nal rfl) (Nat.ne_of_gt (Nat.lt_of_lt_of_le hol (Nat.le_add_right _ _)))).trans f_348
  have f_350 := (r_192 (n0 + 2) (nal rfl) (nan rfl)).trans f_349
  have f_351 := (r_198 (n0 + 2) (nal rfl) (Nat.ne_of_gt (Nat.lt_of_lt_of_le hol (Nat.le_add_right _ _)))).trans f_350
  have f_352 := (r_203 (n0 + 2) (nal rfl) (nan rfl)).trans f_351
  have f_353 := (r_209 (n0 + 2) (nal rfl) (Nat.ne_of_gt (Nat.lt_of_lt_of_le hol (Nat.le_add_right _ _)))).trans f_352
  have f_354 := (r_245 (n0 + 2) (nal rfl) (nan rfl)).trans f_353
  have f_355 := (r_55 (n0 + 4) (nal rfl) (Nat.ne_of_gt (Nat.lt_of_lt_of_le hol (Nat.le_add_right _ _)))).trans f_47
  have f_356 := (r_60 (n0 + 4) (nal rfl) (nan rfl)).trans f_355
  have f_357 := (r_66 (n0 + 4) (nal rfl) (Nat.ne_of_gt (Nat.lt_of_lt_of_le hol (Nat.le_add_right _ _)))).trans f_356
  have f_358 := (r_71 (n0 + 4) (nal rfl) (nan rfl)).trans f_357
  have f_359 := (r_77 (n0 + 4) (nal rfl) (Nat.ne_of_gt (Nat.lt_of_lt_of_le hol (Nat.le_add_right _ _)))).trans f_358
  have f_360 := (r_82 (n0 + 4) (nal rfl) (nan rfl)).trans f_359
  have f_361 := (r_88 (n0 + 4) (nal rfl) (Nat.ne_of_gt (Nat.lt_of_lt_of_le hol (Nat.le_add_right _ _)))).trans f_360
  have f_362 := (r_93 (n0 + 4) (nal rfl) (nan rfl)).trans f_361
  have f_363 := (r_99 (n0 + 4) (nal rfl) (Nat.ne_of_gt (Nat.lt_of_lt_of_le hol (Nat.le_add_right _ _)))).trans f_362
  have f_364 := (r_104 (n0 + 4) (nal rfl) (nan rfl)).trans f_363
  have f_365 := (r_110 (n0 + 4) (nal rfl) (Nat.ne_of_gt (Nat.lt_of_lt_of_le hol (Nat.le_add_right _ _)))).trans f_364
  have f_366 := (r_115 (n0 + 4) (nal rfl) (nan rfl)).trans f_365
  have f_367 := (r_121 (n0 + 4) (nal rfl) (Nat.ne_of_gt (Nat.lt_of_lt_of_le hol (Nat.le_add_right _ _)))).trans f_366
  have f_368 := (r_126 (n0 + 4) (nal rfl) (nan rfl)).trans f_367
  have f_369 := (r_132 (n0 + 4) (nal rfl) (Nat.ne_of_gt (Nat.lt_of_lt_of_le hol (Nat.le_add_right _ _)))).trans f_368
  have f_370 := (r_137 (n0 + 4) (nal rfl) (nan rfl)).trans f_369
  have f_371 := (r_143 (n0 + 4) (nal rfl) (Nat.ne_of_gt (Nat.lt_of_lt_of_le hol (Nat.le_add_right _ _)))).trans f_370
  have f_372 := (r_148 (n0 + 4) (nal rfl) (nan rfl)).trans f_371
  have f_373 := (r_154 (n0 + 4) (nal rfl) (Nat.ne_of_gt (Nat.lt_of_lt_of_le hol (Nat.le_add_right _ _)))).trans f_372
  have f_374 := (r_159 (n0 + 4) (nal rfl) (nan rfl)).trans f_373
  have f_375 := (r_165 (n0 + 4) (nal rfl) (Nat.ne_of_gt (Nat.lt_of_lt_of_le hol (Nat.le_add_right _ _)))).trans f_374
  have f_376 := (r_170 (n0 + 4) (nal rfl) (nan rfl)).trans f_375
  have f_377 := (r_176 (n0 + 4) (nal rfl) (Nat.ne_of_gt (Nat.lt_of_lt_of_le hol (Nat.le_add_right _ _)))).trans f_376
  have f_378 := (r_181 (n0 + 4) (nal rfl) (nan rfl)).trans f_377
  have f_379 := (r_187 (n0 + 4) (nal rfl) (Nat.ne_of_gt (Nat.lt_of_lt_of_le hol (Nat.le_add_right _ _)))).trans f_378
  have f_380 := (r_192 (n0 + 4) (nal rfl) (nan rfl)).trans f_379
  have f_381 := (r_198 (n0 + 4) (nal rfl) (Nat.ne_of_gt (Nat.lt_of_lt_of_le hol (Nat.le_add_right _ _)))).trans f_380
  have f_382 := (r_203 (n0 + 4) (nal rfl) (nan rfl)).trans f_381
  have f_383 := (r_209 (n0 + 4) (nal rfl) (Nat.ne_of_gt (Nat.lt_of_lt_of_le hol (Nat.le_add_right _ _)))).trans f_382
  have f_384 := (r_245 (n0 + 4) (nal rfl) (nan rfl)).trans f_383
  have f_385 := (r_66 (n0 + 5) (nal rfl) (Nat.ne_of_gt (Nat.lt_of_lt_of_le hol (Nat.le_add_right _ _)))).trans f_58
  have f_386 := (r_71 (n0 + 5) (nal rfl) (nan rfl)).trans f_385
  have f_387 := (r_77 (n0 + 5) (nal rfl) (Nat.ne_of_gt (Nat.lt_of_lt_of_le hol (Nat.le_add_right _ _)))).trans f_386
  have f_388 := (r_82 (n0 + 5) (nal rfl) (nan rfl)).trans f_387
  have f_389 := (r_88 (n0 + 5) (nal rfl) (Nat.ne_of_gt (Nat.lt_of_lt_of_le hol (Nat.le_add_right _ _)))).trans f_388
  have f_390 := (r_93 (n0 + 5) (nal rfl) (nan rfl)).trans f_389
  have f_391 := (r_99 (n0 + 5) (nal rfl) (Nat.ne_of_gt (Nat.lt_of_lt_of_le hol (Nat.le_add_right _ _)))).trans f_390
  have f_392 := (r_104 (n0 + 5) (nal rfl) (nan rfl)).trans f_391
  have f_393 := (r_110 (n0 + 5) (nal rfl) (Nat.ne_of_gt (Nat.lt_of_lt_of_le hol (Nat.le_add_right _ _)))).trans f_392
  have f_394 := (r_115 (n0 + 5) (nal rfl) (nan rfl)).trans f_393
  have f_395 := (r_121 (n0 + 5) (nal rfl) (Nat.ne_of_gt (Nat.lt_of_lt_of_le hol (Nat.le_add_right _ _)))).trans f_394
  have f_396 := (r_126 (n0 + 5) (nal rfl) (nan rfl)).trans f_395
  have f_397 := (r_132 (n0 + 5) (nal rfl) (Nat.ne_of_gt (Nat.lt_of_lt_of_le hol (Nat.le_add_right _ _)))).trans f_396
  have f_398 := (r_137 (n0 + 5) (nal rfl) (nan rfl)).trans f_397
  have f_399 := (r_143 (n0 + 5) (nal rfl) (Nat.ne_of_gt (Nat.lt_of_lt_of_le hol (Nat.le_add_right _ _)))).trans f_398
  have f_400 := (r_148 (n0 + 5) (nal rfl) (nan rfl)).trans f_399
  have f_401 := (r_154 (n0 + 5) (nal rfl) (Nat.ne_of_gt (Nat.lt_of_lt_of_le hol (Nat.le_add_right _ _)))).trans f_400
  have f_402 := (r_159 (n0 + 5) (nal rfl) (nan rfl)).trans f_401
  have f_403 := (r_165 (n0 + 5) (nal rfl) (Nat.ne_of_gt (Nat.lt_of_lt_of_le hol (Nat.le_add_right _ _)))).trans f_402
  have f_404 := (r_170 (n0 + 5) (nal rfl) (nan rfl)).trans f_403
  have f_405 := (r_176 (n0 + 5) (nal rfl) (Nat.ne_of_gt (Nat.lt_of_lt_of_le hol (Nat.le_add_right _ _)))).trans f_404
  have f_406 := (r_181 (n0 + 5) (nal rfl) (nan rfl)).trans f_405
  have f_407 := (r_187 (n0 + 5) (nal rfl) (Nat.ne_of_gt (Nat.lt_of_lt_of_le hol (Nat.le_add_right _ _)))).trans f_406
  have f_408 := (r_192 (n0 + 5) (nal rfl) (nan rfl)).trans f_407
  have f_409 := (r_198 (n0 + 5) (nal rfl) (Nat.ne_of_gt (Nat.lt_of_lt_of_le hol (Nat.le_add_right _ _)))).trans f_408
  have f_410 := (r_203 (n0 + 5) (nal rfl) (nan rfl)).trans f_409
  have f_411 := (r_209 (n0 + 5) (nal rfl) (Nat.ne_of_gt (Nat.lt_of_lt_of_le hol (Nat.le_add_right _ _)))).trans f_410
  have f_412 := (r_245 (n0 + 5) (nal rfl) (nan rfl)).trans f_411
  have f_413 := (r_77 (n0 + 6) (nal rfl) (Nat.ne_of_gt (Nat.lt_of_lt_of_le hol (Nat.le_add_right _ _)))).trans f_69
  have f_414 := (r_82 (n0 + 6) (nal rfl) (nan rfl)).trans f_413
  have f_415 := (r_88 (n0 + 6) (nal rfl) (Nat.ne_of_gt (Nat.lt_of_lt_of_le hol (Nat.le_add_right _ _)))).trans f_414
  have f_416 := (r_93 (n0 + 6) (nal rfl) (nan rfl)).trans f_415
  have f_417 := (r_99 (n0 + 6) (nal rfl) (Nat.ne_of_gt (Nat.lt_of_lt_of_le hol (Nat.le_add_right _ _)))).trans f_416
  have f_418 := (r_104 (n0 + 6) (nal rfl) (nan rfl)).trans f_417
  have f_419 := (r_110 (n0 + 6) (nal rfl) (Nat.ne_of_gt (Nat.lt_of_lt_of_le hol (Nat.le_add_right _ _)))).trans f_418
  have f_420 := (r_115 (n0 + 6) (nal rfl) (nan rfl)).trans f_419
  have f_421 := (r_121 (n0 + 6) (nal rfl) (Nat.ne_of_gt (Nat.lt_of_lt_of_le hol (Nat.le_add_right _ _)))).trans f_420
  have f_422 := (r_126 (n0 + 6) (nal rfl) (nan rfl)).trans f_421
  have f_423 := (r_132 (n0 + 6) (nal rfl) (Nat.ne_of_gt (Nat.lt_of_lt_of_le hol (Nat.le_add_right _ _)))).trans f_422
  have f_424 := (r_137 (n0 + 6) (nal rfl) (nan rfl)).trans f_423
  have f_425 := (r_143 (n0 + 6) (nal rfl) (Nat.ne_of_gt (Nat.lt_of_lt_of_le hol (Nat.le_add_right _ _)))).trans f_424
  have f_426 := (r_148 (n0 + 6) (nal rfl) (nan rfl)).trans f_425
  have f_427 := (r_154 (n0 + 6) (nal rfl) (Nat.ne_of_gt (Nat.lt_of_lt_of_le hol (Nat.le_add_right _ _)))).trans f_426
  have f_428 := (r_159 (n0 + 6) (nal rfl) (nan rfl)).trans f_427
  have f_429 := (r_165 (n0 + 6) (nal rfl) (Nat.ne_of_gt (Nat.lt_of_lt_of_le hol (Nat.le_add_right _ _)))).trans f_428
  have f_430 := (r_170 (n0 + 6) (nal rfl) (nan rfl)).trans f_429
  have f_431 := (r_176 (n0 + 6) (nal rfl) (Nat.ne_of_gt (Nat.lt_of_lt_of_le hol (Nat.le_add_right _ _)))).trans f_430
  have f_432 := (r_181 (n0 + 6) (nal rfl) (nan rfl)).trans f_431
  have f_433 := (r_187 (n0 + 6) (nal rfl) (Nat.ne_of_gt (Nat.lt_of_lt_of_le hol (Nat.le_add_right _ _)))).trans f_432
  have f_434 := (r_192 (n0 + 6) (nal rfl) (nan rfl)).trans f_433
  have f_435 := (r_198 (n0 + 6) (nal rfl) (Nat.ne_of_gt (Nat.lt_of_lt_of_le hol (Nat.le_add_right _ _)))).trans f_434
  have f_436 := (r_203 (n0 + 6) (nal rfl) (nan rfl)).trans f_435
  have f_437 := (r_209 (n0 + 6) (nal rfl) (Nat.ne_of_gt (Nat.lt_of_lt_of_le hol (Nat.le_add_right _ _)))).trans f_436
  have f_438 := (r_245 (n0 + 6) (nal rfl) (nan rfl)).trans f_437
  have f_439 := (r_88 (n0 + 7) (nal rfl) (Nat.ne_of_gt (Nat.lt_of_lt_of_le hol (Nat.le_add_right _ _)))).trans f_80
  have f_440 := (r_93 (n0 + 7) (nal rfl) (nan rfl)).trans f_439
  have f_441 := (r_99 (n0 + 7) (nal rfl) (Nat.ne_of_gt (Nat.lt_of_lt_of_le hol (Nat.le_add_right _ _)))).trans f_440
  have f_442 := (r_104 (n0 + 7) (nal rfl) (nan rfl)).trans f_441
  have f_443 := (r_110 (n0 + 7) (nal rfl) (Nat.ne_of_gt (Nat.lt_of_lt_of_le hol (Nat.le_add_right _ _)))).trans f_442
  have f_444 := (r_115 (n0 + 7) (nal rfl) (nan rfl)).trans f_443
  have f_445 := (r_121 (n0 + 7) (nal rfl) (Nat.ne_of_gt (Nat.lt_of_lt_of_le hol (Nat.le_add_right _ _)))).trans f_444
  have f_446 := (r_126 (n0 + 7) (nal rfl) (nan rfl)).trans f_445
  have f_447 := (r_132 (n0 + 7) (nal rfl) (Nat.ne_of_gt (Nat.lt_of_lt_of_le hol (Nat.le_add_right _ _)))).trans f_446
  have f_448 := (r_137 (n0 + 7) (nal rfl) (nan rfl)).trans f_447
  have f_449 := (r_143 (n0 + 7) (nal rfl) (Nat.ne_of_gt (Nat.lt_of_lt_of_le hol (Nat.le_add_right _ _)))).trans f_448
  have f_450 := (r_148 (n0 + 7) (nal rfl) (nan rfl)).trans f_449
  have f_451 := (r_154 (n0 + 7) (nal rfl) (Nat.ne_of_gt (Nat.lt_of_lt_of_le hol (Nat.le_add_right _ _)))).trans f_450
  have f_452 := (r_159 (n0 + 7) (nal rfl) (nan rfl)).trans f_451
  have f_453 := (r_165 (n0 + 7) (nal rfl) (Nat.ne_of_gt (Nat.lt_of_lt_of_le hol (Nat.le_add_right _ _)))).trans f_452
  have f_454 := (r_170 (n0 + 7) (nal rfl) (nan rfl)).trans f_453
  have f_455 := (r_176 (n0 + 7) (nal rfl) (Nat.ne_of_gt (Nat.lt_of_lt_of_le hol (Nat.le_add_right _ _)))).trans f_454
  have f_456 := (r_181 (n0 + 7) (nal rfl) (nan rfl)).trans f_455
  have f_457 := (r_187 (n0 + 7) (nal rfl) (Nat.ne_of_gt (Nat.lt_of_lt_of_le hol (Nat.le_add_right _ _)))).trans f_456
  have f_458 := (r_192 (n0 + 7) (nal rfl) (nan rfl)).trans f_457
  have f_459 := (r_198 (n0 + 7) (nal rfl) (Nat.ne_of_gt (Nat.lt_of_lt_of_le hol (Nat.le_add_right _ _)))).trans f_458
  have f_460 := (r_203 (n0 + 7) (nal rfl) (nan rfl)).trans f_459
  have f_461 := (r_209 (n0 + 7) (nal rfl) (Nat.ne_of_gt (Nat.lt_of_lt_of_le hol (Nat.le_add_right _ _)))).trans f_460
  have f_462 := (r_245 (n0 + 7) (nal rfl) (nan rfl)).trans f_461
  have f_463 := (r_99 (n0 + 8) (nal rfl) (Nat.ne_of_gt (Nat.lt_of_lt_of_le hol (Nat.le_add_right _ _)))).trans f_91
  have f_464 := (r_104 (n0 + 8) (nal rfl) (nan rfl)).trans f_463
  have f_465 := (r_110 (n0 + 8) (nal rfl) (Nat.ne_of_gt (Nat.lt_of_lt_of_le hol (Nat.le_add_right _ _)))).trans f_464
  have f_466 := (r_115 (n0 + 8) (nal rfl) (nan rfl)).trans f_465
  have f_467 := (r_121 (n0 + 8) (nal rfl) (Nat.ne_of_gt (Nat.lt_of_lt_of_le hol (Nat.le_add_right _ _)))).trans f_466
  have f_468 := (r_126 (n0 + 8) (nal rfl) (nan rfl)).trans f_467
  have f_469 := (r_132 (n0 + 8) (nal rfl) (Nat.ne_of_gt (Nat.lt_of_lt_of_le hol (Nat.le_add_right _ _)))).trans f_468
  have f_470 := (r_137 (n0 + 8) (nal rfl) (nan rfl)).trans f_469
  have f_471 := (r_143 (n0 + 8) (nal rfl) (Nat.ne_of_gt (Nat.lt_of_lt_of_le hol (Nat.le_add_right _ _)))).trans f_470
  have f_472 := (r_148 (n0 + 8) (nal rfl) (nan rfl)).trans f_471
  have f_473 := (r_154 (n0 + 8) (nal rfl) (Nat.ne_of_gt (Nat.lt_of_lt_of_le hol (Nat.le_add_right _ _)))).trans f_472
  have f_474 := (r_159 (n0 + 8) (nal rfl) (nan rfl)).trans f_473
  have f_475 := (r_165 (n0 + 8) (nal rfl) (Nat.ne_of_gt (Nat.lt_of_lt_of_le hol (Nat.le_add_right _ _)))).trans f_474
  have f_476 := (r_170 (n0 + 8) (nal rfl) (nan rfl)).trans f_475
  have f_477 := (r_176 (n0 + 8) (nal rfl) (Nat.ne_of_gt (Nat.lt_of_lt_of_le hol (Nat.le_add_right _ _)))).trans f_476
  have f_478 := (r_181 (n0 + 8) (nal rfl) (nan rfl)).trans f_477
  have f_479 := (r_187 (n0 + 8) (nal rfl) (Nat.ne_of_gt (Nat.lt_of_lt_of_le hol (Nat.le_add_right _ _)))).trans f_478
  have f_480 := (r_192 (n0 + 8) (nal rfl) (nan rfl)).trans f_479
  have f_481 := (r_198 (n0 + 8) (nal rfl) (Nat.ne_of_gt (Nat.lt_of_lt_of_le hol (Nat.le_add_right _ _)))).trans f_480
  have f_482 := (r_203 (n0 + 8) (nal rfl) (nan rfl)).trans f_481
  have f_483 := (r_209 (n0 + 8) (nal rfl) (Nat.ne_of_gt (Nat.lt_of_lt_of_le hol (Nat.le_add_right _ _)))).trans f_482
  have f_484 := (r_245 (n0 + 8) (nal rfl) (nan rfl)).trans f_483
  have f_485 := (r_110 (n0 + 9) (nal rfl) (Nat.ne_of_gt (Nat.lt_of_lt_of_le hol (Nat.le_add_right _ _)))).trans f_102
  have f_486 := (r_115 (n0 + 9) (nal rfl) (nan rfl)).trans f_485
  have f_487 := (r_121 (n0 + 9) (nal rfl) (Nat.ne_of_gt (Nat.lt_of_lt_of_le hol (Nat.le_add_right _ _)))).trans f_486
  have f_488 := (r_126 (n0 + 9) (nal rfl) (nan rfl)).trans f_487
  have f_489 := (r_132 (n0 + 9) (nal rfl) (Nat.ne_of_gt (Nat.lt_of_lt_of_le hol (Nat.le_add_right _ _)))).trans f_488
  have f_490 := (r_137 (n0 + 9) (nal rfl) (nan rfl)).trans f_489
  have f_491 := (r_143 (n0 + 9) (nal rfl) (Nat.ne_of_gt (Nat.lt_of_lt_of_le hol (Nat.le_add_right _ _)))).trans f_490
  have f_492 := (r_148 (n0 + 9) (nal rfl) (nan rfl)).trans f_491
  have f_493 := (r_154 (n0 + 9) (nal rfl) (Nat.ne_of_gt (Nat.lt_of_lt_of_le hol (Nat.le_add_right _ _)))).trans f_492
  have f_494 := (r_159 (n0 + 9) (nal rfl) (nan rfl)).trans f_493
  have f_495 := (r_165 (n0 + 9) (nal rfl) (Nat.ne_of_gt (Nat.lt_of_lt_of_le hol (Nat.le_add_right _ _)))).trans f_494
  have f_496 := (r_170 (n0 + 9) (nal rfl) (nan rfl)).trans f_495
  have f_497 := (r_176 (n0 + 9) (nal rfl) (Nat.ne_of_gt (Nat.lt_of_lt_of_le hol (Nat.le_add_right _ _)))).trans f_496
  have f_498 := (r_181 (n0 + 9) (nal rfl) (nan rfl)).trans f_497
  have f_499 := (r_187 (n0 + 9) (nal rfl) (Nat.ne_of_gt (Nat.lt_of_lt_of_le hol (Nat.le_add_right _ _)))).trans f_498
  have f_500 := (r_192 (n0 + 9) (nal rfl) (nan rfl)).trans f_499
  have f_501 := (r_198 (n0 + 9) (nal rfl) (Nat.ne_of_gt (Nat.lt_of_lt_of_le hol (Nat.le_add_right _ _)))).trans f_500
  have f_502 := (r_203 (n0 + 9) (nal rfl) (nan rfl)).trans f_501
  have f_503 := (r_209 (n0 + 9) (nal rfl) (Nat.ne_of_gt (Nat.lt_of_lt_of_le hol (Nat.le_add_right _ _)))).trans f_502
  have f_504 := (r_245 (n0 + 9) (nal rfl) (nan rfl)).trans f_503
  have f_505 := (r_121 (n0 + 10) (nal rfl) (Nat.ne_of_gt (Nat.lt_of_lt_of_le hol (Nat.le_add_right _ _)))).trans f_113
  have f_506 := (r_126 (n0 + 10) (nal rfl) (nan rfl)).trans f_505
  have f_507 := (r_132 (n0 + 10) (nal rfl) (Nat.ne_of_gt (Nat.lt_of_lt_of_le hol (Nat.le_add_right _ _)))).trans f_506
  have f_508 := (r_137 (n0 + 10) (nal rfl) (nan rfl)).trans f_507
  have f_509 := (r_143 (n0 + 10) (nal rfl) (Nat.ne_of_gt (Nat.lt_of_lt_of_le hol (Nat.le_add_right _ _)))).trans f_508
  have f_510 := (r_148 (n0 + 10) (nal rfl) (nan rfl)).trans f_509
  have f_511 := (r_154 (n0 + 10) (nal rfl) (Nat.ne_of_gt (Nat.lt_of_lt_of_le hol (Nat.le_add_right _ _)))).trans f_510
  have f_512 := (r_159 (n0 + 10) (nal rfl) (nan rfl)).trans f_511
  have f_513 := (r_165 (n0 + 10) (nal rfl) (Nat.ne_of_gt (Nat.lt_of_lt_of_le hol (Nat.le_add_right _ _)))).trans f_512
  have f_514 := (r_170 (n0 + 10) (nal rfl) (nan rfl)).trans f_513
  have f_515 := (r_176 (n0 + 10) (nal rfl) (Nat.ne_of_gt (Nat.lt_of_lt_of_le hol (Nat.le_add_right _ _)))).trans f_514
  have f_516 := (r_181 (n0 + 10) (nal rfl) (nan rfl)).trans f_515
  have f_517 := (r_187 (n0 + 10) (nal rfl) (Nat.ne_of_gt (Nat.lt_of_lt_of_le hol (Nat.le_add_right _ _)))).trans f_516
  have f_518 := (r_192 (n0 + 10) (nal rfl) (nan rfl)).trans f_517
  have f_519 := (r_198 (n0 + 10) (nal rfl) (Nat.ne_of_gt (Nat.lt_of_lt_of_le hol (Nat.le_add_right _ _)))).trans f_518
  have f_520 := (r_203 (n0 + 10) (nal rfl) (nan rfl)).trans f_519
  have f_521 := (r_209 (n0 + 10) (nal rfl) (Nat.ne_of_gt (Nat.lt_of_lt_of_le hol (Nat.le_add_right _ _)))).trans f_520
  have f_522 := (r_245 (n0 + 10) (nal rfl) (nan rfl)).trans f_521
  have f_523 := (r_132 (n0 + 11) (nal rfl) (Nat.ne_of_gt (Nat.lt_of_lt_of_le hol (Nat.le_add_right _ _)))).trans f_124
  have f_524 := (r_137 (n0 + 11) (nal rfl) (nan rfl)).trans f_523
  have f_525 := (r_143 (n0 + 11) (nal rfl) (Nat.ne_of_gt (Nat.lt_of_lt_of_le hol (Nat.le_add_right _ _)))).trans f_524
  have f_526 := (r_148 (n0 + 11) (nal rfl) (nan rfl)).trans f_525
  have f_527 := (r_154 (n0 + 11) (nal rfl) (Nat.ne_of_gt (Nat.lt_of_lt_of_le hol (Nat.le_add_right _ _)))).trans f_526
  have f_528 := (r_159 (n0 + 11) (nal rfl) (nan rfl)).trans f_527
  have f_529 := (r_165 (n0 + 11) (nal rfl) (Nat.ne_of_gt (Nat.lt_of_lt_of_le hol (Nat.le_add_right _ _)))).trans f_528
  have f_530 := (r_170 (n0 + 11) (nal rfl) (nan rfl)).trans f_529
  have f_531 := (r_176 (n0 + 11) (nal rfl) (Nat.ne_of_gt (Nat.lt_of_lt_of_le hol (Nat.le_add_right _ _)))).trans f_530
  have f_532 := (r_181 (n0 + 11) (nal rfl) (nan rfl)).trans f_531
  have f_533 := (r_187 (n0 + 11) (nal rfl) (Nat.ne_of_gt (Nat.lt_of_lt_of_le hol (Nat.le_add_right _ _)))).trans f_532
  have f_534 := (r_192 (n0 + 11) (nal rfl) (nan rfl)).trans f_533
  have f_535 := (r_198 (n0 + 11) (nal rfl) (Nat.ne_of_gt (Nat.lt_of_lt_of_le hol (Nat.le_add_right _ _)))).trans f_534
  have f_536 := (r_203 (n0 + 11) (nal rfl) (nan rfl)).trans f_535
  have f_537 := (r_209 (n0 + 11) (nal rfl) (Nat.ne_of_gt (Nat.lt_of_lt_of_le hol (Nat.le_add_right _ _)))).trans f_536
  have f_538 := (r_245 (n0 + 11) (nal rfl) (nan rfl)).trans f_537
  have f_539 := (r_143 (n0 + 12) (nal rfl) (Nat.ne_of_gt (Nat.lt_of_lt_of_le hol (Nat.le_add_right _ _)))).trans f_135
  have f_540 := (r_148 (n0 + 12) (nal rfl) (nan rfl)).trans f_539
  have f_541 := (r_154 (n0 + 12) (nal rfl) (Nat.ne_of_gt (Nat.lt_of_lt_of_le hol (Nat.le_add_right _ _)))).trans f_540
  have f_542 := (r_159 (n0 + 12) (nal rfl) (nan rfl)).trans f_541
  have f_543 := (r_165 (n0 + 12) (nal rfl) (Nat.ne_of_gt (Nat.lt_of_lt_of_le hol (Nat.le_add_right _ _)))).trans f_542
  have f_544 := (r_170 (n0 + 12) (nal rfl) (nan rfl)).trans f_543
  have f_545 := (r_176 (n0 + 12) (nal rfl) (Nat.ne_of_gt (Nat.lt_of_lt_of_le hol (Nat.le_add_right _ _)))).trans f_544
  have f_546 := (r_181 (n0 + 12) (nal rfl) (nan rfl)).trans f_545
  have f_547 := (r_187 (n0 + 12) (nal rfl) (Nat.ne_of_gt (Nat.lt_of_lt_of_le hol (Nat.le_add_right _ _)))).trans f_546
  have f_548 := (r_192 (n0 + 12) (nal rfl) (nan rfl)).trans f_547
  have f_549 := (r_198 (n0 + 12) (nal rfl) (Nat.ne_of_gt (Nat.lt_of_lt_of_le hol (Nat.le_add_right _ _)))).trans f_548
  have f_550 := (r_203 (n0 + 12) (nal rfl) (nan rfl)).trans f_549
  have f_551 := (r_209 (n0 + 12) (nal rfl) (Nat.ne_of_gt (Nat.lt_of_lt_of_le hol (Nat.le_add_right _ _)))).trans f_550
  have f_552 := (r_245 (n0 + 12) (nal rfl) (nan rfl)).trans f_551
  have f_553 := (r_154 (n0 + 13) (nal rfl) (Nat.ne_of_gt (Nat.lt_of_lt_of_le hol (Nat.le_add_right _ _)))).trans f_146
  have f_554 := (r_159 (n0 + 13) (nal rfl) (nan rfl)).trans f_553
  have f_555 := (r_165 (n0 + 13) (nal rfl) (Nat.ne_of_gt (Nat.lt_of_lt_of_le hol (Nat.le_add_right _ _)))).trans f_554
  have f_556 := (r_170 (n0 + 13) (nal rfl) (nan rfl)).trans f_555
  have f_557 := (r_176 (n0 + 13) (nal rfl) (Nat.ne_of_gt (Nat.lt_of_lt_of_le hol (Nat.le_add_right _ _)))).trans f_556
  have f_558 := (r_181 (n0 + 13) (nal rfl) (nan rfl)).trans f_557
  have f_559 := (r_187 (n0 + 13) (nal rfl) (Nat.ne_of_gt (Nat.lt_of_lt_of_le hol (Nat.le_add_right _ _)))).trans f_558
  have f_560 := (r_192 (n0 + 13) (nal rfl) (nan rfl)).trans f_559
  have f_561 := (r_198 (n0 + 13) (nal rfl) (Nat.ne_of_gt (Nat.lt_of_lt_of_le hol (Nat.le_add_right _ _)))).trans f_560
  have f_562 := (r_203 (n0 + 13) (nal rfl) (nan rfl)).trans f_561
  have f_563 := (r_209 (n0 + 13) (nal rfl) (Nat.ne_of_gt (Nat.lt_of_lt_of_le hol (Nat.le_add_right _ _)))).trans f_562
  have f_564 := (r_245 (n0 + 13) (nal rfl) (nan rfl)).trans f_563
  have f_565 := (r_165 (n0 + 14) (nal rfl) (Nat.ne_of_gt (Nat.lt_of_lt_of_le hol (Nat.le_add_right _ _)))).trans f_157
  have f_566 := (r_170 (n0 + 14) (nal rfl) (nan rfl)).trans f_565
  have f_567 := (r_176 (n0 + 14) (nal rfl) (Nat.ne_of_gt (Nat.lt_of_lt_of_le hol (Nat.le_add_right _ _)))).trans f_566
  have f_568 := (r_181 (n0 + 14) (nal rfl) (nan rfl)).trans f_567
  have f_569 := (r_187 (n0 + 14) (nal rfl) (Nat.ne_of_gt (Nat.lt_of_lt_of_le hol (Nat.le_add_right _ _)))).trans f_568
  have f_570 := (r_192 (n0 + 14) (nal rfl) (nan rfl)).trans f_569
  have f_571 := (r_198 (n0 + 14) (nal rfl) (Nat.ne_of_gt (Nat.lt_of_lt_of_le hol (Nat.le_add_right _ _)))).trans f_570
  have f_572 := (r_203 (n0 + 14) (nal rfl) (nan rfl)).trans f_571
  have f_573 := (r_209 (n0 + 14) (nal rfl) (Nat.ne_of_gt (Nat.lt_of_lt_of_le hol (Nat.le_add_right _ _)))).trans f_572
  have f_574 := (r_245 (n0 + 14) (nal rfl) (nan rfl)).trans f_573
  have f_575 := (r_176 (n0 + 15) (nal rfl) (Nat.ne_of_gt (Nat.lt_of_lt_of_le hol (Nat.le_add_right _ _)))).trans f_168
  have f_576 := (r_181 (n0 + 15) (nal rfl) (nan rfl)).trans f_575
  have f_577 := (r_187 (n0 + 15) (nal rfl) (Nat.ne_of_gt (Nat.lt_of_lt_of_le hol (Nat.le_add_right _ _)))).trans f_576
  have f_578 := (r_192 (n0 + 15) (nal rfl) (nan rfl)).trans f_577
  have f_579 := (r_198 (n0 + 15) (nal rfl) (Nat.ne_of_gt (Nat.lt_of_lt_of_le hol (Nat.le_add_right _ _)))).trans f_578
  have f_580 := (r_203 (n0 + 15) (nal rfl) (nan rfl)).trans f_579
  have f_581 := (r_209 (n0 + 15) (nal rfl) (Nat.ne_of_gt (Nat.lt_of_lt_of_le hol (Nat.le_add_right _ _)))).trans f_580
  have f_582 := (r_245 (n0 + 15) (nal rfl) (nan rfl)).trans f_581
  have f_583 := (r_187 (n0 + 16) (nal rfl) (Nat.ne_of_gt (Nat.lt_of_lt_of_le hol (Nat.le_add_right _ _)))).trans f_179
  have f_584 := (r_192 (n0 + 16) (nal rfl) (nan rfl)).trans f_583
  have f_585 := (r_198 (n0 + 16) (nal rfl) (Nat.ne_of_gt (Nat.lt_of_lt_of_le hol (Nat.le_add_right _ _)))).trans f_584
  have f_586 := (r_203 (n0 + 16) (nal rfl) (nan rfl)).trans f_585
  have f_587 := (r_209 (n0 + 16) (nal rfl) (Nat.ne_of_gt (Nat.lt_of_lt_of_le hol (Nat.le_add_right _ _)))).trans f_586
  have f_588 := (r_245 (n0 + 16) (nal rfl) (nan rfl)).trans f_587
  have f_589 := (r_198 (n0 + 17) (nal rfl) (Nat.ne_of_gt (Nat.lt_of_lt_of_le hol (Nat.le_add_right _ _)))).trans f_190
  have f_590 := (r_203 (n0 + 17) (nal rfl) (nan rfl)).trans f_589
  have f_591 := (r_209 (n0 + 17) (nal rfl) (Nat.ne_of_gt (Nat.lt_of_lt_of_le hol (Nat.le_add_right _ _)))).trans f_590
  have f_592 := (r_245 (n0 + 17) (nal rfl) (nan rfl)).trans f_591
  have f_593 := (r_209 (n0 + 18) (nal rfl) (Nat.ne_of_gt (Nat.lt_of_lt_of_le hol (Nat.le_add_right _ _)))).trans f_201
  have f_594 := (r_245 (n0 + 18) (nal rfl) (nan rfl)).trans f_593
  have hfr : ∀ j, j < n0 → j ≠ o → h_241[j]? = h[j]? := by
    intro j hj hjo
    rw [r_245 j (Nat.lt_of_lt_of_le hj (Nat.le_add_right _ _)) (Nat.ne_of_lt (Nat.lt_of_lt_of_le hj (Nat.le_add_right _ _))), r_209 j (Nat.lt_of_lt_of_le hj (Nat.le_add_right _ _)) hjo, r_203 j (Nat.lt_of_lt_of_le hj (Nat.le_add_right _ _)) (Nat.ne_of_lt (Nat.lt_of_lt_of_le hj (Nat.le_add_right _ _))), r_198 j (Nat.lt_of_lt_of_le hj (Nat.le_add_right _ _)) hjo, r_192 j (Nat.lt_of_lt_of_le hj (Nat.le_add_right _ _)) (Nat.ne_of_lt (Nat.lt_of_lt_of_le hj (Nat.le_add_right _ _))), r_187 j (Nat.lt_of_lt_of_le hj (Nat.le_add_right _ _)) hjo, r_181 j (Nat.lt_of_lt_of_le hj (Nat.le_add_right _ _)) (Nat.ne_of_lt (Nat.lt_of_lt_of_le hj (Nat.le_add_right _ _))), r_176 j (Nat.lt_of_lt_of_le hj (Nat.le_add_right _ _)) hjo, r_170 j (Nat.lt_of_lt_of_le hj (Nat.le_add_right _ _)) (Nat.ne_of_lt (Nat.lt_of_lt_of_le hj (Nat.le_add_right _ _))), r_165 j (Nat.lt_of_lt_of_le hj (Nat.le_add_right _ _)) hjo, r_159 j (Nat.lt_of_lt_of_le hj (Nat.le_add_right _ _)) (Nat.ne_of_lt (Nat.lt_of_lt_of_le hj (Nat.le_add_right _ _))), r_154 j (Nat.lt_of_lt_of_le hj (Nat.le_add_right _ _)) hjo, r_148 j (Nat.lt_of_lt_of_le hj (Nat.le_add_right _ _)) (Nat.ne_of_lt (Nat.lt_of_lt_of_le hj (Nat.le_add_right _ _))), r_143 j (Nat.lt_of_lt_of_le hj (Nat.le_add_right _ _)) hjo, r_137 j (Nat.lt_of_lt_of_le hj (Nat.le_add_right _ _)) (Nat.ne_of_lt (Nat.lt_of_lt_of_le hj (Nat.le_add_right _ _))), r_132 j (Nat.lt_of_lt_of_le hj (Nat.le_add_right _ _)) hjo, r_126 j (Nat.lt_of_lt_of_le hj (Nat.le_add_right _ _)) (Nat.ne_of_lt (Nat.lt_of_lt_of_le hj (Nat.le_add_right _ _))), r_121 j (Nat.lt_of_lt_of_le hj (Nat.le_add_right _ _)) hjo, r_115 j (Nat.lt_of_lt_of_le hj (Nat.le_add_right _ _)) (Nat.ne_of_lt (Nat.lt_of_lt_of_le hj (Nat.le_add_right _ _))), r_110 j (Nat.lt_of_lt_of_le hj (Nat.le_add_right _ _)) hjo, r_104 j (Nat.lt_of_lt_of_le hj (Nat.le_add_right _ _)) (Nat.ne_of_lt (Nat.lt_of_lt_of_le hj (Nat.le_add_right _ _))), r_99 j (Nat.lt_of_lt_of_le hj (Nat.le_add_right _ _)) hjo, r_93 j (Nat.lt_of_lt_of_le hj (Nat.le_add_right _ _)) (Nat.ne_of_lt (Nat.lt_of_lt_of_le hj (Nat.le_add_right _ _))), r_88 j (Nat.lt_of_lt_of_le hj (Nat.le_add_right _ _)) hjo, r_82 j (Nat.lt_of_lt_of_le hj (Nat.le_add_right _ _)) (Nat.ne_of_lt (Nat.lt_of_lt_of_le hj (Nat.le_add_right _ _))), r_77 j (Nat.lt_of_lt_of_le hj (Nat.le_add_right _ _)) hjo, r_71 j (Nat.lt_of_lt_of_le hj (Nat.le_add_right _ _)) (Nat.ne_of_lt (Nat.lt_of_lt_of_le hj (Nat.le_add_right _ _))), r_66 j (Nat.lt_of_lt_of_le hj (Nat.le_add_right _ _)) hjo, r_60 j (Nat.lt_of_lt_of_le hj (Nat.le_add_right _ _)) (Nat.ne_of_lt (Nat.lt_of_lt_of_le hj (Nat.le_add_right _ _))), r_55 j (Nat.lt_of_lt_of_le hj (Nat.le_add_right _ _)) hjo, r_49 j (Nat.lt_of_lt_of_le hj (Nat.le_add_right _ _)) (Nat.ne_of_lt (Nat.lt_of_lt_of_le hj (Nat.le_add_right _ _))), r_44 j (Nat.lt_of_lt_of_le hj (Nat.le_add_right _ _)) hjo, r_38 j (Nat.lt_of_lt_of_le hj (Nat.le_add_right _ _)) (Nat.ne_of_lt (Nat.lt_of_lt_of_le hj (Nat.le_add_right _ _))), r_33 j (Nat.lt_of_lt_of_le hj (Nat.le_add_right _ _)) hjo, r_27 j (Nat.lt_of_lt_of_le hj (Nat.le_add_right _ _)) (Nat.ne_of_lt (Nat.lt_of_lt_of_le hj (Nat.le_add_right _ _))), r_22 j (Nat.lt_of_lt_of_le hj (Nat.le_add_right _ _)) hjo, r_16 j (Nat.lt_of_lt_of_le hj (Nat.le_add_right _ _)) (Nat.ne_of_lt (Nat.lt_of_lt_of_le hj (Nat.le_add_right _ _))), r_11 j (Nat.lt_of_lt_of_le hj (Nat.le_add_right _ _)) hjo, r_5 j (Nat.lt_of_lt_of_le hj (Nat.le_add_right _ _)) (Nat.ne_of_lt (Nat.lt_of_lt_of_le hj (Nat.le_add_right _ _)))]
  exact J_vret hq dX11_init_162 rfl (hk1 hn l_244) (by decide) (by decide) ⟨rfl, l_244, f_246, (At_cons f_284 (At_cons f_320 (At_cons f_354 (At_cons f_243 (At_cons f_384 (At_cons f_412 (At_cons f_438 (At_cons f_462 (At_cons f_484 (At_cons f_504 (At_cons f_522 (At_cons f_538 (At_cons f_552 (At_cons f_564 (At_cons f_574 (At_cons f_582 (At_cons f_588 (At_cons f_592 (At_cons f_594 At_nil))))))))))))))))))), hfr⟩
